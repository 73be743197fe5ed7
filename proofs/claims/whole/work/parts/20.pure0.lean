/-! ===== numbers ===== -/
theorem vin {i n : Nat} (h : i < n) (hn : n < 2 ^ 31) : vp_in (nI i) n := vp_in_nI h hn
theorem nIe {a b : Nat} (ha : a < 2 ^ 31) (hb : b < 2 ^ 31) : (nI a = nI b) = (a = b) := propext (nI_eq ha hb)
theorem nIle {a b : Nat} (ha : a < 2 ^ 31) (hb : b < 2 ^ 31) : (nI a ≤ nI b) = (a ≤ b) := propext (nI_leI ha hb)
theorem nIlt {a b : Nat} (ha : a < 2 ^ 31) (hb : b < 2 ^ 31) : (nI a < nI b) = (a < b) := propext (nI_ltI ha hb)
theorem nIcl {n : Nat} (h : n < 2 ^ 31) : (nI n).toNatClampNeg = n := nI_clamp h
theorem nIsub {a b : Nat} (h : b ≤ a) : nI a - nI b = nI (a - b) := pk_sub h
theorem nIdiv {a d : Nat} (ha : a < 2 ^ 31) (h0 : 0 < d) (hd : d < 2 ^ 31) : nI a / nI d = nI (a / d) := pk_div ha h0 hd
theorem m4_toInt : (-4 : Int32).toInt = -4 := by decide
theorem m1_toInt : (-1 : Int32).toInt = -1 := by decide
theorem nI_ne_m4 {a : Nat} (h : a < 2 ^ 31) : (nI a = (-4 : Int32)) = False := by
  apply eq_false
  intro e
  have := congrArg Int32.toInt e
  rw [nI_toInt h, m4_toInt] at this
  omega
theorem m4_ne_nI {a : Nat} (h : a < 2 ^ 31) : ((-4 : Int32) = nI a) = False := by
  apply eq_false
  intro e
  have := congrArg Int32.toInt e
  rw [nI_toInt h, m4_toInt] at this
  omega
theorem nI_ne_m1 {a : Nat} (h : a < 2 ^ 31) : (nI a = (-1 : Int32)) = False := by
  apply eq_false
  intro e
  have := congrArg Int32.toInt e
  rw [nI_toInt h, m1_toInt] at this
  omega
theorem m1_ne_nI {a : Nat} (h : a < 2 ^ 31) : ((-1 : Int32) = nI a) = False := by
  apply eq_false
  intro e
  have := congrArg Int32.toInt e
  rw [nI_toInt h, m1_toInt] at this
  omega
theorem m4_lt : ((-4 : Int32) < nI 0) = True := by decide
theorem m1_lt {a : Nat} (h : a < 2 ^ 31) : ((-1 : Int32) < nI a) = True := by
  apply eq_true
  rw [Int32.lt_iff_toInt_lt, m1_toInt, nI_toInt h]
  omega
theorem m1_le {a : Nat} (h : a < 2 ^ 31) : ((-1 : Int32) ≤ nI a) = True := by
  apply eq_true
  rw [Int32.le_iff_toInt_le, m1_toInt, nI_toInt h]
  omega
theorem le_m1 {a : Nat} (h : a < 2 ^ 31) : (nI a ≤ (-1 : Int32)) = False := by
  apply eq_false
  rw [Int32.le_iff_toInt_le, m1_toInt, nI_toInt h]
  omega
theorem nI_m1 (a : Nat) : nI (a + 1) - nI 1 = nI a := nI_pred a
theorem nI_z1 : nI 0 - nI 1 = (-1 : Int32) := by decide
theorem z_m1 : (-1 : Int32) + nI 1 = nI 0 := by decide
theorem upd_s (f : Nat → Int32) (k : Nat) (x : Int32) : upd f k x k = x := by simp [upd]
theorem upd_n (f : Nat → Int32) {k j : Nat} (x : Int32) (h : j ≠ k) : upd f k x j = f j := by simp [upd, h]
theorem hup_at (F : HF) (k j : Nat) (v : Int32) (i : Nat) : hup F k j v k i = if i = j then v else F k i := by rw [hup_s]; rfl
/-! ===== what is laid ===== -/
abbrev FD : Type := (Nat × Nat × Nat × Nat × Nat) × (Nat → Nat) × (Nat → Nat) × (Nat → Nat) × (Nat → Nat) × (Nat → Nat)
def fB (d : FD) : Nat := d.1.1
def fC (d : FD) : Nat := d.1.2.1
def fW (d : FD) : Nat := d.1.2.2.1
def fH (d : FD) : Nat := d.1.2.2.2.1
def fG (d : FD) : Nat := d.1.2.2.2.2
def fS (d : FD) : Nat → Nat := d.2.1
def fL (d : FD) : Nat → Nat := d.2.2.1
def fK (d : FD) : Nat → Nat := d.2.2.2.1
def fD (d : FD) : Nat → Nat := d.2.2.2.2.1
def fV (d : FD) : Nat → Nat := d.2.2.2.2.2
def OkB (d : FD) (b : Nat) : Prop := 1 ≤ fS d b ∧ fS d b ≤ 60 ∧ 1 ≤ fL d b ∧ fL d b ≤ 3 ∧ fK d b ≤ 4 ∧ fD d b ≤ 40
def OkF (d : FD) : Prop := fB d ≤ 8 ∧ fC d ≤ 8 ∧ 1 ≤ fW d ∧ fW d ≤ 9 ∧ 1 ≤ fH d ∧ fH d ≤ 40 ∧ fG d ≤ 9 ∧ (∀ b, b < fB d → OkB d b) ∧ ∀ i, i < fC d → fV d i ≤ 20
/-- the class's flock at a role -/
def CF (F : HF) (f : Nat) (d : FD) : Prop := F f 5 = nI (fB d) ∧ F f 6 = nI (fC d) ∧ F f 7 = nI (fW d) ∧ F f 8 = nI (fH d) ∧ F f 9 = nI (fG d) ∧ (∀ b, b < fB d → F (f + 1) b = nI (fS d b)) ∧ (∀ b, b < fB d → F (f + 2) b = nI (fL d b)) ∧ (∀ b, b < fB d → F (f + 3) b = nI (fK d b)) ∧ (∀ b, b < fB d → F (f + 4) b = nI (fD d b)) ∧ ∀ i, i < fC d → F (f + 5) i = nI (fV d i)
/-- the reference's -/
def MF (F : HF) (d : FD) : Prop := F 100 13 = nI (fB d) ∧ F 100 15 = nI (fC d) ∧ F 100 17 = nI (fW d) ∧ F 100 18 = nI (fH d) ∧ F 100 19 = nI (fG d) ∧ (∀ b, b < fB d → F 114 (4 * b) = nI (fS d b)) ∧ (∀ b, b < fB d → F 114 (4 * b + 1) = nI (fL d b)) ∧ (∀ b, b < fB d → F 114 (4 * b + 2) = nI (fK d b)) ∧ (∀ b, b < fB d → F 114 (4 * b + 3) = nI (fD d b)) ∧ ∀ i, i < fC d → F 116 i = nI (fV d i)
theorem CF.kept {F G : HF} {f : Nat} {d : FD} (h : CF F f d) (e0 : G f = F f) (e1 : G (f + 1) = F (f + 1)) (e2 : G (f + 2) = F (f + 2)) (e3 : G (f + 3) = F (f + 3)) (e4 : G (f + 4) = F (f + 4)) (e5 : G (f + 5) = F (f + 5)) : CF G f d := by
  unfold CF; rw [e0, e1, e2, e3, e4, e5]; exact h
theorem MF.kept {F G : HF} {d : FD} (h : MF F d) (e : ∀ j, j = 13 ∨ j = 15 ∨ j = 17 ∨ j = 18 ∨ j = 19 → G 100 j = F 100 j) (e1 : G 114 = F 114) (e2 : G 116 = F 116) : MF G d := by
  unfold MF
  rw [e 13 (by simp), e 15 (by simp), e 17 (by simp), e 18 (by simp), e 19 (by simp), e1, e2]
  exact h
def wnd (d : FD) (m : Nat) : Nat := if fC d = 0 then 0 else fV d (m % fC d)
def wgt (d : FD) (y : Nat) : Nat := fH d + fG d * y
theorem wnd_le {d : FD} (h : OkF d) (m : Nat) : wnd d m ≤ 20 := by
  unfold wnd
  split
  · omega
  · exact h.2.2.2.2.2.2.2.2 _ (Nat.mod_lt _ (by omega))
theorem wgt_le {d : FD} (h : OkF d) {y : Nat} (hy : y ≤ 90) : wgt d y ≤ 850 := by
  unfold wgt
  have h1 := h.2.2.2.2.2.1
  have h2 := h.2.2.2.2.2.2.1
  have : fG d * y ≤ 9 * 90 := Nat.mul_le_mul h2 hy
  omega
/-! ===== readers of the class's flock ===== -/
section FlockS
variable {F : HF} {f : Nat} {d : FD} {K : Int32 → HF → Prop}
theorem s_X1_birds (h : CF F f d) (k : K (nI (fB d)) F) : wp_X1_birds K F f := by
  unfold wp_X1_birds; rw [h.1]; exact k
theorem s_X1_width (h : CF F f d) (k : K (nI (fW d)) F) : wp_X1_width K F f := by
  unfold wp_X1_width; rw [h.2.2.1]; exact k
theorem s_X1_strengthOf (h : CF F f d) (o : OkF d) {b : Nat} (hb : b < fB d) (k : K (nI (fS d b)) F) : wp_X1_strengthOf K F f (nI b) := by
  have h8 := o.1
  unfold wp_X1_strengthOf
  simp (disch := omega) only [h.1, nIlt, nIle, nIcl, h.2.2.2.2.2.1 b hb]
  refine ⟨fun q => absurd q (by omega), fun _ => ⟨fun q => absurd q (by omega), fun _ => ⟨vin (by omega) (by omega), k⟩⟩⟩
end FlockS
