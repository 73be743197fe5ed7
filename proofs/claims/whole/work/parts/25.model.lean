/-! ===== the reference's rows ===== -/
def MB (F : HF) (r z : Nat) (o t : Nat → Nat) : Prop := F r 0 = nI z ∧ (∀ k, k < z → F r (5 + k) = nI (o k)) ∧ ∀ k, k < 8 → F r (13 + k) = nI (t k)
def pI (q : Nat) : Int32 := if q = 0 then -1 else nI (q - 1)
theorem pI_0 : pI 0 = -1 := rfl
theorem pI_s (q : Nat) : pI (q + 1) = nI q := by unfold pI; rw [if_neg (by omega)]; rfl
theorem pI_inc {q : Nat} : pI q + nI 1 = pI (q + 1) := by
  rw [pI_s]
  unfold pI
  split
  · rename_i h; rw [h, z_m1]
  · rw [nI_add, show q - 1 + 1 = q by omega]
theorem MB.fr {F G : HF} {L : List Nat} {r z : Nat} {o t : Nat → Nat} (h : MB F r z o t) (f : FrL L F G) (h0 : r ∉ L) : MB G r z o t := by
  unfold MB; rw [f r h0]; exact h
theorem MF.fr {F G : HF} {L : List Nat} {d : FD} (h : MF F d) (f : FrL L F G) (h0 : 100 ∉ L) (h1 : 114 ∉ L) (h2 : 116 ∉ L) : MF G d := h.kept (fun j _ => by rw [f 100 h0]) (f _ h1) (f _ h2)
section ModelS
variable {F : HF} {d : FD} {z r : Nat} {o t w : Nat → Nat}
theorem s_in {K : Int32 → HF → Prop} {a x y : Int32} (k1 : (¬ a < x ∧ ¬ y < a) → K (nI 1) F) (k0 : (¬ (¬ a < x ∧ ¬ y < a)) → K (nI 0) F) : wp_X7_in K F a x y := by
  unfold wp_X7_in
  exact ⟨fun q => k0 (fun g => g.1 q), fun q => ⟨fun q2 => k0 (fun g => g.2 q2), fun q2 => k1 ⟨q, q2⟩⟩⟩
theorem s_X7_kindOf {K : Int32 → HF → Prop} (m : MF F d) (o' : OkF d) {x : Nat} (hx : x < fB d) (k : K (nI (fK d x)) F) : wp_X7_kindOf K F (nI x) := by
  have := o'.1
  unfold wp_X7_kindOf
  simp (disch := omega) only [pk_mul, nI_add, nIcl, m.2.2.2.2.2.2.2.1 x hx]
  exact ⟨vin (by omega) (by omega), k⟩
theorem s_X7_windIn {K : Int32 → HF → Prop} (h : MF F d) (o' : OkF d) {m : Nat} (hm : m < 2 ^ 31) (k : K (nI (wnd d m)) F) : wp_X7_windIn K F (nI m) := by
  have h8 := o'.2.1
  unfold wp_X7_windIn
  unfold wnd at k
  rw [h.2.1]
  simp (disch := omega) only [nIe]
  refine ⟨fun q => ?_, fun q => ?_⟩
  · rw [if_neg q] at k
    have hlt : m % fC d < fC d := Nat.mod_lt _ (by omega)
    rw [pk_rem hm (by omega) (by omega), nIcl (by omega), h.2.2.2.2.2.2.2.2.2 _ hlt]
    exact ⟨q, vin (by omega) (by omega), k⟩
  · rw [if_pos q] at k
    exact k
theorem s_X7_weightIn {K : Int32 → HF → Prop} (h : MF F d) {y : Nat} (k : K (nI (wgt d y)) F) : wp_X7_weightIn K F (nI y) := by
  unfold wp_X7_weightIn
  rw [h.2.2.2.1, h.2.2.2.2.1, pk_mul, nI_add]
  exact k
theorem s_X7_firstOf {K : Int32 → HF → Prop} (m : MF F d) (o' : OkF d) (h : MB F r z o t) (hw : WfB d z o) {x : Nat} (hx : x ≤ z) (k : K (nI (lsum d o x)) F) : wp_X7_firstOf K F r 21 (nI x) := by
  have h8 := hw.1
  have hB := o'.1
  have main : ∀ n i, x + 1 ≤ i + n → i ≤ x → wp_X7_firstOf_5 K r 21 n F (nI x) (nI (lsum d o i)) (nI i) := by
    intro n
    induction n with
    | zero => intro i h1 h2; omega
    | succ n ih =>
      intro i h1 h2
      unfold wp_X7_firstOf_5
      simp (disch := omega) only [nI_add, nIle, nIcl]
      refine ⟨fun q => ?_, fun q => ⟨vin (by omega) (by omega), ?_⟩⟩
      · have : i = x := by omega
        subst this; exact k
      · have hoi := hw.2.1 i (by omega)
        rw [h.2.1 i (by omega)]
        simp (disch := omega) only [pk_mul, nI_add, nIcl, m.2.2.2.2.2.2.1 (o i) hoi]
        exact ⟨vin (by omega) (by omega), ih (i + 1) (by omega) (by omega)⟩
  exact ⟨x + 1, main _ 0 (by omega) (by omega)⟩
theorem s_X7_spanned {K : Int32 → HF → Prop} (m : MF F d) (o' : OkF d) (h : MB F r z o t) (hw : WfB d z o) (k : K (nI (min (lsum d o z) (fW d))) F) : wp_X7_spanned K F r 21 := by
  have h8 := hw.1
  have hl := lsum_le o' hw z (Nat.le_refl z)
  have hW := o'.2.2.2.1
  unfold wp_X7_spanned
  rw [nIcl (by omega), h.1]
  refine ⟨vin (by omega) (by omega), s_X7_firstOf m o' h hw (Nat.le_refl z) ?_⟩
  rw [m.2.2.1]
  simp (disch := omega) only [nIle]
  refine ⟨fun q => ?_, fun q => ?_⟩
  · rw [Nat.min_eq_left q] at k; exact k
  · rw [Nat.min_eq_right (by omega)] at k; exact k
theorem s_X7_isWhole {K : Int32 → HF → Prop} (m : MF F d) (o' : OkF d) (h : MB F r z o t) (hw : WfB d z o) (k1 : fW d ≤ lsum d o z → K (nI 1) F) (k0 : lsum d o z < fW d → K (nI 0) F) : wp_X7_isWhole K F r 21 := by
  have h8 := hw.1
  have hl := lsum_le o' hw z (Nat.le_refl z)
  have hW := o'.2.2.2.1
  unfold wp_X7_isWhole
  refine s_X7_spanned m o' h hw ?_
  rw [m.2.2.1]
  have hm : min (lsum d o z) (fW d) < 2 ^ 31 := by omega
  simp (disch := omega) only [nIe]
  exact ⟨fun q => k0 (by omega), fun q => k1 (by omega)⟩
theorem s_X7_isPair {K : Int32 → HF → Prop} (m : MF F d) (o' : OkF d) (h : MB F r z o t) (hw : WfB d z o) (hz : 0 < z) {x : Nat} (hx : x < 2 ^ 20) (k1 : (x < z ∧ fK d (o x) = 4) → K (nI 1) F) (k0 : ¬ (x < z ∧ fK d (o x) = 4) → K (nI 0) F) : wp_X7_isPair K F r 21 (nI x) := by
  have h8 := hw.1
  unfold wp_X7_isPair
  rw [nIcl (by omega), h.1, nIsub (by omega)]
  refine ⟨vin (by omega) (by omega), s_in (fun q => ?_) (fun q => ?_)⟩
  · have hxz : x < z := by
      have := q.2
      rw [nIlt (by omega) (by omega)] at this
      omega
    refine ⟨fun e => absurd e (by decide), fun _ => ?_⟩
    rw [nI_add, nIcl (by omega), h.2.1 x hxz]
    refine ⟨vin (by omega) (by omega), s_X7_kindOf m o' (hw.2.1 x hxz) ?_⟩
    have hk2 := (o'.2.2.2.2.2.2.2.1 _ (hw.2.1 x hxz)).2.2.2.2.1
    simp (disch := omega) only [nIe]
    exact ⟨fun e => k0 (fun g => e g.2), fun e => k1 ⟨hxz, e⟩⟩
  · refine ⟨fun _ => k0 (fun g => q ⟨nI_pos (by omega), ?_⟩), fun e => absurd rfl e⟩
    rw [nIlt (by omega) (by omega)]
    omega
theorem s_X7_isPair_m1 {K : Int32 → HF → Prop} (h : MB F r z o t) (k0 : K (nI 0) F) : wp_X7_isPair K F r 21 (-1 : Int32) := by
  unfold wp_X7_isPair
  refine ⟨vin (by omega) (by omega), s_in (fun q => ?_) (fun q => ?_)⟩
  · exact absurd (by decide) q.1
  · exact ⟨fun _ => k0, fun e => absurd rfl e⟩
theorem s_X7_powerOf {K : Int32 → HF → Prop} (m : MF F d) (o' : OkF d) (h : MB F r z o t) (hw : WfB d z o) {k : Nat} (hk : k < z) (ht : t (o k) ≤ fS d (o k)) (kk : K (nI (pw d z o t k)) F) : wp_X7_powerOf K F r 21 (nI k) := by
  have h8 := hw.1
  have hB := o'.1
  have hb := hw.2.1 k hk
  have ok := o'.2.2.2.2.2.2.2.1 (o k) hb
  have hkx := ok.2.2.2.2.1
  have hS := ok.2.1
  have s79 : ∀ v, (if fK d (o k) = 4 ∧ ((0 < k ∧ fK d (o (k - 1)) = 4) ∨ (k + 1 < z ∧ fK d (o (k + 1)) = 4)) then v + 5 else v) = pw d z o t k → wp_X7_powerOf_79 K r 21 F (nI k) (nI (o k)) (nI v) := by
    intro v hv
    rw [← hv] at kk
    unfold wp_X7_powerOf_79
    refine s_X7_kindOf m o' hb ?_
    simp (disch := omega) only [nIe, nI_add]
    refine ⟨fun q => ?_, fun q => ?_⟩
    · rw [if_neg (fun g => q g.1)] at kk; exact kk
    · have right : (¬ (0 < k ∧ fK d (o (k - 1)) = 4)) → wp_X7_isPair (fun x4 F504 => ((x4 = nI 0) → (K (nI v) F504)) ∧ ((¬ x4 = nI 0) → (K (nI (v + 5)) F504))) F r 21 (nI (k + 1)) := by
        intro hl
        refine s_X7_isPair m o' h hw (by omega) (by omega) (fun g => ?_) (fun g => ?_)
        · refine ⟨fun e => absurd e (by decide), fun _ => ?_⟩
          rw [if_pos ⟨q, Or.inr g⟩] at kk; exact kk
        · refine ⟨fun _ => ?_, fun e => absurd rfl e⟩
          rw [if_neg (fun x => x.2.elim hl g)] at kk; exact kk
      by_cases h0 : k = 0
      · subst h0
        rw [nI_z1]
        exact s_X7_isPair_m1 h ⟨fun e => absurd rfl e, fun _ => right (by omega)⟩
      · rw [nIsub (by omega)]
        refine s_X7_isPair m o' h hw (by omega) (by omega) (fun g => ?_) (fun g => ?_)
        · refine ⟨fun _ => ?_, fun e => absurd e (by decide)⟩
          rw [if_pos ⟨q, Or.inl ⟨by omega, g.2⟩⟩] at kk; exact kk
        · exact ⟨fun e => absurd rfl e, fun _ => right (fun x => g ⟨by omega, x.2⟩)⟩
  have s77 : ¬ (fK d (o k) = 1 ∧ 0 < k ∧ k + 1 < z) → wp_X7_powerOf_77 K r 21 F (nI k) (nI (o k)) (nI (fS d (o k) - t (o k))) := by
    intro hn
    unfold wp_X7_powerOf_77
    refine s79 _ ?_
    conv => rhs; unfold pw
    rw [if_neg hn]
  have s54 : ∀ x : Nat, x ≤ 1 → (x = 1 ↔ (0 < k ∧ k + 1 < z)) → wp_X7_powerOf_54 K r 21 F (nI k) (nI (o k)) (nI (fS d (o k) - t (o k))) (nI x) := by
    intro x hx hxi
    unfold wp_X7_powerOf_54
    refine s_X7_kindOf m o' hb ?_
    simp (disch := omega) only [nIe, nIdiv]
    refine ⟨fun q => s77 (fun g => q g.1), fun q => ⟨fun q1 => s77 (fun g => absurd (hxi.mpr g.2) (by omega)), fun q1 => s79 _ ?_⟩⟩
    conv => rhs; unfold pw
    rw [if_neg (fun g => by have := g.1; omega), if_pos ⟨q, hxi.mp (by omega)⟩]
  have s34 : wp_X7_powerOf_34 K r 21 F (nI k) (nI (o k)) (nI (fS d (o k) - t (o k))) := by
    unfold wp_X7_powerOf_34 wp_X7_powerOf_53
    rw [nIcl (by omega), h.1, nIsub (by omega)]
    simp (disch := omega) only [nIle]
    refine ⟨fun q => s54 0 (by omega) ⟨fun e => by omega, fun g => absurd g.1 (by omega)⟩, fun q => ⟨vin (by omega) (by omega), fun q1 => s54 0 (by omega) ⟨fun e => by omega, fun g => absurd g.2 (by omega)⟩, fun q1 => s54 1 (by omega) ⟨fun _ => ⟨by omega, by omega⟩, fun _ => rfl⟩⟩⟩
  unfold wp_X7_powerOf
  simp (disch := omega) only [nI_add, nIcl, h.2.1 k hk, pk_mul, h.2.2 (o k) (by omega), m.2.2.2.2.2.1 (o k) hb, nIsub]
  refine ⟨vin (by omega) (by omega), vin (by omega) (by omega), vin (by omega) (by omega), fun _ => s34, fun q => absurd (nI_le (Nat.zero_le _) (by omega)) q⟩
end ModelS
