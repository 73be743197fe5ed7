/-! ===== in which order they are called ===== -/
def bef (d : FD) (a b : Nat) : Prop := fD d b < fD d a ∨ (fD d a = fD d b ∧ a < b)
def cnb (d : FD) (o : Nat → Nat) (b : Nat) : Nat → Nat
  | 0 => 0
  | j + 1 => if fD d b < fD d (o j) ∨ (fD d (o j) = fD d b ∧ o j < b) then cnb d o b j + 1 else cnb d o b j
theorem cnb_t {d : FD} {o : Nat → Nat} {b j : Nat} (h : bef d (o j) b) : cnb d o b (j + 1) = cnb d o b j + 1 := by
  show (if fD d b < fD d (o j) ∨ (fD d (o j) = fD d b ∧ o j < b) then _ else _) = _
  exact if_pos h
theorem cnb_f {d : FD} {o : Nat → Nat} {b j : Nat} (h : ¬ bef d (o j) b) : cnb d o b (j + 1) = cnb d o b j := by
  show (if fD d b < fD d (o j) ∨ (fD d (o j) = fD d b ∧ o j < b) then _ else _) = _
  exact if_neg h
theorem cnb_le (d : FD) (o : Nat → Nat) (b : Nat) : ∀ j, cnb d o b j ≤ j := by
  intro j
  induction j with
  | zero => exact Nat.le_refl _
  | succ j ih =>
    by_cases h : bef d (o j) b
    · rw [cnb_t h]; omega
    · rw [cnb_f h]; omega
theorem cnb_lt {d : FD} {o : Nat → Nat} {a b : Nat} (h : bef d a b) : ∀ m, cnb d o a m ≤ cnb d o b m ∧ ∀ i, i < m → o i = a → cnb d o a m < cnb d o b m := by
  intro m
  induction m with
  | zero => exact ⟨Nat.le_refl _, fun i hi => absurd hi (by omega)⟩
  | succ m ih =>
    have tr : bef d (o m) a → bef d (o m) b := by unfold bef at h ⊢; omega
    by_cases h1 : bef d (o m) a
    · rw [cnb_t h1, cnb_t (tr h1)]
      refine ⟨by have := ih.1; omega, fun i hi e => ?_⟩
      have hne : i ≠ m := fun q => by subst q; rw [e] at h1; unfold bef at h1; omega
      have := ih.2 i (by omega) e; omega
    · by_cases h2 : bef d (o m) b
      · rw [cnb_f h1, cnb_t h2]
        refine ⟨by have := ih.1; omega, fun i hi e => by have := ih.1; omega⟩
      · rw [cnb_f h1, cnb_f h2]
        refine ⟨ih.1, fun i hi e => ?_⟩
        have hne : i ≠ m := fun q => by subst q; rw [e] at h2; exact h2 h
        exact ih.2 i (by omega) e
theorem cnb_self {d : FD} {z : Nat} {o : Nat → Nat} {i : Nat} (hi : i < z) : cnb d o (o i) z < z := by
  have : ∀ m, m ≤ z → i < m → cnb d o (o i) m < m := by
    intro m
    induction m with
    | zero => intro _ h; omega
    | succ m ih =>
      intro h1 h2
      by_cases e : i = m
      · subst e
        rw [cnb_f (by unfold bef; omega)]
        have := cnb_le d o (o i) i; omega
      · have := ih (by omega) (by omega)
        by_cases h : bef d (o m) (o i)
        · rw [cnb_t h]; omega
        · rw [cnb_f h]; omega
  exact this z (Nat.le_refl z) hi
theorem cnb_inj {d : FD} {z : Nat} {o : Nat → Nat} (hw : WfB d z o) {i j : Nat} (hi : i < z) (hj : j < z) (e : cnb d o (o i) z = cnb d o (o j) z) : i = j := by
  apply hw.2.2 i j hi hj
  rcases (show bef d (o i) (o j) ∨ bef d (o j) (o i) ∨ o i = o j by unfold bef; omega) with h | h | h
  · have := (cnb_lt (o := o) h z).2 i hi rfl; omega
  · have := (cnb_lt (o := o) h z).2 j hj rfl; omega
  · exact h
theorem cnb_sur {d : FD} {z : Nat} {o : Nat → Nat} (hw : WfB d z o) {m : Nat} (hm : m < z) : ∃ i, i < z ∧ cnb d o (o i) z = m :=
  pigeon z (fun i => cnb d o (o i) z) (fun _ hk => cnb_self hk) (fun _ _ hi hj e => cnb_inj hw hi hj e) m hm
def isM (d : FD) (z : Nat) (o : Nat → Nat) (M : Nat) : Prop := (∀ i, i < z → cnb d o (o i) z + fD d (o i) ≤ M) ∧ (M = 0 ∨ ∃ i, i < z ∧ M = cnb d o (o i) z + fD d (o i))
theorem isM_u {d : FD} {z : Nat} {o : Nat → Nat} {M M' : Nat} (h : isM d z o M) (h' : isM d z o M') : M = M' := by
  have a : M ≤ M' := by
    rcases h.2 with e | ⟨i, hi, e⟩
    · omega
    · rw [e]; exact h'.1 i hi
  have b : M' ≤ M := by
    rcases h'.2 with e | ⟨i, hi, e⟩
    · omega
    · rw [e]; exact h.1 i hi
  omega
theorem bit_or : ∀ M, M < 256 → ∀ b, b < 8 → nI M ||| (nI 1 <<< (nI b &&& 31)) = nI (M ||| 2 ^ b) ∧ M ||| 2 ^ b < 256 := by decide +kernel
theorem bit_has : ∀ M, M < 256 → ∀ b, b < 8 → (((nI M >>> (nI b &&& 31)) &&& nI 1 = nI 1) ↔ M.testBit b = true) := by decide +kernel
section CallsS
variable {F : HF} {n : Nat} {d : FD} {N : ND}
theorem s_X6_callMinute {K : Int32 → HF → Prop} (c : CF F 4 d) (o' : OkF d) (cN : CN F 16 N) (wN : WfN n d N) {i : Nat} (hi : i < nz N) (k : K (nI (cnb d (no N) (no N i) (nz N))) F) : wp_X6_callMinute K F (nI i) := by
  have h8 := wN.1.1
  have hB := o'.1
  have b := cN.2.2.2.2
  have hoi := wN.1.2.1 i hi
  have dOi := (o'.2.2.2.2.2.2.2.1 _ hoi).2.2.2.2.2
  unfold wp_X6_callMinute
  refine s_X0_birdAt b wN.1 hi ?_
  have main : ∀ l j, nz N + 1 ≤ j + l → j ≤ nz N → wp_X6_callMinute_20 K l F (nI (no N i)) (nI (cnb d (no N) (no N i) j)) (nI j) := by
    intro l
    induction l with
    | zero => intro j a1 a2; omega
    | succ l ih =>
      intro j a1 a2
      have hc := cnb_le d (no N) (no N i) j
      unfold wp_X6_callMinute_20 wp_X6_callMinute_73 wp_X6_callMinute_76
      refine s_X0_size b ?_
      rw [nIle (by omega) (by omega), nI_add, nI_add]
      refine ⟨fun g => ?_, fun g => ?_⟩
      · have : j = nz N := by omega
        subst this; exact k
      have hj : j < nz N := by omega
      have hoj := wN.1.2.1 j hj
      have dOj := (o'.2.2.2.2.2.2.2.1 _ hoj).2.2.2.2.2
      refine s_X0_birdAt b wN.1 hj (s_X1_woodOf c o' hoj (s_X1_woodOf c o' hoi ?_))
      have T := ih (j + 1) (by omega) (by omega)
      have yes : bef d (no N j) (no N i) → wp_X6_callMinute_20 K l F (nI (no N i)) (nI (cnb d (no N) (no N i) j + 1)) (nI (j + 1)) := fun h => by rw [cnb_t h] at T; exact T
      have nope : ¬ bef d (no N j) (no N i) → wp_X6_callMinute_20 K l F (nI (no N i)) (nI (cnb d (no N) (no N i) j)) (nI (j + 1)) := fun h => by rw [cnb_f h] at T; exact T
      have hlt : (nI 0 < nI (fD d (no N j)) - nI (fD d (no N i))) ↔ fD d (no N i) < fD d (no N j) := by
        rw [Int32.lt_iff_toInt_lt, pk_sub_toInt (by omega) (by omega)]
        have z0 : (nI 0).toInt = 0 := by decide
        omega
      have heq : (nI (fD d (no N j)) - nI (fD d (no N i)) = nI 0) ↔ fD d (no N j) = fD d (no N i) := by
        constructor
        · intro e
          have := congrArg Int32.toInt e
          rw [pk_sub_toInt (by omega) (by omega)] at this
          have z0 : (nI 0).toInt = 0 := by decide
          omega
        · intro e; rw [e, nIsub (Nat.le_refl _), Nat.sub_self]
      rw [hlt, heq, nIle (by omega) (by omega)]
      refine ⟨fun q => yes (Or.inl q), fun q => ⟨fun q2 => nope (by unfold bef; omega), fun q2 => ⟨fun q3 => nope (by unfold bef; omega), fun q3 => yes (Or.inr ⟨q2, by omega⟩)⟩⟩⟩
  exact ⟨nz N + 1, main _ 0 (by omega) (by omega)⟩
theorem s_X6_calls {K : Int32 → HF → Prop} (c : CF F 4 d) (o' : OkF d) (cN : CN F 16 N) (wN : WfN n d N) {a : Int32} {eqk : Nat → Prop} (he : ∀ r, r < 100 → ((nI r = a) ↔ eqk r)) (k1 : ∀ i, i < nz N → eqk (cnb d (no N) (no N i) (nz N)) → K (nI (no N i)) F) (k0 : (∀ i, i < nz N → ¬ eqk (cnb d (no N) (no N i) (nz N))) → ∀ M, isM d (nz N) (no N) M → K (nI M) F) : ∃ m_, wp_X6_calls_28 K m_ F a (nI 0) (nI 0) := by
  have h8 := wN.1.1
  have hB := o'.1
  have b := cN.2.2.2.2
  have main : ∀ l i M, nz N + 1 ≤ i + l → i ≤ nz N → M ≤ 100 → (∀ j, j < i → ¬ eqk (cnb d (no N) (no N j) (nz N))) → (∀ j, j < i → cnb d (no N) (no N j) (nz N) + fD d (no N j) ≤ M) → (M = 0 ∨ ∃ j, j < nz N ∧ M = cnb d (no N) (no N j) (nz N) + fD d (no N j)) → wp_X6_calls_28 K l F a (nI M) (nI i) := by
    intro l
    induction l with
    | zero => intro i M a1 a2; omega
    | succ l ih =>
      intro i M a1 a2 hM h1 h2 h3
      unfold wp_X6_calls_28
      refine s_X0_size b ?_
      rw [nIle (by omega) (by omega), nI_add]
      refine ⟨fun g => ?_, fun g => ?_⟩
      · have : i = nz N := by omega
        subst this
        exact k0 h1 M ⟨h2, h3⟩
      have hi : i < nz N := by omega
      have hoi := wN.1.2.1 i hi
      have dOi := (o'.2.2.2.2.2.2.2.1 _ hoi).2.2.2.2.2
      have hc := cnb_le d (no N) (no N i) (nz N)
      refine s_X6_callMinute c o' cN wN hi ?_
      rw [he _ (by omega)]
      refine ⟨fun q => s_X0_birdAt b wN.1 hi (s_X1_woodOf c o' hoi ?_), fun q => s_X0_birdAt b wN.1 hi (k1 i hi q)⟩
      rw [nI_add]
      have ex : (if nI M < nI (cnb d (no N) (no N i) (nz N) + fD d (no N i)) then nI (cnb d (no N) (no N i) (nz N) + fD d (no N i)) else nI M) = nI (max M (cnb d (no N) (no N i) (nz N) + fD d (no N i))) := by
        split
        · rename_i g9; rw [nIlt (by omega) (by omega)] at g9; rw [Nat.max_eq_right (by omega)]
        · rename_i g9; rw [nIlt (by omega) (by omega)] at g9; rw [Nat.max_eq_left (by omega)]
      rw [ex]
      refine ih (i + 1) _ (by omega) (by omega) (by omega) (fun j hj => ?_) (fun j hj => ?_) ?_
      · rcases Nat.lt_or_ge j i with e | e
        · exact h1 j e
        · have : j = i := by omega
          subst this; exact q
      · rcases Nat.lt_or_ge j i with e | e
        · have := h2 j e; omega
        · have : j = i := by omega
          subst this; omega
      · rcases Nat.lt_or_ge M (cnb d (no N) (no N i) (nz N) + fD d (no N i)) with e | e
        · exact Or.inr ⟨i, hi, Nat.max_eq_right (by omega)⟩
        · rw [Nat.max_eq_left e]; exact h3
  exact ⟨nz N + 1, main _ 0 0 (by omega) (by omega) (by omega) (fun j hj => absurd hj (by omega)) (fun j hj => absurd hj (by omega)) (Or.inl rfl)⟩
/-- one of the bridge that is not called ahead of the m-th -/
def cnd (d : FD) (N : ND) (m c : Nat) : Prop := ∃ i, i < nz N ∧ no N i = c ∧ m ≤ cnb d (no N) c (nz N)
theorem s_X7_calls {K : Int32 → HF → Prop} (c : MF F d) (o' : OkF d) (mN : MNf (F 120) N) (wN : WfN n d N) {a : Int32} {eqk : Nat → Prop} (he : ∀ r, r < 100 → ((nI r = a) ↔ eqk r)) (k1 : ∀ i, i < nz N → eqk (cnb d (no N) (no N i) (nz N)) → K (nI (no N i)) F) (k0 : (∀ i, i < nz N → ¬ eqk (cnb d (no N) (no N i) (nz N))) → ∀ M, isM d (nz N) (no N) M → K (nI M) F) : ∃ m_, wp_X7_calls_25 K m_ F a (nI 0) (nI 0) (nI 0) := by
  have h8 := wN.1.1
  have hB := o'.1
  have main : ∀ l m S M, nz N + 1 ≤ m + l → m ≤ nz N → S < 256 → (∀ b, b < 8 → (S.testBit b = true ↔ ∃ i, i < nz N ∧ no N i = b ∧ cnb d (no N) b (nz N) < m)) → M ≤ 100 → (∀ j, j < nz N → cnb d (no N) (no N j) (nz N) < m → ¬ eqk (cnb d (no N) (no N j) (nz N)) ∧ cnb d (no N) (no N j) (nz N) + fD d (no N j) ≤ M) → (M = 0 ∨ ∃ j, j < nz N ∧ M = cnb d (no N) (no N j) (nz N) + fD d (no N j)) → wp_X7_calls_25 K l F a (nI S) (nI M) (nI m) := by
    intro l
    induction l with
    | zero => intro m S M a1 a2; omega
    | succ l ih =>
      intro m S M a1 a2 hS hbit hM h1 h3
      unfold wp_X7_calls_25
      rw [show F 120 (nI 0).toNatClampNeg = nI (nz N) from mN.1, nIle (by omega) (by omega)]
      refine ⟨vin (by omega) (by omega), fun g => ?_, fun g => ?_⟩
      · have : m = nz N := by omega
        subst this
        exact k0 (fun j hj => (h1 j hj (cnb_self hj)).1) M ⟨fun j hj => (h1 j hj (cnb_self hj)).2, h3⟩
      -- who is next
      have inner : ∀ q b (nx : Int32), fB d + 1 ≤ b + q → b ≤ fB d → ((nx = -1 ∧ ∀ x, x < b → ¬ cnd d N m x) ∨ ∃ x, x < b ∧ nx = nI x ∧ cnd d N m x ∧ ∀ y, y < b → cnd d N m y → y = x ∨ bef d x y) → wp_X7_calls_42 K (wp_X7_calls_25 K l) q F a (nI S) (nI M) (nI m) nx (nI b) := by
        intro q
        induction q with
        | zero => intro b nx b1 b2; omega
        | succ q ihq =>
          intro b nx b1 b2 hnx
          have s118 : b < fB d → (¬ cnd d N m b ∨ ∃ x, x < b ∧ nx = nI x ∧ cnd d N m x ∧ bef d x b ∧ ∀ y, y < b → cnd d N m y → y = x ∨ bef d x y) → wp_X7_calls_118 K (wp_X7_calls_25 K l) (wp_X7_calls_42 K (wp_X7_calls_25 K l) q) F a (nI S) (nI M) (nI m) nx (nI b) := by
            intro hb hc
            unfold wp_X7_calls_118 wp_X7_calls_120
            rw [nI_add]
            refine ihq (b + 1) nx (by omega) (by omega) ?_
            rcases hc with hc | ⟨x, x1, x2, x3, x4, x5⟩
            · rcases hnx with ⟨e, h⟩ | ⟨x, x1, x2, x3, x5⟩
              · refine Or.inl ⟨e, fun x hx => ?_⟩
                rcases Nat.lt_or_ge x b with e | e
                · exact h x e
                · have : x = b := by omega
                  subst this; exact hc
              · refine Or.inr ⟨x, by omega, x2, x3, fun y hy cy => ?_⟩
                rcases Nat.lt_or_ge y b with e | e
                · exact x5 y e cy
                · have : y = b := by omega
                  subst this; exact absurd cy hc
            · refine Or.inr ⟨x, by omega, x2, x3, fun y hy cy => ?_⟩
              rcases Nat.lt_or_ge y b with e | e
              · exact x5 y e cy
              · have : y = b := by omega
                subst this; exact Or.inr x4
          have s113 : b < fB d → cnd d N m b → (∀ y, y < b → cnd d N m y → bef d b y) → wp_X7_calls_113 K (wp_X7_calls_25 K l) (wp_X7_calls_42 K (wp_X7_calls_25 K l) q) F a (nI S) (nI M) (nI m) (nI b) := by
            intro hb hc hall
            unfold wp_X7_calls_113 wp_X7_calls_120
            rw [nI_add]
            refine ihq (b + 1) (nI b) (by omega) (by omega) (Or.inr ⟨b, by omega, rfl, hc, fun y hy cy => ?_⟩)
            rcases Nat.lt_or_ge y b with e | e
            · exact Or.inr (hall y e cy)
            · exact Or.inl (by omega)
          have s76 : b < fB d → ∀ s, s ≤ 1 → (s = 1 ↔ cnd d N m b) → wp_X7_calls_76 K (wp_X7_calls_25 K l) (wp_X7_calls_42 K (wp_X7_calls_25 K l) q) F a (nI S) (nI M) (nI m) nx (nI b) (nI s) := by
            intro hb s hs hsi
            unfold wp_X7_calls_76
            rw [nIe (by omega) (by omega)]
            refine ⟨fun e => s118 hb (Or.inl (fun x => by have := hsi.mpr x; omega)), fun e => ?_⟩
            have hc := hsi.mp (by omega)
            rcases hnx with ⟨e1, h⟩ | ⟨x, x1, x2, x3, x5⟩
            · rw [e1]
              exact ⟨fun _ => s113 hb hc (fun y hy cy => absurd cy (h y hy)), fun g => absurd (by decide) g⟩
            · have dx := (o'.2.2.2.2.2.2.2.1 x (by omega)).2.2.2.2.2
              have db := (o'.2.2.2.2.2.2.2.1 b hb).2.2.2.2.2
              refine ⟨fun g => by rw [x2] at g; exact absurd g (nI_pos (by omega)), fun _ => ?_⟩
              have e5 : (nI 4 * nx + nI 3) = nI (4 * x + 3) := by rw [x2, pk_mul, nI_add]
              rw [e5, pk_mul, nI_add, nIcl (by omega), nIcl (by omega), c.2.2.2.2.2.2.2.2.1 b hb, c.2.2.2.2.2.2.2.2.1 x (by omega), nIle (by omega) (by omega)]
              refine ⟨vin (by omega) (by omega), vin (by omega) (by omega), fun g => s118 hb (Or.inr ⟨x, x1, x2, x3, by unfold bef; omega, x5⟩), fun g => s113 hb hc (fun y hy cy => ?_)⟩
              rcases x5 y hy cy with e | e
              · subst e; exact Or.inl (by omega)
              · unfold bef at e ⊢; omega
          unfold wp_X7_calls_42 wp_X7_calls_75
          rw [c.1, nIle (by omega) (by omega)]
          refine ⟨fun g2 => ?_, fun g2 => ?_⟩
          · -- the one is found
            have eb : b = fB d := by omega
            obtain ⟨e, he1, he2⟩ := cnb_sur (d := d) wN.1 (show m < nz N by omega)
            have ce : cnd d N m (no N e) := ⟨e, he1, rfl, by omega⟩
            have hoe := wN.1.2.1 e he1
            rcases hnx with ⟨_, h⟩ | ⟨x, x1, x2, x3, x5⟩
            · exact absurd ce (h _ (by omega))
            have ex : x = no N e := by
              rcases x5 (no N e) (by omega) ce with q1 | q1
              · exact q1.symm
              · obtain ⟨i, i1, i2, i3⟩ := x3
                have := (cnb_lt (o := no N) q1 (nz N)).2 i i1 i2
                omega
            subst ex
            rw [x2, he m (by omega)]
            have dx := (o'.2.2.2.2.2.2.2.1 _ hoe).2.2.2.2.2
            rw [pk_mul, nI_add, nIcl (by omega), c.2.2.2.2.2.2.2.2.1 _ hoe, nI_add, nIle (by omega) (by omega), (bit_or S hS (no N e) (by omega)).1]
            have fin : ¬ eqk m → ∀ M', M' ≤ 100 → M ≤ M' → m + fD d (no N e) ≤ M' → (M' = M ∨ M' = m + fD d (no N e)) → wp_X7_calls_172 K (wp_X7_calls_25 K l) F a (nI (S ||| 2 ^ no N e)) (nI m) (nI M') := by
              intro hk M' m1 m2 m3 m4
              unfold wp_X7_calls_172
              rw [nI_add]
              refine ih (m + 1) _ M' (by omega) (by omega) (bit_or S hS (no N e) (by omega)).2 (fun b' hb' => ?_) m1 (fun j hj hr => ?_) ?_
              · rw [Nat.testBit_or, Nat.testBit_two_pow, Bool.or_eq_true, decide_eq_true_iff, hbit b' hb']
                constructor
                · rintro (⟨i, i1, i2, i3⟩ | q1)
                  · exact ⟨i, i1, i2, by omega⟩
                  · exact ⟨e, he1, q1, by rw [← q1]; omega⟩
                · rintro ⟨i, i1, i2, i3⟩
                  rcases Nat.lt_or_ge (cnb d (no N) b' (nz N)) m with q1 | q1
                  · exact Or.inl ⟨i, i1, i2, q1⟩
                  · right
                    have : cnb d (no N) (no N i) (nz N) = cnb d (no N) (no N e) (nz N) := by rw [i2]; omega
                    rw [← i2, cnb_inj wN.1 i1 he1 this]
              · rcases Nat.lt_or_ge (cnb d (no N) (no N j) (nz N)) m with q1 | q1
                · have := h1 j hj q1; exact ⟨this.1, by omega⟩
                · have e3 : j = e := cnb_inj wN.1 hj he1 (by omega)
                  subst e3
                  rw [he2]; exact ⟨hk, m3⟩
              · rcases m4 with q1 | q1
                · rw [q1]; exact h3
                · exact Or.inr ⟨e, he1, by rw [he2]; exact q1⟩
            refine ⟨fun q1 => ⟨vin (by omega) (by omega), fun q2 => fin q1 M hM (Nat.le_refl _) q2 (Or.inl rfl), fun q2 => fin q1 _ (by omega) (by omega) (Nat.le_refl _) (Or.inr rfl)⟩, fun q1 => k1 e he1 (by rw [he2]; exact q1)⟩
          · have hb : b < fB d := by omega
            refine s_X7_placeIn o' mN.mb wN.1 (by omega) (fun i hi e => ⟨fun e2 => ?_, fun _ => ?_⟩) (fun q1 => ⟨fun _ => s76 hb 0 (by omega) ⟨fun e => by omega, ?_⟩, fun e => absurd rfl e⟩)
            · rw [nI_ne_m4 (by omega)] at e2; exact e2.elim
            · unfold wp_X7_has
              rw [bit_has S hS b (by omega), hbit b (by omega)]
              refine ⟨fun q2 => ⟨fun e => absurd rfl e, fun _ => s76 hb 1 (by omega) ⟨fun _ => ⟨i, hi, e, ?_⟩, fun _ => rfl⟩⟩, fun q2 => ⟨fun _ => s76 hb 0 (by omega) ⟨fun e => by omega, ?_⟩, fun e => absurd e (by decide)⟩⟩
              · rcases Nat.lt_or_ge (cnb d (no N) b (nz N)) m with q3 | q3
                · exact absurd ⟨i, hi, e, q3⟩ q2
                · exact q3
              · rintro ⟨i', i1, i2, i3⟩
                obtain ⟨_, _, _, q3⟩ := q2
                omega
            · rintro ⟨i, i1, i2, i3⟩
              exact absurd i2 (q1 i i1)
      exact ⟨fB d + 1, inner _ 0 _ (by omega) (by omega) (Or.inl ⟨rfl, fun x hx => absurd hx (by omega)⟩)⟩
  exact ⟨nz N + 1, main _ 0 0 0 (by omega) (by omega) (by omega) (fun b hb => ⟨fun e => by simp at e, fun ⟨i, _, _, q⟩ => absurd q (by omega)⟩) (by omega) (fun j hj q => absurd q (by omega)) (Or.inl rfl)⟩
theorem t_calls (h : Inv n F) (a : Int32) : wp_X6_calls (fun r F1 => wp_X7_calls (fun r2 F2 => r = r2 ∧ Inv (n + 1) F2) F1 a) F a := by
  obtain ⟨d, o', hb, i1, ⟨N, wN, cN, mN⟩, -⟩ := id h
  have h8 := wN.1.1
  -- a number that is told
  have good : ∀ eqk : Nat → Prop, (∀ r, r < 100 → ((nI r = a) ↔ eqk r)) → (∀ r s, eqk r → eqk s → r = s) → (¬ a < -1 ∧ ¬ (nI (nz N) - nI 1) < a) → ∃ m_, wp_X6_calls_28 (fun r F1 => wp_X7_calls (fun r2 F2 => r = r2 ∧ Inv (n + 1) F2) F1 a) m_ F a (nI 0) (nI 0) := by
    intro eqk he hu hin
    have ref : ∀ v : Int32, (∀ i, i < nz N → eqk (cnb d (no N) (no N i) (nz N)) → v = nI (no N i)) → ((∀ i, i < nz N → ¬ eqk (cnb d (no N) (no N i) (nz N))) → ∀ M, isM d (nz N) (no N) M → v = nI M) → wp_X7_calls (fun r2 F2 => v = r2 ∧ Inv (n + 1) F2) F a := by
      intro v v1 v0
      unfold wp_X7_calls
      rw [show F 120 (nI 0).toNatClampNeg = nI (nz N) from mN.1]
      refine ⟨vin (by omega) (by omega), s_in (fun _ => ⟨fun _ => s_X7_calls i1.2 o' mN wN he (fun i hi q => h.end Ag.rf (v1 i hi q)) (fun q M hM => h.end Ag.rf (v0 q M hM)), fun e => absurd e (by decide)⟩) (fun q => absurd hin q)⟩
    refine s_X6_calls i1.1 o' cN wN he (fun i hi q => ref _ (fun i' hi' q' => by rw [cnb_inj wN.1 hi hi' (hu _ _ q q')]) (fun q' => absurd q (q' i hi))) (fun q M hM => ref _ (fun i hi q' => absurd q' (q i hi)) (fun _ M' hM' => by rw [isM_u hM hM']))
  have bad : ¬ (¬ a < -1 ∧ ¬ (nI (nz N) - nI 1) < a) → wp_X7_calls (fun r2 F2 => (-1 : Int32) = r2 ∧ Inv (n + 1) F2) F a := by
    intro q
    unfold wp_X7_calls
    rw [show F 120 (nI 0).toNatClampNeg = nI (nz N) from mN.1]
    exact ⟨vin (by omega) (by omega), s_in (fun g => absurd g q) (fun _ => ⟨fun e => absurd rfl e, fun _ => h.end Ag.rf rfl⟩)⟩
  have hz1 : (nI (nz N) - nI 1).toInt = (nz N : Int) - 1 := by rw [pk_sub_toInt (by omega) (by omega)]; rfl
  unfold wp_X6_calls wp_X0_size
  rw [show F 17 4 = nI (nz N) from cN.2.2.2.2.1]
  refine ⟨fun q => bad (fun g => g.1 q), fun q => ⟨fun q2 => ?_, fun q2 => bad (fun g => ?_)⟩⟩
  · have hin : ¬ a < -1 ∧ ¬ (nI (nz N) - nI 1) < a := by
      refine ⟨q, fun x => ?_⟩
      rw [Int32.lt_iff_toInt_lt] at x q2
      rw [hz1] at x
      rw [nI_toInt (by omega)] at q2
      omega
    by_cases e1 : a = -1
    · subst e1
      exact good (fun _ => False) (fun r hr => by rw [nI_ne_m1 (by omega)]) (fun _ _ x => x.elim) hin
    · have h0 : ¬ a < 0 := fun x => e1 (Int32.toInt_inj.mp (by
        rw [Int32.lt_iff_toInt_lt] at x q
        have z0 : (0 : Int32).toInt = 0 := by decide
        rw [m1_toInt] at q ⊢
        omega))
      obtain ⟨j, hj, rfl⟩ := nI_of h0
      exact good (fun r => r = j) (fun r hr => nI_eq (by omega) hj) (fun r s x y => x.trans y.symm) hin
  · have g2 := g.2
    rw [Int32.lt_iff_toInt_lt] at g2 q2
    rw [hz1] at g2
    rw [nI_toInt (by omega)] at q2
    omega
end CallsS
