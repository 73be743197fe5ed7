section FlockS
variable {F : HF} {f : Nat} {d : FD} {K : Int32 → HF → Prop}
theorem s_X1_lengthOf (h : CF F f d) (o : OkF d) {b : Nat} (hb : b < fB d) (k : K (nI (fL d b)) F) : wp_X1_lengthOf K F f (nI b) := by
  have h8 := o.1
  unfold wp_X1_lengthOf
  simp (disch := omega) only [h.1, nIlt, nIle, nIcl, h.2.2.2.2.2.2.1 b hb]
  refine ⟨fun q => absurd q (by omega), fun _ => ⟨fun q => absurd q (by omega), fun _ => ⟨vin (by omega) (by omega), k⟩⟩⟩
theorem s_X1_kindOf (h : CF F f d) (o : OkF d) {b : Nat} (hb : b < fB d) (k : K (nI (fK d b)) F) : wp_X1_kindOf K F f (nI b) := by
  have h8 := o.1
  unfold wp_X1_kindOf
  simp (disch := omega) only [h.1, nIlt, nIle, nIcl, h.2.2.2.2.2.2.2.1 b hb]
  refine ⟨fun q => absurd q (by omega), fun _ => ⟨fun q => absurd q (by omega), fun _ => ⟨vin (by omega) (by omega), k⟩⟩⟩
theorem s_X1_woodOf (h : CF F f d) (o : OkF d) {b : Nat} (hb : b < fB d) (k : K (nI (fD d b)) F) : wp_X1_woodOf K F f (nI b) := by
  have h8 := o.1
  unfold wp_X1_woodOf
  simp (disch := omega) only [h.1, nIlt, nIle, nIcl, h.2.2.2.2.2.2.2.2.1 b hb]
  refine ⟨fun q => absurd q (by omega), fun _ => ⟨fun q => absurd q (by omega), fun _ => ⟨vin (by omega) (by omega), k⟩⟩⟩
theorem s_X1_windIn (h : CF F f d) (o : OkF d) {m : Nat} (hm : m < 2 ^ 31) (k : K (nI (wnd d m)) F) : wp_X1_windIn K F f (nI m) := by
  have h8 := o.2.1
  unfold wp_X1_windIn
  unfold wnd at k
  rw [h.2.1]
  refine ⟨fun q => absurd q (nI_pos hm), fun _ => ?_⟩
  simp (disch := omega) only [nIe]
  refine ⟨fun q => ?_, fun q => ?_⟩
  · rw [if_neg q] at k
    have hlt : m % fC d < fC d := Nat.mod_lt _ (by omega)
    rw [pk_rem hm (by omega) (by omega), nIcl (by omega), h.2.2.2.2.2.2.2.2.2 _ hlt]
    exact ⟨q, vin (by omega) (by omega), k⟩
  · rw [if_pos q] at k
    exact k
theorem s_X1_weightIn (h : CF F f d) {y : Nat} (k : K (nI (wgt d y)) F) : wp_X1_weightIn K F f (nI y) := by
  unfold wp_X1_weightIn
  rw [h.2.2.2.1, h.2.2.2.2.1, pk_mul, nI_add]
  exact k
theorem s_X1_hasCrow (h : CF F f d) (o : OkF d) (k1 : (∃ b, b < fB d ∧ fK d b = 1) → K (nI 1) F) (k0 : (¬ ∃ b, b < fB d ∧ fK d b = 1) → K (nI 0) F) : wp_X1_hasCrow K F f := by
  have h8 := o.1
  have main : ∀ n i, fB d + 1 ≤ i + n → i ≤ fB d → (∀ b, b < i → fK d b ≠ 1) → wp_X1_hasCrow_2 K f n F (nI i) := by
    intro n
    induction n with
    | zero => intro i h1 h2; omega
    | succ n ih =>
      intro i h1 h2 h3
      unfold wp_X1_hasCrow_2
      simp (disch := omega) only [h.1, nIle, nIcl, nI_add]
      refine ⟨fun q => k0 ?_, fun q => ⟨vin (by omega) (by omega), ?_⟩⟩
      · rintro ⟨b, hb, e⟩
        exact h3 b (by omega) e
      · have hk := (o.2.2.2.2.2.2.2.1 i (by omega)).2.2.2.2.1
        simp (disch := omega) only [h.2.2.2.2.2.2.2.1 i (by omega), nIe]
        refine ⟨fun q2 => ih (i + 1) (by omega) (by omega) ?_, fun q2 => k1 ⟨i, by omega, q2⟩⟩
        intro b hb
        rcases Nat.lt_or_ge b i with g | g
        · exact h3 b g
        · have : b = i := by omega
          subst this
          exact q2
  exact ⟨fB d + 1, main _ 0 (by omega) (by omega) (fun b hb => absurd hb (by omega))⟩
end FlockS
/-! ===== a bridge ===== -/
def lsum (d : FD) (o : Nat → Nat) : Nat → Nat
  | 0 => 0
  | k + 1 => lsum d o k + fL d (o k)
def WfB (d : FD) (z : Nat) (o : Nat → Nat) : Prop := z ≤ 8 ∧ (∀ k, k < z → o k < fB d) ∧ ∀ i j, i < z → j < z → o i = o j → i = j
/-- the class's bridge at a role: how many, who, how tired all are -/
def CB (F : HF) (b z : Nat) (o t : Nat → Nat) : Prop := F b 4 = nI z ∧ (∀ k, k < z → F (b + 1) k = nI (o k)) ∧ ∀ k, k < 8 → F (b + 2) k = nI (t k)
theorem lsum_le {d : FD} (o' : OkF d) {z : Nat} {o : Nat → Nat} (h : WfB d z o) : ∀ k, k ≤ z → lsum d o k ≤ 3 * k := by
  intro k
  induction k with
  | zero => intro _; exact Nat.le_refl 0
  | succ k ih =>
    intro hk
    have h1 := ih (by omega)
    have h2 := (o'.2.2.2.2.2.2.2.1 (o k) (h.2.1 k (by omega))).2.2.2.1
    show lsum d o k + fL d (o k) ≤ 3 * (k + 1)
    omega
theorem lsum_mono {d : FD} {o : Nat → Nat} {i : Nat} : ∀ k, i ≤ k → lsum d o i ≤ lsum d o k := by
  intro k
  induction k with
  | zero => intro h; have : i = 0 := by omega
            subst this; exact Nat.le_refl _
  | succ k ih =>
    intro h
    rcases Nat.lt_or_ge i (k + 1) with g | g
    · have := ih (by omega)
      show _ ≤ lsum d o k + fL d (o k)
      omega
    · have : i = k + 1 := by omega
      subst this; exact Nat.le_refl _
theorem CB.kept {F G : HF} {b z : Nat} {o t : Nat → Nat} (h : CB F b z o t) (e0 : G b 4 = F b 4) (e1 : G (b + 1) = F (b + 1)) (e2 : G (b + 2) = F (b + 2)) : CB G b z o t := by
  unfold CB; rw [e0, e1, e2]; exact h
section BridgeS
variable {F : HF} {b : Nat} {d : FD} {z : Nat} {o t : Nat → Nat} {K : Int32 → HF → Prop}
theorem s_X0_size (h : CB F b z o t) (k : K (nI z) F) : wp_X0_size K F b := by
  unfold wp_X0_size; rw [h.1]; exact k
theorem s_X0_birdAt (h : CB F b z o t) (hw : WfB d z o) {i : Nat} (hi : i < z) (k : K (nI (o i)) F) : wp_X0_birdAt K F b (nI i) := by
  have h8 := hw.1
  unfold wp_X0_birdAt
  simp (disch := omega) only [h.1, nIlt, nIle, nIcl, h.2.1 i hi]
  refine ⟨fun q => absurd q (by omega), fun _ => ⟨fun q => absurd q (by omega), fun _ => ⟨vin (by omega) (by omega), k⟩⟩⟩
theorem s_X0_kindAt (c : CF F 4 d) (o' : OkF d) (h : CB F b z o t) (hw : WfB d z o) {i : Nat} (hi : i < z) (k : K (nI (fK d (o i))) F) : wp_X0_kindAt K F b (nI i) := by
  have h8 := hw.1
  unfold wp_X0_kindAt
  simp (disch := omega) only [h.1, nIlt, nIle, nIcl, h.2.1 i hi]
  refine ⟨fun q => absurd q (by omega), fun _ => ⟨fun q => absurd q (by omega), fun _ => ⟨vin (by omega) (by omega), s_X1_kindOf c o' (hw.2.1 i hi) k⟩⟩⟩
theorem s_X0_kindAt_out (h : CB F b z o t) (hw : WfB d z o) {i : Nat} (hi : z ≤ i) (hi2 : i < 2 ^ 31) (k : K (-4 : Int32) F) : wp_X0_kindAt K F b (nI i) := by
  have h8 := hw.1
  unfold wp_X0_kindAt
  simp (disch := omega) only [h.1, nIlt, nIle, nIcl]
  refine ⟨fun q => absurd q (by omega), fun _ => ⟨fun q => k, fun q => absurd hi q⟩⟩
theorem s_X0_kindAt_m1 (k : K (-4 : Int32) F) : wp_X0_kindAt K F b (-1 : Int32) := by
  unfold wp_X0_kindAt
  refine ⟨fun q => k, fun q => absurd (by decide) q⟩
theorem s_X0_tiredOf (h : CB F b z o t) {x : Nat} (hx : x < 8) (k : K (nI (t x)) F) : wp_X0_tiredOf K F b (nI x) := by
  unfold wp_X0_tiredOf
  simp (disch := omega) only [nIlt, nIle, nIcl, h.2.2 x hx]
  refine ⟨fun q => absurd q (by omega), fun _ => ⟨fun q => absurd q (by omega), fun _ => ⟨vin (by omega) (by omega), k⟩⟩⟩
theorem s_X0_positionOf (h : CB F b z o t) (hw : WfB d z o) (o' : OkF d) {x : Nat} (hx : x < 2 ^ 31) (k1 : ∀ i, i < z → o i = x → K (nI i) F) (k0 : (∀ i, i < z → o i ≠ x) → K (-4 : Int32) F) : wp_X0_positionOf K F b (nI x) := by
  have h8 := hw.1
  have hB := o'.1
  have main : ∀ n i, z + 1 ≤ i + n → i ≤ z → (∀ j, j < i → o j ≠ x) → wp_X0_positionOf_2 K b n F (nI x) (nI i) := by
    intro n
    induction n with
    | zero => intro i h1 h2; omega
    | succ n ih =>
      intro i h1 h2 h3
      unfold wp_X0_positionOf_2
      simp (disch := omega) only [h.1, nIle, nIcl, nI_add]
      refine ⟨fun q => k0 (fun j hj => h3 j (by omega)), fun q => ⟨vin (by omega) (by omega), ?_⟩⟩
      have hk := hw.2.1 i (by omega)
      simp (disch := omega) only [h.2.1 i (by omega), nIe]
      refine ⟨fun q2 => ih (i + 1) (by omega) (by omega) ?_, fun q2 => k1 i (by omega) q2⟩
      intro j hj
      rcases Nat.lt_or_ge j i with g | g
      · exact h3 j g
      · have : j = i := by omega
        subst this
        exact q2
  exact ⟨z + 1, main _ 0 (by omega) (by omega) (fun b hb => absurd hb (by omega))⟩
theorem s_X0_firstPlaceOf (c : CF F 4 d) (o' : OkF d) (h : CB F b z o t) (hw : WfB d z o) {m : Nat} (hm : m ≤ z) (k : K (nI (lsum d o m)) F) : wp_X0_firstPlaceOf K F b (nI m) := by
  have h8 := hw.1
  have main : ∀ n i, m + 1 ≤ i + n → i ≤ m → wp_X0_firstPlaceOf_4 K b n F (nI m) (nI (lsum d o i)) (nI i) := by
    intro n
    induction n with
    | zero => intro i h1 h2; omega
    | succ n ih =>
      intro i h1 h2
      unfold wp_X0_firstPlaceOf_4
      simp (disch := omega) only [h.1, nIle, nIcl, nI_add]
      refine ⟨fun q => ?_, fun q => ⟨fun q2 => absurd q2 (by omega), fun q2 => ⟨vin (by omega) (by omega), ?_⟩⟩⟩
      · have : i = m := by omega
        subst this; exact k
      · rw [h.2.1 i (by omega)]
        refine s_X1_lengthOf c o' (hw.2.1 i (by omega)) ?_
        rw [nI_add]
        exact ih (i + 1) (by omega) (by omega)
  exact ⟨m + 1, main _ 0 (by omega) (by omega)⟩
theorem s_X0_isWhole (c : CF F 4 d) (o' : OkF d) (h : CB F b z o t) (hw : WfB d z o) (k1 : fW d ≤ lsum d o z → K (nI 1) F) (k0 : lsum d o z < fW d → K (nI 0) F) : wp_X0_isWhole K F b := by
  have h8 := hw.1
  have hl := lsum_le o' hw z (Nat.le_refl z)
  have hW := o'.2.2.2.1
  unfold wp_X0_isWhole
  rw [h.1]
  refine s_X0_firstPlaceOf c o' h hw (Nat.le_refl z) (s_X1_width c ?_)
  simp (disch := omega) only [nIlt]
  exact ⟨fun q => k0 q, fun q => k1 (by omega)⟩
theorem s_X0_placesSpanned (c : CF F 4 d) (o' : OkF d) (h : CB F b z o t) (hw : WfB d z o) (k : K (nI (min (lsum d o z) (fW d))) F) : wp_X0_placesSpanned K F b := by
  have h8 := hw.1
  have hl := lsum_le o' hw z (Nat.le_refl z)
  have hW := o'.2.2.2.1
  unfold wp_X0_placesSpanned
  rw [h.1]
  refine s_X0_firstPlaceOf c o' h hw (Nat.le_refl z) (s_X1_width c ?_)
  simp (disch := omega) only [nIlt]
  have e : (if fW d < lsum d o z then nI (fW d) else nI (lsum d o z)) = nI (min (lsum d o z) (fW d)) := by
    split
    · rw [Nat.min_eq_right (by omega)]
    · rw [Nat.min_eq_left (by omega)]
  rw [e]
  exact k
end BridgeS
