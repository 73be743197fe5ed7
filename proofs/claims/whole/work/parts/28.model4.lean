section ModelV
variable {F : HF} {d : FD} {z r : Nat} {o t w : Nat → Nat}
theorem s_X7_placeIn {K : Int32 → HF → Prop} (o' : OkF d) (h : MB F 120 z o t) (hw : WfB d z o) {x : Nat} (hx : x < 2 ^ 31) (k1 : ∀ i, i < z → o i = x → K (nI i) F) (k0 : (∀ i, i < z → o i ≠ x) → K (-4 : Int32) F) : wp_X7_placeIn K F (nI x) := by
  have h8 := hw.1
  have hB := o'.1
  have main : ∀ n i, z + 1 ≤ i + n → i ≤ z → (∀ j, j < i → o j ≠ x) → wp_X7_placeIn_2 K n F (nI x) (nI i) := by
    intro n
    induction n with
    | zero => intro i h1 h2; omega
    | succ n ih =>
      intro i h1 h2 h3
      unfold wp_X7_placeIn_2
      simp (disch := omega) only [nI_add, nIcl]
      rw [h.1, nIle (by omega) (by omega)]
      refine ⟨vin (by omega) (by omega), fun q => k0 (fun j hj => h3 j (by omega)), fun q => ⟨vin (by omega) (by omega), ?_⟩⟩
      have hk := hw.2.1 i (by omega)
      rw [h.2.1 i (by omega), nIe (by omega) (by omega)]
      refine ⟨fun q2 => ih (i + 1) (by omega) (by omega) ?_, fun q2 => k1 i (by omega) q2⟩
      intro j hj
      rcases Nat.lt_or_ge j i with g | g
      · exact h3 j g
      · have : j = i := by omega
        subst this
        exact q2
  exact ⟨z + 1, main _ 0 (by omega) (by omega) (fun b hb => absurd hb (by omega))⟩
theorem s_X7_mayJoin {K : Int32 → HF → Prop} (m : MF F d) (o' : OkF d) (h : MB F r z o t) (hw : WfB d z o) {x : Nat} (hx : x < fB d) (k1 : mj d z o x → K (nI 1) F) (k0 : ¬ mj d z o x → K (nI 0) F) : wp_X7_mayJoin K F r 21 (nI x) := by
  have h8 := hw.1
  have hB := o'.1
  have hkx := (o'.2.2.2.2.2.2.2.1 x hx).2.2.2.2.1
  have crow : lsum d o z < fW d → (∀ i, i < z → o i ≠ x) → z = 0 → ∀ n i v, fB d + 1 ≤ i + n → i ≤ fB d → v ≤ 1 → (v = 1 ↔ ∃ b, b < i ∧ fK d b = 1) → wp_X7_mayJoin_97 K r 21 n F (nI x) (nI v) (nI i) := by
    intro c1 c2 c3 n
    induction n with
    | zero => intro i v h1 h2; omega
    | succ n ih =>
      intro i v h1 h2 h3 h4
      have s126 : ∀ u, u ≤ 1 → (u = 1 ↔ ∃ b, b < i + 1 ∧ fK d b = 1) → i < fB d → wp_X7_mayJoin_126 K (wp_X7_mayJoin_97 K r 21 n) r 21 F (nI x) (nI i) (nI u) := by
        intro u hu hu2 hi
        unfold wp_X7_mayJoin_126
        rw [nI_add]
        exact ih (i + 1) u (by omega) (by omega) hu hu2
      unfold wp_X7_mayJoin_97 wp_X7_mayJoin_121
      rw [m.1]
      simp (disch := omega) only [nIle, nIe]
      refine ⟨fun q => ⟨fun q1 => k1 ⟨c1, c2, fun _ => Or.inr ?_, fun e => absurd e (by omega)⟩, fun q1 => s_X7_kindOf m o' hx ?_⟩, fun q => ⟨fun q1 => s126 1 (by omega) ?_ (by omega), fun q1 => s_X7_kindOf m o' (by omega) ?_⟩⟩
      · rintro ⟨b, hb, e⟩
        have := h4.mpr ⟨b, by omega, e⟩
        omega
      · simp (disch := omega) only [nIe]
        refine ⟨fun q2 => k0 (fun g => ?_), fun q2 => k1 ⟨c1, c2, fun _ => Or.inl q2, fun e => absurd e (by omega)⟩⟩
        rcases g.2.2.1 c3 with g | g
        · exact q2 g
        · obtain ⟨b, hb, e⟩ := h4.mp (by omega)
          exact g ⟨b, by omega, e⟩
      · refine ⟨fun _ => ?_, fun _ => rfl⟩
        obtain ⟨b, hb, e⟩ := h4.mp (by omega)
        exact ⟨b, by omega, e⟩
      · have hk := (o'.2.2.2.2.2.2.2.1 i (by omega)).2.2.2.2.1
        simp (disch := omega) only [nIe]
        refine ⟨fun q2 => s126 0 (by omega) ⟨fun e => by omega, ?_⟩ (by omega), fun q2 => s126 1 (by omega) ⟨fun _ => ⟨i, by omega, q2⟩, fun _ => rfl⟩ (by omega)⟩
        rintro ⟨b, hb, e⟩
        rcases Nat.lt_or_ge b i with g | g
        · have := h4.mpr ⟨b, g, e⟩; omega
        · have : b = i := by omega
          subst this; exact absurd e q2
  have main : ∀ n i v, z + 1 ≤ i + n → i ≤ z → v ≤ 1 → (v = 1 ↔ ∃ j, j < i ∧ o j = x) → wp_X7_mayJoin_5 K r 21 n F (nI x) (nI v) (nI i) := by
    intro n
    induction n with
    | zero => intro i v h1 h2; omega
    | succ n ih =>
      intro i v h1 h2 h3 h4
      have s32 : ∀ u, u ≤ 1 → (u = 1 ↔ ∃ j, j < i + 1 ∧ o j = x) → i < z → wp_X7_mayJoin_32 K (wp_X7_mayJoin_5 K r 21 n) r 21 F (nI x) (nI i) (nI u) := by
        intro u hu hu2 hi
        unfold wp_X7_mayJoin_32
        rw [nI_add]
        exact ih (i + 1) u (by omega) (by omega) hu hu2
      unfold wp_X7_mayJoin_5 wp_X7_mayJoin_27
      simp (disch := omega) only [nI_add, nIcl]
      rw [h.1, nIle (by omega) (by omega)]
      simp (disch := omega) only [nIe]
      refine ⟨vin (by omega) (by omega), fun q => ⟨fun q1 => k0 (fun g => ?_), fun q1 => ?_⟩, fun q => ⟨fun q1 => s32 1 (by omega) ?_ (by omega), fun q1 => ⟨vin (by omega) (by omega), ?_⟩⟩⟩
      · obtain ⟨j, hj, e⟩ := h4.mp (by omega)
        exact g.2.1 j (by omega) e
      · have c2 : ∀ i, i < z → o i ≠ x := fun j hj e => by
          have := h4.mpr ⟨j, by omega, e⟩; omega
        refine s_X7_isWhole m o' h hw (fun g => ⟨fun e => absurd e (by decide), fun _ => k0 (fun g2 => ?_)⟩) (fun c1 => ⟨fun _ => ⟨vin (by omega) (by omega), ?_⟩, fun e => absurd rfl e⟩)
        · have := g2.1; omega
        · rw [h.1, nIle (by omega) (by omega)]
          refine ⟨fun g => ⟨fB d + 1, crow c1 c2 (by omega) _ 0 0 (by omega) (by omega) (by omega) ⟨fun e => by omega, fun ⟨b, hb, _⟩ => absurd hb (by omega)⟩⟩, fun g => s_X7_kindOf m o' hx ?_⟩
          simp (disch := omega) only [nIe]
          refine ⟨fun g2 => k1 ⟨c1, c2, fun e => absurd e (by omega), fun _ => Or.inl g2⟩, fun g2 => ⟨vin (by omega) (by omega), ?_⟩⟩
          rw [h.1, nI_add, nIsub (by omega), nIcl (by omega), show 5 + z - 1 = 5 + (z - 1) by omega, h.2.1 (z - 1) (by omega)]
          have hz1 := hw.2.1 (z - 1) (by omega)
          refine ⟨vin (by omega) (by omega), s_X7_kindOf m o' hz1 ?_⟩
          have hk2 := (o'.2.2.2.2.2.2.2.1 _ hz1).2.2.2.2.1
          simp (disch := omega) only [nIe]
          refine ⟨fun g3 => k0 (fun g4 => ?_), fun g3 => k1 ⟨c1, c2, fun e => absurd e (by omega), fun _ => Or.inr g3⟩⟩
          rcases g4.2.2.2 (by omega) with a | a
          · exact a g2
          · exact a g3
      · refine ⟨fun _ => ?_, fun _ => rfl⟩
        obtain ⟨j, hj, e⟩ := h4.mp (by omega)
        exact ⟨j, by omega, e⟩
      · have hk := hw.2.1 i (by omega)
        rw [h.2.1 i (by omega), nIe (by omega) (by omega)]
        refine ⟨fun q2 => s32 0 (by omega) ⟨fun e => by omega, ?_⟩ (by omega), fun q2 => s32 1 (by omega) ⟨fun _ => ⟨i, by omega, q2⟩, fun _ => rfl⟩ (by omega)⟩
        rintro ⟨b, hb, e⟩
        rcases Nat.lt_or_ge b i with g | g
        · have := h4.mpr ⟨b, g, e⟩; omega
        · have : b = i := by omega
          subst this; exact absurd e q2
  exact ⟨z + 1, main _ 0 0 (by omega) (by omega) (by omega) ⟨fun e => by omega, fun ⟨b, hb, _⟩ => absurd hb (by omega)⟩⟩
end ModelV
