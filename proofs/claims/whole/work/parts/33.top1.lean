theorem rng (a : Int32) (L : Nat) {N : Nat} (hL : L ≤ N + 1) (hN : N < 2 ^ 30) : a < nI L ∨ (¬ a < nI L ∧ nI N < a ∧ ¬ a ≤ nI N) ∨ ∃ j, L ≤ j ∧ j ≤ N ∧ a = nI j := by
  by_cases h : a < nI L
  · exact Or.inl h
  · right
    have h0 : ¬ a < 0 := fun x => h (by
      rw [Int32.lt_iff_toInt_lt] at x ⊢
      rw [nI_toInt (by omega)]
      have z0 : (0 : Int32).toInt = 0 := by decide
      omega)
    obtain ⟨j, hj, rfl⟩ := nI_of h0
    rw [nIlt (by omega) (by omega)] at h
    by_cases h2 : j ≤ N
    · exact Or.inr ⟨j, by omega, h2, rfl⟩
    · refine Or.inl ⟨by rw [nIlt (by omega) (by omega)]; exact h, by rw [nIlt (by omega) (by omega)]; omega, by rw [nIle (by omega) (by omega)]; omega⟩
section Top1
variable {F : HF} {n : Nat}
theorem s_in_bad {K : Int32 → HF → Prop} {a x y : Int32} (h : a < x ∨ y < a) (k : K (nI 0) F) : wp_X7_in K F a x y := s_in (fun g => h.elim (fun q => absurd q g.1) (fun q => absurd q g.2)) (fun _ => k)
theorem s_in_ok {K : Int32 → HF → Prop} {j L N : Nat} (h1 : L ≤ j) (h2 : j ≤ N) (hN : N < 2 ^ 30) (k : K (nI 1) F) : wp_X7_in K F (nI j) (nI L) (nI N) := s_in (fun _ => k) (fun g => absurd ⟨nI_nlt h1 (by omega), nI_nlt h2 (by omega)⟩ g)
theorem t_wind (h : Inv n F) (a : Int32) : wp_X6_wind (fun r F1 => wp_X7_wind (fun r2 F2 => r = r2 ∧ Inv (n + 1) F2) F1 a) F a := by
  obtain ⟨d, o', hb, i1, -⟩ := id h
  unfold wp_X6_wind wp_X7_wind
  have bad : ∀ G, (a < nI 0 ∨ nI 99 < a) → wp_X7_in (fun x1 F1 => (x1 = nI 0 → (-1 : Int32) = -1 ∧ Inv (n + 1) F1) ∧ (¬ x1 = nI 0 → wp_X7_windIn (fun x2 F2 => (-1 : Int32) = x2 ∧ Inv (n + 1) F2) F1 a)) G a (nI 0) (nI 99) → True := fun _ _ _ => trivial
  rcases rng a 0 (N := 99) (by omega) (by omega) with q | ⟨q1, q2, q3⟩ | ⟨j, -, hj, rfl⟩
  · exact ⟨fun _ => s_in_bad (Or.inl q) ⟨fun _ => h.end Ag.rf rfl, fun e => absurd rfl e⟩, fun g => absurd q g⟩
  · exact ⟨fun x => absurd x q1, fun _ => ⟨fun x => absurd x q3, fun _ => s_in_bad (Or.inr q2) ⟨fun _ => h.end Ag.rf rfl, fun e => absurd rfl e⟩⟩⟩
  · refine ⟨fun x => absurd x (nI_pos (by omega)), fun _ => ⟨fun _ => s_X1_windIn i1.1 o' (by omega) ?_, fun x => absurd (nI_le (by omega) (by omega)) x⟩⟩
    exact s_in_ok (by omega) hj (by omega) ⟨fun e => absurd e (by decide), fun _ => s_X7_windIn i1.2 o' (by omega) (h.end Ag.rf rfl)⟩
/-- a number of a bird, for both -/
theorem s_X6_isBird {K : Int32 → HF → Prop} {d : FD} {a : Int32} (c : CF F 4 d) (o' : OkF d) (k1 : ∀ x, x < fB d → a = nI x → K (nI 1) F) (k0 : (∀ x, x < fB d → a ≠ nI x) → K (nI 0) F) : wp_X6_isBird K F a := by
  have hB := o'.1
  unfold wp_X6_isBird
  rcases rng a 0 (N := 2 ^ 20) (by omega) (by omega) with q | ⟨q1, q2, q3⟩ | ⟨j, -, hj, rfl⟩
  · refine ⟨fun _ => k0 (fun x hx e => ?_), fun g => absurd q g⟩
    rw [e] at q; exact nI_pos (by omega) q
  · refine ⟨fun x => absurd x q1, fun _ => s_X1_birds c ⟨fun _ => k0 (fun x hx e => ?_), fun g => ?_⟩⟩
    · rw [e] at q3; exact q3 (nI_le (by omega) (by omega))
    · exfalso; apply g
      rw [Int32.lt_iff_toInt_lt] at q2; rw [Int32.le_iff_toInt_le]
      rw [nI_toInt (by omega)] at q2 ⊢
      omega
  · refine ⟨fun x => absurd x (nI_pos (by omega)), fun _ => s_X1_birds c ?_⟩
    rw [nIle (by omega) (by omega)]
    refine ⟨fun g => k0 (fun x hx e => ?_), fun g => k1 j (by omega) rfl⟩
    rw [nIe (by omega) (by omega)] at e; omega
theorem s_X7_isBird {K : Int32 → HF → Prop} {d : FD} {a : Int32} (m : MF F d) (o' : OkF d) (hB1 : 1 ≤ fB d) (k1 : ∀ x, x < fB d → a = nI x → K (nI 1) F) (k0 : (∀ x, x < fB d → a ≠ nI x) → K (nI 0) F) : wp_X7_isBird K F a := by
  have hB := o'.1
  unfold wp_X7_isBird
  rw [m.1, nIsub hB1]
  rcases rng a 0 (N := fB d - 1) (by omega) (by omega) with q | ⟨q1, q2, q3⟩ | ⟨j, -, hj, rfl⟩
  · refine s_in_bad (Or.inl q) ⟨Or.inl rfl, k0 (fun x hx e => ?_)⟩
    rw [e] at q; exact nI_pos (by omega) q
  · refine s_in_bad (Or.inr q2) ⟨Or.inl rfl, k0 (fun x hx e => ?_)⟩
    rw [e] at q3; exact q3 (nI_le (by omega) (by omega))
  · exact s_in_ok (by omega) hj (by omega) ⟨Or.inr rfl, k1 j (by omega) rfl⟩
theorem t_bird (h : Inv n F) (a b : Int32) : wp_X6_bird (fun r F1 => wp_X7_bird (fun r2 F2 => r = r2 ∧ Inv (n + 1) F2) F1 a b) F a b := by
  obtain ⟨d, o', hb, i1, ⟨N, wN, cN, mN⟩, -⟩ := id h
  have hB := o'.1
  unfold wp_X6_bird
  refine s_X6_isBird i1.1 o' (fun x hx e => ?_) (fun q => ?_)
  · subst e
    refine ⟨fun _ => ?_, fun e => absurd e (by decide)⟩
    have mm : ∀ r : Int32, (b = nI 0 → r = nI (fS d x)) → (b = nI 1 → r = nI (fL d x)) → (b = nI 2 → r = nI (fK d x)) → (b = nI 3 → r = nI (fD d x)) → (b = nI 4 → r = nI (nt N x)) → (b = nI 5 → (∀ i, i < nz N → no N i = x → r = nI i) ∧ ((∀ i, i < nz N → no N i ≠ x) → r = -4)) → (¬ b = nI 0 → ¬ b = nI 1 → ¬ b = nI 2 → ¬ b = nI 3 → ¬ b = nI 4 → ¬ b = nI 5 → r = -1) → wp_X7_bird (fun r2 F2 => r = r2 ∧ Inv (n + 1) F2) F (nI x) b := by
      intro r h0 h1 h2 h3 h4 h5 h6
      unfold wp_X7_bird
      refine s_X7_isBird i1.2 o' hb (fun x' hx' e => ?_) (fun q => absurd rfl (q x hx))
      refine ⟨fun _ => ⟨fun c => ?_, fun c => ?_, fun c => ?_, fun c => ?_, fun c => ?_, fun c => ?_, fun c0 c1 c2 c3 c4 c5 => h.end Ag.rf (h6 c0 c1 c2 c3 c4 c5)⟩, fun e => absurd e (by decide)⟩
      · rw [c, pk_mul, nI_add, nIcl (by omega), Nat.add_zero, i1.2.2.2.2.2.2.1 x hx]
        exact ⟨vin (by omega) (by omega), h.end Ag.rf (h0 c)⟩
      · rw [c, pk_mul, nI_add, nIcl (by omega), i1.2.2.2.2.2.2.2.1 x hx]
        exact ⟨vin (by omega) (by omega), h.end Ag.rf (h1 c)⟩
      · rw [c, pk_mul, nI_add, nIcl (by omega), i1.2.2.2.2.2.2.2.2.1 x hx]
        exact ⟨vin (by omega) (by omega), h.end Ag.rf (h2 c)⟩
      · rw [c, pk_mul, nI_add, nIcl (by omega), i1.2.2.2.2.2.2.2.2.2.1 x hx]
        exact ⟨vin (by omega) (by omega), h.end Ag.rf (h3 c)⟩
      · rw [nI_add, nIcl (by omega), mN.2.2.2.2.2.2 x (by omega)]
        exact ⟨vin (by omega) (by omega), h.end Ag.rf (h4 c)⟩
      · exact s_X7_placeIn o' mN.mb wN.1 (by omega) (fun i hi e => h.end Ag.rf ((h5 c).1 i hi e)) (fun g => h.end Ag.rf ((h5 c).2 g))
    have ne : ∀ i j : Nat, i < 2 ^ 31 → j < 2 ^ 31 → i ≠ j → b = nI i → ¬ b = nI j := fun i j h1 h2 h3 e e2 => h3 ((nI_eq h1 h2).mp (e.symm.trans e2))
    have nf : ∀ (i j : Nat) {P : Prop}, i < 2 ^ 31 → j < 2 ^ 31 → i ≠ j → b = nI i → b = nI j → P := fun i j _ h1 h2 h3 e e2 => absurd e2 (ne i j h1 h2 h3 e)
    have oth : ∀ i : Nat, i < 6 → b = nI i → ∀ {P : Prop}, ¬ b = nI 0 → ¬ b = nI 1 → ¬ b = nI 2 → ¬ b = nI 3 → ¬ b = nI 4 → ¬ b = nI 5 → P := by
      intro i hi e P c0 c1 c2 c3 c4 c5
      rcases (show i = 0 ∨ i = 1 ∨ i = 2 ∨ i = 3 ∨ i = 4 ∨ i = 5 by omega) with rfl | rfl | rfl | rfl | rfl | rfl
      · exact absurd e c0
      · exact absurd e c1
      · exact absurd e c2
      · exact absurd e c3
      · exact absurd e c4
      · exact absurd e c5
    refine ⟨fun c => s_X1_strengthOf i1.1 o' hx (mm _ (fun _ => rfl) (nf 0 1 (by omega) (by omega) (by omega) c) (nf 0 2 (by omega) (by omega) (by omega) c) (nf 0 3 (by omega) (by omega) (by omega) c) (nf 0 4 (by omega) (by omega) (by omega) c) (nf 0 5 (by omega) (by omega) (by omega) c) (oth 0 (by omega) c)), fun c => s_X1_lengthOf i1.1 o' hx (mm _ (nf 1 0 (by omega) (by omega) (by omega) c) (fun _ => rfl) (nf 1 2 (by omega) (by omega) (by omega) c) (nf 1 3 (by omega) (by omega) (by omega) c) (nf 1 4 (by omega) (by omega) (by omega) c) (nf 1 5 (by omega) (by omega) (by omega) c) (oth 1 (by omega) c)), fun c => s_X1_kindOf i1.1 o' hx (mm _ (nf 2 0 (by omega) (by omega) (by omega) c) (nf 2 1 (by omega) (by omega) (by omega) c) (fun _ => rfl) (nf 2 3 (by omega) (by omega) (by omega) c) (nf 2 4 (by omega) (by omega) (by omega) c) (nf 2 5 (by omega) (by omega) (by omega) c) (oth 2 (by omega) c)), fun c => s_X1_woodOf i1.1 o' hx (mm _ (nf 3 0 (by omega) (by omega) (by omega) c) (nf 3 1 (by omega) (by omega) (by omega) c) (nf 3 2 (by omega) (by omega) (by omega) c) (fun _ => rfl) (nf 3 4 (by omega) (by omega) (by omega) c) (nf 3 5 (by omega) (by omega) (by omega) c) (oth 3 (by omega) c)), fun c => s_X0_tiredOf cN.2.2.2.2 (by omega) (mm _ (nf 4 0 (by omega) (by omega) (by omega) c) (nf 4 1 (by omega) (by omega) (by omega) c) (nf 4 2 (by omega) (by omega) (by omega) c) (nf 4 3 (by omega) (by omega) (by omega) c) (fun _ => rfl) (nf 4 5 (by omega) (by omega) (by omega) c) (oth 4 (by omega) c)), fun c => s_X0_positionOf cN.2.2.2.2 wN.1 o' (by omega) (fun i hi e => mm _ (nf 5 0 (by omega) (by omega) (by omega) c) (nf 5 1 (by omega) (by omega) (by omega) c) (nf 5 2 (by omega) (by omega) (by omega) c) (nf 5 3 (by omega) (by omega) (by omega) c) (nf 5 4 (by omega) (by omega) (by omega) c) (fun _ => ⟨fun j hj e2 => by rw [wN.1.2.2 i j hi hj (e.trans e2.symm)], fun g => absurd e (g i hi)⟩) (oth 5 (by omega) c)) (fun g => mm _ (nf 5 0 (by omega) (by omega) (by omega) c) (nf 5 1 (by omega) (by omega) (by omega) c) (nf 5 2 (by omega) (by omega) (by omega) c) (nf 5 3 (by omega) (by omega) (by omega) c) (nf 5 4 (by omega) (by omega) (by omega) c) (fun _ => ⟨fun j hj e2 => absurd e2 (g j hj), fun _ => rfl⟩) (oth 5 (by omega) c)), fun c0 c1 c2 c3 c4 c5 => mm _ (fun e => absurd e c0) (fun e => absurd e c1) (fun e => absurd e c2) (fun e => absurd e c3) (fun e => absurd e c4) (fun e => absurd e c5) (fun _ _ _ _ _ _ => rfl)⟩
  · refine ⟨fun e => absurd rfl e, fun _ => ?_⟩
    unfold wp_X7_bird
    exact s_X7_isBird i1.2 o' hb (fun x hx e => absurd e (q x hx)) (fun _ => ⟨fun e => absurd rfl e, fun _ => h.end Ag.rf rfl⟩)
end Top1
