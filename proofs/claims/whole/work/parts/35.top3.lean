section Top3
variable {F G : HF} {n : Nat} {d : FD}
theorem Inv.night (o' : OkF d) (hb : 1 ≤ fB d) (i1 : I1 F d) (i4 : I4 n F d) (i5 : I5 F) (i6 : I6 F) (i7 : I7 F d) (e : ∀ a, ¬ ((16 ≤ a ∧ a ≤ 66) ∨ a = 100 ∨ a = 120 ∨ a = 122 ∨ a = 129) → G a = F a) (g : ∀ j, j ≠ 23 → G 100 j = F 100 j) (i2 : I2 (n + 1) G d) (i3 : I3 (n + 1) G d) : Inv (n + 1) G :=
  ⟨d, o', hb, ⟨i1.1.kept (e _ (by omega)) (e _ (by omega)) (e _ (by omega)) (e _ (by omega)) (e _ (by omega)) (e _ (by omega)), i1.2.kept (fun j hj => g j (by omega)) (e _ (by omega)) (e _ (by omega))⟩, i2, i3, (i4.kept (fun a _ _ => e a (by omega)) (g _ (by omega)) (e _ (by omega))).mono, i5.kept (by rw [e _ (by omega)]) (e _ (by omega)) (e _ (by omega)) (g _ (by omega)) (e _ (by omega)), i6.kept (by rw [e _ (by omega)]) (e _ (by omega)) (g _ (by omega)) (e _ (by omega)), i7.kept (e _ (by omega)) (e _ (by omega))⟩
theorem mj_lt (o' : OkF d) {z x : Nat} {o : Nat → Nat} (hw : WfB d z o) (hx : x < fB d) (m : mj d z o x) : z < 8 := by
  have h8 := hw.1
  rcases Nat.lt_or_ge z 8 with q | q
  · exact q
  · have e8 : z = 8 := by omega
    subst e8
    obtain ⟨k, hk, e⟩ := pigeon 8 o (fun k hk => Nat.lt_of_lt_of_le (hw.2.1 k hk) o'.1) hw.2.2 x (by have := o'.1; omega)
    exact absurd e (m.2.1 k hk)
theorem WfB.add {z x : Nat} {o : Nat → Nat} (hw : WfB d z o) (hx : x < fB d) (hz : z < 8) (hn : ∀ i, i < z → o i ≠ x) : WfB d (z + 1) (fun i => if i = z then x else o i) := by
  refine ⟨by omega, fun k hk => ?_, fun i j hi hj e => ?_⟩
  · show (if k = z then x else o k) < fB d
    by_cases g : k = z
    · rw [if_pos g]; exact hx
    · rw [if_neg g]; exact hw.2.1 k (by omega)
  · have e : (if i = z then x else o i) = (if j = z then x else o j) := e
    by_cases g1 : i = z
    · by_cases g2 : j = z
      · omega
      · rw [if_pos g1, if_neg g2] at e; exact absurd e.symm (hn j (by omega))
    · by_cases g2 : j = z
      · rw [if_neg g1, if_pos g2] at e; exact absurd e (hn i (by omega))
      · rw [if_neg g1, if_neg g2] at e; exact hw.2.2 i j (by omega) (by omega) e
theorem pp_wf {np : Nat} {ps : Nat → ND} {N : ND} (hnp : np ≤ 8) (w : ∀ i, i < np → WfN n d (ps i)) (wN : WfN n d N) : ∀ i, i < pn 8 np → WfN n d (pp 8 np ps N i) := by
  intro i hi
  unfold pn at hi
  unfold pp
  by_cases q : np < 8
  · rw [if_pos q] at hi
    rw [if_pos q]
    by_cases g : i = np
    · rw [if_pos g]; exact wN
    · rw [if_neg g]; exact w i (by omega)
  · rw [if_neg q] at hi
    rw [if_neg q]
    by_cases g : i + 1 = 8
    · rw [if_pos g]; exact wN
    · rw [if_neg g]; exact w (i + 1) (by omega)
theorem t_join (h : Inv n F) (hn : n ≤ 600) (a : Int32) : wp_X6_join (fun r F1 => wp_X7_join (fun r2 F2 => r = r2 ∧ Inv (n + 1) F2) F1 a) F a := by
  obtain ⟨d, o', hb, i1, ⟨N, wN, cN, mN⟩, ⟨np, ps, rl, s3, p3, w3⟩, i4, i5, i6, i7⟩ := id h
  have hB := o'.1
  have h8 := wN.1.1
  unfold wp_X6_join
  refine s_X6_isBird i1.1 o' (fun x hx e => ?_) (fun q => ?_)
  · subst e
    refine ⟨fun _ => ?_, fun e => absurd e (by decide)⟩
    have mno : ((nbr N = 1 ∨ (1 ≤ nq N ∧ nq N ≤ fW d)) ∨ ¬ mj d (nz N) (no N) x) → wp_X7_join (fun r2 F2 => (-2 : Int32) = r2 ∧ Inv (n + 1) F2) F (nI x) := by
      intro c
      unfold wp_X7_join
      refine s_X7_isBird i1.2 o' hb (fun x' hx' e => ?_) (fun q => absurd rfl (q x hx))
      refine ⟨fun _ => s_X7_isShut i1.2 o' mN wN.2.2.2.2.1 wN.2.2.2.2.2.1 (fun g => ⟨fun _ => h.end Ag.rf rfl, fun e => absurd e (by decide)⟩) (fun g => ⟨fun e => absurd rfl e, fun _ => s_X7_mayJoin i1.2 o' mN.mb wN.1 hx (fun g2 => ?_) (fun g2 => ⟨fun e => absurd rfl e, fun _ => h.end Ag.rf rfl⟩)⟩), fun e => absurd e (by decide)⟩
      rcases c with c | c
      · exact absurd c g
      · exact absurd g2 c
    refine s_X2_isFixed i1.1 o' cN wN.2.2.2.2.1 wN.2.2.2.2.2.1 (fun g => ⟨fun _ => mno (Or.inl g), fun e => absurd e (by decide)⟩) (fun g => ⟨fun e => absurd rfl e, fun _ => ?_⟩)
    refine s_X0_mayJoin i1.1 o' cN.2.2.2.2 wN.1 hx (fun g2 => ⟨fun _ => ?_, fun e => absurd e (by decide)⟩) (fun g2 => ⟨fun e => absurd rfl e, fun _ => mno (Or.inr g2)⟩)
    have hz8 := mj_lt o' wN.1 hx g2
    refine s_X5_put (fun j hj => ntL_past hj) (by omega) (by omega) (by omega) s3 cN h8 wN.2.2.2.2.2.1 (by omega) (fun G1 rl' f1 sG _ => ?_)
    have cN1 : CN G1 16 N := cN.frR f1 (by omega)
    refine s_X0_append cN1.2.2.2.2 hz8 (fun G2 f2 b2 => s_X0_size b2 ?_)
    have e2 : ∀ a, ¬ ((17 ≤ a ∧ a ≤ 18) ∨ (25 ≤ a ∧ a ≤ 66)) → G2 a = F a := fun a ha => by
      rw [f2 a (by simp; omega), f1 a (by omega)]
    have m2 : MF G2 d := i1.2.kept (fun j _ => by rw [e2 100 (by omega)]) (e2 _ (by omega)) (e2 _ (by omega))
    have mN2 : MNf (G2 120) N := by rw [e2 120 (by omega)]; exact mN
    have p2 : PM G2 np ps := p3.kept (by rw [e2 100 (by omega)]) (e2 _ (by omega))
    unfold wp_X7_join
    refine s_X7_isBird m2 o' hb (fun x' hx' e => ?_) (fun q => absurd rfl (q x hx))
    refine ⟨fun _ => s_X7_isShut m2 o' mN2 wN.2.2.2.2.1 wN.2.2.2.2.2.1 (fun g' => absurd g' g) (fun _ => ⟨fun e => absurd rfl e, fun _ => s_X7_mayJoin m2 o' mN2.mb wN.1 hx (fun _ => ⟨fun _ => ?_, fun e => absurd e (by decide)⟩) (fun g' => absurd g2 g')⟩), fun e => absurd e (by decide)⟩
    refine s_X7_note p2 s3.2.1 (fun i hi => (w3 i hi).1.1) mN2 h8 (fun G3 f3 g3 p3' => ?_)
    have e120 : G3 120 = F 120 := by rw [f3 120 (by simp), e2 120 (by omega)]
    simp (disch := omega) only [nIcl]
    rw [e120, mN.1, nI_add, nIcl (by omega)]
    refine ⟨vin (by omega) (by omega), vin (by omega) (by omega), fun F4 e4 => ⟨vin (by omega) (by omega), vin (by omega) (by omega), fun F5 e5 => ⟨vin (by omega) (by omega), ?_⟩⟩⟩
    have e40 : F4 120 0 = nI (nz N) := by rw [e4, hup_at, if_neg (by omega), e120]; exact mN.1
    rw [e40, nI_add] at e5
    have a5 : ∀ j, j ≠ 0 → j ≠ 5 + nz N → F5 120 j = F 120 j := fun j h1 h2 => by rw [e5, hup_at, if_neg h1, e4, hup_at, if_neg h2, e120]
    have e5a : ∀ a, ¬ ((17 ≤ a ∧ a ≤ 18) ∨ (25 ≤ a ∧ a ≤ 66) ∨ a = 100 ∨ a = 120 ∨ a = 122) → F5 a = F a := fun a ha => by
      rw [e5, hup_n _ _ _ (by omega), e4, hup_n _ _ _ (by omega), f3 a (by simp; omega), e2 a (by omega)]
    have k5 : ∀ a, a ≠ 120 → F5 a = G3 a := fun a ha => by rw [e5, hup_n _ _ _ ha, e4, hup_n _ _ _ ha]
    have kG2 : ∀ a, a ≠ 100 → a ≠ 120 → a ≠ 122 → F5 a = G2 a := fun a h1 h2 h3 => by rw [k5 a h2, f3 a (by simp; omega)]
    refine ⟨by rw [e5, hup_at, if_pos rfl], Inv.night o' hb i1 i4 i5 i6 i7 (fun a ha => e5a a (by omega)) (fun j hj => by rw [k5 100 (by omega), g3 j hj, e2 100 (by omega)]) ?_ ?_⟩
    · refine ⟨((nz N + 1, nmi N, nye N, nq N, nbr N), (fun i => if i = nz N then x else no N i), nt N), ⟨wN.1.add hx hz8 g2.2.1, wN.2.1, Nat.le_succ_of_le wN.2.2.1, wN.2.2.2.1, wN.2.2.2.2.1, wN.2.2.2.2.2.1, fun h1 h2 => absurd (Or.inr ⟨h1, h2⟩) g⟩, ?_, ?_⟩
      · have k16 : F5 16 = F 16 := e5a 16 (by omega)
        unfold CN
        rw [k16]
        exact ⟨cN.1, cN.2.1, cN.2.2.1, cN.2.2.2.1, b2.kept (by rw [kG2 17 (by omega) (by omega) (by omega)]) (kG2 _ (by omega) (by omega) (by omega)) (kG2 _ (by omega) (by omega) (by omega))⟩
      · refine ⟨by rw [e5, hup_at, if_pos rfl]; rfl, by rw [a5 1 (by omega) (by omega)]; exact mN.2.1, by rw [a5 2 (by omega) (by omega)]; exact mN.2.2.1, by rw [a5 3 (by omega) (by omega)]; exact mN.2.2.2.1, by rw [a5 4 (by omega) (by omega)]; exact mN.2.2.2.2.1, fun k hk => ?_, fun k hk => ?_⟩
        · show F5 120 (5 + k) = nI (if k = nz N then x else no N k)
          have hk : k < nz N + 1 := hk
          by_cases e : k = nz N
          · rw [if_pos e, e5, hup_at, if_neg (by omega), e4, hup_at, if_pos (by omega)]
          · rw [if_neg e, a5 (5 + k) (by omega) (by omega)]; exact mN.2.2.2.2.2.1 k (by omega)
        · rw [a5 (13 + k) (by omega) (by omega)]; exact mN.2.2.2.2.2.2 k hk
    · exact ⟨pn 8 np, pp 8 np ps N, rl', sG.kept (fun a h1 h2 => by rw [kG2 a (by omega) (by omega) (by omega), f2 a (by simp; omega)]), p3'.kept (by rw [k5 100 (by omega)]) (k5 _ (by omega)), fun i hi => (pp_wf s3.2.1 w3 wN i hi).mono (by omega)⟩
  · refine ⟨fun e => absurd rfl e, fun _ => ?_⟩
    unfold wp_X7_join
    exact s_X7_isBird i1.2 o' hb (fun x hx e => absurd e (q x hx)) (fun _ => ⟨fun e => absurd rfl e, fun _ => h.end Ag.rf rfl⟩)
end Top3
