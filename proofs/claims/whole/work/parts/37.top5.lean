section Top5
variable {F G : HF} {n : Nat} {d : FD}
theorem t_leave (h : Inv n F) (hn : n ≤ 600) : wp_X6_leave (fun r F1 => wp_X7_leave (fun r2 F2 => r = r2 ∧ Inv (n + 1) F2) F1) F := by
  obtain ⟨d, o', hb, i1, ⟨N, wN, cN, mN⟩, ⟨np, ps, rl, s3, p3, w3⟩, i4, i5, i6, i7⟩ := id h
  have hB := o'.1
  have h8 := wN.1.1
  have hbr := wN.2.2.2.2.2.1
  have mno : ((nbr N = 1 ∨ (1 ≤ nq N ∧ nq N ≤ fW d)) ∨ nz N = 0) → wp_X7_leave (fun r2 F2 => (-2 : Int32) = r2 ∧ Inv (n + 1) F2) F := by
    intro c
    unfold wp_X7_leave
    refine s_X7_isShut i1.2 o' mN wN.2.2.2.2.1 hbr (fun g => ⟨fun _ => h.end Ag.rf rfl, fun e => absurd e (by decide)⟩) (fun g => ⟨fun e => absurd rfl e, fun _ => ⟨vin (by omega) (by omega), ?_⟩⟩)
    rw [show F 120 (nI 0).toNatClampNeg = nI (nz N) from mN.1, nIe (by omega) (by omega)]
    refine ⟨fun g2 => ?_, fun _ => h.end Ag.rf rfl⟩
    rcases c with c | c
    · exact absurd c g
    · exact absurd c g2
  unfold wp_X6_leave
  refine s_X2_isFixed i1.1 o' cN wN.2.2.2.2.1 hbr (fun g => ⟨fun _ => mno (Or.inl g), fun e => absurd e (by decide)⟩) (fun g => ⟨fun e => absurd rfl e, fun _ => ?_⟩)
  refine s_X0_size cN.2.2.2.2 ?_
  rw [nIe (by omega) (by omega)]
  refine ⟨fun g2 => ?_, fun g2 => mno (Or.inr g2)⟩
  refine s_X5_put (fun j hj => ntL_past hj) (by omega) (by omega) (by omega) s3 cN h8 hbr (by omega) (fun G1 rl' f1 sG _ => ?_)
  have cN1 : CN G1 16 N := cN.frR f1 (by omega)
  refine s_X0_size cN1.2.2.2.2 ?_
  rw [nIsub (by omega)]
  refine s_X0_birdAt cN1.2.2.2.2 wN.1 (by omega) ?_
  refine s_X0_dropLast cN1.2.2.2.2 (by omega) h8 (fun G2 f2 b2 => ?_)
  have e2 : ∀ a, ¬ (a = 17 ∨ (25 ≤ a ∧ a ≤ 66)) → G2 a = F a := fun a ha => by
    rw [f2 a (by simp; omega), f1 a (by omega)]
  have m2 : MF G2 d := i1.2.kept (fun j _ => by rw [e2 100 (by omega)]) (e2 _ (by omega)) (e2 _ (by omega))
  have mN2 : MNf (G2 120) N := by rw [e2 120 (by omega)]; exact mN
  have p2 : PM G2 np ps := p3.kept (by rw [e2 100 (by omega)]) (e2 _ (by omega))
  unfold wp_X7_leave
  refine s_X7_isShut m2 o' mN2 wN.2.2.2.2.1 hbr (fun g' => absurd g' g) (fun _ => ⟨fun e => absurd rfl e, fun _ => ⟨vin (by omega) (by omega), ?_⟩⟩)
  rw [show G2 120 (nI 0).toNatClampNeg = nI (nz N) from mN2.1, nIe (by omega) (by omega)]
  refine ⟨fun _ => ?_, fun g' => absurd g' g2⟩
  refine s_X7_note p2 s3.2.1 (fun i hi => (w3 i hi).1.1) mN2 h8 (fun G3 f3 g3 p3' => ⟨vin (by omega) (by omega), vin (by omega) (by omega), fun F4 e4 => ?_⟩)
  have e120 : G3 120 = F 120 := by rw [f3 120 (by simp), e2 120 (by omega)]
  have e4' : F4 = hup G3 120 0 (nI (nz N - 1)) := by
    rw [e4]; show hup G3 120 0 (G3 120 0 - nI 1) = _
    rw [e120, mN.1, nIsub (by omega)]
  have a4 : ∀ j, j ≠ 0 → F4 120 j = F 120 j := fun j hj => by rw [e4', hup_at, if_neg hj, e120]
  have a40 : F4 120 (nI 0).toNatClampNeg = nI (nz N - 1) := by show F4 120 0 = _; rw [e4', hup_at, if_pos rfl]
  have k4 : ∀ a, a ≠ 120 → F4 a = G3 a := fun a ha => by rw [e4', hup_n _ _ _ ha]
  have kG2 : ∀ a, a ≠ 100 → a ≠ 120 → a ≠ 122 → F4 a = G2 a := fun a h1 h2 h3 => by rw [k4 a h2, f3 a (by simp; omega)]
  rw [a40, nI_add, nIcl (by omega), a4 _ (by omega), mN.2.2.2.2.2.1 (nz N - 1) (by omega)]
  refine ⟨vin (by omega) (by omega), vin (by omega) (by omega), rfl, Inv.night o' hb i1 i4 i5 i6 i7 (fun a ha => by rw [kG2 a (by omega) (by omega) (by omega), e2 a (by omega)]) (fun j hj => by rw [k4 100 (by omega), g3 j hj, e2 100 (by omega)]) ⟨((nz N - 1, nmi N, nye N, nq N, nbr N), no N, nt N), ⟨⟨by show nz N - 1 ≤ 8; omega, fun k hk => wN.1.2.1 k (Nat.lt_of_lt_of_le hk (Nat.sub_le _ _)), fun i j hi hj e => wN.1.2.2 i j (Nat.lt_of_lt_of_le hi (Nat.sub_le _ _)) (Nat.lt_of_lt_of_le hj (Nat.sub_le _ _)) e⟩, wN.2.1, Nat.le_succ_of_le wN.2.2.1, wN.2.2.2.1, wN.2.2.2.2.1, hbr, fun h1 h2 => absurd (Or.inr ⟨h1, h2⟩) g⟩, ?_, ?_⟩ ⟨pn 8 np, pp 8 np ps N, rl', sG.kept (fun a h1 h2 => by rw [kG2 a (by omega) (by omega) (by omega), f2 a (by simp; omega)]), p3'.kept (by rw [k4 100 (by omega)]) (k4 _ (by omega)), fun i hi => (pp_wf s3.2.1 w3 wN i hi).mono (by omega)⟩⟩
  · have k16 : F4 16 = F 16 := by rw [kG2 16 (by omega) (by omega) (by omega), e2 16 (by omega)]
    unfold CN
    rw [k16]
    exact ⟨cN.1, cN.2.1, cN.2.2.1, cN.2.2.2.1, b2.kept (by rw [kG2 17 (by omega) (by omega) (by omega)]) (kG2 _ (by omega) (by omega) (by omega)) (kG2 _ (by omega) (by omega) (by omega))⟩
  · exact ⟨a40, by rw [a4 1 (by omega)]; exact mN.2.1, by rw [a4 2 (by omega)]; exact mN.2.2.1, by rw [a4 3 (by omega)]; exact mN.2.2.2.1, by rw [a4 4 (by omega)]; exact mN.2.2.2.2.1, fun k hk => by rw [a4 _ (by omega)]; exact mN.2.2.2.2.2.1 k (Nat.lt_of_lt_of_le hk (Nat.sub_le _ _)), fun k hk => by rw [a4 _ (by omega)]; exact mN.2.2.2.2.2.2 k hk⟩
theorem t_year (h : Inv n F) (hn : n ≤ 600) (a : Int32) : wp_X6_year (fun r F1 => wp_X7_year (fun r2 F2 => r = r2 ∧ Inv (n + 1) F2) F1 a) F a := by
  obtain ⟨d, o', hb, i1, ⟨N, wN, cN, mN⟩, ⟨np, ps, rl, s3, p3, w3⟩, i4, i5, i6, i7⟩ := id h
  have hB := o'.1
  have h8 := wN.1.1
  have hbr := wN.2.2.2.2.2.1
  unfold wp_X6_year wp_X7_year
  rcases rng a 0 (N := 20) (by omega) (by omega) with q | ⟨q1, q2, q3⟩ | ⟨j, -, hj, rfl⟩
  · exact ⟨fun _ => s_in_bad (Or.inl q) ⟨fun e => absurd rfl e, fun _ => h.end Ag.rf rfl⟩, fun g => absurd q g⟩
  · exact ⟨fun x => absurd x q1, fun _ => ⟨fun x => absurd x q3, fun _ => s_in_bad (Or.inr q2) ⟨fun e => absurd rfl e, fun _ => h.end Ag.rf rfl⟩⟩⟩
  refine ⟨fun x => absurd x (nI_pos (by omega)), fun _ => ⟨fun _ => ?_, fun x => absurd (nI_le (by omega) (by omega)) x⟩⟩
  refine s_X2_isFixed i1.1 o' cN wN.2.2.2.2.1 hbr (fun g => ⟨fun e => absurd e (by decide), fun _ => ?_⟩) (fun g => ⟨fun _ => ?_, fun e => absurd rfl e⟩)
  · exact s_in_ok (by omega) hj (by omega) ⟨fun _ => s_X7_isShut i1.2 o' mN wN.2.2.2.2.1 hbr (fun _ => ⟨fun e => absurd e (by decide), fun _ => h.end Ag.rf rfl⟩) (fun g' => absurd g g'), fun e => absurd e (by decide)⟩
  refine s_X5_put (fun j hj => ntL_past hj) (by omega) (by omega) (by omega) s3 cN h8 hbr (by omega) (fun G1 rl' f1 sG _ => ?_)
  have cN1 : CN G1 16 N := cN.frR f1 (by omega)
  unfold wp_X2_setYear
  intro G2 e2'
  have c2 : CF G2 4 d := (i1.1.frR f1 (by omega)).kept (by rw [e2', hup_n _ _ _ (by omega)]) (by rw [e2', hup_n _ _ _ (by omega)]) (by rw [e2', hup_n _ _ _ (by omega)]) (by rw [e2', hup_n _ _ _ (by omega)]) (by rw [e2', hup_n _ _ _ (by omega)]) (by rw [e2', hup_n _ _ _ (by omega)])
  have at2 : ∀ i, i ≠ 3 → G2 16 i = G1 16 i := fun i hi => by rw [e2', hup_at, if_neg hi]
  have cN2 : CN G2 16 ((nz N, nmi N, j, nq N, nbr N), no N, nt N) := ⟨by rw [at2 2 (by omega)]; exact cN1.1, by rw [e2', hup_at, if_pos rfl]; rfl, by rw [at2 4 (by omega)]; exact cN1.2.2.1, by rw [at2 5 (by omega)]; exact cN1.2.2.2.1, cN1.2.2.2.2.kept (by rw [e2', hup_n _ _ _ (by omega)]) (by rw [e2', hup_n _ _ _ (by omega)]) (by rw [e2', hup_n _ _ _ (by omega)])⟩
  refine s_X2_weight c2 cN2 ?_
  have e2 : ∀ a, ¬ (a = 16 ∨ (25 ≤ a ∧ a ≤ 66)) → G2 a = F a := fun a ha => by rw [e2', hup_n _ _ _ (by omega), f1 a (by omega)]
  have m2 : MF G2 d := i1.2.kept (fun j _ => by rw [e2 100 (by omega)]) (e2 _ (by omega)) (e2 _ (by omega))
  have mN2 : MNf (G2 120) N := by rw [e2 120 (by omega)]; exact mN
  have p2 : PM G2 np ps := p3.kept (by rw [e2 100 (by omega)]) (e2 _ (by omega))
  refine s_in_ok (by omega) hj (by omega) ⟨fun _ => s_X7_isShut m2 o' mN2 wN.2.2.2.2.1 hbr (fun g' => absurd g' g) (fun _ => ⟨fun _ => ?_, fun e => absurd rfl e⟩), fun e => absurd e (by decide)⟩
  refine s_X7_note p2 s3.2.1 (fun i hi => (w3 i hi).1.1) mN2 h8 (fun G3 f3 g3 p3' => ⟨vin (by omega) (by omega), fun F4 e4 => ?_⟩)
  have e120 : G3 120 = F 120 := by rw [f3 120 (by simp), e2 120 (by omega)]
  have e4' : F4 = hup G3 120 2 (nI j) := e4
  have a4 : ∀ i, i ≠ 2 → F4 120 i = F 120 i := fun i hi => by rw [e4', hup_at, if_neg hi, e120]
  have k4 : ∀ a, a ≠ 120 → F4 a = G3 a := fun a ha => by rw [e4', hup_n _ _ _ ha]
  have kG2 : ∀ a, a ≠ 100 → a ≠ 120 → a ≠ 122 → F4 a = G2 a := fun a h1 h2 h3 => by rw [k4 a h2, f3 a (by simp; omega)]
  have m4 : MF F4 d := m2.kept (fun j hj => by rw [k4 100 (by omega), g3 j (by omega)]) (by rw [k4 _ (by omega), f3 _ (by simp)]) (by rw [k4 _ (by omega), f3 _ (by simp)])
  refine s_X7_weightIn m4 ⟨rfl, Inv.night o' hb i1 i4 i5 i6 i7 (fun a ha => by rw [kG2 a (by omega) (by omega) (by omega), e2 a (by omega)]) (fun j hj => by rw [k4 100 (by omega), g3 j hj, e2 100 (by omega)]) ⟨((nz N, nmi N, j, nq N, nbr N), no N, nt N), ⟨wN.1, wN.2.1, Nat.le_succ_of_le wN.2.2.1, hj, wN.2.2.2.2.1, hbr, wN.2.2.2.2.2.2⟩, cN2.kept (kG2 _ (by omega) (by omega) (by omega)) (kG2 _ (by omega) (by omega) (by omega)) (kG2 _ (by omega) (by omega) (by omega)) (kG2 _ (by omega) (by omega) (by omega)), ?_⟩ ⟨pn 8 np, pp 8 np ps N, rl', sG.kept (fun a h1 h2 => by rw [kG2 a (by omega) (by omega) (by omega), e2', hup_n _ _ _ (by omega)]), p3'.kept (by rw [k4 100 (by omega)]) (k4 _ (by omega)), fun i hi => (pp_wf s3.2.1 w3 wN i hi).mono (by omega)⟩⟩
  exact ⟨by rw [a4 0 (by omega)]; exact mN.1, by rw [a4 1 (by omega)]; exact mN.2.1, by rw [e4', hup_at, if_pos rfl]; rfl, by rw [a4 3 (by omega)]; exact mN.2.2.2.1, by rw [a4 4 (by omega)]; exact mN.2.2.2.2.1, fun k hk => by rw [a4 _ (by omega)]; exact mN.2.2.2.2.2.1 k hk, fun k hk => by rw [a4 _ (by omega)]; exact mN.2.2.2.2.2.2 k hk⟩
theorem t_undo (h : Inv n F) : wp_X6_undo (fun r F1 => wp_X7_undo (fun r2 F2 => r = r2 ∧ Inv (n + 1) F2) F1) F := by
  obtain ⟨d, o', hb, i1, ⟨N, wN, cN, mN⟩, ⟨np, ps, rl, s3, p3, w3⟩, i4, i5, i6, i7⟩ := id h
  have hnp := s3.2.1
  unfold wp_X6_undo
  refine s_X5_takeInto (fun j hj => ntL_past hj) (by omega) (by omega) s3 (fun i hi => ⟨(w3 i hi).1.1, (w3 i hi).2.2.2.2.2.1⟩) (by omega) (fun h0 G1 f1 sG cG => ⟨fun e => absurd e (by decide), fun _ => s_X5_size sG.1 ?_⟩) (fun h0 => ⟨fun _ => ?_, fun e => absurd rfl e⟩)
  · have e100 : G1 100 = F 100 := f1 100 (by omega) (by omega)
    show wp_X7_undo _ G1
    unfold wp_X7_undo
    rw [e100, p3.1, nIe (by omega) (by omega)]
    refine ⟨fun _ => fun F1 e1 => ?_, fun e => absurd e (by omega)⟩
    have e1' : F1 = hup G1 100 23 (nI (np - 1)) := by rw [e1, nIsub (by omega)]
    have e23 : F1 100 23 = nI (np - 1) := by rw [e1', hup_at, if_pos rfl]
    have k1 : ∀ a, a ≠ 100 → F1 a = G1 a := fun a ha => by rw [e1', hup_n _ _ _ ha]
    rw [e23, pk_mul]
    refine s_X7_copy (y := 0) (by decide) (by omega) (by omega) (by omega) (by omega) (fun G2 f2 g2 => ?_)
    have k2 : ∀ a, a ≠ 100 → a ≠ 120 → G2 a = G1 a := fun a h1 h2 => by rw [f2 a (by simp [h2]), k1 a h1]
    refine ⟨by rw [f2 100 (by simp), e23], Inv.night o' hb i1 i4 i5 i6 i7 (fun a ha => by rw [k2 a (by omega) (by omega), f1 a (by omega) (by omega)]) (fun j hj => by rw [f2 100 (by simp), e1', hup_at, if_neg hj, e100]) ⟨ps (np - 1), (w3 _ (by omega)).mono (by omega), cG.kept (k2 _ (by omega) (by omega)) (k2 _ (by omega) (by omega)) (k2 _ (by omega) (by omega)) (k2 _ (by omega) (by omega)), ?_⟩ ⟨np - 1, ps, rl, sG.kept (fun a h1 h2 => k2 a (by omega) (by omega)), ⟨by rw [f2 100 (by simp), e23], fun i hi => ?_⟩, fun i hi => (w3 i (by omega)).mono (by omega)⟩⟩
    · refine (p3.2 (np - 1) (by omega)).cong (w3 _ (by omega)).1.1 (fun j hj => ?_)
      rw [g2, if_pos (by omega), k1 122 (by omega), f1 122 (by omega) (by omega)]
      show F 122 (21 * (np - 1) + (j - 0)) = F 122 (21 * (np - 1) + j)
      rfl
    · rw [k2 122 (by omega) (by omega), f1 122 (by omega) (by omega)]
      exact p3.2 i (by omega)
  · show wp_X7_undo _ F
    unfold wp_X7_undo
    rw [p3.1, nIe (by omega) (by omega)]
    exact ⟨fun e => absurd h0 e, fun _ => h.end Ag.rf rfl⟩
theorem Inv.keeps (o' : OkF d) (hb : 1 ≤ fB d) (i1 : I1 F d) (i5 : I5 F) (i6 : I6 F) (i7 : I7 F d) (e : ∀ a, ¬ ((16 ≤ a ∧ a ≤ 78) ∨ a = 100 ∨ a = 120 ∨ a = 124) → G a = F a) (g : ∀ j, j ≠ 25 → j ≠ 23 → G 100 j = F 100 j) (i2 : I2 (n + 1) G d) (i3 : I3 (n + 1) G d) (i4 : I4 (n + 1) G d) : Inv (n + 1) G :=
  ⟨d, o', hb, ⟨i1.1.kept (e _ (by omega)) (e _ (by omega)) (e _ (by omega)) (e _ (by omega)) (e _ (by omega)) (e _ (by omega)), i1.2.kept (fun j hj => g j (by omega) (by omega)) (e _ (by omega)) (e _ (by omega))⟩, i2, i3, i4, i5.kept (by rw [e _ (by omega)]) (e _ (by omega)) (e _ (by omega)) (g _ (by omega) (by omega)) (e _ (by omega)), i6.kept (by rw [e _ (by omega)]) (e _ (by omega)) (g _ (by omega) (by omega)) (e _ (by omega)), i7.kept (e _ (by omega)) (e _ (by omega))⟩
theorem t_keep (h : Inv n F) : wp_X6_keep (fun r F1 => wp_X7_keep (fun r2 F2 => r = r2 ∧ Inv (n + 1) F2) F1) F := by
  obtain ⟨d, o', hb, i1, ⟨N, wN, cN, mN⟩, i3, ⟨nk, ks, s4, p4, w4⟩, i5, i6, i7⟩ := id h
  have hnk := s4.2.1
  unfold wp_X6_keep wp_X5_isFull
  rw [s4.1, nIlt (by omega) (by omega)]
  refine ⟨fun q => ⟨fun _ => ?_, fun e => absurd rfl e⟩, fun q => ⟨fun e => absurd e (by decide), fun _ => ?_⟩⟩
  · refine s_X5_put (fun j hj => ntL_kept hj) (by omega) (by omega) (by omega) s4 cN wN.1.1 wN.2.2.2.2.2.1 (by omega) (fun G1 rl' f1 sG hrl => s_X5_size sG.1 ?_)
    rw [hrl q] at sG
    have epn : pn 2 nk = nk + 1 := by unfold pn; rw [if_pos q]
    have e100 : G1 100 = F 100 := f1 100 (by omega)
    show wp_X7_keep _ G1
    unfold wp_X7_keep
    rw [e100, p4.1, nIe (by omega) (by omega), pk_mul]
    refine ⟨fun _ => ?_, fun e => absurd e (by omega)⟩
    refine s_X7_copy (x := 0) (by decide) (by omega) (by omega) (by omega) (by omega) (fun G2 f2 g2 => fun F3 e3 => ?_)
    have e3' : F3 = hup G2 100 25 (nI (nk + 1)) := by rw [e3, f2 100 (by simp), e100, p4.1, nI_add]
    have k3 : ∀ a, a ≠ 100 → a ≠ 124 → F3 a = G1 a := fun a h1 h2 => by rw [e3', hup_n _ _ _ h1, f2 a (by simp [h2])]
    have e325 : F3 100 25 = nI (nk + 1) := by rw [e3', hup_at, if_pos rfl]
    refine ⟨by rw [e325, epn], Inv.keeps o' hb i1 i5 i6 i7 (fun a ha => by rw [k3 a (by omega) (by omega), f1 a (by omega)]) (fun j h1 h2 => by rw [e3', hup_at, if_neg h1, f2 100 (by simp), e100]) ⟨N, wN.mono (by omega), (cN.frR f1 (by omega)).kept (k3 _ (by omega) (by omega)) (k3 _ (by omega) (by omega)) (k3 _ (by omega) (by omega)) (k3 _ (by omega) (by omega)), by rw [k3 120 (by omega) (by omega), f1 120 (by omega)]; exact mN⟩ (i3.kept (fun a h1 h2 => by rw [k3 a (by omega) (by omega), f1 a (by omega)]) (by rw [e3', hup_at, if_neg (by omega), f2 100 (by simp), e100]) (by rw [k3 _ (by omega) (by omega), f1 _ (by omega)])).mono ⟨nk + 1, pp 2 nk ks N, ?_, ⟨e325, fun i hi => ?_⟩, fun i hi => ?_⟩⟩
    · rw [epn] at sG
      exact sG.kept (fun a h1 h2 => k3 a (by omega) (by omega))
    · have epp : pp 2 nk ks N i = if i = nk then N else ks i := by unfold pp; rw [if_pos q]
      have e124 : F3 124 = G2 124 := by rw [e3', hup_n _ _ _ (by omega)]
      rw [epp, e124]
      by_cases e : i = nk
      · rw [if_pos e, e]
        refine mN.cong wN.1.1 (fun j hj => ?_)
        show G2 124 (21 * nk + j) = F 120 j
        rw [g2, if_pos (by omega), f1 120 (by omega)]
        congr 1; omega
      · rw [if_neg e]
        refine (p4.2 i (by omega)).cong (w4 i (by omega)).1.1 (fun j hj => ?_)
        show G2 124 (21 * i + j) = F 124 (21 * i + j)
        rw [g2, if_neg (by omega), f1 124 (by omega)]
    · have epp : pp 2 nk ks N i = if i = nk then N else ks i := by unfold pp; rw [if_pos q]
      rw [epp]
      by_cases e : i = nk
      · rw [if_pos e]; exact wN.mono (by omega)
      · rw [if_neg e]; exact (w4 i (by omega)).mono (by omega)
  · show wp_X7_keep _ F
    unfold wp_X7_keep
    rw [p4.1, nIe (by omega) (by omega)]
    exact ⟨fun e => absurd (show nk = 2 by omega) e, fun _ => h.end Ag.rf rfl⟩
theorem t_back (h : Inv n F) : wp_X6_back (fun r F1 => wp_X7_back (fun r2 F2 => r = r2 ∧ Inv (n + 1) F2) F1) F := by
  obtain ⟨d, o', hb, i1, ⟨N, wN, cN, mN⟩, ⟨np, ps, rl, s3, p3, w3⟩, ⟨nk, ks, s4, p4, w4⟩, i5, i6, i7⟩ := id h
  have hnk := s4.2.1
  unfold wp_X6_back
  refine s_X5_takeInto (fun j hj => ntL_kept hj) (by omega) (by omega) s4 (fun i hi => ⟨(w4 i hi).1.1, (w4 i hi).2.2.2.2.2.1⟩) (by omega) (fun h0 G1 f1 sG cG => ⟨fun _ => ?_, fun e => absurd e (by decide)⟩) (fun h0 => ⟨fun e => absurd rfl e, fun _ => ?_⟩)
  · unfold wp_X5_clear
    intro G2 e2
    have k2 : ∀ a, a ≠ 25 → G2 a = G1 a := fun a ha => by rw [e2, hup_n _ _ _ ha]
    refine s_X5_size (show G2 67 1 = nI (nk - 1) by rw [k2 67 (by omega)]; exact sG.1) ?_
    have e100 : G2 100 = F 100 := by rw [k2 100 (by omega), f1 100 (by omega) (by omega)]
    show wp_X7_back _ G2
    unfold wp_X7_back
    rw [e100, p4.1, nIe (by omega) (by omega)]
    refine ⟨fun _ => fun F3 e3 => ?_, fun e => absurd e (by omega)⟩
    have e3' : F3 = hup G2 100 25 (nI (nk - 1)) := by rw [e3, nIsub (by omega)]
    have e25 : F3 100 25 = nI (nk - 1) := by rw [e3', hup_at, if_pos rfl]
    have k3 : ∀ a, a ≠ 100 → F3 a = G2 a := fun a ha => by rw [e3', hup_n _ _ _ ha]
    rw [e25, pk_mul]
    refine s_X7_copy (y := 0) (by decide) (by omega) (by omega) (by omega) (by omega) (fun G4 f4 g4 => fun F5 e5 => ?_)
    have k5 : ∀ a, a ≠ 25 → a ≠ 100 → a ≠ 120 → F5 a = G1 a := fun a h0 h1 h2 => by rw [e5, hup_n _ _ _ h1, f4 a (by simp [h2]), k3 a h1, k2 a h0]
    have k5a : ∀ a, a ≠ 100 → a ≠ 120 → F5 a = G2 a := fun a h1 h2 => by rw [e5, hup_n _ _ _ h1, f4 a (by simp [h2]), k3 a h1]
    have e525 : F5 100 25 = nI (nk - 1) := by rw [e5, hup_at, if_neg (by omega), f4 100 (by simp), e25]
    refine ⟨by rw [e525], Inv.keeps o' hb i1 i5 i6 i7 (fun a ha => by rw [k5 a (by omega) (by omega) (by omega), f1 a (by omega) (by omega)]) (fun j h1 h2 => by rw [e5, hup_at, if_neg h2, f4 100 (by simp), e3', hup_at, if_neg h1, e100]) ⟨ks (nk - 1), (w4 _ (by omega)).mono (by omega), cG.kept (k5 _ (by omega) (by omega) (by omega)) (k5 _ (by omega) (by omega) (by omega)) (k5 _ (by omega) (by omega) (by omega)) (k5 _ (by omega) (by omega) (by omega)), ?_⟩ ⟨0, ps, rl, ⟨?_, by omega, fun i hi => ?_, s3.2.2.2.1, s3.2.2.2.2.1, fun i hi => absurd hi (by omega)⟩, ⟨by rw [e5, hup_at, if_pos rfl], fun i hi => absurd hi (by omega)⟩, fun i hi => absurd hi (by omega)⟩ ⟨nk - 1, ks, sG.kept (fun a h1 h2 => k5 a (by omega) (by omega) (by omega)), ⟨e525, fun i hi => ?_⟩, fun i hi => (w4 i (by omega)).mono (by omega)⟩⟩
    · refine (p4.2 (nk - 1) (by omega)).cong (w4 _ (by omega)).1.1 (fun j hj => ?_)
      rw [e5, hup_n _ _ _ (by omega), g4, if_pos (by omega), k3 124 (by omega), k2 124 (by omega), f1 124 (by omega) (by omega)]
      rfl
    · rw [k5a 25 (by omega) (by omega), e2, hup_at, if_pos rfl]
    · rw [k5 26 (by omega) (by omega) (by omega), f1 26 (by omega) (by omega)]; exact s3.2.2.1 i hi
    · rw [k5 124 (by omega) (by omega) (by omega), f1 124 (by omega) (by omega)]
      exact p4.2 i (by omega)
  · show wp_X7_back _ F
    unfold wp_X7_back
    rw [p4.1, nIe (by omega) (by omega)]
    exact ⟨fun e => absurd h0 e, fun _ => h.end Ag.rf rfl⟩
end Top5
