section Top12
variable {F G : HF} {n : Nat} {d : FD} {N : ND}
theorem t_century (h : Inv n F) (a b c : Int32) : wp_X6_century (fun r F1 => wp_X7_century (fun r2 F2 => r = r2 ∧ Inv (n + 1) F2) F1 a b c) F a b c := by
  obtain ⟨d, o', hb, i1, ⟨N, wN, cN, mN⟩, -⟩ := id h
  have ml : ∀ (x : Nat), (-4 : Int32) = nI x → x < 2 ^ 31 → False := fun x e hx => by rw [m4_ne_nI hx] at e; exact e
  have bad1 : (a < nI 0 ∨ nI 9999 < a) → wp_X7_century (fun r2 F2 => (-1 : Int32) = r2 ∧ Inv (n + 1) F2) F a b c := fun q => by
    unfold wp_X7_century
    exact s_in_bad q ⟨fun _ => h.end Ag.rf rfl, fun e => absurd rfl e⟩
  unfold wp_X6_century
  rcases rng a 0 (N := 9999) (by omega) (by omega) with q | ⟨q1, q2, q3⟩ | ⟨zz, -, hz, rfl⟩
  · exact ⟨fun _ => bad1 (Or.inl q), fun g => absurd q g⟩
  · exact ⟨fun x => absurd x q1, fun _ => ⟨fun _ => bad1 (Or.inr q2), fun x => absurd q2 x⟩⟩
  have bad2 : (b < nI 1 ∨ nI 90 < b) → wp_X7_century (fun r2 F2 => (-1 : Int32) = r2 ∧ Inv (n + 1) F2) F (nI zz) b c := fun q => by
    unfold wp_X7_century
    exact s_in_ok (by omega) hz (by omega) ⟨fun e => absurd e (by decide), fun _ => s_in_bad q ⟨fun _ => h.end Ag.rf rfl, fun e => absurd rfl e⟩⟩
  refine ⟨fun x => absurd x (nI_pos (by omega)), fun _ => ⟨fun x => absurd x (nI_nlt hz (by omega)), fun _ => ?_⟩⟩
  rcases rng b 1 (N := 90) (by omega) (by omega) with q | ⟨q1, q2, q3⟩ | ⟨m, hm1, hm, rfl⟩
  · exact ⟨fun _ => bad2 (Or.inl q), fun g => absurd q g⟩
  · exact ⟨fun x => absurd x q1, fun _ => ⟨fun _ => bad2 (Or.inr q2), fun x => absurd q2 x⟩⟩
  have bad3 : (c < nI 0 ∨ nI 1 < c) → wp_X7_century (fun r2 F2 => (-1 : Int32) = r2 ∧ Inv (n + 1) F2) F (nI zz) (nI m) c := fun q => by
    unfold wp_X7_century
    exact s_in_ok (by omega) hz (by omega) ⟨fun e => absurd e (by decide), fun _ => s_in_ok hm1 hm (by omega) ⟨fun e => absurd e (by decide), fun _ => s_in_bad q ⟨fun e => absurd rfl e, fun _ => h.end Ag.rf rfl⟩⟩⟩
  refine ⟨fun x => absurd x (nI_nlt hm1 (by omega)), fun _ => ⟨fun x => absurd x (nI_nlt hm (by omega)), fun _ => ?_⟩⟩
  rcases rng c 0 (N := 1) (by omega) (by omega) with q | ⟨q1, q2, q3⟩ | ⟨j, -, hj, rfl⟩
  · exact ⟨fun _ => bad3 (Or.inl q), fun g => absurd q g⟩
  · exact ⟨fun x => absurd x q1, fun _ => ⟨fun x => absurd x q3, fun _ => bad3 (Or.inr q2)⟩⟩
  refine ⟨fun x => absurd x (nI_pos (by omega)), fun _ => ⟨fun _ => ?_, fun x => absurd (nI_le hj (by omega)) x⟩⟩
  have ref : ∀ (X : HF) (v : Int32), FrL cS F X → (lsum d (no N) (nz N) < fW d → v = -2) → (fW d ≤ lsum d (no N) (nz N) → v = if j = 0 then nI (ccnt d N zz m) else cfst d N zz m) → wp_X7_century (fun r2 F2 => v = r2 ∧ Inv (n + 1) F2) X (nI zz) (nI m) (nI j) := by
    intro X v fX v2 v1
    have mX := mf_c i1.2 fX
    have nX := mn_c mN fX
    unfold wp_X7_century
    refine s_in_ok (by omega) hz (by omega) ⟨fun e => absurd e (by decide), fun _ => s_in_ok hm1 hm (by omega) ⟨fun e => absurd e (by decide), fun _ => s_in_ok (by omega) hj (by omega) ⟨fun _ => ?_, fun e => absurd e (by decide)⟩⟩⟩
    refine s_X7_isWhole mX o' nX.mb wN.1 (fun hw => ⟨fun _ => ?_, fun e => absurd e (by decide)⟩) (fun hw => ⟨fun e => absurd rfl e, fun _ => h.end (ag_s fX) (v2 hw)⟩)
    have hv := v1 hw
    have main : ∀ l y (Y : HF), m + 1 ≤ y + l → y ≤ m → FrL mS X Y → wp_X7_century_56 (fun r2 F2 => v = r2 ∧ Inv (n + 1) F2) l Y (nI zz) (nI m) (nI j) (nI (ccnt d N zz y)) (cfst d N zz y) (nI y) := by
      intro l
      induction l with
      | zero => intro y Y a1 a2; omega
      | succ l ih =>
        intro y Y a1 a2 f
        unfold wp_X7_century_56
        rw [nIle (by omega) (by omega), nIe (by omega) (by omega)]
        refine ⟨fun g => ?_, fun g => ?_⟩
        · have : y = m := by omega
          subst this
          refine ⟨fun e => h.end ((ag_s fX).tr (ag_m f)) ?_, fun e => h.end ((ag_s fX).tr (ag_m f)) ?_⟩
          · rw [hv, if_neg e]
          · rw [hv, if_pos e]
        · refine s_X7_draws (mf_s mX f) o' (mn_s nX f) wN hw hz (by omega) (fun g2 Z fZ => ⟨fun e => absurd e (by decide), fun _ => ?_⟩) (fun g2 Z fZ => ⟨fun _ => ?_, fun e => absurd rfl e⟩)
          · have e1 : ccnt d N zz (y + 1) = ccnt d N zz y + 1 := if_pos g2
            have e2 : cfst d N zz (y + 1) = cfst d N zz y := if_pos g2
            have T := ih (y + 1) Z (by omega) (by omega) (f.tr fZ)
            rw [e1, e2] at T
            unfold wp_X7_century_83 wp_X7_century_103 wp_X7_century_105
            rw [nI_add, nI_add]
            exact ⟨fun _ => T, fun _ => ⟨fun _ => T, fun e => absurd e (by decide)⟩⟩
          · have e1 : ccnt d N zz (y + 1) = ccnt d N zz y := if_neg g2
            have e2 : cfst d N zz (y + 1) = if cfst d N zz y = -4 then nI y else cfst d N zz y := if_neg g2
            have T := ih (y + 1) Z (by omega) (by omega) (f.tr fZ)
            rw [e1, e2] at T
            unfold wp_X7_century_83 wp_X7_century_103 wp_X7_century_105
            rw [nI_add, nI_add, Nat.add_zero]
            refine ⟨fun e => ?_, fun e => ⟨fun e3 => absurd rfl e3, fun _ => ?_⟩⟩
            · rw [if_neg e] at T; exact T
            · rw [if_pos e] at T; exact T
    exact ⟨m + 1, main _ 0 X (by omega) (by omega) FrL.rf⟩
  refine s_X0_isWhole i1.1 o' cN.2.2.2.2 wN.1 (fun hw => ⟨fun _ => ?_, fun e => absurd e (by decide)⟩) (fun hw => ⟨fun e => absurd rfl e, fun _ => ref F _ FrL.rf (fun _ => rfl) (fun g => absurd hw (by omega))⟩)
  have main : ∀ l y (X : HF), m + 1 ≤ y + l → y ≤ m → FrL cS F X → wp_X6_century_59 (fun r F1 => wp_X7_century (fun r2 F2 => r = r2 ∧ Inv (n + 1) F2) F1 (nI zz) (nI m) (nI j)) l X (nI zz) (nI m) (nI j) (nI (ccnt d N zz y)) (cfst d N zz y) (nI y) := by
    intro l
    induction l with
    | zero => intro y X a1 a2; omega
    | succ l ih =>
      intro y X a1 a2 f
      unfold wp_X6_century_59
      rw [nIle (by omega) (by omega), nIe (by omega) (by omega)]
      refine ⟨fun g => ?_, fun g => ?_⟩
      · have : y = m := by omega
        subst this
        exact ⟨fun e => ref X _ f (fun g2 => absurd hw (by omega)) (fun _ => by rw [if_neg e]), fun e => ref X _ f (fun g2 => absurd hw (by omega)) (fun _ => by rw [if_pos e])⟩
      · refine s_X6_draws (cf_s i1.1 f) o' (cn_s cN f) wN hw hz (by omega) (fun g2 Z fZ => ⟨fun e => absurd e (by decide), fun _ => ?_⟩) (fun g2 Z fZ => ⟨fun _ => ?_, fun e => absurd rfl e⟩)
        · have e1 : ccnt d N zz (y + 1) = ccnt d N zz y + 1 := if_pos g2
          have e2 : cfst d N zz (y + 1) = cfst d N zz y := if_pos g2
          have T := ih (y + 1) Z (by omega) (by omega) (f.tr fZ)
          rw [e1, e2] at T
          unfold wp_X6_century_92
          rw [nI_add, nI_add]
          exact T
        · have e1 : ccnt d N zz (y + 1) = ccnt d N zz y := if_neg g2
          have e2 : cfst d N zz (y + 1) = if cfst d N zz y = -4 then nI y else cfst d N zz y := if_neg g2
          have T := ih (y + 1) Z (by omega) (by omega) (f.tr fZ)
          rw [e1, e2] at T
          unfold wp_X6_century_92
          rw [nI_add]
          refine ⟨fun e => ?_, fun e => ?_⟩
          · rw [if_neg e] at T; exact T
          · rw [if_pos e] at T; exact T
  exact ⟨m + 1, main _ 0 F (by omega) (by omega) FrL.rf⟩
theorem t_seen (h : Inv n F) (a b : Int32) : wp_X6_seen (fun r F1 => wp_X7_seen (fun r2 F2 => r = r2 ∧ Inv (n + 1) F2) F1 a b) F a b := by
  obtain ⟨d, o', hb, i1, ⟨N, wN, cN, mN⟩, i3, i4, ⟨ns, sk, sh, y0, y1, y2, y3⟩, i6, i7⟩ := id h
  have h8 := wN.1.1
  have bad : ((∀ x, x < nz N → a ≠ nI x) ∨ (b < nI 0 ∨ nI 99 < b)) → wp_X7_seen (fun r2 F2 => (-1 : Int32) = r2 ∧ Inv (n + 1) F2) F a b := by
    intro q
    unfold wp_X7_seen
    rw [show F 120 (nI 0).toNatClampNeg = nI (nz N) from mN.1]
    refine ⟨vin (by omega) (by omega), s_inz (by omega) (fun x hx e => ⟨fun e => absurd e (by decide), fun _ => ?_⟩) (fun _ => ⟨fun _ => h.end Ag.rf rfl, fun e => absurd rfl e⟩)⟩
    rcases q with q | q
    · exact absurd e (q x hx)
    · exact s_in_bad q ⟨fun e => absurd rfl e, fun _ => h.end Ag.rf rfl⟩
  have core : ∀ x, x < nz N → a = nI x → (((b < nI 0) → wp_X7_seen (fun r2 F2 => (-1 : Int32) = r2 ∧ Inv (n + 1) F2) F a b) ∧ ((¬ b < nI 0) → (((b ≤ nI 99) → ((((F 0 10) < (nI 6)) → ((vp_in (F 0 10) 6) ∧ (∀ F2 : HF, F2 = hup F 85 (F 0 10).toNatClampNeg a → ((vp_in (F2 0 10) 6) ∧ (∀ F3 : HF, F3 = hup F2 86 (F2 0 10).toNatClampNeg b → (∀ F4 : HF, F4 = hup F3 0 10 ((F3 0 10) + (nI 1)) → wp_X7_seen (fun r2 F5 => (F4 0 10) = r2 ∧ Inv (n + 1) F5) F4 a b)))))) ∧ ((¬ (F 0 10) < (nI 6)) → wp_X7_seen (fun r2 F2 => (-3 : Int32) = r2 ∧ Inv (n + 1) F2) F a b))) ∧ ((¬ b ≤ nI 99) → wp_X7_seen (fun r2 F2 => (-1 : Int32) = r2 ∧ Inv (n + 1) F2) F a b)))) := by
    intro x hx e
    rcases rng b 0 (N := 99) (by omega) (by omega) with q | ⟨q1, q2, q3⟩ | ⟨j, -, hj, rfl⟩
    · exact ⟨fun _ => bad (Or.inr (Or.inl q)), fun g => absurd q g⟩
    · exact ⟨fun x => absurd x q1, fun _ => ⟨fun x => absurd x q3, fun _ => bad (Or.inr (Or.inr q2))⟩⟩
    subst e
    refine ⟨fun x => absurd x (nI_pos (by omega)), fun _ => ⟨fun _ => ?_, fun x => absurd (nI_le hj (by omega)) x⟩⟩
    rw [y1, nIlt (by omega) (by omega), nIcl (by omega)]
    refine ⟨fun g => ⟨vin (by omega) (by omega), fun F2 e2 => ?_⟩, fun g => ?_⟩
    · have k2 : F2 0 = F 0 := by rw [e2, hup_n _ _ _ (by omega)]
      rw [k2, y1, nIcl (by omega)]
      refine ⟨vin (by omega) (by omega), fun F3 e3 F4 e4 => ?_⟩
      have k3 : F3 0 10 = nI ns := by rw [e3, hup_n _ _ _ (by omega), k2, y1]
      rw [k3, nI_add] at e4
      have k4 : ∀ a, a ≠ 0 → a ≠ 85 → a ≠ 86 → F4 a = F a := fun a h0 h1 h2 => by rw [e4, hup_n _ _ _ h0, e3, hup_n _ _ _ h2, e2, hup_n _ _ _ h1]
      have k40 : F4 0 10 = nI (ns + 1) := by rw [e4, hup_at, if_pos rfl]
      unfold wp_X7_seen
      rw [show F4 120 (nI 0).toNatClampNeg = nI (nz N) from by rw [k4 120 (by omega) (by omega) (by omega)]; exact mN.1]
      refine ⟨vin (by omega) (by omega), s_inz (by omega) (fun x' hx' e => ⟨fun e => absurd e (by decide), fun _ => ?_⟩) (fun q => absurd rfl (q x hx))⟩
      refine s_in_ok (by omega) hj (by omega) ⟨fun _ => ?_, fun e => absurd e (by decide)⟩
      rw [k4 100 (by omega) (by omega) (by omega), y2, nIe (by omega) (by omega), pk_mul, nIcl (by omega)]
      refine ⟨fun _ => ⟨vin (by omega) (by omega), fun F5 e5 => ?_⟩, fun e => absurd e (by omega)⟩
      have k5 : F5 100 = F 100 := by rw [e5, hup_n _ _ _ (by omega), k4 100 (by omega) (by omega) (by omega)]
      rw [k5, y2, pk_mul, nI_add, nIcl (by omega)]
      refine ⟨vin (by omega) (by omega), fun F6 e6 F7 e7 => ?_⟩
      have k6 : F6 100 27 = nI ns := by rw [e6, hup_n _ _ _ (by omega), k5, y2]
      rw [k6, nI_add] at e7
      have k7 : ∀ a, a ≠ 0 → a ≠ 85 → a ≠ 86 → a ≠ 100 → a ≠ 126 → F7 a = F a := fun a h0 h1 h2 h3 h4 => by rw [e7, hup_n _ _ _ h3, e6, hup_n _ _ _ h4, e5, hup_n _ _ _ h4, k4 a h0 h1 h2]
      have k7b : ∀ a, a ≠ 100 → a ≠ 126 → F7 a = F4 a := fun a h3 h4 => by rw [e7, hup_n _ _ _ h3, e6, hup_n _ _ _ h4, e5, hup_n _ _ _ h4]
      have k727 : F7 100 27 = nI (ns + 1) := by rw [e7, hup_at, if_pos rfl]
      have g7 : ∀ j, j ≠ 27 → F7 100 j = F 100 j := fun j hj => by rw [e7, hup_at, if_neg hj, e6, hup_n _ _ _ (by omega), k5]
      refine ⟨by rw [k40, k727], Inv.mono ⟨d, o', hb, ⟨i1.1.kept (k7 _ (by omega) (by omega) (by omega) (by omega) (by omega)) (k7 _ (by omega) (by omega) (by omega) (by omega) (by omega)) (k7 _ (by omega) (by omega) (by omega) (by omega) (by omega)) (k7 _ (by omega) (by omega) (by omega) (by omega) (by omega)) (k7 _ (by omega) (by omega) (by omega) (by omega) (by omega)) (k7 _ (by omega) (by omega) (by omega) (by omega) (by omega)), i1.2.kept (fun j hj => g7 j (by omega)) (k7 _ (by omega) (by omega) (by omega) (by omega) (by omega)) (k7 _ (by omega) (by omega) (by omega) (by omega) (by omega))⟩, ⟨N, wN, cN.kept (k7 _ (by omega) (by omega) (by omega) (by omega) (by omega)) (k7 _ (by omega) (by omega) (by omega) (by omega) (by omega)) (k7 _ (by omega) (by omega) (by omega) (by omega) (by omega)) (k7 _ (by omega) (by omega) (by omega) (by omega) (by omega)), by rw [k7 120 (by omega) (by omega) (by omega) (by omega) (by omega)]; exact mN⟩, i3.kept (fun a _ _ => k7 a (by omega) (by omega) (by omega) (by omega) (by omega)) (g7 _ (by omega)) (k7 _ (by omega) (by omega) (by omega) (by omega) (by omega)), i4.kept (fun a _ _ => k7 a (by omega) (by omega) (by omega) (by omega) (by omega)) (g7 _ (by omega)) (k7 _ (by omega) (by omega) (by omega) (by omega) (by omega)), ⟨ns + 1, (fun i => if i = ns then x else sk i), (fun i => if i = ns then j else sh i), by omega, by rw [k7b 0 (by omega) (by omega)]; exact k40, k727, fun i hi => ?_⟩, i6.kept (by rw [k7 _ (by omega) (by omega) (by omega) (by omega) (by omega)]) (k7 _ (by omega) (by omega) (by omega) (by omega) (by omega)) (g7 _ (by omega)) (k7 _ (by omega) (by omega) (by omega) (by omega) (by omega)), i7.kept (k7 _ (by omega) (by omega) (by omega) (by omega) (by omega)) (k7 _ (by omega) (by omega) (by omega) (by omega) (by omega))⟩⟩
      have f85 : ∀ i, F7 85 i = if i = ns then nI x else F 85 i := fun i => by rw [k7b 85 (by omega) (by omega), e4, hup_n _ _ _ (by omega), e3, hup_n _ _ _ (by omega), e2, hup_at]
      have f86 : ∀ i, F7 86 i = if i = ns then nI j else F 86 i := fun i => by rw [k7b 86 (by omega) (by omega), e4, hup_n _ _ _ (by omega), e3, hup_at, e2, hup_n _ _ _ (by omega)]
      have f126 : ∀ i, F7 126 i = if i = 2 * ns + 1 then nI j else if i = 2 * ns then nI x else F 126 i := fun i => by rw [e7, hup_n _ _ _ (by omega), e6, hup_at, e5, hup_at, k4 126 (by omega) (by omega) (by omega)]
      show (if i = ns then x else sk i) < 8 ∧ (if i = ns then j else sh i) ≤ 99 ∧ F7 85 i = nI (if i = ns then x else sk i) ∧ F7 86 i = nI (if i = ns then j else sh i) ∧ F7 126 (2 * i) = nI (if i = ns then x else sk i) ∧ F7 126 (2 * i + 1) = nI (if i = ns then j else sh i)
      rw [f85, f86, f126, f126]
      by_cases e : i = ns
      · rw [if_pos e, if_pos e, if_pos e, if_pos e, if_neg (by omega), if_pos (by omega), if_pos (by omega)]
        exact ⟨by omega, hj, rfl, rfl, rfl, rfl⟩
      · rw [if_neg e, if_neg e, if_neg e, if_neg e, if_neg (by omega), if_neg (by omega), if_neg (by omega), if_neg (by omega)]
        exact y3 i (by omega)
    · unfold wp_X7_seen
      rw [show F 120 (nI 0).toNatClampNeg = nI (nz N) from mN.1]
      refine ⟨vin (by omega) (by omega), s_inz (by omega) (fun x' hx' e => ⟨fun e => absurd e (by decide), fun _ => s_in_ok (by omega) hj (by omega) ⟨fun _ => ?_, fun e => absurd e (by decide)⟩⟩) (fun q => absurd rfl (q x hx))⟩
      rw [y2, nIe (by omega) (by omega)]
      exact ⟨fun e => absurd (show ns = 6 by omega) e, fun _ => h.end Ag.rf rfl⟩
  have T := c_inz (a := a) (z := nz N) (A := wp_X7_seen (fun r2 F2 => (-1 : Int32) = r2 ∧ Inv (n + 1) F2) F a b) (by omega) core (fun q => bad (Or.inl q))
  unfold wp_X6_seen wp_X0_size
  rw [show F 17 4 = nI (nz N) from cN.2.2.2.2.1]
  exact T
theorem t_write (h : Inv n F) (a : Int32) : wp_X6_write (fun r F1 => wp_X7_write (fun r2 F2 => r = r2 ∧ Inv (n + 1) F2) F1 a) F a := by
  obtain ⟨d, o', hb, i1, i2, i3, i4, i5, ⟨nx, tx, x0, x1, x2, x3⟩, i7⟩ := id h
  unfold wp_X6_write
  have bad : (a < nI 32 ∨ nI 126 < a) → wp_X7_write (fun r2 F2 => (-1 : Int32) = r2 ∧ Inv (n + 1) F2) F a := fun q => by
    unfold wp_X7_write
    exact s_in_bad q ⟨fun e => absurd rfl e, fun _ => h.end Ag.rf rfl⟩
  rcases rng a 32 (N := 126) (by omega) (by omega) with q | ⟨q1, q2, q3⟩ | ⟨c, h1, hc, rfl⟩
  · exact ⟨fun _ => bad (Or.inl q), fun g => absurd q g⟩
  · exact ⟨fun x => absurd x q1, fun _ => ⟨fun x => absurd x q3, fun _ => bad (Or.inr q2)⟩⟩
  refine ⟨fun x => absurd x (nI_nlt h1 (by omega)), fun _ => ⟨fun _ => ?_, fun x => absurd (nI_le hc (by omega)) x⟩⟩
  have ech : vp_nar .char ((nI c).toUInt32 % 65536).toInt32 = nI c := by
    rw [pk_vc, pk_char, pk_tn (by omega), Nat.mod_eq_of_lt (by omega)]
  unfold wp_X3_append
  rw [x1, nIlt (by omega) (by omega), nIcl (by omega), ech]
  refine ⟨fun g => ⟨vin (by omega) (by omega), fun F1 e1 F2 e2 => ⟨fun e => absurd e (by decide), fun _ => ?_⟩⟩, fun g => ⟨fun _ => ?_, fun e => absurd rfl e⟩⟩
  · have k1 : F1 1 2 = nI nx := by rw [e1, hup_n _ _ _ (by omega), x1]
    rw [k1, nI_add] at e2
    have k2 : ∀ a, a ≠ 1 → a ≠ 2 → F2 a = F a := fun a h1 h2 => by rw [e2, hup_n _ _ _ h1, e1, hup_n _ _ _ h2]
    refine s_X3_length (show F2 1 2 = nI (nx + 1) by rw [e2, hup_at, if_pos rfl]) ?_
    unfold wp_X7_write
    refine s_in_ok h1 hc (by omega) ⟨fun _ => ?_, fun e => absurd e (by decide)⟩
    rw [k2 100 (by omega) (by omega), x2, nIe (by omega) (by omega), nIcl (by omega)]
    refine ⟨fun _ => ⟨vin (by omega) (by omega), fun F3 e3 F4 e4 => ?_⟩, fun e => absurd e (by omega)⟩
    have k3 : F3 100 0 = nI nx := by rw [e3, hup_n _ _ _ (by omega), k2 100 (by omega) (by omega), x2]
    rw [k3, nI_add] at e4
    have k4 : ∀ a, a ≠ 1 → a ≠ 2 → a ≠ 100 → a ≠ 101 → F4 a = F a := fun a h1 h2 h3 h4 => by rw [e4, hup_n _ _ _ h3, e3, hup_n _ _ _ h4, k2 a h1 h2]
    have k4b : ∀ a, a ≠ 100 → a ≠ 101 → F4 a = F2 a := fun a h3 h4 => by rw [e4, hup_n _ _ _ h3, e3, hup_n _ _ _ h4]
    have g4 : ∀ j, j ≠ 0 → F4 100 j = F 100 j := fun j hj => by rw [e4, hup_at, if_neg hj, e3, hup_n _ _ _ (by omega), k2 100 (by omega) (by omega)]
    have k40 : F4 100 0 = nI (nx + 1) := by rw [e4, hup_at, if_pos rfl]
    refine ⟨by rw [k40], Inv.mono ⟨d, o', hb, ⟨i1.1.kept (k4 _ (by omega) (by omega) (by omega) (by omega)) (k4 _ (by omega) (by omega) (by omega) (by omega)) (k4 _ (by omega) (by omega) (by omega) (by omega)) (k4 _ (by omega) (by omega) (by omega) (by omega)) (k4 _ (by omega) (by omega) (by omega) (by omega)) (k4 _ (by omega) (by omega) (by omega) (by omega)), i1.2.kept (fun j hj => g4 j (by omega)) (k4 _ (by omega) (by omega) (by omega) (by omega)) (k4 _ (by omega) (by omega) (by omega) (by omega))⟩, i2.kept (fun a _ _ => k4 a (by omega) (by omega) (by omega) (by omega)) (k4 _ (by omega) (by omega) (by omega) (by omega)), i3.kept (fun a _ _ => k4 a (by omega) (by omega) (by omega) (by omega)) (g4 _ (by omega)) (k4 _ (by omega) (by omega) (by omega) (by omega)), i4.kept (fun a _ _ => k4 a (by omega) (by omega) (by omega) (by omega)) (g4 _ (by omega)) (k4 _ (by omega) (by omega) (by omega) (by omega)), i5.kept (by rw [k4 _ (by omega) (by omega) (by omega) (by omega)]) (k4 _ (by omega) (by omega) (by omega) (by omega)) (k4 _ (by omega) (by omega) (by omega) (by omega)) (g4 _ (by omega)) (k4 _ (by omega) (by omega) (by omega) (by omega)), ⟨nx + 1, (fun i => if i = nx then c else tx i), by omega, by rw [k4b 1 (by omega) (by omega), e2, hup_at, if_pos rfl], k40, fun i hi => ?_⟩, i7.kept (k4 _ (by omega) (by omega) (by omega) (by omega)) (k4 _ (by omega) (by omega) (by omega) (by omega))⟩⟩
    have f2 : ∀ i, F4 2 i = if i = nx then nI c else F 2 i := fun i => by rw [k4b 2 (by omega) (by omega), e2, hup_n _ _ _ (by omega), e1, hup_at]
    have f101 : ∀ i, F4 101 i = if i = nx then nI c else F 101 i := fun i => by rw [e4, hup_n _ _ _ (by omega), e3, hup_at, k2 101 (by omega) (by omega)]
    show 32 ≤ (if i = nx then c else tx i) ∧ (if i = nx then c else tx i) ≤ 126 ∧ F4 2 i = nI (if i = nx then c else tx i) ∧ F4 101 i = nI (if i = nx then c else tx i)
    rw [f2, f101]
    by_cases e : i = nx
    · rw [if_pos e, if_pos e, if_pos e]; exact ⟨h1, hc, rfl, rfl⟩
    · rw [if_neg e, if_neg e, if_neg e]; exact x3 i (by omega)
  · unfold wp_X7_write
    refine s_in_ok h1 hc (by omega) ⟨fun _ => ?_, fun e => absurd e (by decide)⟩
    rw [x2, nIe (by omega) (by omega)]
    exact ⟨fun e => absurd (show nx = 200 by omega) e, fun _ => h.end Ag.rf rfl⟩
end Top12
