section Top6
variable {F G : HF} {n : Nat} {d : FD}
theorem s_inz {K : Int32 → HF → Prop} {a : Int32} {z : Nat} (hz : z < 2 ^ 20) (k1 : ∀ x, x < z → a = nI x → K (nI 1) F) (k0 : (∀ x, x < z → a ≠ nI x) → K (nI 0) F) : wp_X7_in K F a (nI 0) (nI z - nI 1) := by
  rcases Nat.eq_zero_or_pos z with e | e
  · subst e
    rw [nI_z1]
    refine s_in (fun g => ?_) (fun _ => k0 (fun x hx => absurd hx (by omega)))
    exfalso
    have h1 := g.1
    have h2 := g.2
    rw [Int32.lt_iff_toInt_lt] at h1 h2
    rw [m1_toInt] at h2
    have z0 : (nI 0).toInt = 0 := by decide
    omega
  · rw [nIsub e]
    rcases rng a 0 (N := z - 1) (by omega) (by omega) with q | ⟨q1, q2, q3⟩ | ⟨j, -, hj, rfl⟩
    · refine s_in_bad (Or.inl q) (k0 (fun x hx e => ?_))
      rw [e] at q; exact nI_pos (by omega) q
    · refine s_in_bad (Or.inr q2) (k0 (fun x hx e => ?_))
      rw [e] at q3; exact q3 (nI_le (by omega) (by omega))
    · exact s_in_ok (by omega) hj (by omega) (k1 j (by omega) rfl)
/-- the class's own test: a number of one of the bridge -/
theorem c_inz {A B : Prop} {a : Int32} {z : Nat} (hz : z < 2 ^ 20) (k1 : ∀ x, x < z → a = nI x → B) (k0 : (∀ x, x < z → a ≠ nI x) → A) : ((a < nI 0) → A) ∧ ((¬ a < nI 0) → (((nI z ≤ a) → A) ∧ ((¬ nI z ≤ a) → B))) := by
  rcases rng a 0 (N := 2 ^ 20) (by omega) (by omega) with q | ⟨q1, q2, q3⟩ | ⟨j, -, hj, rfl⟩
  · refine ⟨fun _ => k0 (fun x hx e => ?_), fun g => absurd q g⟩
    rw [e] at q; exact nI_pos (by omega) q
  · refine ⟨fun x => absurd x q1, fun _ => ⟨fun _ => k0 (fun x hx e => ?_), fun g => ?_⟩⟩
    · rw [e] at q3; exact q3 (nI_le (by omega) (by omega))
    · exfalso; apply g
      rw [Int32.lt_iff_toInt_lt] at q2; rw [Int32.le_iff_toInt_le]
      rw [nI_toInt (by omega)] at q2 ⊢
      omega
  · refine ⟨fun x => absurd x (nI_pos (by omega)), fun _ => ?_⟩
    rw [nIle (by omega) (by omega)]
    refine ⟨fun g => k0 (fun x hx e => ?_), fun g => k1 j (by omega) rfl⟩
    rw [nIe (by omega) (by omega)] at e; omega
theorem s_X6_loadNow {K : Int32 → HF → Prop} {N : ND} (c : CF F 4 d) (o' : OkF d) (cN : CN F 16 N) (wN : WfN n d N) (hn : n ≤ 600) {x : Nat} (hx : x < nz N) (k : ∀ G, FrL [20, 21, 22, 23, 24] F G → K (nI (lw d (nz N) (no N) (nq N) (wgt d (nye N) + wnd d (nmi N)) x)) G) : wp_X6_loadNow K F (nI x) := by
  have h8 := wN.1.1
  have hmi := wN.2.2.1
  have hwg := wgt_le o' (y := nye N) (by have := wN.2.2.2.1; omega)
  unfold wp_X6_loadNow
  refine s_X0_copyFrom (by omega) cN.2.2.2.2 h8 (fun G1 f1 b1 => ?_)
  refine s_X0_unload (fun G2 f2 g2 => ?_)
  have f12 : FrL [20, 21, 22, 23, 24] F G2 := (f1.mono (fun a ha => by simp at ha ⊢; omega)).tr (f2.mono (fun a ha => by simp at ha ⊢; omega))
  have c2 : CF G2 4 d := c.fr f12 (fun a h1 h2 => by simp; omega)
  have cN2 : CN G2 16 N := cN.kept (f12 _ (by simp)) (f12 _ (by simp)) (f12 _ (by simp)) (f12 _ (by simp))
  have b2 : CB G2 21 (nz N) (no N) (nt N) := b1.fr f2 (by simp) (by simp) (by simp)
  refine s_X2_isOnBridge c2 o' cN2 wN.2.2.2.2.1 (fun g => ⟨fun e => absurd e (by decide), fun _ => ?_⟩) (fun g => ⟨fun _ => ?_, fun e => absurd rfl e⟩)
  · refine s_X2_place cN2 (s_X2_weight c2 cN2 (s_X2_minute cN2 (s_X1_windIn c2 o' (by omega) ?_)))
    have hwn := wnd_le o' (nmi N)
    obtain ⟨p, hp⟩ : ∃ p, nq N = p + 1 := ⟨nq N - 1, by omega⟩
    rw [hp, pI_s, nI_add]
    have hwh := wN.2.2.2.2.2.2 g.1 g.2
    refine s_X0_press (w := fun _ => 0) c2 o' b2 wN.1 (by omega) (by omega) g2 (fun G3 f3 g3 => ?_)
    refine s_X0_borneAt (b2.fr f3 (by simp) (by simp) (by simp)) h8 hx g3 ?_
    have e : prs d (no N) (fun _ => 0) (nz N) p (wgt d (nye N) + wnd d (nmi N)) x = lw d (nz N) (no N) (nq N) (wgt d (nye N) + wnd d (nmi N)) x := by
      unfold prs lw bl
      rw [if_pos g, if_pos hx, hp]
      show 0 + part (dist x (hol d (no N) p (nz N))) _ = if x < nz N then part (dist x (hol d (no N) (p + 1 - 1) (nz N))) _ else 0
      rw [if_pos hx, Nat.zero_add]; rfl
    rw [e]
    exact k G3 (f12.tr (f3.mono (fun a ha => by simp at ha ⊢; omega)))
  · refine s_X0_borneAt (w := fun _ => 0) b2 h8 hx g2 ?_
    have e : lw d (nz N) (no N) (nq N) (wgt d (nye N) + wnd d (nmi N)) x = 0 := by unfold lw; rw [if_neg g]
    have := k G2 f12
    rw [e] at this
    exact this
theorem t_span (h : Inv n F) (hn : n ≤ 600) (a b : Int32) : wp_X6_span (fun r F1 => wp_X7_span (fun r2 F2 => r = r2 ∧ Inv (n + 1) F2) F1 a b) F a b := by
  obtain ⟨d, o', hb, i1, ⟨N, wN, cN, mN⟩, -⟩ := id h
  have h8 := wN.1.1
  have hmi := wN.2.2.1
  have hW := o'.2.2.2.1
  have hW1 := o'.2.2.1
  have hwg := wgt_le o' (y := nye N) (by have := wN.2.2.2.1; omega)
  have mm : ∀ (G : HF) (x : Nat) (r : Int32), x < nz N → FrL [20, 21, 22, 23, 24] F G → (b = nI 0 → r = nI (no N x)) → (b = nI 1 → r = nI (lsum d (no N) x)) → (b = nI 2 → r = nI (pw d (nz N) (no N) (nt N) x)) → (b = nI 3 → r = nI (lw d (nz N) (no N) (nq N) (wgt d (nye N) + wnd d (nmi N)) x)) → (¬ b = nI 0 → ¬ b = nI 1 → ¬ b = nI 2 → ¬ b = nI 3 → r = -1) → wp_X7_span (fun r2 F2 => r = r2 ∧ Inv (n + 1) F2) G (nI x) b := by
    intro G x r hx f h0 h1 h2 h3 h4
    have ag : Ag F G := f.ag (fun a ha => by simp at ha; unfold scr; omega)
    have mG : MF G d := i1.2.fr f (by simp) (by simp) (by simp)
    have mN : MNf (G 120) N := by rw [f 120 (by simp)]; exact mN
    unfold wp_X7_span
    rw [show G 120 (nI 0).toNatClampNeg = nI (nz N) from mN.1]
    refine ⟨vin (by omega) (by omega), s_inz (by omega) (fun x' hx' e => ⟨fun _ => ?_, fun e => absurd e (by decide)⟩) (fun q => absurd rfl (q x hx))⟩
    have s73 : ∀ X : HF, FrL [129] G X → (∀ i, i < 8 → X 129 i = nI (lw d (nz N) (no N) (nq N) (wgt d (nye N) + wnd d (nmi N)) i)) → wp_X7_span_73 (fun r2 F2 => r = r2 ∧ Inv (n + 1) F2) X (nI x) b := by
      intro X fX gX
      have mX : MF X d := mG.fr fX (by simp) (by simp) (by simp)
      have mNX : MNf (X 120) N := by rw [fX 120 (by simp)]; exact mN
      have agX : Ag F X := ag.tr (fX.ag (fun a ha => by simp at ha; unfold scr; omega))
      unfold wp_X7_span_73
      refine ⟨fun c => ?_, fun c => s_X7_firstOf mX o' mNX.mb wN.1 (by omega) (h.end agX (h1 c)), fun c => s_X7_powerOf mX o' mNX.mb wN.1 hx (wN.2.1 _ (wN.1.2.1 x hx)) (h.end agX (h2 c)), fun c => ?_, fun c0 c1 c2 c3 => h.end agX (h4 c0 c1 c2 c3)⟩
      · rw [nI_add, nIcl (by omega), mNX.2.2.2.2.2.1 x hx]
        exact ⟨vin (by omega) (by omega), h.end agX (h0 c)⟩
      · rw [nIcl (by omega), gX x (by omega)]
        exact ⟨vin (by omega) (by omega), h.end agX (h3 c)⟩
    refine s_X7_noLoads (fun X fX gX => ⟨vin (by omega) (by omega), ?_⟩)
    have mX : MF X d := mG.fr fX (by simp) (by simp) (by simp)
    have mNX : MNf (X 120) N := by rw [fX 120 (by simp)]; exact mN
    rw [show X 120 (nI 3).toNatClampNeg = pI (nq N) from mNX.2.2.2.1, mX.2.2.1]
    refine s_X7_isOn (by have := wN.2.2.2.2.1; omega) hW1 (by omega) (fun g => ⟨fun e => absurd e (by decide), fun _ => ⟨vin (by omega) (by omega), vin (by omega) (by omega), ?_⟩⟩) (fun g => ⟨fun _ => s73 X fX (fun i hi => ?_), fun e => absurd rfl e⟩)
    · rw [show X 120 (nI 2).toNatClampNeg = nI (nye N) from mNX.2.2.1]
      refine s_X7_weightIn mX ⟨vin (by omega) (by omega), ?_⟩
      rw [show X 120 (nI 1).toNatClampNeg = nI (nmi N) from mNX.2.1]
      refine s_X7_windIn mX o' (by omega) ?_
      have hwn := wnd_le o' (nmi N)
      have hwh := wN.2.2.2.2.2.2 g.1 g.2
      obtain ⟨p, hp⟩ : ∃ p, nq N = p + 1 := ⟨nq N - 1, by omega⟩
      rw [show X 120 (nI 3).toNatClampNeg = pI (nq N) from mNX.2.2.2.1, hp, pI_s, nI_add]
      refine s_X7_bear (w := fun _ => 0) mX o' mNX.mb wN.1 (by omega) (by omega) (by omega) gX (fun Y fY gY => s73 Y (fX.tr fY) (fun i hi => ?_))
      rw [gY i hi]
      congr 1
      unfold prs lw bl
      rw [if_pos g, hp]
      show (if i < nz N then 0 + part (dist i (hol d (no N) p (nz N))) _ else 0) = if i < nz N then part (dist i (hol d (no N) (p + 1 - 1) (nz N))) _ else 0
      by_cases q : i < nz N
      · rw [if_pos q, if_pos q, Nat.zero_add]; rfl
      · rw [if_neg q, if_neg q]
    · rw [gX i hi]; unfold lw; rw [if_neg g]
  unfold wp_X6_span
  have bad : (∀ x, x < nz N → a ≠ nI x) → wp_X7_span (fun r2 F2 => (-1 : Int32) = r2 ∧ Inv (n + 1) F2) F a b := by
    intro q
    unfold wp_X7_span
    rw [show F 120 (nI 0).toNatClampNeg = nI (nz N) from mN.1]
    exact ⟨vin (by omega) (by omega), s_inz (by omega) (fun x hx e => absurd e (q x hx)) (fun _ => ⟨fun e => absurd rfl e, fun _ => h.end Ag.rf rfl⟩)⟩
  have ne : ∀ (i j : Nat) {P : Prop}, i < 2 ^ 31 → j < 2 ^ 31 → i ≠ j → b = nI i → b = nI j → P := fun i j _ h1 h2 h3 e e2 => absurd ((nI_eq h1 h2).mp (e.symm.trans e2)) h3
  have oth : ∀ i : Nat, i < 4 → b = nI i → ∀ {P : Prop}, ¬ b = nI 0 → ¬ b = nI 1 → ¬ b = nI 2 → ¬ b = nI 3 → P := by
    intro i hi e P c0 c1 c2 c3
    rcases (show i = 0 ∨ i = 1 ∨ i = 2 ∨ i = 3 by omega) with rfl | rfl | rfl | rfl
    · exact absurd e c0
    · exact absurd e c1
    · exact absurd e c2
    · exact absurd e c3
  have core : ∀ x, x < nz N → a = nI x → (((b = nI 0) → wp_X0_birdAt (fun r F1 => wp_X7_span (fun r2 F2 => r = r2 ∧ Inv (n + 1) F2) F1 a b) F 17 a) ∧ ((b = nI 1) → wp_X0_firstPlaceOf (fun r F1 => wp_X7_span (fun r2 F2 => r = r2 ∧ Inv (n + 1) F2) F1 a b) F 17 a) ∧ ((b = nI 2) → wp_X0_powerAt (fun r F1 => wp_X7_span (fun r2 F2 => r = r2 ∧ Inv (n + 1) F2) F1 a b) F 17 a) ∧ ((b = nI 3) → wp_X6_loadNow (fun r F1 => wp_X7_span (fun r2 F2 => r = r2 ∧ Inv (n + 1) F2) F1 a b) F a) ∧ (¬ b = nI 0 → ¬ b = nI 1 → ¬ b = nI 2 → ¬ b = nI 3 → wp_X7_span (fun r2 F2 => (-1 : Int32) = r2 ∧ Inv (n + 1) F2) F a b)) := by
    intro x hx e
    subst e
    exact ⟨fun c => s_X0_birdAt cN.2.2.2.2 wN.1 hx (mm F x _ hx FrL.rf (fun _ => rfl) (ne 0 1 (by omega) (by omega) (by omega) c) (ne 0 2 (by omega) (by omega) (by omega) c) (ne 0 3 (by omega) (by omega) (by omega) c) (oth 0 (by omega) c)), fun c => s_X0_firstPlaceOf i1.1 o' cN.2.2.2.2 wN.1 (by omega) (mm F x _ hx FrL.rf (ne 1 0 (by omega) (by omega) (by omega) c) (fun _ => rfl) (ne 1 2 (by omega) (by omega) (by omega) c) (ne 1 3 (by omega) (by omega) (by omega) c) (oth 1 (by omega) c)), fun c => s_X0_powerAt i1.1 o' cN.2.2.2.2 wN.1 hx (wN.2.1 _ (wN.1.2.1 x hx)) (mm F x _ hx FrL.rf (ne 2 0 (by omega) (by omega) (by omega) c) (ne 2 1 (by omega) (by omega) (by omega) c) (fun _ => rfl) (ne 2 3 (by omega) (by omega) (by omega) c) (oth 2 (by omega) c)), fun c => s_X6_loadNow i1.1 o' cN wN hn hx (fun G f => mm G x _ hx f (ne 3 0 (by omega) (by omega) (by omega) c) (ne 3 1 (by omega) (by omega) (by omega) c) (ne 3 2 (by omega) (by omega) (by omega) c) (fun _ => rfl) (oth 3 (by omega) c)), fun c0 c1 c2 c3 => mm F x _ hx FrL.rf (fun e => absurd e c0) (fun e => absurd e c1) (fun e => absurd e c2) (fun e => absurd e c3) (fun _ _ _ _ => rfl)⟩
  have sz : F 17 4 = nI (nz N) := cN.2.2.2.2.1
  have T := c_inz (a := a) (z := nz N) (A := wp_X7_span (fun r2 F2 => (-1 : Int32) = r2 ∧ Inv (n + 1) F2) F a b) (by omega) core bad
  refine ⟨fun q => T.1 q, fun q => ?_⟩
  unfold wp_X0_size
  rw [sz]
  exact ⟨fun q2 => (T.2 q).2 (by first | exact q2 | exact fun x => absurd x (by first | exact q2 | exact Int32.not_le.mpr q2)), fun q2 => (T.2 q).1 (by first | exact q2 | exact Int32.not_lt.mp q2)⟩
end Top6
