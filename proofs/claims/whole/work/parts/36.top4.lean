section Top4
variable {F G : HF} {n : Nat} {d : FD}
abbrev N1 (d : FD) (N : ND) (q : Nat) : ND := ((nz N, nmi N + 1, nye N, q, 0), no N, tir d (no N) (lw d (nz N) (no N) q (wgt d (nye N) + wnd d (nmi N))) (nz N) (nt N))
abbrev N0 (N : ND) (q : Nat) : ND := ((nz N, nmi N + 1, nye N, q, 1), no N, nt N)
abbrev okm (d : FD) (N : ND) (q : Nat) : Prop := setl d (nz N) (no N) (nt N) (lw d (nz N) (no N) q (wgt d (nye N) + wnd d (nmi N)))
theorem m_min {K : Int32 → HF → Prop} {N : ND} (m : MF F d) (o' : OkF d) (hn : n ≤ 600) (wN : WfN n d N) {q : Nat} (hq : q ≤ fW d + 1) (hwh : q ≤ fW d → fW d ≤ lsum d (no N) (nz N)) (b : MB F 120 (nz N) (no N) (nt N)) (h1 : F 120 1 = nI (nmi N)) (h2 : F 120 2 = nI (nye N)) (h3 : F 120 3 = pI q)
    (k1 : okm d N q → ∀ G, FrL [120, 129] F G → MNf (G 120) (N1 d N q) → K (pI q) G) (k0 : ¬ okm d N q → ∀ G, FrL [120, 129] F G → MNf (G 120) (N0 N q) → K (-4 : Int32) G) :
    wp_X7_windIn (fun x2 F4 => wp_X7_passes (fun x3 F5 => ((x3 = nI 0) → (K (-4 : Int32) F5)) ∧ ((¬ x3 = nI 0) → (vp_in (nI 3) 21 ∧ K (F5 120 (nI 3).toNatClampNeg) F5))) F4 120 21 x2) F (F 120 1) := by
  have hmi := wN.2.2.1
  rw [h1]
  refine s_X7_windIn m o' (by omega) ?_
  refine s_X7_passes (mi := nmi N) (ye := nye N) (q := q) m o' b wN.1 (by omega) (by omega) (fun k hk => wN.2.1 _ (wN.1.2.1 k hk)) h1 h2 h3 hq hwh (by have := wN.2.2.2.1; omega) (wnd_le o' _) (fun hs G f b' c1 c2 c3 c4 => ⟨fun e => absurd e (by decide), fun _ => ⟨vin (by omega) (by omega), ?_⟩⟩) (fun hs G f b' c1 c2 c3 c4 => ⟨fun _ => k0 hs G f ⟨b'.1, c1, c2, c3, c4, b'.2.1, b'.2.2⟩, fun e => absurd rfl e⟩)
  rw [nIcl (by omega), c3]
  exact k1 hs G f ⟨b'.1, c1, c2, c3, c4, b'.2.1, b'.2.2⟩
theorem wf_N1 (o' : OkF d) {N : ND} (wN : WfN n d N) {q : Nat} (hq : q ≤ fW d + 1) (hwh : q ≤ fW d → fW d ≤ lsum d (no N) (nz N)) (hs : okm d N q) : WfN (n + 1) d (N1 d N q) := ⟨wN.1, tir_le o' wN.1 wN.2.1 hs, Nat.succ_le_succ wN.2.2.1, wN.2.2.2.1, hq, Nat.zero_le _, fun _ h => hwh h⟩
theorem wf_N0 {N : ND} (wN : WfN n d N) {q : Nat} (hq : q ≤ fW d + 1) (hwh : q ≤ fW d → fW d ≤ lsum d (no N) (nz N)) : WfN (n + 1) d (N0 N q) := ⟨wN.1, wN.2.1, Nat.succ_le_succ wN.2.2.1, wN.2.2.2.1, hq, Nat.le_refl _, fun _ h => hwh h⟩
theorem t_step (h : Inv n F) (hn : n ≤ 600) : wp_X6_step (fun r F1 => wp_X7_step (fun r2 F2 => r = r2 ∧ Inv (n + 1) F2) F1) F := by
  obtain ⟨d, o', hb, i1, ⟨N, wN, cN, mN⟩, ⟨np, ps, rl, s3, p3, w3⟩, i4, i5, i6, i7⟩ := id h
  have hB := o'.1
  have h8 := wN.1.1
  have hW := o'.2.2.2.1
  have hbr := wN.2.2.2.2.2.1
  have hqW := wN.2.2.2.2.1
  have eq4 : ∀ X : HF, X 120 = F 120 → MF X d → (nbr N = 1 ∨ ¬ fW d ≤ lsum d (no N) (nz N) ∨ nq N = fW d + 1) → Inv n X → wp_X7_step (fun r2 F2 => (-2 : Int32) = r2 ∧ Inv (n + 1) F2) X := by
    intro X eX mX c hX
    have mNX : MNf (X 120) N := by rw [eX]; exact mN
    unfold wp_X7_step
    refine s_X7_isWhole mX o' mNX.mb wN.1 (fun g => ⟨fun e => absurd e (by decide), fun _ => ⟨vin (by omega) (by omega), ?_⟩⟩) (fun g => ⟨fun _ => hX.end Ag.rf rfl, fun e => absurd rfl e⟩)
    rw [show X 120 (nI 4).toNatClampNeg = nI (nbr N) from mNX.2.2.2.2.1, nIe (by omega) (by omega), show X 120 (nI 3).toNatClampNeg = pI (nq N) from mNX.2.2.2.1, mX.2.2.1]
    refine ⟨fun _ => hX.end Ag.rf rfl, fun g2 => ⟨vin (by omega) (by omega), fun g3 => ?_, fun _ => hX.end Ag.rf rfl⟩⟩
    rcases c with c | c | c
    · exact absurd c g2
    · exact absurd g c
    · rw [c, pI_s] at g3; exact absurd rfl g3
  unfold wp_X6_step
  refine s_X2_isBroken cN hbr ?_
  rw [nIe (by omega) (by omega)]
  refine ⟨fun g => eq4 F rfl i1.2 (Or.inl (by omega)) h, fun g => ?_⟩
  refine s_X0_isWhole i1.1 o' cN.2.2.2.2 wN.1 (fun hw => ⟨fun e => absurd e (by decide), fun _ => ?_⟩) (fun hw => ⟨fun _ => eq4 F rfl i1.2 (Or.inr (Or.inl (by omega))) h, fun e => absurd rfl e⟩)
  refine s_X2_place cN (s_X1_width i1.1 ⟨fun g2 => ?_, fun g2 => eq4 F rfl i1.2 (Or.inr (Or.inr ?_)) h⟩)
  rotate_left
  · rcases Nat.lt_or_ge (nq N) (fW d + 1) with c | c
    · exfalso; apply g2
      rcases Nat.eq_zero_or_pos (nq N) with e | e
      · rw [e, pI_0, m1_lt (by omega)]; trivial
      · obtain ⟨q, e2⟩ : ∃ q, nq N = q + 1 := ⟨nq N - 1, by omega⟩
        rw [e2, pI_s]; exact nI_lt (by omega) (by omega)
    · omega
  · have hq : nq N ≤ fW d := by
      rcases Nat.lt_or_ge (nq N) (fW d + 1) with c | c
      · omega
      · have : nq N = fW d + 1 := by omega
        rw [this, pI_s, nIlt (by omega) (by omega)] at g2; omega
    refine s_X5_put (fun j hj => ntL_past hj) (by omega) (by omega) (by omega) s3 cN h8 hbr (by omega) (fun G1 rl' f1 sG _ => ?_)
    have cN1 : CN G1 16 N := cN.frR f1 (by omega)
    have c1 : CF G1 4 d := i1.1.frR f1 (by omega)
    refine s_X2_place cN1 ?_
    rw [pI_inc]
    have tail : ∀ (G2 : HF) (v : Int32) (N' : ND), FrR 16 20 G1 G2 → CN G2 16 N' → WfN (n + 1) d N' → (okm d N (nq N + 1) → v = pI (nq N + 1) ∧ N' = N1 d N (nq N + 1)) → (¬ okm d N (nq N + 1) → v = -4 ∧ N' = N0 N (nq N + 1)) → wp_X7_step (fun r2 F2 => v = r2 ∧ Inv (n + 1) F2) G2 := by
      intro G2 v N' f2 cN2 wN' hs1 hs0
      have e2 : ∀ a, ¬ ((16 ≤ a ∧ a ≤ 20) ∨ (25 ≤ a ∧ a ≤ 66)) → G2 a = F a := fun a ha => by rw [f2 a (by omega), f1 a (by omega)]
      have m2 : MF G2 d := i1.2.kept (fun j _ => by rw [e2 100 (by omega)]) (e2 _ (by omega)) (e2 _ (by omega))
      have mN2 : MNf (G2 120) N := by rw [e2 120 (by omega)]; exact mN
      have p2 : PM G2 np ps := p3.kept (by rw [e2 100 (by omega)]) (e2 _ (by omega))
      unfold wp_X7_step
      refine s_X7_isWhole m2 o' mN2.mb wN.1 (fun _ => ⟨fun e => absurd e (by decide), fun _ => ⟨vin (by omega) (by omega), ?_⟩⟩) (fun g => absurd hw (by omega))
      have i4' : G2 120 (nI 4).toNatClampNeg = nI (nbr N) := mN2.2.2.2.2.1
      have i3' : G2 120 (nI 3).toNatClampNeg = pI (nq N) := mN2.2.2.2.1
      rw [i4', nIe (by omega) (by omega), i3', m2.2.2.1]
      refine ⟨fun g3 => absurd g3 (by omega), fun _ => ⟨vin (by omega) (by omega), fun _ => ?_, fun g3 => ?_⟩⟩
      rotate_left
      · exfalso
        rcases Nat.eq_zero_or_pos (nq N) with e | e
        · rw [e, pI_0, m1_ne_nI (by omega)] at g3; exact g3
        · obtain ⟨q, e3⟩ : ∃ q, nq N = q + 1 := ⟨nq N - 1, by omega⟩
          rw [e3, pI_s, nIe (by omega) (by omega)] at g3; omega
      · refine s_X7_note p2 s3.2.1 (fun i hi => (w3 i hi).1.1) mN2 h8 (fun G3 f3 g3 p3' => ?_)
        have e120 : G3 120 = F 120 := by rw [f3 120 (by simp), e2 120 (by omega)]
        refine ⟨vin (by omega) (by omega), vin (by omega) (by omega), fun F4 e4 => ⟨vin (by omega) (by omega), ?_⟩⟩
        have e4' : F4 = hup G3 120 3 (pI (nq N + 1)) := by
          rw [e4]
          show hup G3 120 3 (G3 120 3 + nI 1) = _
          rw [e120, mN.2.2.2.1, pI_inc]
        have a4 : ∀ j, j ≠ 3 → F4 120 j = F 120 j := fun j hj => by rw [e4', hup_at, if_neg hj, e120]
        have k4 : ∀ a, a ≠ 120 → F4 a = G3 a := fun a ha => by rw [e4', hup_n _ _ _ ha]
        have m4 : MF F4 d := m2.kept (fun j hj => by rw [k4 100 (by omega), g3 j (by omega)]) (by rw [k4 _ (by omega), f3 _ (by simp)]) (by rw [k4 _ (by omega), f3 _ (by simp)])
        have b4 : MB F4 120 (nz N) (no N) (nt N) := ⟨by rw [a4 0 (by omega)]; exact mN.1, fun k hk => by rw [a4 _ (by omega)]; exact mN.2.2.2.2.2.1 k hk, fun k hk => by rw [a4 _ (by omega)]; exact mN.2.2.2.2.2.2 k hk⟩
        have fin : ∀ G5, FrL [120, 129] F4 G5 → MNf (G5 120) N' → Inv (n + 1) G5 := by
          intro G5 f5 mN5
          have k5 : ∀ a, a ≠ 100 → a ≠ 120 → a ≠ 122 → a ≠ 129 → G5 a = G2 a := fun a h1 h2 h3 h4 => by rw [f5 a (by simp; omega), k4 a h2, f3 a (by simp; omega)]
          refine Inv.night o' hb i1 i4 i5 i6 i7 (fun a ha => by rw [k5 a (by omega) (by omega) (by omega) (by omega), e2 a (by omega)]) (fun j hj => by rw [f5 100 (by simp), k4 100 (by omega), g3 j hj, e2 100 (by omega)]) ⟨N', wN', cN2.kept (k5 _ (by omega) (by omega) (by omega) (by omega)) (k5 _ (by omega) (by omega) (by omega) (by omega)) (k5 _ (by omega) (by omega) (by omega) (by omega)) (k5 _ (by omega) (by omega) (by omega) (by omega)), mN5⟩ ⟨pn 8 np, pp 8 np ps N, rl', sG.kept (fun a h1 h2 => by rw [k5 a (by omega) (by omega) (by omega) (by omega), f2 a (by omega)]), p3'.kept (by rw [f5 100 (by simp), k4 100 (by omega)]) (by rw [f5 122 (by simp), k4 122 (by omega)]), fun i hi => (pp_wf s3.2.1 w3 wN i hi).mono (by omega)⟩
        refine m_min (K := fun r2 F2 => v = r2 ∧ Inv (n + 1) F2) m4 o' hn wN (q := nq N + 1) (by omega) (fun _ => hw) b4 (by rw [a4 1 (by omega)]; exact mN.2.1) (by rw [a4 2 (by omega)]; exact mN.2.2.1) (by rw [e4', hup_at, if_pos rfl]) (fun hs G5 f5 mN5 => ?_) (fun hs G5 f5 mN5 => ?_)
        · obtain ⟨ev, eN⟩ := hs1 hs
          exact ⟨ev, fin G5 f5 (by rw [eN]; exact mN5)⟩
        · obtain ⟨ev, eN⟩ := hs0 hs
          exact ⟨ev, fin G5 f5 (by rw [eN]; exact mN5)⟩
    refine s_X2_passMinuteAt c1 o' cN1 (by omega) wN (by omega) (by omega) (fun _ => hw) (by omega) (fun hs G2 f2 cN2 => ⟨fun e => absurd e (by decide), fun _ => s_X2_place cN2 ?_⟩) (fun hs G2 f2 cN2 => ⟨fun _ => ?_, fun e => absurd rfl e⟩)
    · exact tail G2 _ _ f2 cN2 (wf_N1 o' wN (by omega) (fun _ => hw) hs) (fun _ => ⟨rfl, rfl⟩) (fun x => absurd hs x)
    · exact tail G2 _ _ f2 cN2 (wf_N0 wN (by omega) (fun _ => hw)) (fun x => absurd x hs) (fun _ => ⟨rfl, rfl⟩)
theorem t_stand (h : Inv n F) (hn : n ≤ 600) : wp_X6_stand (fun r F1 => wp_X7_stand (fun r2 F2 => r = r2 ∧ Inv (n + 1) F2) F1) F := by
  obtain ⟨d, o', hb, i1, ⟨N, wN, cN, mN⟩, ⟨np, ps, rl, s3, p3, w3⟩, i4, i5, i6, i7⟩ := id h
  have hB := o'.1
  have h8 := wN.1.1
  have hW := o'.2.2.2.1
  have hW1 := o'.2.2.1
  have hbr := wN.2.2.2.2.2.1
  have hqW := wN.2.2.2.2.1
  have eq4 : (nbr N = 1 ∨ ¬ (1 ≤ nq N ∧ nq N ≤ fW d)) → wp_X7_stand (fun r2 F2 => (-2 : Int32) = r2 ∧ Inv (n + 1) F2) F := by
    intro c
    unfold wp_X7_stand
    rw [show F 120 (nI 3).toNatClampNeg = pI (nq N) from mN.2.2.2.1, i1.2.2.2.1]
    refine ⟨vin (by omega) (by omega), s_X7_isOn (by omega) hW1 (by omega) (fun g => ⟨fun e => absurd e (by decide), fun _ => ⟨vin (by omega) (by omega), ?_⟩⟩) (fun g => ⟨fun _ => h.end Ag.rf rfl, fun e => absurd rfl e⟩)⟩
    rw [show F 120 (nI 4).toNatClampNeg = nI (nbr N) from mN.2.2.2.2.1, nIe (by omega) (by omega)]
    refine ⟨fun g2 => ?_, fun _ => h.end Ag.rf rfl⟩
    rcases c with c | c
    · exact absurd c g2
    · exact absurd g c
  unfold wp_X6_stand
  refine s_X2_isBroken cN hbr ?_
  rw [nIe (by omega) (by omega)]
  refine ⟨fun g => eq4 (Or.inl (by omega)), fun g => ?_⟩
  refine s_X2_isOnBridge i1.1 o' cN hqW (fun g2 => ⟨fun _ => ?_, fun e => absurd e (by decide)⟩) (fun g2 => ⟨fun e => absurd rfl e, fun _ => eq4 (Or.inr g2)⟩)
  have hw := wN.2.2.2.2.2.2 g2.1 g2.2
  refine s_X5_put (fun j hj => ntL_past hj) (by omega) (by omega) (by omega) s3 cN h8 hbr (by omega) (fun G1 rl' f1 sG _ => ?_)
  have cN1 : CN G1 16 N := cN.frR f1 (by omega)
  have c1 : CF G1 4 d := i1.1.frR f1 (by omega)
  refine s_X2_place cN1 ?_
  have tail : ∀ (G2 : HF) (v : Int32) (N' : ND), FrR 16 20 G1 G2 → CN G2 16 N' → WfN (n + 1) d N' → (okm d N (nq N) → v = pI (nq N) ∧ N' = N1 d N (nq N)) → (¬ okm d N (nq N) → v = -4 ∧ N' = N0 N (nq N)) → wp_X7_stand (fun r2 F2 => v = r2 ∧ Inv (n + 1) F2) G2 := by
    intro G2 v N' f2 cN2 wN' hs1 hs0
    have e2 : ∀ a, ¬ ((16 ≤ a ∧ a ≤ 20) ∨ (25 ≤ a ∧ a ≤ 66)) → G2 a = F a := fun a ha => by rw [f2 a (by omega), f1 a (by omega)]
    have m2 : MF G2 d := i1.2.kept (fun j _ => by rw [e2 100 (by omega)]) (e2 _ (by omega)) (e2 _ (by omega))
    have mN2 : MNf (G2 120) N := by rw [e2 120 (by omega)]; exact mN
    have p2 : PM G2 np ps := p3.kept (by rw [e2 100 (by omega)]) (e2 _ (by omega))
    unfold wp_X7_stand
    have i4' : G2 120 (nI 4).toNatClampNeg = nI (nbr N) := mN2.2.2.2.2.1
    have i3' : G2 120 (nI 3).toNatClampNeg = pI (nq N) := mN2.2.2.2.1
    rw [i3', m2.2.2.1]
    refine ⟨vin (by omega) (by omega), s_X7_isOn (by omega) hW1 (by omega) (fun _ => ⟨fun e => absurd e (by decide), fun _ => ⟨vin (by omega) (by omega), ?_⟩⟩) (fun g3 => absurd g2 g3)⟩
    rw [i4', nIe (by omega) (by omega)]
    refine ⟨fun _ => ?_, fun g3 => absurd g3 (by omega)⟩
    refine s_X7_note p2 s3.2.1 (fun i hi => (w3 i hi).1.1) mN2 h8 (fun G3 f3 g3 p3' => ⟨vin (by omega) (by omega), ?_⟩)
    have e120 : G3 120 = F 120 := by rw [f3 120 (by simp), e2 120 (by omega)]
    have m3 : MF G3 d := m2.kept (fun j hj => by rw [g3 j (by omega)]) (by rw [f3 _ (by simp)]) (by rw [f3 _ (by simp)])
    have mN3 : MNf (G3 120) N := by rw [e120]; exact mN
    have fin : ∀ G5, FrL [120, 129] G3 G5 → MNf (G5 120) N' → Inv (n + 1) G5 := by
      intro G5 f5 mN5
      have k5 : ∀ a, a ≠ 100 → a ≠ 120 → a ≠ 122 → a ≠ 129 → G5 a = G2 a := fun a h1 h2 h3 h4 => by rw [f5 a (by simp; omega), f3 a (by simp; omega)]
      refine Inv.night o' hb i1 i4 i5 i6 i7 (fun a ha => by rw [k5 a (by omega) (by omega) (by omega) (by omega), e2 a (by omega)]) (fun j hj => by rw [f5 100 (by simp), g3 j hj, e2 100 (by omega)]) ⟨N', wN', cN2.kept (k5 _ (by omega) (by omega) (by omega) (by omega)) (k5 _ (by omega) (by omega) (by omega) (by omega)) (k5 _ (by omega) (by omega) (by omega) (by omega)) (k5 _ (by omega) (by omega) (by omega) (by omega)), mN5⟩ ⟨pn 8 np, pp 8 np ps N, rl', sG.kept (fun a h1 h2 => by rw [k5 a (by omega) (by omega) (by omega) (by omega), f2 a (by omega)]), p3'.kept (by rw [f5 100 (by simp)]) (by rw [f5 122 (by simp)]), fun i hi => (pp_wf s3.2.1 w3 wN i hi).mono (by omega)⟩
    refine m_min (K := fun r2 F2 => v = r2 ∧ Inv (n + 1) F2) m3 o' hn wN (q := nq N) hqW (fun _ => hw) mN3.mb mN3.2.1 mN3.2.2.1 mN3.2.2.2.1 (fun hs G5 f5 mN5 => ?_) (fun hs G5 f5 mN5 => ?_)
    · obtain ⟨ev, eN⟩ := hs1 hs
      exact ⟨ev, fin G5 f5 (by rw [eN]; exact mN5)⟩
    · obtain ⟨ev, eN⟩ := hs0 hs
      exact ⟨ev, fin G5 f5 (by rw [eN]; exact mN5)⟩
  refine s_X2_passMinuteAt c1 o' cN1 (by omega) wN (by omega) hqW (fun _ => hw) (by omega) (fun hs G2 f2 cN2 => ⟨fun e => absurd e (by decide), fun _ => s_X2_place cN2 ?_⟩) (fun hs G2 f2 cN2 => ⟨fun _ => ?_, fun e => absurd rfl e⟩)
  · exact tail G2 _ _ f2 cN2 (wf_N1 o' wN hqW (fun _ => hw) hs) (fun _ => ⟨rfl, rfl⟩) (fun x => absurd hs x)
  · exact tail G2 _ _ f2 cN2 (wf_N0 wN hqW (fun _ => hw)) (fun x => absurd x hs) (fun _ => ⟨rfl, rfl⟩)
end Top4
