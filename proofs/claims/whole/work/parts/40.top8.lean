section Top8
variable {F G : HF} {n : Nat} {d : FD} {N : ND}
/-- a row tried, untired, in the minute 0, on the left bank -/
theorem cpf_121 {K : HF → Prop} (mN : MNf (F 120) N) (hz : nz N ≤ 8) (k : ∀ G, FrL mS F G → MB G 121 (nz N) (no N) (fun _ => 0) → G 121 1 = nI 0 → G 121 2 = nI (nye N) → G 121 3 = pI 0 → K G) : wp_X7_copy (fun F1 => wp_X7_freshen K F1 121 21) F 120 21 121 21 (nI 0) (nI 0) := by
  refine cp_121 mN hz (fun G f g => s_X7_freshen (fun H f2 g1 g2 g3 g4 g5 => k H (f.tr (f2.mono (fun a ha => by simp at ha; simp [ha]))) ⟨?_, ?_, g2⟩ g3 ?_ g4))
  · rw [g1 0 (by omega)]; exact g.1
  · intro i hi; rw [g1 (5 + i) (by omega)]; exact g.2.2.2.2.2.1 i hi
  · rw [g1 2 (by omega)]; exact g.2.2.1
abbrev bY (d : FD) (N : ND) (y : Nat) : Prop := wlk d (nz N) (no N) (fun p => wgt d y + wnd d (0 + p - 0)) (fW d - 0) 0 (fun _ => 0) < fW d
theorem s_X6_years {K : Int32 → HF → Prop} (c : CF F 4 d) (o' : OkF d) (cN : CN F 16 N) (wN : WfN n d N) (k2 : lsum d (no N) (nz N) < fW d → K (-2 : Int32) F) (k1 : fW d ≤ lsum d (no N) (nz N) → ∀ y, y ≤ 20 → bY d N y → (∀ x, x < y → ¬ bY d N x) → ∀ G, FrL cS F G → K (nI y) G) (k0 : fW d ≤ lsum d (no N) (nz N) → (∀ x, x ≤ 20 → ¬ bY d N x) → ∀ G, FrL cS F G → K (-4 : Int32) G) : wp_X6_years K F := by
  have hW := o'.2.2.2.1
  unfold wp_X6_years
  refine s_X0_isWhole c o' cN.2.2.2.2 wN.1 (fun hw => ⟨fun _ => ?_, fun e => absurd e (by decide)⟩) (fun hw => ⟨fun e => absurd rfl e, fun _ => k2 hw⟩)
  have main : ∀ m y (X : HF), 22 ≤ y + m → y ≤ 21 → FrL cS F X → (∀ x, x < y → ¬ bY d N x) → wp_X6_years_18 K m X (nI y) := by
    intro m
    induction m with
    | zero => intro y X h1 h2; omega
    | succ m ih =>
      intro y X h1 h2 f h3
      unfold wp_X6_years_18
      rw [nIlt (by omega) (by omega)]
      refine ⟨fun g => k0 hw (fun x hx => h3 x (by omega)) X f, fun g => ?_⟩
      have cX := cf_s c f
      have nX := cn_s cN f
      refine s_X0_copyRested (by omega) nX.2.2.2.2 wN.1.1 (fun G1 f1 b1 => ?_)
      have f1' : FrL cS F G1 := f.tr (f1.mono (fun a ha => by simp at ha ⊢; omega))
      have c1 := cf_s c f1'
      refine s_X1_width c1 (s_X1_weightIn c1 ?_)
      have hwg := wgt_le o' (y := y) (by omega)
      refine s_X0_walk c1 o' b1 wN.1 (by omega) (fun x _ => Nat.zero_le _) (Nat.zero_le _) (by omega) (by omega) (by omega) (fun G2 f2 => ?_)
      have f2' : FrL cS F G2 := f1'.tr (f2.mono (fun a ha => by simp at ha ⊢; omega))
      have hg := wlk_ge (d := d) (z := nz N) (o := no N) (om := fun q => wgt d y + wnd d (0 + q - 0)) (fW d - 0) 0 (fun _ => 0)
      refine s_X1_width (cf_s c f2') ?_
      rw [nIle (by omega) (by omega), nI_add]
      refine ⟨fun g2 => ih (y + 1) G2 (by omega) (by omega) f2' (fun x hx => ?_), fun g2 => k1 hw y (by omega) (Nat.lt_of_not_le g2) h3 G2 f2'⟩
      rcases Nat.lt_or_ge x y with e | e
      · exact h3 x e
      · have : x = y := by omega
        subst this; exact Nat.not_lt.mpr g2
  exact ⟨22, main 22 0 F (by omega) (by omega) FrL.rf (fun x hx => absurd hx (by omega))⟩
theorem s_X7_years {K : Int32 → HF → Prop} (m : MF F d) (o' : OkF d) (mN : MNf (F 120) N) (wN : WfN n d N) (k2 : lsum d (no N) (nz N) < fW d → K (-2 : Int32) F) (k1 : fW d ≤ lsum d (no N) (nz N) → ∀ y, y ≤ 20 → bY d N y → (∀ x, x < y → ¬ bY d N x) → ∀ G, FrL mS F G → K (nI y) G) (k0 : fW d ≤ lsum d (no N) (nz N) → (∀ x, x ≤ 20 → ¬ bY d N x) → ∀ G, FrL mS F G → K (-4 : Int32) G) : wp_X7_years K F := by
  have hW := o'.2.2.2.1
  unfold wp_X7_years
  refine s_X7_isWhole m o' mN.mb wN.1 (fun hw => ⟨fun _ => ?_, fun e => absurd e (by decide)⟩) (fun hw => ⟨fun e => absurd rfl e, fun _ => k2 hw⟩)
  have main : ∀ l y (X : HF), 22 ≤ y + l → y ≤ 21 → FrL mS F X → (∀ x, x < y → ¬ bY d N x) → wp_X7_years_16 K l X (nI y) := by
    intro l
    induction l with
    | zero => intro y X h1 h2; omega
    | succ l ih =>
      intro y X h1 h2 f h3
      unfold wp_X7_years_16
      rw [nIlt (by omega) (by omega)]
      refine ⟨fun g => k0 hw (fun x hx => h3 x (by omega)) X f, fun g => ?_⟩
      refine cpf_121 (mn_s mN f) wN.1.1 (fun G1 f1 b1 g1 g2 g3 => ⟨vin (by omega) (by omega), fun G2 e2 => ?_⟩)
      have e2' : G2 = hup G1 121 2 (nI y) := e2
      have f2 : FrL mS F G2 := by rw [e2']; exact (f.tr f1).tr (FrL.up (by simp))
      have a2 : ∀ j, j ≠ 2 → G2 121 j = G1 121 j := fun j hj => by rw [e2', hup_at, if_neg hj]
      refine s_X7_goesOver (t := fun _ => 0) (mi := 0) (ye := y) (q := 0) (mf_s m f2) o' ⟨by rw [a2 0 (by omega)]; exact b1.1, fun k hk => by rw [a2 _ (by omega)]; exact b1.2.1 k hk, fun k hk => by rw [a2 _ (by omega)]; exact b1.2.2 k hk⟩ wN.1 (by omega) (by omega) (fun x _ => Nat.zero_le _) (by rw [a2 1 (by omega)]; exact g1) (by rw [e2', hup_at, if_pos rfl]) (by rw [a2 3 (by omega)]; exact g3) (by omega) hw (by omega) (by omega) (fun hs Z fZ => ⟨fun _ => ?_, fun e => absurd e (by decide)⟩) (fun p hp hpW Z fZ z1 z3 => ⟨fun e => absurd rfl e, fun _ => ?_⟩)
      · rw [nI_add]
        refine ih (y + 1) Z (by omega) (by omega) (f2.tr fZ) (fun x hx => ?_)
        rcases Nat.lt_or_ge x y with e | e
        · exact h3 x e
        · have : x = y := by omega
          subst this; exact Nat.not_lt.mpr hs
      · refine k1 hw y (by omega) ?_ h3 Z (f2.tr fZ)
        show wlk d (nz N) (no N) (fun p => wgt d y + wnd d (0 + p - 0)) (fW d - 0) 0 (fun _ => 0) < fW d
        rw [hp]; exact hpW
  exact ⟨22, main 22 0 F (by omega) (by omega) FrL.rf (fun x hx => absurd hx (by omega))⟩
theorem t_years (h : Inv n F) : wp_X6_years (fun r F1 => wp_X7_years (fun r2 F2 => r = r2 ∧ Inv (n + 1) F2) F1) F := by
  obtain ⟨d, o', hb, i1, ⟨N, wN, cN, mN⟩, -⟩ := id h
  refine s_X6_years i1.1 o' cN wN (fun q => ?_) (fun q y hy b1 b2 G f => ?_) (fun q b G f => ?_)
  · exact s_X7_years i1.2 o' mN wN (fun _ => h.end Ag.rf rfl) (fun g => absurd q (by omega)) (fun g => absurd q (by omega))
  · refine s_X7_years (mf_c i1.2 f) o' (mn_c mN f) wN (fun g => absurd q (by omega)) (fun _ y' hy' c1 c2 H g => h.end ((ag_s f).tr (ag_m g)) ?_) (fun _ c => absurd b1 (c y hy))
    rcases Nat.lt_trichotomy y y' with e | e | e
    · exact absurd b1 (c2 y e)
    · rw [e]
    · exact absurd c1 (b2 y' e)
  · exact s_X7_years (mf_c i1.2 f) o' (mn_c mN f) wN (fun g => absurd q (by omega)) (fun _ y' hy' c1 _ => absurd c1 (b y' hy')) (fun _ _ H g => h.end ((ag_s f).tr (ag_m g)) rfl)
/-- who mends -/
abbrev rpl (N : ND) (k b : Nat) : Nat → Nat := fun i => if i = k then b else no N i
def mdB (d : FD) (N : ND) (k b : Nat) : Prop := (∀ i, i < nz N → no N i ≠ b) ∧ fL d b = fL d (no N k) ∧ fW d ≤ wlk d (nz N) (rpl N k b) (fun p => wgt d (nye N) + wnd d (nmi N + p - 0)) (fW d - 0) 0 (nt N)
theorem rpl_wf (wN : WfN n d N) {k b : Nat} (hb : b < fB d) (hn : ∀ i, i < nz N → no N i ≠ b) : WfB d (nz N) (rpl N k b) := by
  refine ⟨wN.1.1, fun i hi => ?_, fun i j hi hj e => ?_⟩
  · show (if i = k then b else no N i) < fB d
    by_cases g : i = k
    · rw [if_pos g]; exact hb
    · rw [if_neg g]; exact wN.1.2.1 i hi
  · have e : (if i = k then b else no N i) = (if j = k then b else no N j) := e
    by_cases g1 : i = k
    · by_cases g2 : j = k
      · omega
      · rw [if_pos g1, if_neg g2] at e; exact absurd e.symm (hn j hj)
    · by_cases g2 : j = k
      · rw [if_neg g1, if_pos g2] at e; exact absurd e (hn i hi)
      · rw [if_neg g1, if_neg g2] at e; exact wN.1.2.2 i j hi hj e
theorem rpl_ls {k b : Nat} (hl : fL d b = fL d (no N k)) : ∀ m, lsum d (rpl N k b) m = lsum d (no N) m := by
  intro m
  induction m with
  | zero => rfl
  | succ m ih =>
    show lsum d (rpl N k b) m + fL d (if m = k then b else no N m) = lsum d (no N) m + fL d (no N m)
    rw [ih]
    by_cases g : m = k
    · rw [if_pos g, hl, g]
    · rw [if_neg g]
theorem s_X6_mends {K : Int32 → HF → Prop} (c : CF F 4 d) (o' : OkF d) (cN : CN F 16 N) (wN : WfN n d N) (hn : n ≤ 600) (hw : fW d ≤ lsum d (no N) (nz N)) {k b : Nat} (hk : k < nz N) (hb : b < fB d) (k1 : mdB d N k b → ∀ G, FrL cS F G → K (nI 1) G) (k0 : ¬ mdB d N k b → ∀ G, FrL cS F G → K (nI 0) G) : wp_X6_mends K F (nI k) (nI b) := by
  have hW := o'.2.2.2.1
  have hB := o'.1
  have h8 := wN.1.1
  have hmi := wN.2.2.1
  have hwg := wgt_le o' (y := nye N) (by have := wN.2.2.2.1; omega)
  have hok := wN.1.2.1 k hk
  have hl1 := (o'.2.2.2.2.2.2.2.1 b hb).2.2.2.1
  have hl2 := (o'.2.2.2.2.2.2.2.1 _ hok).2.2.2.1
  unfold wp_X6_mends
  refine s_X0_positionOf cN.2.2.2.2 wN.1 o' (by omega) (fun i hi e => ⟨fun _ => k0 (fun m => m.1 i hi e) F FrL.rf, fun e2 => ?_⟩) (fun q => ⟨fun e => absurd rfl e, fun _ => ?_⟩)
  · rw [nI_ne_m4 (by omega)] at e2; exact e2.elim
  refine s_X1_lengthOf c o' hb (s_X0_birdAt cN.2.2.2.2 wN.1 hk (s_X1_lengthOf c o' hok ?_))
  rw [nIe (by omega) (by omega)]
  refine ⟨fun el => ?_, fun el => k0 (fun m => el m.2.1) F FrL.rf⟩
  refine s_X0_copyFrom (by omega) cN.2.2.2.2 h8 (fun G1 f1 b1 => s_X0_replace b1 h8 hk (fun G2 f2 b2 => ?_))
  have f2' : FrL cS F G2 := (f1.mono (fun a ha => by simp at ha ⊢; omega)).tr (f2.mono (fun a ha => by simp at ha ⊢; omega))
  have c2 := cf_s c f2'
  have n2 := cn_s cN f2'
  refine s_X1_width c2 (s_X2_minute n2 (s_X2_weight c2 n2 ?_))
  refine s_X0_walk c2 o' b2 (rpl_wf wN hb q) (by omega) wN.2.1 (Nat.zero_le _) (by rw [show lsum d (fun j => if j = k then b else no N j) (nz N) = lsum d (no N) (nz N) from rpl_ls el _]; exact hw) (by omega) (by omega) (fun G3 f3 => ?_)
  have f3' : FrL cS F G3 := f2'.tr (f3.mono (fun a ha => by simp at ha ⊢; omega))
  have hg := wlk_ge (d := d) (z := nz N) (o := fun j => if j = k then b else no N j) (om := fun q => wgt d (nye N) + wnd d (nmi N + q - 0)) (fW d - 0) 0 (nt N)
  refine s_X1_width (cf_s c f3') ?_
  rw [nIlt (by omega) (by omega)]
  exact ⟨fun g => k0 (fun m => absurd m.2.2 (Nat.not_le.mpr g)) G3 f3', fun g => k1 ⟨q, el, Nat.not_lt.mp g⟩ G3 f3'⟩
theorem t_mend (h : Inv n F) (hn : n ≤ 600) (a : Int32) : wp_X6_mend (fun r F1 => wp_X7_mend (fun r2 F2 => r = r2 ∧ Inv (n + 1) F2) F1 a) F a := by
  obtain ⟨d, o', hb, i1, ⟨N, wN, cN, mN⟩, -⟩ := id h
  have h8 := wN.1.1
  have hB := o'.1
  have hW := o'.2.2.2.1
  have hye := wN.2.2.2.1
  have hmi := wN.2.2.1
  have ref : ∀ (X : HF) (v : Int32) (k : Nat), FrL cS F X → k < nz N → (lsum d (no N) (nz N) < fW d → v = -2) → (fW d ≤ lsum d (no N) (nz N) → (∀ b, b < fB d → mdB d N k b → (∀ x, x < b → ¬ mdB d N k x) → v = nI b) ∧ ((∀ x, x < fB d → ¬ mdB d N k x) → v = -4)) → wp_X7_mend (fun r2 F2 => v = r2 ∧ Inv (n + 1) F2) X (nI k) := by
    intro X v k fX hk v2 v1
    have mX := mf_c i1.2 fX
    have nX := mn_c mN fX
    unfold wp_X7_mend
    rw [show X 120 (nI 0).toNatClampNeg = nI (nz N) from nX.1]
    refine ⟨vin (by omega) (by omega), s_inz (by omega) (fun x hx e => ⟨fun _ => ?_, fun e => absurd e (by decide)⟩) (fun q => absurd rfl (q k hk))⟩
    refine s_X7_isWhole mX o' nX.mb wN.1 (fun hw => ⟨fun _ => ?_, fun e => absurd e (by decide)⟩) (fun hw => ⟨fun e => absurd rfl e, fun _ => h.end (ag_s fX) (v2 hw)⟩)
    obtain ⟨va, vb⟩ := v1 hw
    have hok := wN.1.2.1 k hk
    have main : ∀ l b (Y : HF), fB d + 1 ≤ b + l → b ≤ fB d → FrL mS X Y → (∀ x, x < b → ¬ mdB d N k x) → wp_X7_mend_34 (fun r2 F2 => v = r2 ∧ Inv (n + 1) F2) l Y (nI k) (nI b) := by
      intro l
      induction l with
      | zero => intro b Y h1 h2; omega
      | succ l ih =>
        intro b Y h1 h2 f h3
        have mY := mf_s mX f
        have nY := mn_s nX f
        have ag := (ag_s fX).tr (ag_m f)
        have nxt : ∀ Z, FrL mS X Z → b < fB d → ¬ mdB d N k b → wp_X7_mend_131 (fun r2 F2 => v = r2 ∧ Inv (n + 1) F2) (wp_X7_mend_34 (fun r2 F2 => v = r2 ∧ Inv (n + 1) F2) l) Z (nI k) (nI b) := by
          intro Z fZ hbB hnot
          unfold wp_X7_mend_131
          rw [nI_add]
          refine ih (b + 1) Z (by omega) (by omega) fZ (fun x hx => ?_)
          rcases Nat.lt_or_ge x b with e | e
          · exact h3 x e
          · have : x = b := by omega
            subst this; exact hnot
        unfold wp_X7_mend_34
        rw [mY.1, nIle (by omega) (by omega)]
        refine ⟨fun g => h.end ag (vb (fun x hx => h3 x (by omega))), fun g => ?_⟩
        have hbB : b < fB d := by omega
        have hl1 := (o'.2.2.2.2.2.2.2.1 b hbB).2.2.2.1
        have hl2 := (o'.2.2.2.2.2.2.2.1 _ hok).2.2.2.1
        refine s_X7_placeIn o' nY.mb wN.1 (by omega) (fun i hi e => ⟨fun _ => nxt Y f hbB (fun m => m.1 i hi e), fun e2 => ?_⟩) (fun q => ⟨fun e => absurd rfl e, fun _ => ?_⟩)
        · rw [nI_ne_m4 (by omega)] at e2; exact e2.elim
        rw [show (nI 5 + nI k).toNatClampNeg = 5 + k from by rw [nI_add, nIcl (by omega)], nY.2.2.2.2.2.1 k hk, pk_mul, pk_mul, nI_add 5 k, nI_add, nI_add, nIcl (show 4 * b + 1 < 2 ^ 31 by omega), nIcl (show 4 * no N k + 1 < 2 ^ 31 by omega), mY.2.2.2.2.2.2.1 b hbB, mY.2.2.2.2.2.2.1 _ hok, nIe (by omega) (by omega)]
        refine ⟨vin (by omega) (by omega), vin (by omega) (by omega), vin (by omega) (by omega), fun el => nxt Y f hbB (fun m => el m.2.1), fun el => ?_⟩
        refine cp_121 nY h8 (fun G1 f1 g1 => ⟨vin (by omega) (by omega), fun G2 e2 => ⟨vin (by omega) (by omega), fun G3 e3 => ⟨vin (by omega) (by omega), fun G4 e4 => ?_⟩⟩⟩)
        have e3' : G3 = hup G2 121 3 (-1) := e3
        have e4' : G4 = hup G3 121 4 (nI 0) := e4
        have f4 : FrL mS X G4 := by rw [e4', e3', e2]; exact (((f.tr f1).tr (FrL.up (by simp))).tr (FrL.up (by simp))).tr (FrL.up (by simp))
        have a4 : ∀ j, j ≠ 3 → j ≠ 4 → j ≠ 5 + k → G4 121 j = G1 121 j := fun j x y w => by rw [e4', hup_at, if_neg y, e3', hup_at, if_neg x, e2, hup_at, if_neg w]
        have b4 : MB G4 121 (nz N) (rpl N k b) (nt N) := by
          refine ⟨by rw [a4 0 (by omega) (by omega) (by omega)]; exact g1.1, fun i hi => ?_, fun i hi => by rw [a4 _ (by omega) (by omega) (by omega)]; exact g1.2.2.2.2.2.2 i hi⟩
          show G4 121 (5 + i) = nI (if i = k then b else no N i)
          by_cases x : i = k
          · rw [if_pos x, e4', hup_at, if_neg (by omega), e3', hup_at, if_neg (by omega), e2, hup_at, if_pos (by omega)]
          · rw [if_neg x, a4 _ (by omega) (by omega) (by omega)]; exact g1.2.2.2.2.2.1 i hi
        refine s_X7_goesOver (mi := nmi N) (ye := nye N) (q := 0) (mf_s mX f4) o' b4 (rpl_wf wN hbB q) (by omega) (by omega) wN.2.1 (by rw [a4 1 (by omega) (by omega) (by omega)]; exact g1.2.1) (by rw [a4 2 (by omega) (by omega) (by omega)]; exact g1.2.2.1) (by rw [e4', hup_at, if_neg (by omega), e3', hup_at, if_pos rfl]; rfl) (by omega) (by rw [rpl_ls el]; exact hw) (by omega) (by omega) (fun hs Z fZ => ⟨fun e => absurd e (by decide), fun _ => ?_⟩) (fun p hp hpW Z fZ z1 z3 => ⟨fun _ => ?_, fun e => absurd rfl e⟩)
        · exact h.end ((ag_s fX).tr ((ag_m f4).tr (ag_m fZ))) (va b hbB ⟨q, el, hs⟩ h3)
        · refine nxt Z (f4.tr fZ) hbB (fun m => ?_)
          have := m.2.2
          rw [hp] at this
          omega
    exact ⟨fB d + 1, main _ 0 X (by omega) (by omega) FrL.rf (fun x hx => absurd hx (by omega))⟩
  have bad : (∀ x, x < nz N → a ≠ nI x) → wp_X7_mend (fun r2 F2 => (-1 : Int32) = r2 ∧ Inv (n + 1) F2) F a := by
    intro q
    unfold wp_X7_mend
    rw [show F 120 (nI 0).toNatClampNeg = nI (nz N) from mN.1]
    exact ⟨vin (by omega) (by omega), s_inz (by omega) (fun x hx e => absurd e (q x hx)) (fun _ => ⟨fun e => absurd rfl e, fun _ => h.end Ag.rf rfl⟩)⟩
  have core : ∀ k, k < nz N → a = nI k → wp_X0_isWhole (fun x2 F2 => ((¬ x2 = nI 0) → (∃ m_, wp_X6_mend_34 (fun r F1 => wp_X7_mend (fun r2 F2 => r = r2 ∧ Inv (n + 1) F2) F1 a) m_ F2 a (nI 0))) ∧ ((x2 = nI 0) → (wp_X7_mend (fun r2 F2 => (-2 : Int32) = r2 ∧ Inv (n + 1) F2) F2 a))) F 17 := by
    intro k hk e
    subst e
    refine s_X0_isWhole i1.1 o' cN.2.2.2.2 wN.1 (fun hw => ⟨fun _ => ?_, fun e => absurd e (by decide)⟩) (fun hw => ⟨fun e => absurd rfl e, fun _ => ref F _ k FrL.rf hk (fun _ => rfl) (fun g => absurd hw (by omega))⟩)
    have main : ∀ l b (X : HF), fB d + 1 ≤ b + l → b ≤ fB d → FrL cS F X → (∀ x, x < b → ¬ mdB d N k x) → wp_X6_mend_34 (fun r F1 => wp_X7_mend (fun r2 F2 => r = r2 ∧ Inv (n + 1) F2) F1 (nI k)) l X (nI k) (nI b) := by
      intro l
      induction l with
      | zero => intro b X h1 h2; omega
      | succ l ih =>
        intro b X h1 h2 f h3
        unfold wp_X6_mend_34
        refine s_X1_birds (cf_s i1.1 f) ?_
        rw [nIle (by omega) (by omega)]
        refine ⟨fun g => ref X _ k f hk (fun g2 => absurd hw (by omega)) (fun _ => ⟨fun b' hb' m _ => absurd m (h3 b' (by omega)), fun _ => rfl⟩), fun g => ?_⟩
        refine s_X6_mends (cf_s i1.1 f) o' (cn_s cN f) wN hn hw hk (by omega) (fun m Z fZ => ⟨fun e => absurd e (by decide), fun _ => ?_⟩) (fun m Z fZ => ⟨fun _ => ?_, fun e => absurd rfl e⟩)
        · refine ref Z _ k (f.tr fZ) hk (fun g2 => absurd hw (by omega)) (fun _ => ⟨fun b' hb' m' h3' => ?_, fun q => absurd m (q b (by omega))⟩)
          rcases Nat.lt_trichotomy b b' with e | e | e
          · exact absurd m (h3' b e)
          · rw [e]
          · exact absurd m' (h3 b' e)
        · rw [nI_add]
          refine ih (b + 1) Z (by omega) (by omega) (f.tr fZ) (fun x hx => ?_)
          rcases Nat.lt_or_ge x b with e | e
          · exact h3 x e
          · have : x = b := by omega
            subst this; exact m
    exact ⟨fB d + 1, main _ 0 F (by omega) (by omega) FrL.rf (fun x hx => absurd hx (by omega))⟩
  have T := c_inz (a := a) (z := nz N) (A := wp_X7_mend (fun r2 F2 => (-1 : Int32) = r2 ∧ Inv (n + 1) F2) F a) (by omega) core bad
  unfold wp_X6_mend wp_X0_size
  rw [show F 17 4 = nI (nz N) from cN.2.2.2.2.1]
  exact ⟨fun q => T.1 q, fun q => ⟨fun q2 => (T.2 q).2 (Int32.not_le.mpr q2), fun q2 => (T.2 q).1 (Int32.not_lt.mp q2)⟩⟩
end Top8
