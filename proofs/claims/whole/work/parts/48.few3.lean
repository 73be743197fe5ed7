abbrev fS3 : List Nat := [121, 129, 131, 132]
def XR (F X : HF) (N : ND) (k : Nat) (g : Nat → Nat) (b : Nat) : Prop := FrL fS3 F X ∧ X 131 2 = nI (nye N) ∧ (∀ i, i < k → X 131 (5 + i) = nI (g i)) ∧ (∀ i, i < 8 → X 131 (13 + i) = nI (nt N i)) ∧ (∀ i, i < k → X 132 i = nI (g i + 1)) ∧ X 132 k = nI b
section Few3
variable {F : HF} {n : Nat} {d : FD} {N : ND}
theorem mf_3 {X : HF} (m : MF F d) (f : FrL fS3 F X) : MF X d := m.fr f (by simp) (by simp) (by simp)
theorem pI_dec (k : Nat) : nI k + (-1 : Int32) = pI k := by
  rcases Nat.eq_zero_or_pos k with e | e
  · subst e; decide
  · obtain ⟨j, rfl⟩ : ∃ j, k = j + 1 := ⟨k - 1, by omega⟩
    rw [pk_m1, pI_s]
theorem cpr_121 {K : HF → Prop} {k ye : Nat} {g : Nat → Nat} (hk : k ≤ 8) (h0 : F 131 0 = nI k) (h2 : F 131 2 = nI ye) (h5 : ∀ i, i < k → F 131 (5 + i) = nI (g i)) (kk : ∀ G, FrL [121] F G → MB G 121 k g (fun _ => 0) → G 121 1 = nI 0 → G 121 2 = nI ye → G 121 3 = pI 0 → K G) : wp_X7_copy (fun F1 => wp_X7_freshen K F1 121 21) F 131 21 121 21 (nI 0) (nI 0) := by
  refine s_X7_copy (x := 0) (y := 0) (by decide) (by omega) (by omega) (by omega) (by omega) (fun G f gg => s_X7_freshen (fun H f2 g1 g2 g3 g4 g5 => kk H (f.tr f2) ⟨?_, ?_, g2⟩ g3 ?_ g4))
  · rw [g1 0 (by omega), gg, if_pos (by omega)]; exact h0
  · intro i hi
    rw [g1 (5 + i) (by omega), gg, if_pos (by omega)]
    show F 131 (0 + (5 + i - 0)) = _
    rw [show 0 + (5 + i - 0) = 5 + i by omega]; exact h5 i hi
  · rw [g1 2 (by omega), gg, if_pos (by omega)]; exact h2
/-- what is known of a state in which the k birds g are chosen -/
def XQ (F Y : HF) (N : ND) (k : Nat) (g : Nat → Nat) : Prop := FrL fS3 F Y ∧ Y 131 2 = nI (nye N) ∧ (∀ i, i < k → Y 131 (5 + i) = nI (g i)) ∧ (∀ i, i < 8 → Y 131 (13 + i) = nI (nt N i)) ∧ ∀ i, i < k → Y 132 i = nI (g i + 1)
def noS (d : FD) (w sz k : Nat) (g : Nat → Nat) : Prop := ∀ g', sol d w sz g' → ¬ ∀ i, i < k → g' i = g i
def ivS (d : FD) (w sz k : Nat) (g : Nat → Nat) (b : Nat) : Prop := ∀ g', sol d w sz g' → (∀ j, j < k → (∀ i, i < j → g' i = g i) → ¬ g' j < g j) ∧ (k < sz → (∀ i, i < k → g' i = g i) → ¬ g' k < b)
theorem s_X7_findOf {K : Int32 → HF → Prop} (m : MF F d) (o' : OkF d) (mN : MNf (F 120) N) (wN : WfN n d N) {sz : Nat} (hs1 : 1 ≤ sz) (hs8 : sz ≤ 8) (k1 : ∀ g, sol d (wgt d (nye N)) sz g → (∀ g', sol d (wgt d (nye N)) sz g' → ¬ lx g' g sz) → ∀ X, FrL fS3 F X → (∀ i, i < sz → X 131 (5 + i) = nI (g i)) → K (nI 1) X) (k0 : (∀ g, ¬ sol d (wgt d (nye N)) sz g) → ∀ X, FrL fS3 F X → K (nI 0) X) : wp_X7_findOf K F (nI sz) := by
  have hB := o'.1
  have hW := o'.2.2.2.1
  have hye := wN.2.2.2.1
  have hwg := wgt_le o' (y := nye N) (by omega)
  have eom : (fun p => wgt d (nye N) + wnd d (0 + p - 0)) = (fun p => wgt d (nye N) + wnd d p) := by funext p; rw [Nat.zero_add, Nat.sub_zero]
  -- the head of the loop: what it comes to at a depth within
  have head : ∀ (l k : Nat) (X : HF), k ≤ sz → (∀ Y, Y = hup X 131 0 (nI k) → ((sz ≤ k → wp_X7_findOf_63 K (wp_X7_findOf_29 K l) Y (nI sz) (nI k) (nI 0)) ∧ (k < sz → ((Y 100 13 ≤ Y 132 k → wp_X7_findOf_63 K (wp_X7_findOf_29 K l) Y (nI sz) (nI k) (nI 0)) ∧ (¬ Y 100 13 ≤ Y 132 k → wp_X7_findOf_63 K (wp_X7_findOf_29 K l) Y (nI sz) (nI k) (nI 1)))))) → wp_X7_findOf_29 K (l + 1) X (nI sz) (nI k) := by
    intro l k X hk H
    unfold wp_X7_findOf_29 wp_X7_findOf_62
    refine ⟨fun q => absurd q (nI_pos (by omega)), fun _ => ⟨vin (by omega) (by omega), fun Y eY => ?_⟩⟩
    have h2 := H Y eY
    rw [nIle (by omega) (by omega), nIcl (by omega)]
    exact ⟨fun q => h2.1 q, fun q => ⟨vin (by omega) (by omega), (h2.2 (by omega)).1, (h2.2 (by omega)).2⟩⟩
  have yF : ∀ (k b : Nat) (g : Nat → Nat) (X Y : HF), k ≤ 8 → XR F X N k g b → Y = hup X 131 0 (nI k) → XR F Y N k g b ∧ MB Y 131 k g (nt N) := by
    intro k b g X Y hk xr e
    obtain ⟨f, x2, x5, x13, xn, xb⟩ := xr
    have aY : ∀ j, j ≠ 0 → Y 131 j = X 131 j := fun j hj => by rw [e, hup_at, if_neg hj]
    have nY : Y 132 = X 132 := by rw [e, hup_n _ _ _ (by omega)]
    have y5 : ∀ i, i < k → Y 131 (5 + i) = nI (g i) := fun i hi => by rw [aY _ (by omega)]; exact x5 i hi
    have y13 : ∀ i, i < 8 → Y 131 (13 + i) = nI (nt N i) := fun i hi => by rw [aY _ (by omega)]; exact x13 i hi
    exact ⟨⟨by rw [e]; exact f.tr (FrL.up (by simp)), by rw [aY 2 (by omega)]; exact x2, y5, y13, by rw [nY]; exact xn, by rw [nY]; exact xb⟩, ⟨by rw [e, hup_at, if_pos rfl], y5, y13⟩⟩
  have dfs : ∀ r k, k + r = sz → ∀ g, vsq d k g → (noS d (wgt d (nye N)) sz k g → ∃ l, ∀ Y, XQ F Y N k g → wp_X7_findOf_29 K l Y (nI sz) (pI k)) → ∀ c b, b + c = fB d → ivS d (wgt d (nye N)) sz k g b → ∃ l, ∀ X, XR F X N k g b → wp_X7_findOf_29 K l X (nI sz) (nI k) := by
    intro r
    induction r with
    | zero =>
      intro k hkr g vs pop c b hbc inv
      have ek : k = sz := by omega
      subst ek
      have wf := vsq_wf o' k vs
      by_cases hsol : sol d (wgt d (nye N)) k g
      · -- it is found
        refine ⟨0 + 1, fun X xr => head 0 k X (by omega) (fun Y eY => ⟨fun _ => ?_, fun q => absurd q (by omega)⟩)⟩
        obtain ⟨xY, bY⟩ := yF k b g X Y (by omega) xr eY
        unfold wp_X7_findOf_63
        refine ⟨fun q => absurd rfl q, fun _ => s_X7_isWhole (mf_3 m xY.1) o' bY wf (fun hw => ⟨fun e => absurd e (by decide), fun _ => ?_⟩) (fun hw => absurd hsol.2.1 (by omega))⟩
        refine cpr_121 (by omega) bY.1 xY.2.1 bY.2.1 (fun Z fZ bZ z1 z2 z3 => ?_)
        have fZ' : FrL fS3 F Z := xY.1.tr (fZ.mono (fun a ha => by simp at ha; simp [ha]))
        refine s_X7_goesOver (t := fun _ => 0) (mi := 0) (ye := nye N) (q := 0) (mf_3 m fZ') o' bZ wf (by omega) (by omega) (fun x _ => Nat.zero_le _) z1 z2 z3 (by omega) hw (by omega) (by omega) (fun hs V fV => ⟨fun e => absurd e (by decide), fun _ => ?_⟩) (fun p hp hpW V fV v1 v3 => ?_)
        · refine k1 g hsol (fun g' m' lq => ?_) V (fZ'.tr (fV.mono (fun a ha => by simp at ha; rcases ha with e | e <;> simp [e]))) (fun i hi => ?_)
          · obtain ⟨j, j1, j2, j3⟩ := lq
            exact (inv g' m').1 j j1 j2 j3
          · rw [fV 131 (by simp), fZ 131 (by simp)]; exact bY.2.1 i hi
        · exfalso
          rw [eom, Nat.sub_zero] at hp
          have := hsol.2.2
          omega
      · -- it is not: back
        obtain ⟨l, hl⟩ := pop (fun g' m' e => hsol (sol_cong e o' m'))
        have back : ∀ V, XQ F V N k g → wp_X7_findOf_114 K (wp_X7_findOf_29 K l) V (nI k) (nI k) (nI 0) := by
          intro V xq
          unfold wp_X7_findOf_114 wp_X7_findOf_175
          rw [pI_dec]
          exact ⟨fun _ => hl V xq, fun e => absurd rfl e⟩
        refine ⟨l + 1, fun X xr => head l k X (by omega) (fun Y eY => ⟨fun _ => ?_, fun q => absurd q (by omega)⟩)⟩
        obtain ⟨xY, bY⟩ := yF k b g X Y (by omega) xr eY
        unfold wp_X7_findOf_63
        refine ⟨fun q => absurd rfl q, fun _ => s_X7_isWhole (mf_3 m xY.1) o' bY wf (fun hw => ⟨fun e => absurd e (by decide), fun _ => ?_⟩) (fun hw => ⟨fun _ => back Y ⟨xY.1, xY.2.1, xY.2.2.1, xY.2.2.2.1, xY.2.2.2.2.1⟩, fun e => absurd rfl e⟩)⟩
        refine cpr_121 (by omega) bY.1 xY.2.1 bY.2.1 (fun Z fZ bZ z1 z2 z3 => ?_)
        have fZ' : FrL fS3 F Z := xY.1.tr (fZ.mono (fun a ha => by simp at ha; simp [ha]))
        refine s_X7_goesOver (t := fun _ => 0) (mi := 0) (ye := nye N) (q := 0) (mf_3 m fZ') o' bZ wf (by omega) (by omega) (fun x _ => Nat.zero_le _) z1 z2 z3 (by omega) hw (by omega) (by omega) (fun hs V fV => ?_) (fun p hp hpW V fV v1 v3 => ⟨fun _ => back V ⟨fZ'.tr (fV.mono (fun a ha => by simp at ha; rcases ha with e | e <;> simp [e])), ?_, fun i hi => ?_, fun i hi => ?_, fun i hi => ?_⟩, fun e => absurd rfl e⟩)
        · rw [eom, Nat.sub_zero] at hs
          exact absurd ⟨vs, hw, hs⟩ hsol
        · rw [fV 131 (by simp), fZ 131 (by simp)]; exact xY.2.1
        · rw [fV 131 (by simp), fZ 131 (by simp)]; exact bY.2.1 i hi
        · rw [fV 131 (by simp), fZ 131 (by simp)]; exact bY.2.2 i hi
        · rw [fV 132 (by simp), fZ 132 (by simp)]; exact xY.2.2.2.2.1 i hi
    | succ r ihr =>
      intro k hkr g vs pop c
      have wf := vsq_wf o' k vs
      induction c with
      | zero =>
        intro b hbc inv
        obtain ⟨l, hl⟩ := pop (fun g' m' e => (inv g' m').2 (by omega) e (by have := (m'.1 k (by omega)).1; omega))
        refine ⟨l + 1, fun X xr => head l k X (by omega) (fun Y eY => ⟨fun q => absurd q (by omega), fun _ => ?_⟩)⟩
        obtain ⟨xY, bY⟩ := yF k b g X Y (by omega) xr eY
        rw [xY.2.2.2.2.2, (mf_3 m xY.1).1, nIle (by omega) (by omega)]
        refine ⟨fun _ => ?_, fun q => absurd (show fB d ≤ b by omega) q⟩
        unfold wp_X7_findOf_63
        refine ⟨fun _ => ?_, fun q => ?_⟩
        · unfold wp_X7_findOf_114 wp_X7_findOf_175
          rw [pI_dec]
          exact ⟨fun _ => hl Y ⟨xY.1, xY.2.1, xY.2.2.1, xY.2.2.2.1, xY.2.2.2.2.1⟩, fun e => absurd rfl e⟩
        · rw [nIe (by omega) (by omega)] at q; omega
      | succ c ihc =>
        intro b hbc inv
        have hb : b < fB d := by omega
        -- the state behind 'next', joined or not
        by_cases hmj : mj d k g b
        · have hk8 : k < 8 := mj_lt o' wf hb hmj
          have ag1 : ∀ g' : Nat → Nat, (∀ i, i < k → g' i = g i) → g' k = b → ∀ i, i < k + 1 → g' i = (fun i => if i = k then b else g i) i := fun g' e1 e2 i hi => by
            show g' i = if i = k then b else g i
            by_cases e : i = k
            · rw [if_pos e, e, e2]
            · rw [if_neg e, e1 i (by omega)]
          have vs1 : vsq d (k + 1) (fun i => if i = k then b else g i) := fun i hi => by
            show (if i = k then b else g i) < fB d ∧ mj d i (fun i => if i = k then b else g i) (if i = k then b else g i)
            by_cases e : i = k
            · rw [if_pos e, e]
              exact ⟨hb, mj_cong (fun j hj => by show g j = if j = k then b else g j; rw [if_neg (by omega)]) hmj⟩
            · rw [if_neg e]
              exact ⟨(vs i (by omega)).1, mj_cong (fun j hj => by show g j = if j = k then b else g j; rw [if_neg (by omega)]) (vs i (by omega)).2⟩
          have pop1 : noS d (wgt d (nye N)) sz (k + 1) (fun i => if i = k then b else g i) → ∃ l, ∀ Y, XQ F Y N (k + 1) (fun i => if i = k then b else g i) → wp_X7_findOf_29 K l Y (nI sz) (pI (k + 1)) := by
            intro hno
            obtain ⟨l, hl⟩ := ihc (b + 1) (by omega) (fun g' m' => ⟨(inv g' m').1, fun h1 h2 h3 => by
              rcases Nat.lt_or_ge (g' k) b with x | x
              · exact (inv g' m').2 h1 h2 x
              · exact hno g' m' (ag1 g' h2 (by omega))⟩)
            refine ⟨l, fun Y xq => ?_⟩
            rw [pI_s]
            refine hl Y ⟨xq.1, xq.2.1, fun i hi => ?_, xq.2.2.2.1, fun i hi => ?_, ?_⟩
            · rw [xq.2.2.1 i (by omega)]; show nI (if i = k then b else g i) = _; rw [if_neg (by omega)]
            · rw [xq.2.2.2.2 i (by omega)]; show nI ((if i = k then b else g i) + 1) = _; rw [if_neg (by omega)]
            · rw [xq.2.2.2.2 k (by omega)]; show nI ((if k = k then b else g k) + 1) = _; rw [if_pos rfl]
          obtain ⟨l, hl⟩ := ihr (k + 1) (by omega) (fun i => if i = k then b else g i) vs1 pop1 (fB d) 0 (by omega) (fun g' m' => ⟨fun j hj h2 h3 => by
            have h2' : ∀ i, i < j → g' i = g i := fun i hi => by rw [h2 i hi]; show (if i = k then b else g i) = _; rw [if_neg (by omega)]
            by_cases e : j = k
            · subst e
              have h3 : g' j < (if j = j then b else g j) := h3
              rw [if_pos rfl] at h3
              exact (inv g' m').2 (by omega) h2' h3
            · have h3 : g' j < (if j = k then b else g j) := h3
              rw [if_neg e] at h3
              exact (inv g' m').1 j (by omega) h2' h3, fun _ _ h3 => absurd h3 (by omega)⟩)
          refine ⟨l + 1, fun X xr => head l k X (by omega) (fun Y eY => ⟨fun q => absurd q (by omega), fun _ => ?_⟩)⟩
          obtain ⟨xY, bY⟩ := yF k b g X Y (by omega) xr eY
          rw [xY.2.2.2.2.2, (mf_3 m xY.1).1, nIle (by omega) (by omega)]
          refine ⟨fun q => absurd q (by omega), fun _ => ?_⟩
          unfold wp_X7_findOf_63
          refine ⟨fun _ => ?_, fun q => by rw [nIe (by omega) (by omega)] at q; omega⟩
          unfold wp_X7_findOf_114 wp_X7_findOf_169 wp_X7_findOf_175
          refine ⟨fun e => absurd e (by decide), fun _ => ⟨vin (by omega) (by omega), vin (by omega) (by omega), vin (by omega) (by omega), fun V eV => ?_⟩⟩
          rw [nIcl (by omega), xY.2.2.2.2.2] at eV ⊢
          have fV : FrL fS3 F V := by rw [eV]; exact xY.1.tr (FrL.up (by simp))
          have bV : MB V 131 k g (nt N) := bY.fr (L := [132]) (by rw [eV]; exact FrL.up (by simp)) (by simp)
          refine s_X7_mayJoin (mf_3 m fV) o' bV wf hb (fun _ => ⟨fun e => absurd e (by decide), fun _ => ?_⟩) (fun q => absurd hmj q)
          rw [nI_add, nIcl (by omega)]
          refine ⟨vin (by omega) (by omega), fun V2 e2 => ?_⟩
          rw [nI_add, nIcl (by omega)]
          refine ⟨vin (by omega) (by omega), fun V3 e3 => hl V3 ⟨?_, ?_, fun i hi => ?_, fun i hi => ?_, fun i hi => ?_, ?_⟩⟩
          · rw [e3, e2]; exact (fV.tr (FrL.up (by simp))).tr (FrL.up (by simp))
          · rw [e3, hup_n _ _ _ (by omega), e2, hup_at, if_neg (by omega), eV, hup_n _ _ _ (by omega)]; exact xY.2.1
          · rw [e3, hup_n _ _ _ (by omega), e2, hup_at]
            show _ = nI (if i = k then b else g i)
            by_cases e : i = k
            · rw [if_pos (by omega), if_pos e]
            · rw [if_neg (by omega), if_neg e, eV, hup_n _ _ _ (by omega)]; exact bY.2.1 i (by omega)
          · rw [e3, hup_n _ _ _ (by omega), e2, hup_at, if_neg (by omega), eV, hup_n _ _ _ (by omega)]; exact bY.2.2 i hi
          · rw [e3, hup_at, if_neg (by omega), e2, hup_n _ _ _ (by omega), eV, hup_at]
            show _ = nI ((if i = k then b else g i) + 1)
            by_cases e : i = k
            · rw [if_pos e, if_pos e, nI_add]
            · rw [if_neg e, if_neg e]; exact xY.2.2.2.2.1 i (by omega)
          · rw [e3, hup_at, if_pos rfl]
        · obtain ⟨l, hl⟩ := ihc (b + 1) (by omega) (fun g' m' => ⟨(inv g' m').1, fun h1 h2 h3 => by
            rcases Nat.lt_or_ge (g' k) b with x | x
            · exact (inv g' m').2 h1 h2 x
            · apply hmj
              have := mj_cong h2 (m'.1 k h1).2
              rw [show g' k = b by omega] at this
              exact this⟩)
          refine ⟨l + 1, fun X xr => head l k X (by omega) (fun Y eY => ⟨fun q => absurd q (by omega), fun _ => ?_⟩)⟩
          obtain ⟨xY, bY⟩ := yF k b g X Y (by omega) xr eY
          rw [xY.2.2.2.2.2, (mf_3 m xY.1).1, nIle (by omega) (by omega)]
          refine ⟨fun q => absurd q (by omega), fun _ => ?_⟩
          unfold wp_X7_findOf_63
          refine ⟨fun _ => ?_, fun q => by rw [nIe (by omega) (by omega)] at q; omega⟩
          unfold wp_X7_findOf_114 wp_X7_findOf_169 wp_X7_findOf_175
          refine ⟨fun e => absurd e (by decide), fun _ => ⟨vin (by omega) (by omega), vin (by omega) (by omega), vin (by omega) (by omega), fun V eV => ?_⟩⟩
          rw [nIcl (by omega), xY.2.2.2.2.2] at eV ⊢
          have fV : FrL fS3 F V := by rw [eV]; exact xY.1.tr (FrL.up (by simp))
          have bV : MB V 131 k g (nt N) := bY.fr (L := [132]) (by rw [eV]; exact FrL.up (by simp)) (by simp)
          refine s_X7_mayJoin (mf_3 m fV) o' bV wf hb (fun q => absurd q hmj) (fun _ => ⟨fun _ => hl V ⟨fV, ?_, bV.2.1, bV.2.2, fun i hi => ?_, ?_⟩, fun e => absurd rfl e⟩)
          · rw [eV, hup_n _ _ _ (by omega)]; exact xY.2.1
          · rw [eV, hup_at, if_neg (by omega)]; exact xY.2.2.2.2.1 i hi
          · rw [eV, hup_at, if_pos rfl, nI_add]
  unfold wp_X7_findOf
  refine s_X7_copy (x := 0) (y := 0) (by decide) (by omega) (by omega) (by omega) (by omega) (fun G f gg => ⟨vin (by omega) (by omega), fun F2 e2 => ⟨vin (by omega) (by omega), fun F3 e3 => ?_⟩⟩)
  have e2' : F2 = hup G 131 0 (nI 0) := e2
  have e3' : F3 = hup F2 132 0 (nI 0) := e3
  obtain ⟨l, hl⟩ := dfs sz 0 (by omega) (fun _ => 0) (fun k hk => absurd hk (by omega)) (fun hno => ⟨1, fun Y xq => by
    rw [pI_0]
    unfold wp_X7_findOf_29
    exact ⟨fun _ => k0 (fun g' m' => hno g' m' (fun i hi => absurd hi (by omega))) Y xq.1, fun q => absurd (by decide) q⟩⟩) (fB d) 0 (by omega) (fun g' m' => ⟨fun j hj => absurd hj (by omega), fun _ _ h3 => absurd h3 (by omega)⟩)
  refine ⟨l, hl F3 ⟨?_, ?_, fun i hi => absurd hi (by omega), fun i hi => ?_, fun i hi => absurd hi (by omega), ?_⟩⟩
  · rw [e3', e2']; exact ((f.mono (fun a ha => by simp at ha; simp [ha])).tr (FrL.up (by simp))).tr (FrL.up (by simp))
  · rw [e3', hup_n _ _ _ (by omega), e2', hup_at, if_neg (by omega), gg, if_pos (by omega)]; exact mN.2.2.1
  · rw [e3', hup_n _ _ _ (by omega), e2', hup_at, if_neg (by omega), gg, if_pos (by omega)]
    show F 120 (0 + (13 + i - 0)) = _
    rw [show 0 + (13 + i - 0) = 13 + i by omega]; exact mN.2.2.2.2.2.2 i hi
  · rw [e3', hup_at, if_pos rfl]
end Few3
