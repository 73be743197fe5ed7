def la (d : FD) (z : Nat) (o : Nat → Nat) (wg m : Nat) : Nat → Nat := if m < fW d then prs d o (fun _ => 0) z m (wg + wnd d m) else fun _ => 0
def bld (d : FD) (z : Nat) (o : Nat → Nat) (wg h t m : Nat) : Nat → Nat := if m < t then la d z o wg m else prs d o (la d z o wg m) z (fW d - 1 - (m - t)) (if m < fW d then h else h + wnd d m)
def bgo (d : FD) (z : Nat) (o : Nat → Nat) (wg h t : Nat) : Nat → Nat → (Nat → Nat) → Prop
  | 0, _, _ => True
  | l + 1, m, u => setl d z o u (bld d z o wg h t m) ∧ bgo d z o wg h t l (m + 1) (tir d o (bld d z o wg h t m) z u)
theorem prs_le (d : FD) (o w : Nat → Nat) (z p L i : Nat) : prs d o w z p L i ≤ w i + L := by
  unfold prs
  split
  · have := part_le (dist i (hol d o p z)) L; omega
  · omega
theorem bld_le {d : FD} (o' : OkF d) {z : Nat} {o : Nat → Nat} {wg h t m : Nat} (hwg : wg ≤ 850) (hh : h ≤ 40) (i : Nat) : bld d z o wg h t m i ≤ 2000 := by
  have hw := wnd_le o' m
  have h1 : la d z o wg m i ≤ 870 := by
    unfold la
    split
    · have := prs_le d o (fun _ => 0) z m (wg + wnd d m) i; omega
    · exact Nat.zero_le _
  unfold bld
  split
  · omega
  · have := prs_le d o (la d z o wg m) z (fW d - 1 - (m - t)) (if m < fW d then h else h + wnd d m) i
    have hx : (if m < fW d then h else h + wnd d m) ≤ 60 := by split <;> omega
    omega
section Top9
variable {F G : HF} {n : Nat} {d : FD} {N : ND}
theorem s_X6_both {K : Int32 → HF → Prop} (c : CF F 4 d) (o' : OkF d) (cN : CN F 16 N) (wN : WfN n d N) (hw : fW d ≤ lsum d (no N) (nz N)) {h t : Nat} (hh : h ≤ 40) (ht : t ≤ 20) (k1 : bgo d (nz N) (no N) (wgt d (nye N)) h t (t + fW d) 0 (fun _ => 0) → ∀ G, FrL cS F G → K (nI 1) G) (k0 : ¬ bgo d (nz N) (no N) (wgt d (nye N)) h t (t + fW d) 0 (fun _ => 0) → ∀ G, FrL cS F G → K (nI 0) G) : wp_X6_bothComeOver K F (nI h) (nI t) := by
  have hW := o'.2.2.2.1
  have hW1 := o'.2.2.1
  have h8 := wN.1.1
  have hwg := wgt_le o' (y := nye N) (by have := wN.2.2.2.1; omega)
  unfold wp_X6_bothComeOver
  refine s_X0_copyRested (by omega) cN.2.2.2.2 h8 (fun G1 f1 b1 => ?_)
  have f1' : FrL cS F G1 := f1.mono (fun a ha => by simp at ha ⊢; omega)
  refine s_X1_width (cf_s c f1') ?_
  have main : ∀ l m r (X : HF) (u : Nat → Nat), r < l → m + r = t + fW d → FrL cS F X → CB X 21 (nz N) (no N) u → (∀ x, x < fB d → u x ≤ fS d x) → (bgo d (nz N) (no N) (wgt d (nye N)) h t (t + fW d) 0 (fun _ => 0) ↔ bgo d (nz N) (no N) (wgt d (nye N)) h t r m u) → wp_X6_bothComeOver_25 K l X (nI h) (nI t) (nI (fW d)) (nI m) := by
    intro l
    induction l with
    | zero => intro m r X u h0; omega
    | succ l ih =>
      intro m r X u h0 h1 f b hu hi
      unfold wp_X6_bothComeOver_25
      rw [nI_add, nIle (by omega) (by omega)]
      refine ⟨fun g => ?_, fun g => ?_⟩
      · have : r = 0 := by omega
        subst this
        exact k1 (hi.mpr trivial) X f
      obtain ⟨r', rfl⟩ : ∃ r', r = r' + 1 := ⟨r - 1, by omega⟩
      have cX := cf_s c f
      have hwn := wnd_le o' m
      -- the end of the minute
      have s122 : ∀ Y, FrL cS F Y → CB Y 21 (nz N) (no N) u → (∀ i, i < 8 → Y 24 i = nI (bld d (nz N) (no N) (wgt d (nye N)) h t m i)) → wp_X6_bothComeOver_122 K (wp_X6_bothComeOver_25 K l) Y (nI h) (nI t) (nI (fW d)) (nI m) := by
        intro Y fY bY gY
        unfold wp_X6_bothComeOver_122
        refine s_X0_settle (w := bld d (nz N) (no N) (wgt d (nye N)) h t m) (cf_s c fY) o' bY wN.1 (by omega) (fun k hk => hu _ (wN.1.2.1 k hk)) gY (fun i _ => by have := bld_le o' (z := nz N) (o := no N) (t := t) (m := m) hwg hh i; omega) (fun hs Z fZ bZ => ⟨fun _ => ?_, fun e => absurd e (by decide)⟩) (fun hs => ⟨fun e => absurd rfl e, fun _ => k0 (fun x => hs (hi.mp x).1) Y fY⟩)
        rw [nI_add]
        exact ih (m + 1) r' Z _ (by omega) (by omega) (fY.tr (fZ.mono (fun a ha => by simp at ha ⊢; omega))) bZ (tir_le o' wN.1 hu hs) (hi.trans ⟨fun x => x.2, fun x => ⟨hs, x⟩⟩)
      have s119 : ∀ (Y : HF) (x : Nat), FrL cS F Y → CB Y 21 (nz N) (no N) u → (∀ i, i < 8 → Y 24 i = nI (la d (nz N) (no N) (wgt d (nye N)) m i)) → t ≤ m → x = (if m < fW d then h else h + wnd d m) → wp_X6_bothComeOver_119 K (wp_X6_bothComeOver_25 K l) Y (nI h) (nI t) (nI (fW d)) (nI m) ((nI (fW d) - nI 1) - (nI m - nI t)) (nI x) := by
        intro Y x fY bY gY htm hx
        unfold wp_X6_bothComeOver_119
        rw [nIsub hW1, nIsub htm, nIsub (by omega)]
        have hx2 : x ≤ 60 := by rw [hx]; split <;> omega
        refine s_X0_press (w := la d (nz N) (no N) (wgt d (nye N)) m) (cf_s c fY) o' bY wN.1 (by omega) (by omega) gY (fun Z fZ gZ => s122 Z (fY.tr (fZ.mono (fun a ha => by simp at ha ⊢; omega))) (bY.fr fZ (by simp) (by simp) (by simp)) (fun i hi2 => ?_))
        rw [gZ i hi2, hx]
        unfold bld
        rw [if_neg (show ¬ m < t by omega)]
      have s88 : ∀ (Y : HF) (s : Nat), FrL cS F Y → CB Y 21 (nz N) (no N) u → (∀ i, i < 8 → Y 24 i = nI (la d (nz N) (no N) (wgt d (nye N)) m i)) → s ≤ 1 → (s = 1 ↔ m < fW d) → wp_X6_bothComeOver_88 K (wp_X6_bothComeOver_25 K l) Y (nI h) (nI t) (nI (fW d)) (nI m) (nI (wnd d m)) (nI s) := by
        intro Y s fY bY gY hs hsi
        unfold wp_X6_bothComeOver_88
        rw [nIlt (by omega) (by omega), nIe (by omega) (by omega), nI_add]
        refine ⟨fun q => s122 Y fY bY (fun i hi2 => ?_), fun q => ⟨fun q2 => s119 Y _ fY bY gY (by omega) ?_, fun q2 => s119 Y _ fY bY gY (by omega) ?_⟩⟩
        · rw [gY i hi2]; unfold bld; rw [if_pos q]
        · rw [if_neg (fun x => by have := hsi.mpr x; omega)]
        · rw [if_pos (hsi.mp (by omega))]
      have s55 : ∀ (s : Nat), s ≤ 1 → (s = 1 ↔ m < fW d) → wp_X6_bothComeOver_55 K (wp_X6_bothComeOver_25 K l) X (nI h) (nI t) (nI (fW d)) (nI m) (nI (wnd d m)) (nI s) := by
        intro s hs hsi
        unfold wp_X6_bothComeOver_55
        refine s_X0_unload (fun Y fY gY => ?_)
        have fY' : FrL cS F Y := f.tr (fY.mono (fun a ha => by simp at ha ⊢; omega))
        have bY : CB Y 21 (nz N) (no N) u := b.fr fY (by simp) (by simp) (by simp)
        rw [nIe (by omega) (by omega)]
        refine ⟨fun q => s88 Y s fY' bY (fun i hi2 => ?_) hs hsi, fun q => s_X2_weight (cf_s c fY') (cn_s cN fY') ?_⟩
        · rw [gY i hi2]; unfold la; rw [if_neg (fun x => by have := hsi.mpr x; omega)]
        · have hm := hsi.mp (by omega)
          rw [nI_add]
          refine s_X0_press (w := fun _ => 0) (cf_s c fY') o' bY wN.1 (by omega) (by omega) gY (fun Z fZ gZ => s88 Z s (fY'.tr (fZ.mono (fun a ha => by simp at ha ⊢; omega))) (bY.fr fZ (by simp) (by simp) (by simp)) (fun i hi2 => ?_) hs hsi)
          rw [gZ i hi2]; unfold la; rw [if_pos hm]
      refine s_X1_windIn cX o' (by omega) ?_
      rw [nIle (by omega) (by omega)]
      exact ⟨fun q => s55 0 (by omega) ⟨fun e => by omega, fun x => by omega⟩, fun q => s55 1 (by omega) ⟨fun _ => by omega, fun _ => rfl⟩⟩
  exact ⟨t + fW d + 1, main _ 0 (t + fW d) G1 _ (by omega) (by omega) f1' b1 (fun x _ => Nat.zero_le _) Iff.rfl⟩
theorem s_X7_both {K : Int32 → HF → Prop} (c : MF F d) (o' : OkF d) (mN : MNf (F 120) N) (wN : WfN n d N) (hw : fW d ≤ lsum d (no N) (nz N)) {h t : Nat} (hh : h ≤ 40) (ht : t ≤ 20) (k1 : bgo d (nz N) (no N) (wgt d (nye N)) h t (t + fW d) 0 (fun _ => 0) → ∀ G, FrL mS F G → K (nI 1) G) (k0 : ¬ bgo d (nz N) (no N) (wgt d (nye N)) h t (t + fW d) 0 (fun _ => 0) → ∀ G, FrL mS F G → K (nI 0) G) : wp_X7_bothGo K F (nI h) (nI t) := by
  have hW := o'.2.2.2.1
  have hW1 := o'.2.2.1
  have h8 := wN.1.1
  have hwg := wgt_le o' (y := nye N) (by have := wN.2.2.2.1; omega)
  unfold wp_X7_bothGo
  refine cpf_121 mN h8 (fun G1 f1 b1 g1 g2 g3 => ?_)
  have main : ∀ l m r (X : HF) (u : Nat → Nat), r < l → m + r = t + fW d → FrL mS F X → MB X 121 (nz N) (no N) u → X 121 2 = nI (nye N) → (∀ x, x < fB d → u x ≤ fS d x) → (bgo d (nz N) (no N) (wgt d (nye N)) h t (t + fW d) 0 (fun _ => 0) ↔ bgo d (nz N) (no N) (wgt d (nye N)) h t r m u) → wp_X7_bothGo_42 K l X (nI h) (nI t) (nI (t + fW d)) (nI m) := by
    intro l
    induction l with
    | zero => intro m r X u h0; omega
    | succ l ih =>
      intro m r X u h0 h1 f b hy hu hi
      have cX := mf_s c f
      unfold wp_X7_bothGo_42
      rw [nIle (by omega) (by omega), cX.2.2.1]
      refine ⟨fun g => ?_, fun g => ?_⟩
      · have : r = 0 := by omega
        subst this
        exact k1 (hi.mpr trivial) X f
      obtain ⟨r', rfl⟩ : ∃ r', r = r' + 1 := ⟨r - 1, by omega⟩
      have hwn := wnd_le o' m
      have s151 : ∀ Y, FrL mS F Y → MB Y 121 (nz N) (no N) u → Y 121 2 = nI (nye N) → (∀ i, i < 8 → Y 129 i = nI (bld d (nz N) (no N) (wgt d (nye N)) h t m i)) → wp_X7_bothGo_151 K (wp_X7_bothGo_42 K l) Y (nI h) (nI t) (nI (t + fW d)) (nI m) := by
        intro Y fY bY yY gY
        unfold wp_X7_bothGo_151
        refine s_X7_holds (w := bld d (nz N) (no N) (wgt d (nye N)) h t m) (mf_s c fY) o' bY wN.1 (by omega) (by omega) (fun k hk => hu _ (wN.1.2.1 k hk)) gY (fun i _ => by have := bld_le o' (z := nz N) (o := no N) (t := t) (m := m) hwg hh i; omega) (fun hs Z fZ aZ bZ => ⟨fun _ => ?_, fun e => absurd e (by decide)⟩) (fun hs => ⟨fun e => absurd rfl e, fun _ => k0 (fun x => hs (hi.mp x).1) Y fY⟩)
        rw [nI_add]
        exact ih (m + 1) r' Z _ (by omega) (by omega) (fY.tr (fZ.mono (fun a ha => by simp at ha; simp [ha]))) bZ (by rw [aZ 2 (by omega)]; exact yY) (tir_le o' wN.1 hu hs) (hi.trans ⟨fun x => x.2, fun x => ⟨hs, x⟩⟩)
      have s148 : ∀ (Y : HF) (x : Nat), FrL mS F Y → MB Y 121 (nz N) (no N) u → Y 121 2 = nI (nye N) → (∀ i, i < 8 → Y 129 i = nI (la d (nz N) (no N) (wgt d (nye N)) m i)) → t ≤ m → x = (if m < fW d then h else h + wnd d m) → wp_X7_bothGo_148 K (wp_X7_bothGo_42 K l) Y (nI h) (nI t) (nI (t + fW d)) (nI m) (nI (fW d - 1 - (m - t))) (nI x) := by
        intro Y x fY bY yY gY htm hx
        unfold wp_X7_bothGo_148
        have hx2 : x ≤ 60 := by rw [hx]; split <;> omega
        refine s_X7_bear (w := la d (nz N) (no N) (wgt d (nye N)) m) (mf_s c fY) o' bY wN.1 (by omega) (by omega) (by omega) gY (fun Z fZ gZ => s151 Z (fY.tr (fZ.mono (fun a ha => by simp at ha; simp [ha]))) (bY.fr fZ (by simp)) (by rw [fZ 121 (by simp)]; exact yY) (fun i hi2 => ?_))
        rw [gZ i hi2, hx]
        unfold bld
        rw [if_neg (show ¬ m < t by omega)]
      have s113 : ∀ (Y : HF) (s : Nat), FrL mS F Y → MB Y 121 (nz N) (no N) u → Y 121 2 = nI (nye N) → (∀ i, i < 8 → Y 129 i = nI (la d (nz N) (no N) (wgt d (nye N)) m i)) → s ≤ 1 → (s = 1 ↔ m < fW d) → wp_X7_bothGo_113 K (wp_X7_bothGo_42 K l) Y (nI h) (nI t) (nI (t + fW d)) (nI m) ((nI (fW d) - nI 1) - (nI m - nI t)) (nI s) := by
        intro Y s fY bY yY gY hs hsi
        unfold wp_X7_bothGo_113
        rw [nIlt (show m < 2 ^ 31 by omega) (show t < 2 ^ 31 by omega), nIe (by omega) (by omega)]
        refine ⟨fun q => s151 Y fY bY yY (fun i hi2 => ?_), fun q => ?_⟩
        · rw [gY i hi2]; unfold bld; rw [if_pos q]
        · rw [nIsub hW1, nIsub (by omega), nIsub (by omega)]
          refine ⟨fun q2 => absurd q2 (nI_pos (by omega)), fun _ => ⟨fun q2 => s_X7_windIn (mf_s c fY) o' (by omega) ?_, fun q2 => s148 Y _ fY bY yY gY (by omega) ?_⟩⟩
          · rw [nI_add]
            refine s148 Y _ fY bY yY gY (by omega) ?_
            rw [if_neg (fun x => by have := hsi.mpr x; omega)]
          · rw [if_pos (hsi.mp (by omega))]
      have s75 : ∀ (s : Nat), s ≤ 1 → (s = 1 ↔ m < fW d) → wp_X7_bothGo_75 K (wp_X7_bothGo_42 K l) X (nI h) (nI t) (nI (t + fW d)) (nI m) ((nI (fW d) - nI 1) - (nI m - nI t)) (nI s) := by
        intro s hs hsi
        unfold wp_X7_bothGo_75
        refine s_X7_noLoads (fun Y fY gY => ?_)
        have fY' : FrL mS F Y := f.tr (fY.mono (fun a ha => by simp at ha; simp [ha]))
        have bY : MB Y 121 (nz N) (no N) u := b.fr fY (by simp)
        have yY : Y 121 2 = nI (nye N) := by rw [fY 121 (by simp)]; exact hy
        rw [nIe (by omega) (by omega)]
        refine ⟨fun q => s113 Y s fY' bY yY (fun i hi2 => ?_) hs hsi, fun q => ⟨vin (by omega) (by omega), ?_⟩⟩
        · rw [gY i hi2]; unfold la; rw [if_neg (fun x => by have := hsi.mpr x; omega)]
        · have hm := hsi.mp (by omega)
          rw [show Y 121 (nI 2).toNatClampNeg = nI (nye N) from yY]
          refine s_X7_weightIn (mf_s c fY') (s_X7_windIn (mf_s c fY') o' (by omega) ?_)
          rw [nI_add]
          refine s_X7_bear (w := fun _ => 0) (mf_s c fY') o' bY wN.1 (by omega) (by omega) (by omega) gY (fun Z fZ gZ => s113 Z s (fY'.tr (fZ.mono (fun a ha => by simp at ha; simp [ha]))) (bY.fr fZ (by simp)) (by rw [fZ 121 (by simp)]; exact yY) (fun i hi2 => ?_) hs hsi)
          rw [gZ i hi2]; unfold la; rw [if_pos hm]
      rw [nIle (by omega) (by omega)]
      exact ⟨fun q => s75 0 (by omega) ⟨fun e => by omega, fun x => by omega⟩, fun q => s75 1 (by omega) ⟨fun _ => by omega, fun _ => rfl⟩⟩
  have fin : wp_X7_bothGo_38 K G1 (nI h) (nI t) (nI (t + fW d)) := ⟨t + fW d + 1, main _ 0 (t + fW d) G1 _ (by omega) (by omega) f1 b1 g2 (fun x _ => Nat.zero_le _) Iff.rfl⟩
  rw [(mf_s c f1).2.2.1, nIle (by omega) (by omega), nI_add]
  refine ⟨fun q => ?_, fun q => by rw [Nat.add_comm]; exact fin⟩
  have : t = 0 := by omega
  subst this
  rw [Nat.zero_add] at fin
  exact fin
theorem t_second (hI : Inv n F) (a : Int32) : wp_X6_second (fun r F1 => wp_X7_second (fun r2 F2 => r = r2 ∧ Inv (n + 1) F2) F1 a) F a := by
  obtain ⟨d, o', hb, i1, ⟨N, wN, cN, mN⟩, -⟩ := id hI
  unfold wp_X6_second
  have bad : (a < nI 1 ∨ nI 40 < a) → wp_X7_second (fun r2 F2 => (-1 : Int32) = r2 ∧ Inv (n + 1) F2) F a := fun q => by
    unfold wp_X7_second
    exact s_in_bad q ⟨fun e => absurd rfl e, fun _ => hI.end Ag.rf rfl⟩
  rcases rng a 1 (N := 40) (by omega) (by omega) with q | ⟨q1, q2, q3⟩ | ⟨h, h1, hh, rfl⟩
  · exact ⟨fun _ => bad (Or.inl q), fun g => absurd q g⟩
  · exact ⟨fun x => absurd x q1, fun _ => ⟨fun x => absurd x q3, fun _ => bad (Or.inr q2)⟩⟩
  refine ⟨fun x => absurd x (nI_nlt h1 (by omega)), fun _ => ⟨fun _ => ?_, fun x => absurd (nI_le hh (by omega)) x⟩⟩
  have ref : ∀ (X : HF) (v : Int32), FrL cS F X → (lsum d (no N) (nz N) < fW d → v = -2) → (fW d ≤ lsum d (no N) (nz N) → (∀ t, t ≤ 20 → bgo d (nz N) (no N) (wgt d (nye N)) h t (t + fW d) 0 (fun _ => 0) → (∀ x, x < t → ¬ bgo d (nz N) (no N) (wgt d (nye N)) h x (x + fW d) 0 (fun _ => 0)) → v = nI t) ∧ ((∀ x, x ≤ 20 → ¬ bgo d (nz N) (no N) (wgt d (nye N)) h x (x + fW d) 0 (fun _ => 0)) → v = -4)) → wp_X7_second (fun r2 F2 => v = r2 ∧ Inv (n + 1) F2) X (nI h) := by
    intro X v fX v2 v1
    have mX := mf_c i1.2 fX
    have nX := mn_c mN fX
    unfold wp_X7_second
    refine s_in_ok h1 hh (by omega) ⟨fun _ => s_X7_isWhole mX o' nX.mb wN.1 (fun hw => ⟨fun _ => ?_, fun e => absurd e (by decide)⟩) (fun hw => ⟨fun e => absurd rfl e, fun _ => hI.end (ag_s fX) (v2 hw)⟩), fun e => absurd e (by decide)⟩
    obtain ⟨va, vb⟩ := v1 hw
    have main : ∀ l t (Y : HF), 22 ≤ t + l → t ≤ 21 → FrL mS X Y → (∀ x, x < t → ¬ bgo d (nz N) (no N) (wgt d (nye N)) h x (x + fW d) 0 (fun _ => 0)) → wp_X7_second_28 (fun r2 F2 => v = r2 ∧ Inv (n + 1) F2) l Y (nI h) (nI t) := by
      intro l
      induction l with
      | zero => intro t Y a1 a2; omega
      | succ l ih =>
        intro t Y a1 a2 f h3
        unfold wp_X7_second_28
        rw [nIlt (by omega) (by omega)]
        refine ⟨fun g => hI.end ((ag_s fX).tr (ag_m f)) (vb (fun x hx => h3 x (by omega))), fun g => s_X7_both (mf_s mX f) o' (mn_s nX f) wN hw hh (by omega) (fun m Z fZ => ⟨fun e => absurd e (by decide), fun _ => hI.end ((ag_s fX).tr ((ag_m f).tr (ag_m fZ))) (va t (by omega) m h3)⟩) (fun m Z fZ => ⟨fun _ => ?_, fun e => absurd rfl e⟩)⟩
        rw [nI_add]
        refine ih (t + 1) Z (by omega) (by omega) (f.tr fZ) (fun x hx => ?_)
        rcases Nat.lt_or_ge x t with e | e
        · exact h3 x e
        · have : x = t := by omega
          subst this; exact m
    exact ⟨22, main _ 0 X (by omega) (by omega) FrL.rf (fun x hx => absurd hx (by omega))⟩
  refine s_X0_isWhole i1.1 o' cN.2.2.2.2 wN.1 (fun hw => ⟨fun _ => ?_, fun e => absurd e (by decide)⟩) (fun hw => ⟨fun e => absurd rfl e, fun _ => ref F _ FrL.rf (fun _ => rfl) (fun g => absurd hw (by omega))⟩)
  have main : ∀ l t (X : HF), 22 ≤ t + l → t ≤ 21 → FrL cS F X → (∀ x, x < t → ¬ bgo d (nz N) (no N) (wgt d (nye N)) h x (x + fW d) 0 (fun _ => 0)) → wp_X6_second_31 (fun r F1 => wp_X7_second (fun r2 F2 => r = r2 ∧ Inv (n + 1) F2) F1 (nI h)) l X (nI h) (nI t) := by
    intro l
    induction l with
    | zero => intro t X a1 a2; omega
    | succ l ih =>
      intro t X a1 a2 f h3
      unfold wp_X6_second_31
      rw [nIlt (by omega) (by omega)]
      refine ⟨fun g => ref X _ f (fun g2 => absurd hw (by omega)) (fun _ => ⟨fun t' ht' m _ => absurd m (h3 t' (by omega)), fun _ => rfl⟩), fun g => s_X6_both (cf_s i1.1 f) o' (cn_s cN f) wN hw hh (by omega) (fun m Z fZ => ⟨fun e => absurd e (by decide), fun _ => ?_⟩) (fun m Z fZ => ⟨fun _ => ?_, fun e => absurd rfl e⟩)⟩
      · refine ref Z _ (f.tr fZ) (fun g2 => absurd hw (by omega)) (fun _ => ⟨fun t' ht' m' h3' => ?_, fun q => absurd m (q t (by omega))⟩)
        rcases Nat.lt_trichotomy t t' with e | e | e
        · exact absurd m (h3' t e)
        · rw [e]
        · exact absurd m' (h3 t' e)
      · rw [nI_add]
        refine ih (t + 1) Z (by omega) (by omega) (f.tr fZ) (fun x hx => ?_)
        rcases Nat.lt_or_ge x t with e | e
        · exact h3 x e
        · have : x = t := by omega
          subst this; exact m
  exact ⟨22, main _ 0 F (by omega) (by omega) FrL.rf (fun x hx => absurd hx (by omega))⟩
end Top9
