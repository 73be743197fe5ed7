def lw (d : FD) (z : Nat) (o : Nat → Nat) (q L : Nat) : Nat → Nat := if 1 ≤ q ∧ q ≤ fW d then bl d o z (q - 1) L else fun _ => 0
theorem lw_le (d : FD) (z : Nat) (o : Nat → Nat) (q L i : Nat) : lw d z o q L i ≤ L := by
  unfold lw
  split
  · exact bl_le _ _ _ _ _ _
  · exact Nat.zero_le _
section ModelU
variable {F : HF} {d : FD} {z r : Nat} {o t w : Nat → Nat}
theorem s_X7_passes {K : Int32 → HF → Prop} (m : MF F d) (o' : OkF d) (h : MB F r z o t) (hw : WfB d z o) (hr : 120 ≤ r) (hr2 : r ≠ 129) (ht : ∀ k, k < z → t (o k) ≤ fS d (o k)) {mi ye q v : Nat} (h1 : F r 1 = nI mi) (h2 : F r 2 = nI ye) (h3 : F r 3 = pI q) (hq : q ≤ fW d + 1) (hwh : q ≤ fW d → fW d ≤ lsum d o z) (hye : ye ≤ 90) (hv : v ≤ 20)
    (k1 : setl d z o t (lw d z o q (wgt d ye + v)) → ∀ G, FrL [r, 129] F G → MB G r z o (tir d o (lw d z o q (wgt d ye + v)) z t) → G r 1 = nI (mi + 1) → G r 2 = nI ye → G r 3 = pI q → G r 4 = nI 0 → K (nI 1) G)
    (k0 : ¬ setl d z o t (lw d z o q (wgt d ye + v)) → ∀ G, FrL [r, 129] F G → MB G r z o t → G r 1 = nI (mi + 1) → G r 2 = nI ye → G r 3 = pI q → G r 4 = nI 1 → K (nI 0) G) : wp_X7_passes K F r 21 (nI v) := by
  have hW := o'.2.2.2.1
  have hW1 := o'.2.2.1
  have hwg := wgt_le o' hye
  have h8 := hw.1
  have s34 : ∀ G, FrL [129] F G → (∀ i, i < 8 → G 129 i = nI (lw d z o q (wgt d ye + v) i)) → wp_X7_passes_34 K r 21 G := by
    intro G f1 g1
    have eG : G r = F r := f1 r (by simp [hr2])
    unfold wp_X7_passes_34
    have hmG : MF G d := m.fr f1 (by simp) (by simp) (by simp)
    have hbG : MB G r z o t := h.fr f1 (by simp [hr2])
    refine s_X7_holds (w := lw d z o q (wgt d ye + v)) hmG o' hbG hw hr hr2 ht g1 (fun i _ => by have := lw_le d z o q (wgt d ye + v) i; omega) (fun hs G2 f2 g2 g3 => ?_) (fun hs => ?_)
    · refine ⟨fun e => absurd e (by decide), fun _ => ?_⟩
      unfold wp_X7_passes_51
      refine ⟨vin (by omega) (by omega), fun F3 e3 => ⟨vin (by omega) (by omega), vin (by omega) (by omega), fun F4 e4 => ⟨Or.inr rfl, ?_⟩⟩⟩
      rw [nIcl (by omega)] at e3
      simp (disch := omega) only [nIcl] at e4
      have e31 : F3 r 1 = nI mi := by rw [e3, hup_at, if_neg (by omega), g2 1 (by omega), eG]; exact h1
      have fr : FrL [r, 129] F F4 := by
        rw [e4]; refine FrL.tr ?_ (FrL.up (by simp)); rw [e3]; refine FrL.tr ?_ (FrL.up (by simp))
        exact (f1.mono (fun a ha => by simp at ha; simp [ha])).tr (f2.mono (fun a ha => by simp at ha; simp [ha]))
      have at4 : ∀ j, j ≠ 1 → j ≠ 4 → F4 r j = G2 r j := fun j a b => by rw [e4, hup_at, if_neg a, e3, hup_at, if_neg b]
      refine k1 hs F4 fr ⟨?_, ?_, ?_⟩ ?_ ?_ ?_ ?_
      · rw [at4 0 (by omega) (by omega)]; exact g3.1
      · intro j hj; rw [at4 (5 + j) (by omega) (by omega)]; exact g3.2.1 j hj
      · intro j hj; rw [at4 (13 + j) (by omega) (by omega)]; exact g3.2.2 j hj
      · rw [e4, hup_at, if_pos rfl, e31, nI_add]
      · rw [at4 2 (by omega) (by omega), g2 2 (by omega), eG]; exact h2
      · rw [at4 3 (by omega) (by omega), g2 3 (by omega), eG]; exact h3
      · rw [e4, hup_at, if_neg (by omega), e3, hup_at, if_pos rfl]
    · refine ⟨fun _ => ?_, fun e => absurd rfl e⟩
      unfold wp_X7_passes_51
      refine ⟨vin (by omega) (by omega), fun F3 e3 => ⟨vin (by omega) (by omega), vin (by omega) (by omega), fun F4 e4 => ⟨Or.inl rfl, ?_⟩⟩⟩
      rw [nIcl (by omega)] at e3
      simp (disch := omega) only [nIcl] at e4
      have e31 : F3 r 1 = nI mi := by rw [e3, hup_at, if_neg (by omega), eG]; exact h1
      have fr : FrL [r, 129] F F4 := by
        rw [e4]; refine FrL.tr ?_ (FrL.up (by simp)); rw [e3]; refine FrL.tr ?_ (FrL.up (by simp))
        exact (f1.mono (fun a ha => by simp at ha; simp [ha]))
      have at4 : ∀ j, j ≠ 1 → j ≠ 4 → F4 r j = F r j := fun j a b => by rw [e4, hup_at, if_neg a, e3, hup_at, if_neg b, eG]
      refine k0 hs F4 fr ⟨?_, ?_, ?_⟩ ?_ ?_ ?_ ?_
      · rw [at4 0 (by omega) (by omega)]; exact h.1
      · intro j hj; rw [at4 (5 + j) (by omega) (by omega)]; exact h.2.1 j hj
      · intro j hj; rw [at4 (13 + j) (by omega) (by omega)]; exact h.2.2 j hj
      · rw [e4, hup_at, if_pos rfl, e31, nI_add]
      · rw [at4 2 (by omega) (by omega)]; exact h2
      · rw [at4 3 (by omega) (by omega)]; exact h3
      · rw [e4, hup_at, if_neg (by omega), e3, hup_at, if_pos rfl]
  unfold wp_X7_passes
  refine s_X7_noLoads (fun G f1 g1 => ⟨vin (by omega) (by omega), ?_⟩)
  have hmG : MF G d := m.fr f1 (by simp) (by simp) (by simp)
  have hbG : MB G r z o t := h.fr f1 (by simp [hr2])
  have eG : G r = F r := f1 r (by simp [hr2])
  simp (disch := omega) only [nIcl]
  rw [eG, h3, hmG.2.2.1]
  refine s_X7_isOn (by omega) hW1 (by omega) (fun g => ?_) (fun g => ?_)
  · refine ⟨fun e => absurd e (by decide), fun _ => ⟨vin (by omega) (by omega), vin (by omega) (by omega), ?_⟩⟩
    rw [eG, h2]
    refine s_X7_weightIn hmG ?_
    obtain ⟨p, rfl⟩ : ∃ p, q = p + 1 := ⟨q - 1, by omega⟩
    rw [h3, pI_s, nI_add]
    refine s_X7_bear (w := fun _ => 0) hmG o' hbG hw hr2 (by have := hwh (by omega); omega) (by omega) g1 (fun G2 f2 g2 => s34 G2 (f1.tr f2) (fun i hi => ?_))
    rw [g2 i hi]
    unfold lw prs
    rw [if_pos g]
    unfold bl
    by_cases q1 : i < z
    · rw [if_pos q1, if_pos q1, Nat.zero_add]; rfl
    · rw [if_neg q1, if_neg q1]
  · refine ⟨fun _ => s34 G f1 (fun i hi => ?_), fun e => absurd rfl e⟩
    rw [g1 i hi]
    unfold lw
    rw [if_neg g]
theorem s_X7_copy {K : HF → Prop} {a b na nb x y : Nat} (hab : a ≠ b) (hx : x + 21 ≤ na) (hy : y + 21 ≤ nb) (hna : na < 2 ^ 20) (hnb : nb < 2 ^ 20) (k : ∀ G, FrL [b] F G → (∀ j, G b j = if y ≤ j ∧ j < y + 21 then F a (x + (j - y)) else F b j) → K G) : wp_X7_copy K F a na b nb (nI x) (nI y) := by
  have main : ∀ n i (G : HF), 22 ≤ i + n → i ≤ 21 → FrL [b] F G → (∀ j, G b j = if y ≤ j ∧ j < y + i then F a (x + (j - y)) else F b j) → wp_X7_copy_3 K a na b nb n G (nI x) (nI y) (nI i) := by
    intro n
    induction n with
    | zero => intro i G h1 h2; omega
    | succ n ih =>
      intro i G h1 h2 h3 h4
      unfold wp_X7_copy_3
      simp (disch := omega) only [nIle, nI_add, nIcl]
      refine ⟨fun q => k G h3 ?_, fun q => ⟨vin (by omega) (by omega), vin (by omega) (by omega), fun G1 e => ih (i + 1) G1 (by omega) (by omega) (by rw [e]; exact h3.tr (FrL.up (by simp))) ?_⟩⟩
      · have : i = 21 := by omega
        subst this; exact h4
      · intro j
        rw [e, hup_at]
        by_cases g : j = y + i
        · rw [if_pos g, if_pos (by omega), h3 a (by simp [hab])]
          congr 1; omega
        · rw [if_neg g, h4 j]
          by_cases g2 : y ≤ j ∧ j < y + i
          · rw [if_pos g2, if_pos (by omega)]
          · rw [if_neg g2, if_neg (by omega)]
  exact ⟨22, main 22 0 F (by omega) (by omega) FrL.rf (fun j => by rw [if_neg (by omega)])⟩
theorem s_X7_freshen {K : HF → Prop} (k : ∀ G, FrL [r] F G → (∀ j, (j = 0 ∨ j = 2 ∨ (5 ≤ j ∧ j < 13)) → G r j = F r j) → (∀ j, j < 8 → G r (13 + j) = nI 0) → G r 1 = nI 0 → G r 3 = -1 → G r 4 = nI 0 → K G) : wp_X7_freshen K F r 21 := by
  have main : ∀ n i (G : HF), 9 ≤ i + n → i ≤ 8 → FrL [r] F G → (∀ j, j < 13 → G r j = F r j) → (∀ j, j < i → G r (13 + j) = nI 0) → wp_X7_freshen_2 K r 21 n G (nI i) := by
    intro n
    induction n with
    | zero => intro i G h1 h2; omega
    | succ n ih =>
      intro i G h1 h2 h3 h4 h5
      unfold wp_X7_freshen_2
      simp (disch := omega) only [nIle, nI_add, nIcl]
      refine ⟨fun q => ⟨vin (by omega) (by omega), fun F1 e1 => ⟨vin (by omega) (by omega), fun F2 e2 => ⟨vin (by omega) (by omega), fun F3 e3 => k F3 ?_ ?_ ?_ ?_ ?_ ?_⟩⟩⟩, fun q => ⟨vin (by omega) (by omega), fun G1 e => ih (i + 1) G1 (by omega) (by omega) (by rw [e]; exact h3.tr (FrL.up (by simp))) ?_ ?_⟩⟩
      · rw [e3]; refine FrL.tr ?_ (FrL.up (by simp)); rw [e2]; refine FrL.tr ?_ (FrL.up (by simp)); rw [e1]; exact h3.tr (FrL.up (by simp))
      · intro j hj
        rw [e3, hup_at, if_neg (by omega), e2, hup_at, if_neg (by omega), e1, hup_at, if_neg (by omega)]
        exact h4 j (by omega)
      · intro j hj
        rw [e3, hup_at, if_neg (by omega), e2, hup_at, if_neg (by omega), e1, hup_at, if_neg (by omega)]
        exact h5 j (by omega)
      · rw [e3, hup_at, if_neg (by omega), e2, hup_at, if_neg (by omega), e1, hup_at, if_pos rfl]
      · rw [e3, hup_at, if_neg (by omega), e2, hup_at, if_pos rfl]
      · rw [e3, hup_at, if_pos rfl]
      · intro j hj
        rw [e, hup_at, if_neg (by omega)]
        exact h4 j hj
      · intro j hj
        rw [e, hup_at]
        split
        · rfl
        · exact h5 j (by omega)
  exact ⟨9, main 9 0 F (by omega) (by omega) FrL.rf (fun _ _ => rfl) (fun j hj => absurd hj (by omega))⟩
theorem setl_0 : setl d z o t (fun _ => 0) := fun k _ => Nat.zero_le _
theorem s_X7_goesOver {K : Int32 → HF → Prop} (m : MF F d) (o' : OkF d) (h : MB F r z o t) (hw : WfB d z o) (hr : 120 ≤ r) (hr2 : r ≠ 129) (ht : ∀ x, x < fB d → t x ≤ fS d x) {mi ye q : Nat} (h1 : F r 1 = nI mi) (h2 : F r 2 = nI ye) (h3 : F r 3 = pI q) (hq : q ≤ fW d + 1) (hwh : fW d ≤ lsum d o z) (hye : ye ≤ 90) (hmi : mi < 2 ^ 20)
    (k1 : (wlk d z o (fun p => wgt d ye + wnd d (mi + p - q)) (fW d - q) q t ≥ fW d) → ∀ G, FrL [r, 129] F G → K (nI 1) G)
    (k0 : ∀ p, wlk d z o (fun p => wgt d ye + wnd d (mi + p - q)) (fW d - q) q t = p → p < fW d → ∀ G, FrL [r, 129] F G → G r 1 = nI (mi + (p - q) + 1) → G r 3 = nI p → K (nI 0) G) : wp_X7_goesOver K F r 21 := by
  have hW := o'.2.2.2.1
  have hW1 := o'.2.2.1
  have hwg := wgt_le o' hye
  have h8 := hw.1
  have main : ∀ n p (G : HF) (u : Nat → Nat), fW d + 2 ≤ p + n → q ≤ p → p ≤ fW d + 1 → FrL [r, 129] F G → MB G r z o u → (∀ x, x < fB d → u x ≤ fS d x) → G r 1 = nI (mi + (p - q)) → G r 2 = nI ye → G r 3 = pI p → (p ≤ fW d → wlk d z o (fun p => wgt d ye + wnd d (mi + p - q)) (fW d - q) q t = wlk d z o (fun p => wgt d ye + wnd d (mi + p - q)) (fW d - p) p u) → (p = fW d + 1 → fW d ≤ wlk d z o (fun p => wgt d ye + wnd d (mi + p - q)) (fW d - q) q t) → wp_X7_goesOver_0 K r 21 n G := by
    intro n
    induction n with
    | zero => intro p G u g1 g2 g3; omega
    | succ n ih =>
      intro p G u g1 g2 g3 f g5 g6 g7 g8 g9 g10 g11
      have hmG : MF G d := m.fr f (by simp; omega) (by simp; omega) (by simp; omega)
      unfold wp_X7_goesOver_0
      simp (disch := omega) only [nIcl]
      rw [g9, hmG.2.2.1]
      refine ⟨vin (by omega) (by omega), fun c => ?_, fun c => ?_⟩
      · -- over
        refine k1 ?_ G f
        have hp : p = fW d + 1 := by
          rcases Nat.eq_zero_or_pos p with e | e
          · subst e; rw [pI_0, le_m1 (by omega)] at c; exact c.elim
          · obtain ⟨p', rfl⟩ : ∃ p', p = p' + 1 := ⟨p - 1, by omega⟩
            rw [pI_s, nIle (by omega) (by omega)] at c
            omega
        exact g11 hp
      · have hp : p ≤ fW d := by
          rcases Nat.lt_or_ge p (fW d + 1) with e | e
          · omega
          · have : p = fW d + 1 := by omega
            subst this
            rw [pI_s] at c
            exact absurd (nI_le (Nat.le_refl _) (by omega)) c
        refine ⟨vin (by omega) (by omega), vin (by omega) (by omega), fun F1 e1 => ⟨vin (by omega) (by omega), ?_⟩⟩
        rw [pI_inc] at e1
        have f1 : FrL [r, 129] G F1 := by rw [e1]; exact FrL.up (by simp)
        have at1 : ∀ j, j ≠ 3 → F1 r j = G r j := fun j a => by rw [e1, hup_at, if_neg a]
        have hm1 : MF F1 d := hmG.fr f1 (by simp; omega) (by simp; omega) (by simp; omega)
        rw [at1 1 (by omega), g7]
        refine s_X7_windIn hm1 o' (by omega) ?_
        have hwn := wnd_le o' (mi + (p - q))
        have hb1 : MB F1 r z o u := ⟨by rw [at1 0 (by omega)]; exact g5.1, fun j hj => by rw [at1 (5 + j) (by omega)]; exact g5.2.1 j hj, fun j hj => by rw [at1 (13 + j) (by omega)]; exact g5.2.2 j hj⟩
        refine s_X7_passes (mi := mi + (p - q)) (ye := ye) (q := p + 1) hm1 o' hb1 hw hr hr2 (fun k hk => g6 _ (hw.2.1 k hk)) (by rw [at1 1 (by omega)]; exact g7) (by rw [at1 2 (by omega)]; exact g8) (by rw [e1, hup_at, if_pos rfl]) (by omega) (fun _ => hwh) hye hwn (fun hs G2 f2 b2 c1 c2 c3 c4 => ?_) (fun hs G2 f2 b2 c1 c2 c3 c4 => ?_)
        · refine ⟨fun _ => ?_, fun e => absurd e (by decide)⟩
          have fr2 := (f.tr f1).tr f2
          by_cases hpw : p = fW d
          · -- the right bank
            have el : lw d z o (p + 1) (wgt d ye + wnd d (mi + (p - q))) = fun _ => 0 := by unfold lw; rw [if_neg (by omega)]
            rw [el] at b2
            refine ih (p + 1) G2 _ (by omega) (by omega) (by omega) fr2 b2 (tir_le o' hw g6 setl_0) (by rw [c1]; congr 1; omega) c2 c3 (fun x => absurd x (by omega)) (fun _ => ?_)
            rw [g10 hp, hpw, show fW d - fW d = 0 by omega]
            exact Nat.le_refl _
          · have el : lw d z o (p + 1) (wgt d ye + wnd d (mi + (p - q))) = bl d o z p (wgt d ye + wnd d (mi + p - q)) := by
              unfold lw; rw [if_pos (by omega)]; show bl d o z (p + 1 - 1) _ = _; rw [show p + 1 - 1 = p by omega, show mi + (p - q) = mi + p - q by omega]
            rw [el] at b2 hs
            refine ih (p + 1) G2 _ (by omega) (by omega) (by omega) fr2 b2 (tir_le o' hw g6 hs) (by rw [c1]; congr 1; omega) c2 c3 (fun _ => ?_) (fun x => absurd x (by omega))
            rw [g10 hp, show fW d - p = (fW d - (p + 1)) + 1 by omega]
            exact wlk_t (om := fun p => wgt d ye + wnd d (mi + p - q)) hs
        · refine ⟨fun e => absurd rfl e, fun _ => ?_⟩
          have fr2 := (f.tr f1).tr f2
          have hpw : p < fW d := by
            rcases Nat.lt_or_ge p (fW d) with e | e
            · exact e
            · have el : lw d z o (p + 1) (wgt d ye + wnd d (mi + (p - q))) = fun _ => 0 := by unfold lw; rw [if_neg (by omega)]
              rw [el] at hs
              exact absurd setl_0 hs
          have el : lw d z o (p + 1) (wgt d ye + wnd d (mi + (p - q))) = bl d o z p (wgt d ye + wnd d (mi + p - q)) := by
            unfold lw; rw [if_pos (by omega)]; show bl d o z (p + 1 - 1) _ = _; rw [show p + 1 - 1 = p by omega, show mi + (p - q) = mi + p - q by omega]
          rw [el] at hs
          refine k0 p ?_ hpw G2 fr2 c1 (by rw [c3, pI_s])
          rw [g10 hp, show fW d - p = (fW d - (p + 1)) + 1 by omega]
          exact wlk_f (om := fun p => wgt d ye + wnd d (mi + p - q)) hs
  exact ⟨fW d + 2, main _ q F t (by omega) (Nat.le_refl q) hq FrL.rf h ht (by rw [h1]; congr 1; omega) h2 h3 (fun _ => rfl) (fun e => by rw [show fW d - q = 0 by omega]; show fW d ≤ q; omega)⟩
end ModelU
