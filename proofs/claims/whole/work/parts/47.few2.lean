theorem nI_tb (x : Int32) : nI x.toBitVec.toNat = x := by
  apply Int32.toBitVec_inj.mp
  show (Int32.ofNat x.toBitVec.toNat).toBitVec = x.toBitVec
  apply BitVec.eq_of_toNat_eq
  show x.toBitVec.toNat % 2 ^ 32 = x.toBitVec.toNat
  exact Nat.mod_eq_of_lt x.toBitVec.isLt
/-- the best after a search through a region, out of the best before -/
def EXT (d : FD) (w : Nat) (Rg : Nat → (Nat → Nat) → Prop) (fs : Nat) (h : Nat → Nat) (fs' : Nat) (h' : Nat → Nat) : Prop :=
  fs' ≤ fs ∧ (fs' = fs → ∀ i, i < fs → h' i = h i) ∧ (∀ s g, Rg s g → sol d w s g → fs' ≤ s) ∧ (fs' < fs → 1 ≤ fs' ∧ sol d w fs' h' ∧ Rg fs' h' ∧ ∀ g, Rg fs' g → sol d w fs' g → ¬ lx g h' fs')
section Few2
variable {d : FD} {w : Nat}
theorem EXT.none {Rg : Nat → (Nat → Nat) → Prop} {fs : Nat} {h : Nat → Nat} (e : ∀ s g, Rg s g → sol d w s g → fs ≤ s) : EXT d w Rg fs h fs h := ⟨Nat.le_refl _, fun _ _ _ => rfl, e, fun q => absurd q (by omega)⟩
theorem lx_cong {g h h' : Nat → Nat} {s : Nat} (e : ∀ i, i < s → h' i = h i) (q : lx g h' s) : lx g h s := by
  obtain ⟨k, k1, k2, k3⟩ := q
  exact ⟨k, k1, fun i hi => by rw [k2 i hi, e i (by omega)], by rw [← e k k1]; exact k3⟩
theorem EXT.comp (o' : OkF d) {R1 R2 R : Nat → (Nat → Nat) → Prop} {f0 f1 f2 : Nat} {h0 h1 h2 : Nat → Nat} (a : EXT d w R1 f0 h0 f1 h1) (b : EXT d w R2 f1 h1 f2 h2) (hR : ∀ s g, R s g → sol d w s g → R1 s g ∨ R2 s g) (h1R : ∀ s g, R1 s g → R s g) (h2R : ∀ s g, R2 s g → R s g) (hc : ∀ s g g', (∀ i, i < s → g' i = g i) → R1 s g → R1 s g') (ho : ∀ s g g', R1 s g → R2 s g' → sol d w s g' → ¬ lx g' g s) : EXT d w R f0 h0 f2 h2 := by
  have l1 := a.1
  have l2 := b.1
  refine ⟨by omega, fun e i hi => ?_, fun s g hg hs => ?_, fun q => ?_⟩
  · rw [b.2.1 (by omega) i (by omega), a.2.1 (by omega) i hi]
  · rcases hR s g hg hs with x | x
    · have := a.2.2.1 s g x hs; omega
    · exact b.2.2.1 s g x hs
  · rcases Nat.lt_or_ge f2 f1 with c | c
    · obtain ⟨b1, b2, b3, b4⟩ := b.2.2.2 c
      refine ⟨b1, b2, h2R _ _ b3, fun g hg hs => ?_⟩
      rcases hR _ g hg hs with x | x
      · have := a.2.2.1 _ g x hs; omega
      · exact b4 g x hs
    · have e : f2 = f1 := by omega
      subst e
      obtain ⟨a1, a2, a3, a4⟩ := a.2.2.2 (by omega)
      have eh := b.2.1 rfl
      have r2 := hc _ h1 h2 eh a3
      refine ⟨a1, sol_cong (fun i hi => (eh i hi).symm) o' a2, h1R _ _ r2, fun g hg hs l => ?_⟩
      rcases hR _ g hg hs with x | x
      · exact a4 g x hs (lx_cong eh l)
      · exact ho _ h2 g r2 x hs l
theorem EXT.mono {R1 R : Nat → (Nat → Nat) → Prop} {f0 f1 : Nat} {h0 h1 : Nat → Nat} (a : EXT d w R1 f0 h0 f1 h1) (hR : ∀ s g, R s g → sol d w s g → R1 s g) (h1R : ∀ s g, R1 s g → R s g) : EXT d w R f0 h0 f1 h1 :=
  ⟨a.1, a.2.1, fun s g hg hs => a.2.2.1 s g (hR s g hg hs) hs, fun q => by
    obtain ⟨b1, b2, b3, b4⟩ := a.2.2.2 q
    exact ⟨b1, b2, h1R _ _ b3, fun g hg hs => b4 g (hR _ g hg hs) hs⟩⟩
def C2 (F : HF) (z : Nat) (o : Nat → Nat) : Prop := F 80 4 = nI z ∧ ∀ k, k < z → F 81 k = nI (o k)
theorem C2.cb {F : HF} {z : Nat} {o : Nat → Nat} (h : C2 F z o) : CB F 80 z o (fun k => (F 82 k).toBitVec.toNat) := ⟨h.1, h.2, fun k _ => (nI_tb _).symm⟩
theorem C2.cong {F : HF} {z : Nat} {o o2 : Nat → Nat} (h : C2 F z o) (e : ∀ i, i < z → o i = o2 i) : C2 F z o2 := ⟨h.1, fun k hk => by rw [h.2 k hk, e k hk]⟩
def FS (F : HF) (fs : Nat) (h : Nat → Nat) : Prop := F 79 4 = nI fs ∧ (fs ≤ 8 → ∀ i, i < fs → F 84 i = nI (h i))
/-- what a search leaves alone -/
def FrS (F G : HF) : Prop := (∀ a, (a < 79 ∨ 84 < a) → G a = F a) ∧ G 79 5 = F 79 5
theorem FrS.tr {F G H : HF} (a : FrS F G) (b : FrS G H) : FrS F H := ⟨fun x hx => (b.1 x hx).trans (a.1 x hx), b.2.trans a.2⟩
theorem FrS.rf {F : HF} : FrS F F := ⟨fun _ _ => rfl, rfl⟩
theorem FrL.frS {F G : HF} {L : List Nat} (h : FrL L F G) (hL : ∀ a, a ∈ L → 80 ≤ a ∧ a ≤ 83) : FrS F G := ⟨fun a ha => h a (fun q => by have := hL a q; omega), by rw [h 79 (fun q => by have := hL 79 q; omega)]⟩
theorem FrL.fs {F G : HF} {L : List Nat} {fs : Nat} {hh : Nat → Nat} (h : FrL L F G) (hL : ∀ a, a ∈ L → 80 ≤ a ∧ a ≤ 83) (a : FS F fs hh) : FS G fs hh := by
  unfold FS
  rw [h 79 (fun q => by have := hL 79 q; omega), h 84 (fun q => by have := hL 84 q; omega)]
  exact a
theorem CF.frS {F G : HF} (c : CF F 4 d) (f : FrS F G) : CF G 4 d := c.kept (f.1 _ (by omega)) (f.1 _ (by omega)) (f.1 _ (by omega)) (f.1 _ (by omega)) (f.1 _ (by omega)) (f.1 _ (by omega))
theorem s_X4_noteFound {F : HF} {K : HF → Prop} {z : Nat} {o : Nat → Nat} (hz : z ≤ 8) (wf : WfB d z o) (b : C2 F z o) (k : ∀ G, FrS F G → C2 G z o → FS G z o → K G) : wp_X4_noteFound K F := by
  unfold wp_X4_noteFound
  refine s_X0_size b.cb (fun F2 e2 => ?_)
  have main : ∀ l i (X : HF), z + 1 ≤ i + l → i ≤ z → FrS F X → C2 X z o → X 79 4 = nI z → (∀ j, j < i → X 84 j = nI (o j)) → wp_X4_noteFound_13 K l X (nI i) := by
    intro l
    induction l with
    | zero => intro i X a1 a2; omega
    | succ l ih =>
      intro i X a1 a2 f c2 e3 h4
      unfold wp_X4_noteFound_13
      rw [e3, nIle (by omega) (by omega), nIle (by omega) (by omega), nIcl (by omega), nI_add]
      refine ⟨fun g => k X f c2 ⟨e3, fun _ j hj => h4 j (by omega)⟩, fun g => ⟨fun g2 => absurd g2 (by omega), fun _ => s_X0_birdAt c2.cb wf (by omega) ⟨vin (by omega) (by omega), fun Y eY => ih (i + 1) Y (by omega) (by omega) ?_ ?_ ?_ ?_⟩⟩⟩
      · exact f.tr ⟨fun a ha => by rw [eY, hup_n _ _ _ (by omega)], by rw [eY, hup_n _ _ _ (by omega)]⟩
      · exact ⟨by rw [eY, hup_n _ _ _ (by omega)]; exact c2.1, fun j hj => by rw [eY, hup_n _ _ _ (by omega)]; exact c2.2 j hj⟩
      · rw [eY, hup_n _ _ _ (by omega)]; exact e3
      · intro j hj
        rw [eY, hup_at]
        by_cases e : j = i
        · rw [if_pos e, e]
        · rw [if_neg e]; exact h4 j (by omega)
  refine ⟨z + 1, main _ 0 F2 (by omega) (by omega) ⟨fun a ha => by rw [e2, hup_n _ _ _ (by omega)], by rw [e2, hup_at, if_neg (by omega)]⟩ ⟨by rw [e2, hup_n _ _ _ (by omega)]; exact b.1, fun j hj => by rw [e2, hup_n _ _ _ (by omega)]; exact b.2 j hj⟩ (by rw [e2, hup_at, if_pos rfl]) (fun j hj => absurd hj (by omega))⟩
abbrev RE (k : Nat) (g : Nat → Nat) : Nat → (Nat → Nat) → Prop := fun s g' => k < s ∧ ∀ i, i < k → g' i = g i
theorem s_X4_extend (o' : OkF d) (hw : w < 2 ^ 20) : ∀ (dd k : Nat) (F : HF) (g : Nat → Nat) (fs : Nat) (h : Nat → Nat) (K : HF → Prop), 9 ≤ k + dd → k ≤ 8 → CF F 4 d → LMA d w F 0 → C2 F k g → vsq d k g → FS F fs h → fs ≤ 9 → (∀ G fs' h', FrS F G → C2 G k g → FS G fs' h' → EXT d w (RE k g) fs h fs' h' → K G) → wp_X4_extend dd K F (nI k) (nI (msk g k)) (nI w) := by
  intro dd
  induction dd with
  | zero => intro k F g fs h K h1 h2; omega
  | succ dd IH =>
    intro k F g fs h K hdk hk8 c lma c2 vs fS hfs kk
    have hB := o'.1
    have hW := o'.2.2.2.1
    have wf := vsq_wf o' k vs
    have hmk := msk_lt k (fun i hi => Nat.lt_of_lt_of_le (wf.2.1 i hi) hB)
    unfold wp_X4_extend
    have main : ∀ l b (X : HF) (f1 : Nat) (h1 : Nat → Nat), fB d + 1 ≤ b + l → b ≤ fB d → FrS F X → C2 X k g → FS X f1 h1 → EXT d w (fun s g' => RE k g s g' ∧ g' k < b) fs h f1 h1 → wp_X4_extend_3 K (wp_X4_extend dd) l X (nI k) (nI (msk g k)) (nI w) (nI b) := by
      intro l
      induction l with
      | zero => intro b X f1 h1 a1 a2; omega
      | succ l ih =>
        intro b X f1 h1 a1 a2 f cX fX ex
        have hf1 := ex.1
        have cFX := c.frS f
        unfold wp_X4_extend_3
        -- the next one, whatever became of this
        have next : b < fB d → ∀ (Y : HF) (f2 : Nat) (h2 : Nat → Nat), FrS X Y → C2 Y k g → FS Y f2 h2 → EXT d w (fun s g' => RE k g s g' ∧ g' k = b) f1 h1 f2 h2 → wp_X4_extend_178 K (wp_X4_extend dd) (wp_X4_extend_3 K (wp_X4_extend dd) l) Y (nI k) (nI (msk g k)) (nI w) (nI b) := by
          intro hb Y f2 h2 fY cY fSY ex2
          unfold wp_X4_extend_178
          rw [nI_add]
          refine ih (b + 1) Y f2 h2 (by omega) (by omega) (f.tr fY) cY fSY (EXT.comp o' ex ex2 (fun s g' r m => ?_) (fun s g' r => ⟨r.1, by have := r.2; omega⟩) (fun s g' r => ⟨r.1, by have := r.2; omega⟩) (fun s g1 g2 e r => ⟨⟨r.1.1, fun i hi => by rw [e i (by have := r.1.1; omega)]; exact r.1.2 i hi⟩, by rw [e k r.1.1]; exact r.2⟩) (fun s g1 g2 r1 r2 m2 lq => ?_))
          · rcases Nat.lt_or_ge (g' k) b with x | x
            · exact Or.inl ⟨r.1, x⟩
            · exact Or.inr ⟨r.1, by have := r.2; omega⟩
          · obtain ⟨j, j1, j2, j3⟩ := lq
            rcases Nat.lt_trichotomy j k with x | x | x
            · rw [r1.1.2 j x, r2.1.2 j x] at j3; omega
            · subst x; have := r1.2; have := r2.2; omega
            · have := j2 k x; have := r1.2; have := r2.2; omega
        refine s_X1_birds cFX ?_
        rw [nIle (by omega) (by omega), nIle (by omega) (by omega)]
        refine ⟨fun q => kk X f1 h1 f cX fX (ex.mono (fun s g' r m => ⟨r, by have := (m.1 k r.1).1; omega⟩) (fun s g' r => r.1)), fun q => ⟨fun q2 => kk X f1 h1 f cX fX (ex.mono (fun s g' r m => ?_) (fun s g' r => r.1)), fun q2 => ?_⟩⟩
        · have := (vsq_wf o' s m.1).1
          have := r.1
          omega
        have hb : b < fB d := by omega
        have h256 := or_256 (b := b) hmk (by omega)
        obtain ⟨u, hu, eu, lb⟩ := lma (msk g k ||| 2 ^ b) (Nat.zero_le _) h256
        have eu' : X 87 (msk g k ||| 2 ^ b) = nI u := by rw [f.1 87 (by omega)]; exact eu
        rw [bt_or _ hmk b (by omega), nIcl (by omega), eu', fX.1, nI_add k, nI_add (k + 1), nIle (by omega) (by omega), nIle (by omega) (by omega)]
        refine ⟨fun q3 => absurd q3 (by omega), fun _ => ⟨vin h256 (by omega), fun q3 => next hb X f1 h1 FrS.rf cX fX (EXT.none (fun s g' r m => ?_)), fun q3 => ?_⟩⟩
        · have := lb s g' (k + 1) m r.1.1 (by show msk g' k ||| 2 ^ g' k = _; rw [msk_cong k r.1.2, r.2])
          omega
        refine s_X0_mayJoin cFX o' cX.cb wf hb (fun mj1 => ⟨fun _ => ?_, fun e => absurd e (by decide)⟩) (fun mj1 => ⟨fun e => absurd rfl e, fun _ => next hb X f1 h1 FrS.rf cX fX (EXT.none (fun s g' r m => ?_))⟩)
        rotate_left
        · exfalso; apply mj1
          rw [← r.2]
          exact mj_cong (fun i hi => r.1.2 i hi) (m.1 k r.1.1).2
        -- it joins
        have hk : k < 8 := mj_lt o' wf hb mj1
        have vs1 : vsq d (k + 1) (fun i => if i = k then b else g i) := fun i hi => by
          show (if i = k then b else g i) < fB d ∧ mj d i (fun i => if i = k then b else g i) (if i = k then b else g i)
          by_cases e : i = k
          · rw [if_pos e, e]
            exact ⟨hb, mj_cong (fun j hj => by show g j = if j = k then b else g j; rw [if_neg (by omega)]) mj1⟩
          · rw [if_neg e]
            exact ⟨(vs i (by omega)).1, mj_cong (fun j hj => by show g j = if j = k then b else g j; rw [if_neg (by omega)]) (vs i (by omega)).2⟩
        have wf1 := vsq_wf o' (k + 1) vs1
        have ag1 : ∀ g' : Nat → Nat, (∀ i, i < k → g' i = g i) → g' k = b → ∀ i, i < k + 1 → g' i = (fun i => if i = k then b else g i) i := fun g' e1 e2 i hi => by
          show g' i = if i = k then b else g i
          by_cases e : i = k
          · rw [if_pos e, e, e2]
          · rw [if_neg e, e1 i (by omega)]
        refine s_X0_append cX.cb hk (fun Y1 fY1 bY1 => s_X0_rest (fun Y2 fY2 gY2 => ?_))
        have fX2 : FrL [80, 81, 82, 83] X Y2 := (fY1.mono (fun a ha => by simp at ha ⊢; omega)).tr (fY2.mono (fun a ha => by simp at ha ⊢; omega))
        have bY2 : CB Y2 80 (k + 1) (fun i => if i = k then b else g i) (fun _ => 0) := ⟨by rw [fY2 80 (by simp)]; exact bY1.1, by rw [fY2 81 (by simp)]; exact bY1.2.1, gY2⟩
        have cY2 : CF Y2 4 d := cFX.fr fX2 (fun a h1 h2 => by simp; omega)
        have hl1 := lsum_le o' wf1 (k + 1) (Nat.le_refl _)
        refine s_X0_placesSpanned cY2 o' bY2 wf1 ?_
        refine s_X0_walk cY2 o' bY2 wf1 (by omega) (fun x _ => Nat.zero_le _) (Nat.zero_le _) (by omega) (by omega) hw (fun Y3 fY3 => ?_)
        have fX3 : FrL [80, 81, 82, 83] X Y3 := fX2.tr (fY3.mono (fun a ha => by simp at ha ⊢; omega))
        have c3 : C2 Y3 (k + 1) (fun i => if i = k then b else g i) := ⟨by rw [fY3 80 (by simp)]; exact bY2.1, by rw [fY3 81 (by simp)]; exact bY2.2.1⟩
        have cY3 : CF Y3 4 d := cFX.fr fX3 (fun a h1 h2 => by simp; omega)
        have fsY3 : FS Y3 f1 h1 := fX3.fs (fun a ha => by simp at ha; omega) fX
        have frY3 : FrS X Y3 := fX3.frS (fun a ha => by simp at ha; omega)
        have lmaK : ∀ {Z : HF}, FrS X Z → LMA d w Z 0 := fun {Z} fz S h1 h2 => by rw [(f.tr fz).1 87 (by omega)]; exact lma S h1 h2
        have hg := wlk_ge (d := d) (z := k + 1) (o := fun i => if i = k then b else g i) (om := fun q => w + wnd d (0 + q - 0)) (min (lsum d (fun i => if i = k then b else g i) (k + 1)) (fW d) - 0) 0 (fun _ => 0)
        rw [nIe (by omega) (by omega)]
        have eom : (fun q => w + wnd d (0 + q - 0)) = (fun q => w + wnd d q) := by funext q; rw [Nat.zero_add, Nat.sub_zero]
        rw [eom, Nat.sub_zero] at hg ⊢
        -- away with the last one
        have s132 : ∀ (Y : HF) (f2 : Nat) (h2 : Nat → Nat), FrS X Y → C2 Y (k + 1) (fun i => if i = k then b else g i) → FS Y f2 h2 → EXT d w (fun s g' => RE k g s g' ∧ g' k = b) f1 h1 f2 h2 → wp_X4_extend_171 K (wp_X4_extend dd) (wp_X4_extend_3 K (wp_X4_extend dd) l) Y (nI k) (nI (msk g k)) (nI w) (nI b) := by
          intro Y f2 h2 fY cY fSY ex2
          unfold wp_X4_extend_171
          refine s_X0_dropLast cY.cb (by omega) (by omega) (fun Z fZ bZ => next hb Z f2 h2 (fY.tr (fZ.frS (fun a ha => by simp at ha; omega))) ?_ (fZ.fs (fun a ha => by simp at ha; omega) fSY) ex2)
          refine ⟨bZ.1, fun i hi => ?_⟩
          rw [bZ.2.1 i (by omega)]
          show nI (if i = k then b else g i) = nI (g i)
          rw [if_neg (by omega)]
        have s124 : lsum d (fun i => if i = k then b else g i) (k + 1) < fW d → wp_X4_extend_161 K (wp_X4_extend dd) (wp_X4_extend_3 K (wp_X4_extend dd) l) Y3 (nI k) (nI (msk g k)) (nI w) (nI b) (nI (msk g k ||| 2 ^ b)) := by
          intro hnw
          unfold wp_X4_extend_161
          have emk : msk (fun i => if i = k then b else g i) (k + 1) = msk g k ||| 2 ^ b := by
            show msk (fun i => if i = k then b else g i) k ||| 2 ^ (if k = k then b else g k) = _
            rw [if_pos rfl, msk_cong (g := fun i => if i = k then b else g i) (h := g) k (fun i hi => by show (if i = k then b else g i) = g i; rw [if_neg (by omega)])]
          rw [nI_add, ← emk]
          refine IH (k + 1) Y3 _ f1 h1 _ (by omega) (by omega) cY3 (lmaK frY3) c3 vs1 fsY3 (by omega) (fun Z f2 h2 fZ cZ fSZ ex2 => s132 Z f2 h2 (frY3.tr fZ) cZ fSZ (ex2.mono (fun s g' r m => ?_) (fun s g' r => ?_)))
          · refine ⟨?_, fun i hi => ag1 g' r.1.2 r.2 i hi⟩
            rcases Nat.lt_or_ge (k + 1) s with x | x
            · exact x
            · have : s = k + 1 := by have := r.1.1; omega
              subst this
              have := m.2.1
              rw [lsum_cong (k + 1) (ag1 g' r.1.2 r.2)] at this
              omega
          · refine ⟨⟨by have := r.1; omega, fun i hi => ?_⟩, ?_⟩
            · rw [r.2 i (by omega)]; show (if i = k then b else g i) = g i; rw [if_neg (by omega)]
            · rw [r.2 k (by omega)]; show (if k = k then b else g k) = b; rw [if_pos rfl]
        have hkb := (o'.2.2.2.2.2.2.2.1 b hb).2.2.2.2.1
        have s83 : ∀ s0, s0 ≤ 1 → (s0 = 1 ↔ wlk d (k + 1) (fun i => if i = k then b else g i) (fun q => w + wnd d q) (min (lsum d (fun i => if i = k then b else g i) (k + 1)) (fW d)) 0 (fun _ => 0) = min (lsum d (fun i => if i = k then b else g i) (k + 1)) (fW d)) → wp_X4_extend_119 K (wp_X4_extend dd) (wp_X4_extend_3 K (wp_X4_extend dd) l) Y3 (nI k) (nI (msk g k)) (nI w) (nI b) (nI (msk g k ||| 2 ^ b)) (nI s0) := by
          intro s0 hs0 hsi
          unfold wp_X4_extend_119
          refine s_X0_isWhole cY3 o' c3.cb wf1 (fun hwh => ⟨fun e => absurd e (by decide), fun _ => ?_⟩) (fun hwh => ⟨fun _ => ?_, fun e => absurd rfl e⟩)
          · rw [nIe (by omega) (by omega)]
            rw [Nat.min_eq_right hwh] at hsi hg
            have noext : ∀ s g', (RE k g s g' ∧ g' k = b) → sol d w s g' → s = k + 1 := fun s g' r m => by
              rcases Nat.lt_or_ge (k + 1) s with x | x
              · have := (m.1 (k + 1) x).2.1
                rw [lsum_cong (k + 1) (ag1 g' r.1.2 r.2)] at this
                omega
              · have := r.1.1; omega
            refine ⟨fun e => s132 Y3 f1 h1 frY3 c3 fsY3 (EXT.none (fun s g' r m => ?_)), fun e => ?_⟩
            · have es := noext s g' r m
              subst es
              have m2 := sol_cong (ag1 g' r.1.2 r.2) o' m
              have := m2.2.2
              exfalso
              have := hsi.mpr (by omega)
              omega
            · refine s_X4_noteFound (by omega) wf1 c3 (fun Z fZ cZ fSZ => s132 Z (k + 1) _ (frY3.tr fZ) cZ fSZ ?_)
              have hyes := hsi.mp (by omega)
              refine ⟨by omega, fun x => absurd x (by omega), fun s g' r m => by have := r.1.1; omega, fun _ => ⟨by omega, ⟨vs1, hwh, by omega⟩, ⟨⟨by omega, fun i hi => by show (if i = k then b else g i) = g i; rw [if_neg (by omega)]⟩, by show (if k = k then b else g k) = b; rw [if_pos rfl]⟩, fun g' r m lq => ?_⟩⟩
              obtain ⟨j, j1, j2, j3⟩ := lq
              rw [ag1 g' r.1.2 r.2 j j1] at j3
              omega
          · rw [nIe (by omega) (by omega)]
            rw [Nat.min_eq_left (by omega)] at hsi hg
            refine ⟨fun e => s124 hwh, fun e => s_X1_kindOf cY3 o' hb ?_⟩
            rw [nIe (by omega) (by omega)]
            refine ⟨fun e4 => s132 Y3 f1 h1 frY3 c3 fsY3 (EXT.none (fun s g' r m => ?_)), fun e4 => s124 hwh⟩
            exfalso
            have wfg := vsq_wf o' s m.1
            have hks : k + 1 ≤ s := r.1.1
            have hbreak : wlk d (k + 1) (fun i => if i = k then b else g i) (fun q => w + wnd d q) (lsum d (fun i => if i = k then b else g i) (k + 1)) 0 (fun _ => 0) < lsum d (fun i => if i = k then b else g i) (k + 1) := by
              rcases Nat.lt_or_ge (wlk d (k + 1) (fun i => if i = k then b else g i) (fun q => w + wnd d q) (lsum d (fun i => if i = k then b else g i) (k + 1)) 0 (fun _ => 0)) (lsum d (fun i => if i = k then b else g i) (k + 1)) with x | x
              · exact x
              · have := hsi.mpr (by omega); omega
            have P := prune (om := fun q => w + wnd d q) hks (by omega) (fun i hi => (ag1 g' r.1.2 r.2 i hi).symm) wfg (by show fK d (if k + 1 - 1 = k then b else g (k + 1 - 1)) ≠ 4; rw [if_pos (by omega)]; exact e4) (lsum d (fun i => if i = k then b else g i) (k + 1)) 0 (fun _ => 0) (fun _ => 0) (by omega) (fun _ _ => rfl) (by omega) (fW d) (by omega)
            have := m.2.2
            omega
        exact ⟨fun e => s83 0 (by omega) ⟨fun x => by omega, fun x => absurd x e⟩, fun e => s83 1 (by omega) ⟨fun _ => e, fun _ => rfl⟩⟩
    exact ⟨fB d + 1, main _ 0 F fs h (by omega) (by omega) FrS.rf c2 fS (EXT.none (fun s g' r => absurd r.2 (by omega)))⟩
end Few2
