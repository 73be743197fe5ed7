def sty (d : FD) (z : Nat) (o : Nat → Nat) (wg p : Nat) : Nat → (Nat → Nat)
  | 0 => fun _ => 0
  | j + 1 => tir d o (bl d o z p (wg + wnd d j)) z (sty d z o wg p j)
def asS (d : FD) (z : Nat) (o : Nat → Nat) (wg m ns : Nat) (sk sh : Nat → Nat) (p : Nat) : Prop := ∀ i, i < ns → sk i < z ∧ sty d z o wg p m (o (sk i)) = sh i
def acc (d : FD) (z : Nat) (o : Nat → Nat) (wg m ns : Nat) (sk sh : Nat → Nat) : Nat → Int32
  | 0 => nI 0
  | p + 1 => if ∀ i, i < ns → sk i < z ∧ sty d z o wg p m (o (sk i)) = sh i then acc d z o wg m ns sk sh p ||| (nI 1 <<< (nI p &&& 31)) else acc d z o wg m ns sk sh p
theorem acc_t {d : FD} {z : Nat} {o : Nat → Nat} {wg m ns : Nat} {sk sh : Nat → Nat} {p : Nat} (h : asS d z o wg m ns sk sh p) : acc d z o wg m ns sk sh (p + 1) = acc d z o wg m ns sk sh p ||| (nI 1 <<< (nI p &&& 31)) := by
  show (if ∀ i, i < ns → sk i < z ∧ sty d z o wg p m (o (sk i)) = sh i then _ else _) = _
  exact if_pos h
theorem acc_f {d : FD} {z : Nat} {o : Nat → Nat} {wg m ns : Nat} {sk sh : Nat → Nat} {p : Nat} (h : ¬ asS d z o wg m ns sk sh p) : acc d z o wg m ns sk sh (p + 1) = acc d z o wg m ns sk sh p := by
  show (if ∀ i, i < ns → sk i < z ∧ sty d z o wg p m (o (sk i)) = sh i then _ else _) = _
  exact if_neg h
theorem tir_bd {d : FD} {o w : Nat → Nat} {M : Nat} (hw : ∀ k, w k ≤ M) : ∀ k t b, tir d o w k t b ≤ t b + k * (2 * M) := by
  intro k
  induction k with
  | zero => intro t b; show t b ≤ _; omega
  | succ k ih =>
    intro t b
    have h1 := ih t b
    have h2 := hw k
    have h3 : inc d b (w k) ≤ 2 * M := by unfold inc; split <;> omega
    have e : (k + 1) * (2 * M) = k * (2 * M) + 2 * M := Nat.succ_mul k (2 * M)
    show (if b = o k then tir d o w k t b + inc d b (w k) else tir d o w k t b) ≤ _
    split <;> omega
theorem sty_bd {d : FD} (o' : OkF d) {z : Nat} {o : Nat → Nat} {wg p : Nat} (hz : z ≤ 8) (hwg : wg ≤ 850) : ∀ j b, sty d z o wg p j b ≤ j * 16000 := by
  intro j
  induction j with
  | zero => intro b; exact Nat.zero_le _
  | succ j ih =>
    intro b
    have h1 := ih b
    have hw := wnd_le o' j
    have h2 := tir_bd (d := d) (o := o) (w := bl d o z p (wg + wnd d j)) (M := 1000) (fun k => by have := bl_le d o z p (wg + wnd d j) k; omega) z (sty d z o wg p j) b
    show tir d o (bl d o z p (wg + wnd d j)) z (sty d z o wg p j) b ≤ _
    have : z * (2 * 1000) ≤ 8 * (2 * 1000) := Nat.mul_le_mul_right _ hz
    omega
section Top10
variable {F G : HF} {n : Nat} {d : FD} {N : ND}
theorem s_X6_isAsSeen {K : Int32 → HF → Prop} (c : CF F 4 d) (o' : OkF d) (cN : CN F 16 N) (wN : WfN n d N) (hw : fW d ≤ lsum d (no N) (nz N)) {p m ns : Nat} {sk sh : Nat → Nat} (hp : p < fW d) (hm : m ≤ 20) (hns : ns ≤ 6) (y1 : F 0 10 = nI ns) (y3 : ∀ i, i < ns → sk i < 8 ∧ sh i ≤ 99 ∧ F 85 i = nI (sk i) ∧ F 86 i = nI (sh i)) (k1 : asS d (nz N) (no N) (wgt d (nye N)) m ns sk sh p → ∀ G, FrL cS F G → K (nI 1) G) (k0 : ¬ asS d (nz N) (no N) (wgt d (nye N)) m ns sk sh p → ∀ G, FrL cS F G → K (nI 0) G) : wp_X6_isAsSeen K F (nI p) (nI m) := by
  have hW := o'.2.2.2.1
  have hB := o'.1
  have h8 := wN.1.1
  have hwg := wgt_le o' (y := nye N) (by have := wN.2.2.2.1; omega)
  unfold wp_X6_isAsSeen
  refine s_X0_copyRested (by omega) cN.2.2.2.2 h8 (fun G1 f1 b1 => ?_)
  have f1' : FrL cS F G1 := f1.mono (fun a ha => by simp at ha ⊢; omega)
  have s60 : ∀ (X : HF), FrL cS F X → CB X 21 (nz N) (no N) (sty d (nz N) (no N) (wgt d (nye N)) p m) → ∀ l i, ns + 1 ≤ i + l → i ≤ ns → (∀ j, j < i → sk j < nz N ∧ sty d (nz N) (no N) (wgt d (nye N)) p m (no N (sk j)) = sh j) → wp_X6_isAsSeen_60 K l X (nI i) := by
    intro X f b l
    induction l with
    | zero => intro i a1 a2; omega
    | succ l ih =>
      intro i a1 a2 h3
      unfold wp_X6_isAsSeen_60
      rw [f 0 (by simp), y1, nIle (by omega) (by omega), nIcl (by omega), f 85 (by simp)]
      refine ⟨fun g => k1 (fun j hj => h3 j (by omega)) X f, fun g => ?_⟩
      obtain ⟨z1, z2, z3, z4⟩ := y3 i (by omega)
      rw [z3]
      refine ⟨vin (by omega) (by omega), s_X0_size b ?_⟩
      rw [nIle (by omega) (by omega), f 85 (by simp), z3]
      refine ⟨fun g2 => k0 (fun x => by have := (x i (by omega)).1; omega) X f, fun g2 => ⟨vin (by omega) (by omega), ?_⟩⟩
      have hsz : sk i < nz N := by omega
      refine s_X0_birdAt b wN.1 hsz (s_X0_tiredOf b (by have := wN.1.2.1 _ hsz; omega) ⟨vin (by omega) (by omega), ?_⟩)
      have hb := sty_bd o' (z := nz N) (o := no N) (wg := wgt d (nye N)) (p := p) h8 hwg m (no N (sk i))
      have : m * 16000 ≤ 20 * 16000 := Nat.mul_le_mul_right _ hm
      rw [f 86 (by simp), z4, nIe (by omega) (by omega), nI_add]
      refine ⟨fun e => ih (i + 1) (by omega) (by omega) (fun j hj => ?_), fun e => k0 (fun x => e (x i (by omega)).2) X f⟩
      rcases Nat.lt_or_ge j i with q | q
      · exact h3 j q
      · have : j = i := by omega
        subst this; exact ⟨hsz, e⟩
  have main : ∀ l j (X : HF), m + 1 ≤ j + l → j ≤ m → FrL cS F X → CB X 21 (nz N) (no N) (sty d (nz N) (no N) (wgt d (nye N)) p j) → wp_X6_isAsSeen_16 K l X (nI p) (nI m) (nI j) := by
    intro l
    induction l with
    | zero => intro j X a1 a2; omega
    | succ l ih =>
      intro j X a1 a2 f b
      unfold wp_X6_isAsSeen_16
      rw [nIle (by omega) (by omega)]
      refine ⟨fun g => ?_, fun g => ?_⟩
      · have : j = m := by omega
        subst this
        exact ⟨ns + 1, s60 X f b _ 0 (by omega) (by omega) (fun j hj => absurd hj (by omega))⟩
      · have cX := cf_s c f
        refine s_X2_weight cX (cn_s cN f) (s_X1_windIn cX o' (by omega) ?_)
        have hwn := wnd_le o' j
        rw [nI_add (wgt d (nye N))]
        refine s_X0_loadAlone cX o' b wN.1 (by omega) (by omega) (by omega) (fun Y fY gY => ?_)
        have fY' : FrL cS F Y := f.tr (fY.mono (fun a ha => by simp at ha ⊢; omega))
        refine s_X0_tire (w := bl d (no N) (nz N) p (wgt d (nye N) + wnd d j)) (cf_s c fY') o' (b.fr fY (by simp) (by simp) (by simp)) wN.1 (by omega) gY (fun i _ => by have := bl_le d (no N) (nz N) p (wgt d (nye N) + wnd d j) i; omega) (fun Z fZ bZ => ?_)
        rw [nI_add]
        exact ih (j + 1) Z (by omega) (by omega) (fY'.tr (fZ.mono (fun a ha => by simp at ha ⊢; omega))) bZ
  exact ⟨m + 1, main _ 0 G1 (by omega) (by omega) f1' b1⟩
theorem s_X7_isStood {K : Int32 → HF → Prop} (c : MF F d) (o' : OkF d) (mN : MNf (F 120) N) (wN : WfN n d N) (hw : fW d ≤ lsum d (no N) (nz N)) {p m ns : Nat} {sk sh : Nat → Nat} (hp : p < fW d) (hm : m ≤ 20) (hns : ns ≤ 6) (y1 : F 100 27 = nI ns) (y3 : ∀ i, i < ns → sk i < 8 ∧ sh i ≤ 99 ∧ F 126 (2 * i) = nI (sk i) ∧ F 126 (2 * i + 1) = nI (sh i)) (k1 : asS d (nz N) (no N) (wgt d (nye N)) m ns sk sh p → ∀ G, FrL mS F G → K (nI 1) G) (k0 : ¬ asS d (nz N) (no N) (wgt d (nye N)) m ns sk sh p → ∀ G, FrL mS F G → K (nI 0) G) : wp_X7_isStood K F (nI p) (nI m) := by
  have hW := o'.2.2.2.1
  have hB := o'.1
  have h8 := wN.1.1
  have hwg := wgt_le o' (y := nye N) (by have := wN.2.2.2.1; omega)
  unfold wp_X7_isStood
  refine cpf_121 mN h8 (fun G1 f1 b1 g1 g2 g3 => ⟨vin (by omega) (by omega), fun G2 e2 => ?_⟩)
  have e2' : G2 = hup G1 121 3 (nI p) := e2
  have f2 : FrL mS F G2 := by rw [e2']; exact f1.tr (FrL.up (by simp))
  have a2 : ∀ j, j ≠ 3 → G2 121 j = G1 121 j := fun j hj => by rw [e2', hup_at, if_neg hj]
  have b2 : MB G2 121 (nz N) (no N) (fun _ => 0) := ⟨by rw [a2 0 (by omega)]; exact b1.1, fun k hk => by rw [a2 _ (by omega)]; exact b1.2.1 k hk, fun k hk => by rw [a2 _ (by omega)]; exact b1.2.2 k hk⟩
  have s80 : ∀ (X : HF), FrL mS F X → MB X 121 (nz N) (no N) (sty d (nz N) (no N) (wgt d (nye N)) p m) → ∀ l i, ns + 1 ≤ i + l → i ≤ ns → (∀ j, j < i → sk j < nz N ∧ sty d (nz N) (no N) (wgt d (nye N)) p m (no N (sk j)) = sh j) → wp_X7_isStood_80 K l X (nI i) := by
    intro X f b l
    induction l with
    | zero => intro i a1 a2; omega
    | succ l ih =>
      intro i a1 a2 h3
      unfold wp_X7_isStood_80
      rw [f 100 (by simp), y1, nIle (by omega) (by omega), f 126 (by simp), pk_mul]
      refine ⟨fun g => k1 (fun j hj => h3 j (by omega)) X f, fun g => ?_⟩
      obtain ⟨z1, z2, z3, z4⟩ := y3 i (by omega)
      rw [nIcl (show 2 * i < 2 ^ 31 by omega), z3, nI_add (2 * i) 1, nIcl (show 2 * i + 1 < 2 ^ 31 by omega), z4, show X 121 (nI 0).toNatClampNeg = nI (nz N) from b.1, nIle (by omega) (by omega), nI_add 5, nIcl (show 5 + sk i < 2 ^ 31 by omega)]
      refine ⟨vin (by omega) (by omega), vin (by omega) (by omega), fun g2 => k0 (fun x => by have := (x i (by omega)).1; omega) X f, fun g2 => ⟨vin (by omega) (by omega), ?_⟩⟩
      have hsz : sk i < nz N := by omega
      have hob := wN.1.2.1 _ hsz
      rw [b.2.1 _ hsz, nI_add, nIcl (show 13 + no N (sk i) < 2 ^ 31 by omega), b.2.2 _ (by omega)]
      have hb := sty_bd o' (z := nz N) (o := no N) (wg := wgt d (nye N)) (p := p) h8 hwg m (no N (sk i))
      have : m * 16000 ≤ 20 * 16000 := Nat.mul_le_mul_right _ hm
      rw [nIe (by omega) (by omega), nI_add]
      refine ⟨vin (by omega) (by omega), vin (by omega) (by omega), fun e => ih (i + 1) (by omega) (by omega) (fun j hj => ?_), fun e => k0 (fun x => e (x i (by omega)).2) X f⟩
      rcases Nat.lt_or_ge j i with q | q
      · exact h3 j q
      · have : j = i := by omega
        subst this; exact ⟨hsz, e⟩
  have main : ∀ l j (X : HF), m + 1 ≤ j + l → j ≤ m → FrL mS F X → X 121 2 = nI (nye N) → MB X 121 (nz N) (no N) (sty d (nz N) (no N) (wgt d (nye N)) p j) → wp_X7_isStood_30 K l X (nI p) (nI m) (nI j) := by
    intro l
    induction l with
    | zero => intro j X a1 a2; omega
    | succ l ih =>
      intro j X a1 a2 f hy b
      unfold wp_X7_isStood_30
      rw [nIle (by omega) (by omega)]
      refine ⟨fun g => ?_, fun g => ?_⟩
      · have : j = m := by omega
        subst this
        exact ⟨ns + 1, s80 X f b _ 0 (by omega) (by omega) (fun j hj => absurd hj (by omega))⟩
      · refine s_X7_noLoads (fun Y fY gY => ⟨vin (by omega) (by omega), ?_⟩)
        have fY' : FrL mS F Y := f.tr (fY.mono (fun a ha => by simp at ha; simp [ha]))
        have bY := b.fr fY (by simp)
        rw [show Y 121 (nI 2).toNatClampNeg = nI (nye N) from by show Y 121 2 = _; rw [fY 121 (by simp)]; exact hy]
        refine s_X7_weightIn (mf_s c fY') (s_X7_windIn (mf_s c fY') o' (by omega) ?_)
        have hwn := wnd_le o' j
        rw [nI_add (wgt d (nye N))]
        refine s_X7_bear (w := fun _ => 0) (mf_s c fY') o' bY wN.1 (by omega) (by omega) (by omega) gY (fun Z fZ gZ => ?_)
        have fZ' : FrL mS F Z := fY'.tr (fZ.mono (fun a ha => by simp at ha; simp [ha]))
        refine s_X7_tire (w := bl d (no N) (nz N) p (wgt d (nye N) + wnd d j)) (mf_s c fZ') o' (bY.fr fZ (by simp)) wN.1 (by omega) (by omega) (fun i hi => ?_) (fun i _ => by have := bl_le d (no N) (nz N) p (wgt d (nye N) + wnd d j) i; omega) (fun V fV aV bV => ?_)
        · rw [gZ i hi]
          unfold prs bl
          by_cases q : i < nz N
          · rw [if_pos q, if_pos q, Nat.zero_add]
          · rw [if_neg q, if_neg q]
        · rw [nI_add]
          exact ih (j + 1) V (by omega) (by omega) (fZ'.tr (fV.mono (fun a ha => by simp at ha; simp [ha]))) (by rw [aV 2 (by omega), fZ 121 (by simp), fY 121 (by simp)]; exact hy) bV
  exact ⟨m + 1, main _ 0 G2 (by omega) (by omega) f2 (by rw [a2 2 (by omega)]; exact g2) b2⟩
theorem t_stood (h : Inv n F) (a : Int32) : wp_X6_stood (fun r F1 => wp_X7_stood (fun r2 F2 => r = r2 ∧ Inv (n + 1) F2) F1 a) F a := by
  obtain ⟨d, o', hb, i1, ⟨N, wN, cN, mN⟩, -, -, ⟨ns, sk, sh, y0, y1, y2, y3⟩, -⟩ := id h
  have hW := o'.2.2.2.1
  unfold wp_X6_stood
  have bad : (a < nI 1 ∨ nI 20 < a) → wp_X7_stood (fun r2 F2 => (-1 : Int32) = r2 ∧ Inv (n + 1) F2) F a := fun q => by
    unfold wp_X7_stood
    exact s_in_bad q ⟨fun e => absurd rfl e, fun _ => h.end Ag.rf rfl⟩
  rcases rng a 1 (N := 20) (by omega) (by omega) with q | ⟨q1, q2, q3⟩ | ⟨m, h1, hm, rfl⟩
  · exact ⟨fun _ => bad (Or.inl q), fun g => absurd q g⟩
  · exact ⟨fun x => absurd x q1, fun _ => ⟨fun x => absurd x q3, fun _ => bad (Or.inr q2)⟩⟩
  refine ⟨fun x => absurd x (nI_nlt h1 (by omega)), fun _ => ⟨fun _ => ?_, fun x => absurd (nI_le hm (by omega)) x⟩⟩
  have ref : ∀ (X : HF) (v : Int32), FrL cS F X → (lsum d (no N) (nz N) < fW d → v = -2) → (fW d ≤ lsum d (no N) (nz N) → v = acc d (nz N) (no N) (wgt d (nye N)) m ns sk sh (fW d)) → wp_X7_stood (fun r2 F2 => v = r2 ∧ Inv (n + 1) F2) X (nI m) := by
    intro X v fX v2 v1
    have mX := mf_c i1.2 fX
    have nX := mn_c mN fX
    unfold wp_X7_stood
    refine s_in_ok h1 hm (by omega) ⟨fun _ => s_X7_isWhole mX o' nX.mb wN.1 (fun hw => ⟨fun _ => ?_, fun e => absurd e (by decide)⟩) (fun hw => ⟨fun e => absurd rfl e, fun _ => h.end (ag_s fX) (v2 hw)⟩), fun e => absurd e (by decide)⟩
    have main : ∀ l p (Y : HF), fW d + 1 ≤ p + l → p ≤ fW d → FrL mS X Y → wp_X7_stood_30 (fun r2 F2 => v = r2 ∧ Inv (n + 1) F2) l Y (nI m) (acc d (nz N) (no N) (wgt d (nye N)) m ns sk sh p) (nI p) := by
      intro l
      induction l with
      | zero => intro p Y a1 a2; omega
      | succ l ih =>
        intro p Y a1 a2 f
        unfold wp_X7_stood_30
        rw [(mf_s mX f).2.2.1, nIle (by omega) (by omega)]
        refine ⟨fun g => ?_, fun g => ?_⟩
        · have : p = fW d := by omega
          subst this
          exact h.end ((ag_s fX).tr (ag_m f)) (v1 hw)
        · refine s_X7_isStood (mf_s mX f) o' (mn_s nX f) wN hw (by omega) hm y0 (by rw [f 100 (by simp), fX 100 (by simp)]; exact y2) (fun i hi => ⟨(y3 i hi).1, (y3 i hi).2.1, by rw [f 126 (by simp), fX 126 (by simp)]; exact (y3 i hi).2.2.2.2.1, by rw [f 126 (by simp), fX 126 (by simp)]; exact (y3 i hi).2.2.2.2.2⟩) (fun g2 Z fZ => ⟨fun e => absurd e (by decide), fun _ => ?_⟩) (fun g2 Z fZ => ⟨fun _ => ?_, fun e => absurd rfl e⟩)
          · unfold wp_X7_stood_55
            rw [nI_add, ← acc_t g2]
            exact ih (p + 1) Z (by omega) (by omega) (f.tr fZ)
          · unfold wp_X7_stood_55
            rw [nI_add, show acc d (nz N) (no N) (wgt d (nye N)) m ns sk sh p ||| nI 0 = acc d (nz N) (no N) (wgt d (nye N)) m ns sk sh p from Int32.or_zero, ← acc_f g2]
            exact ih (p + 1) Z (by omega) (by omega) (f.tr fZ)
    exact ⟨fW d + 1, main _ 0 X (by omega) (by omega) FrL.rf⟩
  refine s_X0_isWhole i1.1 o' cN.2.2.2.2 wN.1 (fun hw => ⟨fun _ => ?_, fun e => absurd e (by decide)⟩) (fun hw => ⟨fun e => absurd rfl e, fun _ => ref F _ FrL.rf (fun _ => rfl) (fun g => absurd hw (by omega))⟩)
  have main : ∀ l p (X : HF), fW d + 1 ≤ p + l → p ≤ fW d → FrL cS F X → wp_X6_stood_33 (fun r F1 => wp_X7_stood (fun r2 F2 => r = r2 ∧ Inv (n + 1) F2) F1 (nI m)) l X (nI m) (acc d (nz N) (no N) (wgt d (nye N)) m ns sk sh p) (nI p) := by
    intro l
    induction l with
    | zero => intro p X a1 a2; omega
    | succ l ih =>
      intro p X a1 a2 f
      unfold wp_X6_stood_33
      refine s_X1_width (cf_s i1.1 f) ?_
      rw [nIle (by omega) (by omega)]
      refine ⟨fun g => ?_, fun g => ?_⟩
      · have : p = fW d := by omega
        subst this
        exact ref X _ f (fun g2 => absurd hw (by omega)) (fun _ => rfl)
      · refine s_X6_isAsSeen (cf_s i1.1 f) o' (cn_s cN f) wN hw (by omega) hm y0 (by rw [f 0 (by simp)]; exact y1) (fun i hi => ⟨(y3 i hi).1, (y3 i hi).2.1, by rw [f 85 (by simp)]; exact (y3 i hi).2.2.1, by rw [f 86 (by simp)]; exact (y3 i hi).2.2.2.1⟩) (fun g2 Z fZ => ⟨fun e => absurd e (by decide), fun _ => ?_⟩) (fun g2 Z fZ => ⟨fun _ => ?_, fun e => absurd rfl e⟩)
        · unfold wp_X6_stood_59
          rw [nI_add, ← acc_t g2]
          exact ih (p + 1) Z (by omega) (by omega) (f.tr fZ)
        · unfold wp_X6_stood_59
          rw [nI_add, ← acc_f g2]
          exact ih (p + 1) Z (by omega) (by omega) (f.tr fZ)
  exact ⟨fW d + 1, main _ 0 F (by omega) (by omega) FrL.rf⟩
end Top10
