def ru (x : Int32) : Nat → Int64
  | 0 => lN 1000000
  | i + 1 => ru x i * ((nI 10) - x).toInt64
def dwx (a1 a2 a3 : Int32) : Int32 := ((((((((((lN 7919) * (a1).toInt64) + ((lN 6151) * (a2).toInt64)) + ((lN 331) * (a3).toInt64)) + (lN 1)) * (((((lN 7919) * (a1).toInt64) + ((lN 6151) * (a2).toInt64)) + ((lN 331) * (a3).toInt64)) + (lN 1))) - ((((((lN 7919) * (a1).toInt64) + ((lN 6151) * (a2).toInt64)) + ((lN 331) * (a3).toInt64)) + (lN 1)) * (((((lN 7919) * (a1).toInt64) + ((lN 6151) * (a2).toInt64)) + ((lN 331) * (a3).toInt64)) + (lN 1))) / (lN 65521) * (lN 65521)) / (lN 8)) - ((((((((lN 7919) * (a1).toInt64) + ((lN 6151) * (a2).toInt64)) + ((lN 331) * (a3).toInt64)) + (lN 1)) * (((((lN 7919) * (a1).toInt64) + ((lN 6151) * (a2).toInt64)) + ((lN 331) * (a3).toInt64)) + (lN 1))) - ((((((lN 7919) * (a1).toInt64) + ((lN 6151) * (a2).toInt64)) + ((lN 331) * (a3).toInt64)) + (lN 1)) * (((((lN 7919) * (a1).toInt64) + ((lN 6151) * (a2).toInt64)) + ((lN 331) * (a3).toInt64)) + (lN 1))) / (lN 65521) * (lN 65521)) / (lN 8)) / (lN 21) * (lN 21))).toInt32
def dr (z y k : Nat) : Nat := ((7919 * z + 6151 * y + 331 * k + 1) * (7919 * z + 6151 * y + 331 * k + 1) % 65521 / 8) % 21
theorem dr_le (z y k : Nat) : dr z y k ≤ 20 := by
  unfold dr
  have := Nat.mod_lt ((7919 * z + 6151 * y + 331 * k + 1) * (7919 * z + 6151 * y + 331 * k + 1) % 65521 / 8) (show 0 < 21 by omega)
  omega
theorem dwx_eq {z y k : Nat} (hz : z ≤ 9999) (hy : y ≤ 90) (hk : k ≤ 20) : dwx (nI z) (nI y) (nI k) = nI (dr z y k) := by
  unfold dwx dr
  rw [nI_l (show z < 2 ^ 31 by omega), nI_l (show y < 2 ^ 31 by omega), nI_l (show k < 2 ^ 31 by omega)]
  simp only [lN_mul, lN_add]
  have hx : 7919 * z + 6151 * y + 331 * k + 1 ≤ 80000000 := by omega
  generalize 7919 * z + 6151 * y + 331 * k + 1 = x at hx ⊢
  have hxx : x * x ≤ 80000000 * 80000000 := Nat.mul_le_mul hx hx
  generalize x * x = q at hxx ⊢
  rw [pk_lRem (by omega) (by omega) (by omega)]
  have h1 : q % 65521 < 65521 := Nat.mod_lt _ (by omega)
  generalize q % 65521 = r at h1 ⊢
  rw [pk_lDiv (by omega) (by omega) (by omega)]
  rw [pk_lRem (by omega) (by omega) (by omega), lN_i]
section Top11
variable {F G : HF} {n : Nat} {d : FD} {N : ND}
theorem pow_le9 {w : Nat} (h : w ≤ 9) : 10 ^ w ≤ 10 ^ 9 := Nat.pow_le_pow_right (by omega) h
theorem t_rain (h : Inv n F) (a : Int32) : wp_X6_rain (fun r F1 => wp_X7_rain (fun r2 F2 => r = r2 ∧ Inv (n + 1) F2) F1 a) F a := by
  obtain ⟨d, o', hb, i1, -⟩ := id h
  have hW := o'.2.2.2.1
  have hp := pow_le9 hW
  have hp0 : 0 < 10 ^ fW d := Nat.pow_pos (by omega)
  have hne : ¬ lN (10 ^ fW d) = lN 0 := by
    rw [pk_lEQ (by omega) (by omega)]; omega
  unfold wp_X6_rain
  have bad : (a < nI 0 ∨ nI 10 < a) → wp_X7_rain (fun r2 F2 => (-1 : Int32) = r2 ∧ Inv (n + 1) F2) F a := fun q => by
    unfold wp_X7_rain
    exact s_in_bad q ⟨fun e => absurd rfl e, fun _ => h.end Ag.rf rfl⟩
  rcases rng a 0 (N := 10) (by omega) (by omega) with q | ⟨q1, q2, q3⟩ | ⟨x, h1, hx, rfl⟩
  · exact ⟨fun _ => bad (Or.inl q), fun g => absurd q g⟩
  · exact ⟨fun x => absurd x q1, fun _ => ⟨fun x => absurd x q3, fun _ => bad (Or.inr q2)⟩⟩
  refine ⟨fun x => absurd x (nI_pos (by omega)), fun _ => ⟨fun _ => ?_, fun x => absurd (nI_le hx (by omega)) x⟩⟩
  have e1 : lN 1 = lN (10 ^ 0) := rfl
  have es : ∀ i, lN (10 ^ i) * lN 10 = lN (10 ^ (i + 1)) := fun i => by rw [lN_mul, Nat.pow_succ]
  have ref : wp_X7_rain (fun r2 F2 => (ru (nI x) (fW d) / lN (10 ^ fW d)).toInt32 = r2 ∧ Inv (n + 1) F2) F (nI x) := by
    unfold wp_X7_rain
    refine s_in_ok h1 hx (by omega) ⟨fun _ => ?_, fun e => absurd e (by decide)⟩
    have main : ∀ l i, fW d + 1 ≤ i + l → i ≤ fW d → wp_X7_rain_22 (fun r2 F2 => (ru (nI x) (fW d) / lN (10 ^ fW d)).toInt32 = r2 ∧ Inv (n + 1) F2) l F (nI x) (ru (nI x) i) (lN (10 ^ i)) (nI i) := by
      intro l
      induction l with
      | zero => intro i a1 a2; omega
      | succ l ih =>
        intro i a1 a2
        unfold wp_X7_rain_22
        rw [i1.2.2.2.1, nIle (by omega) (by omega), nI_add, es]
        refine ⟨fun g => ?_, fun g => ih (i + 1) (by omega) (by omega)⟩
        have : i = fW d := by omega
        subst this
        exact ⟨hne, h.end Ag.rf rfl⟩
    exact ⟨fW d + 1, main _ 0 (by omega) (by omega)⟩
  have main : ∀ l i, fW d + 1 ≤ i + l → i ≤ fW d → wp_X6_rain_22 (fun r F1 => wp_X7_rain (fun r2 F2 => r = r2 ∧ Inv (n + 1) F2) F1 (nI x)) l F (nI x) (ru (nI x) i) (lN (10 ^ i)) (nI i) := by
    intro l
    induction l with
    | zero => intro i a1 a2; omega
    | succ l ih =>
      intro i a1 a2
      unfold wp_X6_rain_22
      refine s_X1_width i1.1 ?_
      rw [nIle (by omega) (by omega), nI_add, es]
      refine ⟨fun g => ?_, fun g => ih (i + 1) (by omega) (by omega)⟩
      have : i = fW d := by omega
      subst this
      exact ⟨hne, ref⟩
  exact ⟨fW d + 1, main _ 0 (by omega) (by omega)⟩
abbrev cyo (d : FD) (N : ND) (zz y : Nat) : Nat := wlk d (nz N) (no N) (fun p => wgt d y + dr zz y p) (fW d) 0 (fun _ => 0)
def ccnt (d : FD) (N : ND) (zz : Nat) : Nat → Nat
  | 0 => 0
  | y + 1 => if fW d ≤ cyo d N zz y then ccnt d N zz y + 1 else ccnt d N zz y
def cfst (d : FD) (N : ND) (zz : Nat) : Nat → Int32
  | 0 => -4
  | y + 1 => if fW d ≤ cyo d N zz y then cfst d N zz y else if cfst d N zz y = -4 then nI y else cfst d N zz y
theorem ccnt_le (d : FD) (N : ND) (zz : Nat) : ∀ y, ccnt d N zz y ≤ y := by
  intro y
  induction y with
  | zero => exact Nat.le_refl _
  | succ y ih =>
    show (if fW d ≤ cyo d N zz y then ccnt d N zz y + 1 else ccnt d N zz y) ≤ y + 1
    split <;> omega
theorem s_X6_draws {K : Int32 → HF → Prop} (c : CF F 4 d) (o' : OkF d) (cN : CN F 16 N) (wN : WfN n d N) (hw : fW d ≤ lsum d (no N) (nz N)) {zz y : Nat} (hz : zz ≤ 9999) (hy : y ≤ 89) (k1 : fW d ≤ cyo d N zz y → ∀ G, FrL cS F G → K (nI 1) G) (k0 : ¬ fW d ≤ cyo d N zz y → ∀ G, FrL cS F G → K (nI 0) G) : wp_X6_comesOverByDraws K F (nI zz) (nI y) := by
  have hW := o'.2.2.2.1
  have h8 := wN.1.1
  have hwg := wgt_le o' (y := y) (by omega)
  unfold wp_X6_comesOverByDraws
  refine s_X0_copyRested (by omega) cN.2.2.2.2 h8 (fun G1 f1 b1 => ?_)
  have f1' : FrL cS F G1 := f1.mono (fun a ha => by simp at ha ⊢; omega)
  refine s_X1_weightIn (cf_s c f1') ?_
  have main : ∀ l p r (X : HF) (u : Nat → Nat), r < l → p + r = fW d → FrL cS F X → CB X 21 (nz N) (no N) u → (∀ x, x < fB d → u x ≤ fS d x) → cyo d N zz y = wlk d (nz N) (no N) (fun p => wgt d y + dr zz y p) r p u → wp_X6_comesOverByDraws_26 K l X (nI zz) (nI y) (nI (wgt d y)) (nI p) := by
    intro l
    induction l with
    | zero => intro p r X u h0; omega
    | succ l ih =>
      intro p r X u h0 h1 f b hu hi
      unfold wp_X6_comesOverByDraws_26
      have cX := cf_s c f
      refine s_X1_width cX ?_
      rw [nIle (by omega) (by omega)]
      refine ⟨fun g => ?_, fun g => ?_⟩
      · have : r = 0 := by omega
        subst this
        refine k1 ?_ X f
        rw [hi]; show fW d ≤ p; omega
      obtain ⟨r', rfl⟩ : ∃ r', r = r' + 1 := ⟨r - 1, by omega⟩
      show wp_X0_loadAlone _ X 21 (nI p) (nI (wgt d y) + dwx (nI zz) (nI y) (nI p))
      rw [dwx_eq hz (by omega) (by omega), nI_add (wgt d y)]
      have hd := dr_le zz y p
      refine s_X0_loadAlone cX o' b wN.1 (by omega) (by omega) (by omega) (fun Y fY gY => ?_)
      have fY' : FrL cS F Y := f.tr (fY.mono (fun a ha => by simp at ha ⊢; omega))
      refine s_X0_settle (w := bl d (no N) (nz N) p (wgt d y + dr zz y p)) (cf_s c fY') o' (b.fr fY (by simp) (by simp) (by simp)) wN.1 (by omega) (fun k hk => hu _ (wN.1.2.1 k hk)) gY (fun i _ => by have := bl_le d (no N) (nz N) p (wgt d y + dr zz y p) i; omega) (fun hs Z fZ bZ => ⟨fun _ => ?_, fun e => absurd e (by decide)⟩) (fun hs => ⟨fun e => absurd rfl e, fun _ => k0 ?_ Y fY'⟩)
      · rw [nI_add]
        refine ih (p + 1) r' Z _ (by omega) (by omega) (fY'.tr (fZ.mono (fun a ha => by simp at ha ⊢; omega))) bZ (tir_le o' wN.1 hu hs) ?_
        rw [hi]; exact wlk_t (om := fun p => wgt d y + dr zz y p) hs
      · rw [hi, wlk_f (om := fun p => wgt d y + dr zz y p) hs]; omega
  exact ⟨fW d + 1, main _ 0 (fW d) G1 _ (by omega) (by omega) f1' b1 (fun x _ => Nat.zero_le _) rfl⟩
theorem s_X7_draws {K : Int32 → HF → Prop} (c : MF F d) (o' : OkF d) (mN : MNf (F 120) N) (wN : WfN n d N) (hw : fW d ≤ lsum d (no N) (nz N)) {zz y : Nat} (hz : zz ≤ 9999) (hy : y ≤ 89) (k1 : fW d ≤ cyo d N zz y → ∀ G, FrL mS F G → K (nI 1) G) (k0 : ¬ fW d ≤ cyo d N zz y → ∀ G, FrL mS F G → K (nI 0) G) : wp_X7_comesOver K F (nI zz) (nI y) := by
  have hW := o'.2.2.2.1
  have h8 := wN.1.1
  unfold wp_X7_comesOver
  refine cpf_121 mN h8 (fun G1 f1 b1 g1 g2 g3 => ⟨vin (by omega) (by omega), fun G2 e2 => ?_⟩)
  have e2' : G2 = hup G1 121 2 (nI y) := e2
  have f2 : FrL mS F G2 := by rw [e2']; exact f1.tr (FrL.up (by simp))
  have a2 : ∀ j, j ≠ 2 → G2 121 j = G1 121 j := fun j hj => by rw [e2', hup_at, if_neg hj]
  have b2 : MB G2 121 (nz N) (no N) (fun _ => 0) := ⟨by rw [a2 0 (by omega)]; exact b1.1, fun k hk => by rw [a2 _ (by omega)]; exact b1.2.1 k hk, fun k hk => by rw [a2 _ (by omega)]; exact b1.2.2 k hk⟩
  have main : ∀ l p (X : HF) (u : Nat → Nat), fW d + 2 ≤ p + l → p ≤ fW d + 1 → FrL mS F X → MB X 121 (nz N) (no N) u → (∀ x, x < fB d → u x ≤ fS d x) → X 121 1 = nI p → X 121 2 = nI y → X 121 3 = pI p → (p ≤ fW d → cyo d N zz y = wlk d (nz N) (no N) (fun p => wgt d y + dr zz y p) (fW d - p) p u) → (p = fW d + 1 → fW d ≤ cyo d N zz y) → wp_X7_comesOver_28 K l X (nI zz) (nI y) := by
    intro l
    induction l with
    | zero => intro p X u h0; omega
    | succ l ih =>
      intro p X u h0 h1 f b hu x1 x2 x3 hi hi2
      have cX := mf_s c f
      unfold wp_X7_comesOver_28
      rw [show X 121 (nI 3).toNatClampNeg = pI p from x3, cX.2.2.1]
      refine ⟨vin (by omega) (by omega), fun g => k1 (hi2 ?_) X f, fun g => ⟨vin (by omega) (by omega), vin (by omega) (by omega), fun Y eY => ⟨vin (by omega) (by omega), ?_⟩⟩⟩
      · rcases Nat.eq_zero_or_pos p with e | e
        · subst e; rw [pI_0, le_m1 (by omega)] at g; exact g.elim
        · obtain ⟨p', rfl⟩ : ∃ p', p = p' + 1 := ⟨p - 1, by omega⟩
          rw [pI_s, nIle (by omega) (by omega)] at g
          omega
      have hp : p ≤ fW d := by
        rcases Nat.lt_or_ge p (fW d + 1) with e | e
        · omega
        · have : p = fW d + 1 := by omega
          subst this
          rw [pI_s] at g
          exact absurd (nI_le (Nat.le_refl _) (by omega)) g
      have eY' : Y = hup X 121 3 (pI (p + 1)) := by rw [eY, pI_inc]; rfl
      have fY : FrL mS F Y := by rw [eY']; exact f.tr (FrL.up (by simp))
      have aY : ∀ j, j ≠ 3 → Y 121 j = X 121 j := fun j hj => by rw [eY', hup_at, if_neg hj]
      have bY : MB Y 121 (nz N) (no N) u := ⟨by rw [aY 0 (by omega)]; exact b.1, fun k hk => by rw [aY _ (by omega)]; exact b.2.1 k hk, fun k hk => by rw [aY _ (by omega)]; exact b.2.2 k hk⟩
      have y1 : Y 121 (nI 1).toNatClampNeg = nI p := by show Y 121 1 = _; rw [aY 1 (by omega)]; exact x1
      rw [y1]
      show wp_X7_passes _ Y 121 21 (dwx (nI zz) (nI y) (nI p))
      rw [dwx_eq hz (by omega) (by omega)]
      refine s_X7_passes (mi := p) (ye := y) (q := p + 1) (mf_s c fY) o' bY wN.1 (by omega) (by omega) (fun k hk => hu _ (wN.1.2.1 k hk)) y1 (by rw [aY 2 (by omega)]; exact x2) (by rw [eY', hup_at, if_pos rfl]) (by omega) (fun _ => hw) (by omega) (dr_le zz y p) (fun hs Z fZ bZ c1 c2 c3 c4 => ⟨fun _ => ?_, fun e => absurd e (by decide)⟩) (fun hs Z fZ bZ c1 c2 c3 c4 => ⟨fun e => absurd rfl e, fun _ => ?_⟩)
      · by_cases hpw : p = fW d
        · have el : lw d (nz N) (no N) (p + 1) (wgt d y + dr zz y p) = fun _ => 0 := by unfold lw; rw [if_neg (by omega)]
          rw [el] at bZ
          refine ih (p + 1) Z _ (by omega) (by omega) (fY.tr fZ) bZ (tir_le o' wN.1 hu setl_0) c1 c2 c3 (fun x => absurd x (by omega)) (fun _ => ?_)
          rw [hi hp, hpw, show fW d - fW d = 0 by omega]
          exact Nat.le_refl _
        · have el : lw d (nz N) (no N) (p + 1) (wgt d y + dr zz y p) = bl d (no N) (nz N) p (wgt d y + dr zz y p) := by unfold lw; rw [if_pos (by omega)]; rfl
          rw [el] at bZ hs
          refine ih (p + 1) Z _ (by omega) (by omega) (fY.tr fZ) bZ (tir_le o' wN.1 hu hs) c1 c2 c3 (fun _ => ?_) (fun x => absurd x (by omega))
          rw [hi hp, show fW d - p = (fW d - (p + 1)) + 1 by omega]
          exact wlk_t (om := fun p => wgt d y + dr zz y p) hs
      · have hpw : p < fW d := by
          rcases Nat.lt_or_ge p (fW d) with e | e
          · exact e
          · have el : lw d (nz N) (no N) (p + 1) (wgt d y + dr zz y p) = fun _ => 0 := by unfold lw; rw [if_neg (by omega)]
            rw [el] at hs
            exact absurd setl_0 hs
        have el : lw d (nz N) (no N) (p + 1) (wgt d y + dr zz y p) = bl d (no N) (nz N) p (wgt d y + dr zz y p) := by unfold lw; rw [if_pos (by omega)]; rfl
        rw [el] at hs
        refine k0 ?_ Z (fY.tr fZ)
        rw [hi hp, show fW d - p = (fW d - (p + 1)) + 1 by omega, wlk_f (om := fun p => wgt d y + dr zz y p) hs]
        omega
  exact ⟨fW d + 2, main _ 0 G2 _ (by omega) (by omega) f2 b2 (fun x _ => Nat.zero_le _) (by rw [a2 1 (by omega)]; exact g1) (by rw [e2', hup_at, if_pos rfl]) (by rw [a2 3 (by omega)]; exact g3) (fun _ => rfl) (fun e => by omega)⟩
end Top11
