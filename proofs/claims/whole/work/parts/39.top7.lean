abbrev cS : List Nat := [20, 21, 22, 23, 24]
abbrev mS : List Nat := [121, 129]
section Top7
variable {F G : HF} {n : Nat} {d : FD} {N : ND}
theorem cf_s (c : CF F 4 d) (f : FrL cS F G) : CF G 4 d := c.fr f (fun a h1 h2 => by simp; omega)
theorem cn_s (c : CN F 16 N) (f : FrL cS F G) : CN G 16 N := c.kept (f _ (by simp)) (f _ (by simp)) (f _ (by simp)) (f _ (by simp))
theorem mf_s (m : MF F d) (f : FrL mS F G) : MF G d := m.fr f (by simp) (by simp) (by simp)
theorem mn_s (m : MNf (F 120) N) (f : FrL mS F G) : MNf (G 120) N := by rw [f 120 (by simp)]; exact m
theorem mf_c (m : MF F d) (f : FrL cS F G) : MF G d := m.fr f (by simp) (by simp) (by simp)
theorem mn_c (m : MNf (F 120) N) (f : FrL cS F G) : MNf (G 120) N := by rw [f 120 (by simp)]; exact m
theorem ag_s (f : FrL cS F G) : Ag F G := f.ag (fun a ha => by simp at ha; unfold scr; omega)
theorem ag_m (f : FrL mS F G) : Ag F G := f.ag (fun a ha => by simp at ha; unfold scr; omega)
theorem wlk_ge {z : Nat} {o om : Nat → Nat} : ∀ m p t, p ≤ wlk d z o om m p t ∧ wlk d z o om m p t ≤ p + m := by
  intro m
  induction m with
  | zero => intro p t; exact ⟨Nat.le_refl _, Nat.le_refl _⟩
  | succ m ih =>
    intro p t
    by_cases h : setl d z o t (bl d o z p (om p))
    · rw [wlk_t h]
      have := ih (p + 1) (tir d o (bl d o z p (om p)) z t)
      omega
    · rw [wlk_f h]; omega
/-- a row tried: the copy of the night, as goesOver takes it -/
theorem cp_121 {K : HF → Prop} (mN : MNf (F 120) N) (hz : nz N ≤ 8) (k : ∀ G, FrL mS F G → MNf (G 121) N → K G) : wp_X7_copy K F 120 21 121 21 (nI 0) (nI 0) := by
  refine s_X7_copy (x := 0) (y := 0) (by decide) (by omega) (by omega) (by omega) (by omega) (fun G f g => k G (f.mono (fun a ha => by simp at ha; simp [ha])) (mN.cong hz (fun j hj => ?_)))
  rw [g, if_pos (by omega)]
  show F 120 (0 + (j - 0)) = F 120 j
  congr 1; omega
theorem t_over (h : Inv n F) (hn : n ≤ 600) (a : Int32) : wp_X6_over (fun r F1 => wp_X7_over (fun r2 F2 => r = r2 ∧ Inv (n + 1) F2) F1 a) F a := by
  obtain ⟨d, o', hb, i1, ⟨N, wN, cN, mN⟩, -⟩ := id h
  have h8 := wN.1.1
  have hW := o'.2.2.2.1
  have hbr := wN.2.2.2.2.2.1
  have hq := wN.2.2.2.2.1
  have hmi := wN.2.2.1
  have hye := wN.2.2.2.1
  have hwg := wgt_le o' (y := nye N) (by omega)
  unfold wp_X6_over
  have bad : (a < nI 0 ∨ nI 1 < a) → wp_X7_over (fun r2 F2 => (-1 : Int32) = r2 ∧ Inv (n + 1) F2) F a := fun q => by
    unfold wp_X7_over
    exact s_in_bad q ⟨fun e => absurd rfl e, fun _ => h.end Ag.rf rfl⟩
  rcases rng a 0 (N := 1) (by omega) (by omega) with q | ⟨q1, q2, q3⟩ | ⟨j, -, hj, rfl⟩
  · exact ⟨fun _ => bad (Or.inl q), fun g => absurd q g⟩
  · exact ⟨fun x => absurd x q1, fun _ => ⟨fun x => absurd x q3, fun _ => bad (Or.inr q2)⟩⟩
  refine ⟨fun x => absurd x (nI_pos (by omega)), fun _ => ⟨fun _ => ?_, fun x => absurd (nI_le (by omega) (by omega)) x⟩⟩
  have refuse : (nbr N = 1 ∨ ¬ fW d ≤ lsum d (no N) (nz N)) → wp_X7_over (fun r2 F2 => (-2 : Int32) = r2 ∧ Inv (n + 1) F2) F (nI j) := by
    intro c
    unfold wp_X7_over
    refine s_in_ok (by omega) hj (by omega) ⟨fun _ => s_X7_isWhole i1.2 o' mN.mb wN.1 (fun g => ⟨fun e => absurd e (by decide), fun _ => ⟨vin (by omega) (by omega), ?_⟩⟩) (fun g => ⟨fun _ => h.end Ag.rf rfl, fun e => absurd rfl e⟩), fun e => absurd e (by decide)⟩
    rw [show F 120 (nI 4).toNatClampNeg = nI (nbr N) from mN.2.2.2.2.1, nIe (by omega) (by omega)]
    refine ⟨fun g2 => ?_, fun _ => h.end Ag.rf rfl⟩
    rcases c with c | c
    · exact absurd c g2
    · exact absurd g c
  refine s_X2_isBroken cN hbr ?_
  rw [nIe (by omega) (by omega)]
  refine ⟨fun g => refuse (Or.inl (by omega)), fun g0 => ?_⟩
  refine s_X0_isWhole i1.1 o' cN.2.2.2.2 wN.1 (fun hw => ⟨fun _ => ?_, fun e => absurd e (by decide)⟩) (fun hw => ⟨fun e => absurd rfl e, fun _ => refuse (Or.inr (by omega))⟩)
  refine s_X0_copyFrom (by omega) cN.2.2.2.2 h8 (fun G1 f1 b1 => ?_)
  have f1' : FrL cS F G1 := f1.mono (fun a ha => by simp at ha ⊢; omega)
  have c1 := cf_s i1.1 f1'
  have n1 := cn_s cN f1'
  refine s_X2_place n1 (s_X1_width c1 (s_X2_minute n1 (s_X2_weight c1 n1 ?_)))
  rw [pI_inc, pI_s]
  -- what the reference says, for any end of the class's walk
  have ref : ∀ (X : HF) (v : Int32), FrL cS F X → (fW d ≤ wlk d (nz N) (no N) (fun p => wgt d (nye N) + wnd d (nmi N + p - nq N)) (fW d - nq N) (nq N) (nt N) → v = -4) → (∀ p, wlk d (nz N) (no N) (fun p => wgt d (nye N) + wnd d (nmi N + p - nq N)) (fW d - nq N) (nq N) (nt N) = p → p < fW d → (j = 0 → v = nI (nmi N + (p - nq N))) ∧ (j = 1 → v = nI p)) → wp_X7_over (fun r2 F2 => v = r2 ∧ Inv (n + 1) F2) X (nI j) := by
    intro X v fX hv1 hv0
    have mX := mf_c i1.2 fX
    have nX := mn_c mN fX
    unfold wp_X7_over
    refine s_in_ok (by omega) hj (by omega) ⟨fun _ => s_X7_isWhole mX o' nX.mb wN.1 (fun g => ⟨fun e => absurd e (by decide), fun _ => ⟨vin (by omega) (by omega), ?_⟩⟩) (fun g => absurd hw (by omega)), fun e => absurd e (by decide)⟩
    rw [show X 120 (nI 4).toNatClampNeg = nI (nbr N) from nX.2.2.2.2.1, nIe (by omega) (by omega)]
    refine ⟨fun _ => cp_121 nX h8 (fun Y fY nY => ?_), fun g => absurd g (by omega)⟩
    have ag := (ag_s fX).tr (ag_m fY)
    refine s_X7_goesOver (mi := nmi N) (ye := nye N) (q := nq N) (mf_s mX fY) o' nY.mb wN.1 (by omega) (by omega) wN.2.1 nY.2.1 nY.2.2.1 nY.2.2.2.1 hq hw (by omega) (by omega) (fun hs Z fZ => ⟨fun e => absurd e (by decide), fun _ => h.end (ag.tr (ag_m fZ)) (hv1 hs)⟩) (fun p hp hpW Z fZ z1 z3 => ⟨fun _ => ⟨fun e => ⟨vin (by omega) (by omega), ?_⟩, fun e => ⟨vin (by omega) (by omega), ?_⟩⟩, fun e => absurd rfl e⟩)
    · rw [show Z 121 (nI 3).toNatClampNeg = nI p from z3]
      refine h.end (ag.tr (ag_m fZ)) ((hv0 p hp hpW).2 ?_)
      rcases (show j = 0 ∨ j = 1 by omega) with x | x
      · exact absurd (by rw [x]) e
      · exact x
    · rw [show Z 121 (nI 1).toNatClampNeg = nI (nmi N + (p - nq N) + 1) from z1, nI_m1]
      rw [nIe (by omega) (by omega)] at e
      exact h.end (ag.tr (ag_m fZ)) ((hv0 p hp hpW).1 e)
  have fin : ∀ (X : HF) (p : Nat), FrL cS F X → p < 2 ^ 20 → nq N ≤ p + 1 → ((nq N ≤ fW d ∧ wlk d (nz N) (no N) (fun p => wgt d (nye N) + wnd d (nmi N + p - nq N)) (fW d - nq N) (nq N) (nt N) = p) ∨ (nq N = fW d + 1 ∧ p = fW d)) → (((nI p < nI (fW d)) → (((¬ nI j = nI 0) → wp_X7_over (fun r2 F2 => nI p = r2 ∧ Inv (n + 1) F2) X (nI j)) ∧ ((nI j = nI 0) → wp_X2_minute (fun x8 F9 => wp_X7_over (fun r2 F2 => ((x8 + nI p) - (nI (nq N))) = r2 ∧ Inv (n + 1) F2) F9 (nI j)) X 16))) ∧ ((¬ nI p < nI (fW d)) → wp_X7_over (fun r2 F2 => (-4 : Int32) = r2 ∧ Inv (n + 1) F2) X (nI j))) := by
    intro X p fX hp hp1 hc
    rw [nIlt (by omega) (by omega), nIe (by omega) (by omega)]
    refine ⟨fun g => ⟨fun g2 => ref X _ fX (fun hs => ?_) (fun p' hp' hl => ⟨fun e => absurd e g2, fun _ => ?_⟩), fun g2 => s_X2_minute (cn_s cN fX) (ref X _ fX (fun hs => ?_) (fun p' hp' hl => ⟨fun _ => ?_, fun e => by omega⟩))⟩, fun g => ref X _ fX (fun _ => rfl) (fun p' hp' hl => ?_)⟩
    · rcases hc with ⟨_, c⟩ | ⟨_, c⟩ <;> omega
    · rcases hc with ⟨_, c⟩ | ⟨_, c⟩
      · rw [← hp', c]
      · omega
    · rcases hc with ⟨_, c⟩ | ⟨_, c⟩ <;> omega
    · rcases hc with ⟨c0, c⟩ | ⟨_, c⟩
      · have := (wlk_ge (d := d) (z := nz N) (o := no N) (om := fun p => wgt d (nye N) + wnd d (nmi N + p - nq N)) (fW d - nq N) (nq N) (nt N)).1
        rw [nI_add, nIsub (by omega)]
        congr 1; omega
      · omega
    · rcases hc with ⟨c0, c⟩ | ⟨c0, c⟩
      · omega
      · exfalso
        have := (wlk_ge (d := d) (z := nz N) (o := no N) (om := fun p => wgt d (nye N) + wnd d (nmi N + p - nq N)) (fW d - nq N) (nq N) (nt N)).1
        omega
  by_cases hc : nq N ≤ fW d
  · refine s_X0_walk c1 o' b1 wN.1 (by omega) wN.2.1 hc (by omega) (by omega) (by omega) (fun G2 f2 => ?_)
    have hg := wlk_ge (d := d) (z := nz N) (o := no N) (om := fun q => wgt d (nye N) + wnd d (nmi N + q - nq N)) (fW d - nq N) (nq N) (nt N)
    exact fin G2 _ (f1'.tr (f2.mono (fun a ha => by simp at ha ⊢; omega))) (by omega) (by omega) (Or.inl ⟨hc, rfl⟩)
  · unfold wp_X0_walk
    refine ⟨1, ?_⟩
    unfold wp_X0_walk_3
    refine ⟨fun _ => fin G1 (fW d) f1' (by omega) (by omega) (Or.inr ⟨by omega, rfl⟩), fun g => absurd (nI_le (by omega) (by omega)) g⟩
end Top7
