theorem wf_le {d : FD} {z : Nat} {o : Nat → Nat} (w : WfB d z o) : z ≤ fB d := by
  rcases Nat.lt_or_ge (fB d) z with q | q
  · obtain ⟨k, hk, e⟩ := pigeon (fB d) o (fun k hk => w.2.1 k (by omega)) (fun i j hi hj e => w.2.2 i j (by omega) (by omega) e) (o (fB d)) (w.2.1 _ q)
    have := w.2.2 k (fB d) (by omega) q e
    omega
  · exact q
theorem sol_1 {d : FD} {w s : Nat} {g : Nat → Nat} (o' : OkF d) (h : sol d w s g) : 1 ≤ s := by
  rcases Nat.eq_zero_or_pos s with e | e
  · subst e
    have h1 := h.2.1
    have h2 : lsum d g 0 = 0 := rfl
    have h3 := o'.2.2.1
    omega
  · exact e
def Fr4 (F X : HF) : Prop := (∀ a, a ∉ [100, 121, 128, 129, 131, 132] → X a = F a) ∧ ∀ j, j ≠ 30 → X 100 j = F 100 j
theorem Fr4.tr {F G H : HF} (a : Fr4 F G) (b : Fr4 G H) : Fr4 F H := ⟨fun x h => (b.1 x h).trans (a.1 x h), fun j h => (b.2 j h).trans (a.2 j h)⟩
theorem fS3.fr4 {F G : HF} (h : FrL fS3 F G) : Fr4 F G := ⟨fun a ha => h a (fun q => ha (by simp at q ⊢; omega)), fun j _ => by rw [h 100 (by simp)]⟩
theorem Fr4.ag {F G : HF} (h : Fr4 F G) : Ag F G := ⟨fun a x y => h.1 a (fun q => by simp at q; unfold scr at x; omega), fun j hj => h.2 j (by unfold S100 at hj; omega)⟩
def FO (d : FD) (w : Nat) (v : Int32) (f : Nat → Int32) (z : Nat) : Prop := (v = nI z ∧ NOS d w) ∨ ∃ s g, 1 ≤ s ∧ s ≤ 8 ∧ v = nI s ∧ (∀ i, i < s → f i = nI (g i)) ∧ BST d w s g
section Few4
variable {F : HF} {n : Nat} {d : FD} {N : ND}
theorem s_X7_layFewest {K : HF → Prop} (m : MF F d) (o' : OkF d) (mN : MNf (F 120) N) (wN : WfN n d N) (k : ∀ X, Fr4 F X → FO d (wgt d (nye N)) (X 100 30) (X 128) 0 → K X) : wp_X7_layFewest K F := by
  have hB := o'.1
  have dn : ∀ l (X : HF) (v : Int32) s, 1 ≤ s → s ≤ 8 → X 100 30 = nI s → K X → wp_X7_layFewest_7 K (l + 1) X v := by
    intro l X v s h1 h2 h3 h4
    unfold wp_X7_layFewest_7
    refine ⟨fun _ => h4, fun _ => ⟨fun _ => h4, fun e => ?_⟩⟩
    rw [h3, nIe (by omega) (by omega)] at e
    omega
  have main : ∀ l sz (X : HF), fB d + 2 ≤ sz + l → 1 ≤ sz → sz ≤ fB d + 1 → Fr4 F X → X 100 30 = nI 0 → (∀ s' g', s' < sz → ¬ sol d (wgt d (nye N)) s' g') → wp_X7_layFewest_7 K l X (nI sz) := by
    intro l
    induction l with
    | zero => intro sz X h1 h2; omega
    | succ l ih =>
      intro sz X h1 h2 h3 f h4 h5
      have mX : MF X d := m.kept (fun j hj => f.2 j (by omega)) (f.1 _ (by simp)) (f.1 _ (by simp))
      have nX : MNf (X 120) N := by rw [f.1 _ (by simp)]; exact mN
      unfold wp_X7_layFewest_7
      rw [mX.1, nIlt (by omega) (by omega)]
      refine ⟨fun g => k X f (Or.inl ⟨h4, fun s g' hs => ?_⟩), fun g => ⟨fun e => absurd h4 e, fun _ => ?_⟩⟩
      · have := wf_le (vsq_wf o' s hs.1)
        exact h5 s g' (by omega) hs
      · refine s_X7_findOf mX o' nX wN h2 (by omega) (fun g' hs hm Y fY gY => ⟨fun e => absurd e (by decide), fun _ Z eZ => ?_⟩) (fun hn Y fY => ⟨fun _ => ?_, fun e => absurd rfl e⟩)
        · have bst : BST d (wgt d (nye N)) sz g' := ⟨hs, h5, hm⟩
          have fZ : Fr4 F Z := (f.tr (fS3.fr4 fY)).tr ⟨fun a ha => by rw [eZ, hup_n _ _ _ (by simp at ha; omega)], fun j hj => by rw [eZ, hup_at, if_neg hj]⟩
          have zZ : Z 100 30 = nI sz := by rw [eZ, hup_at, if_pos rfl]
          have gZ : ∀ i, i < sz → Z 131 (5 + i) = nI (g' i) := fun i hi => by rw [eZ, hup_n _ _ _ (by omega)]; exact gY i hi
          have cp : ∀ q i (V : HF), sz + 1 ≤ i + q → i ≤ sz → Fr4 F V → V 100 30 = nI sz → (∀ j, j < sz → V 131 (5 + j) = nI (g' j)) → (∀ j, j < i → V 128 j = nI (g' j)) → wp_X7_layFewest_37 K (wp_X7_layFewest_7 K l) q V (nI sz) (nI i) := by
            intro q
            induction q with
            | zero => intro i V a1 a2; omega
            | succ q iq =>
              intro i V a1 a2 a3 a4 a5 a6
              unfold wp_X7_layFewest_37
              rw [nIle (by omega) (by omega), nI_add, nIcl (by omega), nIcl (by omega), nI_add]
              refine ⟨fun g2 => ?_, fun g2 => ⟨vin (by omega) (by omega), vin (by omega) (by omega), fun U eU => ?_⟩⟩
              · have : i = sz := by omega
                subst this
                show wp_X7_layFewest_7 K l V _
                obtain ⟨l', rfl⟩ : ∃ l', l = l' + 1 := ⟨l - 1, by omega⟩
                exact dn l' V _ i h2 (by omega) a4 (k V a3 (Or.inr ⟨i, g', h2, by omega, a4, a6, bst⟩))
              · refine iq (i + 1) U (by omega) (by omega) (a3.tr ⟨fun a ha => by rw [eU, hup_n _ _ _ (by simp at ha; omega)], fun j hj => by rw [eU, hup_n _ _ _ (by omega)]⟩) (by rw [eU, hup_n _ _ _ (by omega)]; exact a4) (fun j hj => by rw [eU, hup_n _ _ _ (by omega)]; exact a5 j hj) (fun j hj => ?_)
                rw [eU, hup_at]
                by_cases e : j = i
                · rw [if_pos e, e]; exact a5 i (by omega)
                · rw [if_neg e]; exact a6 j (by omega)
          exact ⟨sz + 1, cp _ 0 Z (by omega) (by omega) fZ zZ gZ (fun j hj => absurd hj (by omega))⟩
        · show wp_X7_layFewest_7 K l Y (nI sz + nI 1)
          rw [nI_add]
          refine ih (sz + 1) Y (by omega) (by omega) (by omega) (f.tr (fS3.fr4 fY)) (by rw [fY 100 (by simp)]; exact h4) (fun s' g' hs' => ?_)
          rcases Nat.lt_or_ge s' sz with q | q
          · exact h5 s' g' q
          · have : s' = sz := by omega
            subst this
            exact hn g'
  unfold wp_X7_layFewest
  intro X eX
  refine ⟨fB d + 2, main _ 1 X (by omega) (by omega) (by omega) ⟨fun a ha => by rw [eX, hup_n _ _ _ (by simp at ha; omega)], fun j hj => by rw [eX, hup_at, if_neg hj]⟩ (by rw [eX, hup_at, if_pos rfl]) (fun s' g' hs' h => ?_)⟩
  have := sol_1 o' h
  omega
theorem s_X4_find {K : HF → Prop} {w : Nat} (c : CF F 4 d) (o' : OkF d) (i7 : I7 F d) (hw : w < 2 ^ 20) (k : ∀ G, (∀ a, (a < 79 ∨ 84 < a) → a ≠ 87 → G a = F a) → G 79 5 = nI w → FO d w (G 79 4) (G 84) 9 → K G) : wp_X4_find K F (nI w) := by
  unfold wp_X4_find
  refine ⟨fun g F1 e1 F2 e2 => s_X0_clear (o := fun _ => 0) (fun G0 f0 b0 => ?_), fun g => ?_⟩
  · have f20 : ∀ a, (a < 79 ∨ 84 < a) → G0 a = F a := fun a ha => by
      rw [f0 a (by simp; omega), e2, hup_n _ _ _ (by omega), e1, hup_n _ _ _ (by omega)]
    have cG0 : CF G0 4 d := c.kept (f20 _ (by omega)) (f20 _ (by omega)) (f20 _ (by omega)) (f20 _ (by omega)) (f20 _ (by omega)) (f20 _ (by omega))
    refine s_X4_findLeastMore cG0 o' hw (fun G f lma => ?_)
    have f2 : ∀ a, (a < 79 ∨ 84 < a) → a ≠ 87 → G a = F a := fun a ha h87 => by
      rw [f a (by simp; omega), f20 a ha]
    have b : C2 G 0 (fun _ => 0) := ⟨by rw [f 80 (by simp)]; exact b0.1, fun k hk => absurd hk (by omega)⟩
    have g4 : G 79 5 = nI w := by rw [f 79 (by simp), f0 79 (by simp), e2, hup_at, if_neg (by omega), e1, hup_at, if_pos rfl]
    have g3 : G 79 4 = nI 9 := by rw [f 79 (by simp), f0 79 (by simp), e2, hup_at, if_pos rfl]
    refine s_X4_extend (d := d) (w := w) o' hw 10 0 G (fun _ => 0) 9 (fun _ => 0) K (by omega) (by omega) (cG0.fr f (fun a g1 g2 => by simp; omega)) lma b (fun k hk => absurd hk (by omega)) ⟨g3, fun q => absurd q (by omega)⟩ (by omega) (fun H fs' h' fH _ fs ex => ?_)
    refine k H (fun a ha h87 => (fH.1 a ha).trans (f2 a ha h87)) (fH.2.trans g4) ?_
    have l9 := ex.1
    rcases Nat.lt_or_ge fs' 9 with q | q
    · obtain ⟨x1, x2, x3, x4⟩ := ex.2.2.2 q
      refine Or.inr ⟨fs', h', x1, by omega, fs.1, fs.2 (by omega), x2, fun s' g' hs' hh => ?_, fun g' hg => x4 g' ⟨by omega, fun i hi => absurd hi (by omega)⟩ hg⟩
      have := ex.2.2.1 s' g' ⟨sol_1 o' hh, fun i hi => absurd hi (by omega)⟩ hh
      omega
    · have : fs' = 9 := by omega
      subst this
      refine Or.inl ⟨fs.1, fun s g' hh => ?_⟩
      have h1 := ex.2.2.1 s g' ⟨sol_1 o' hh, fun i hi => absurd hi (by omega)⟩ hh
      have h2 := (vsq_wf o' s hh.1).1
      omega
  · refine k F (fun _ _ _ => rfl) g.symm ?_
    rcases i7 with e | ⟨w0, hw0, e, r⟩
    · rw [e] at g
      have g' := g.symm
      rw [m1_ne_nI (by omega)] at g'
      exact g'.elim
    · rw [e, nIe (by omega) (by omega)] at g
      subst g
      exact r
theorem t_fewest (h : Inv n F) (a : Int32) : wp_X6_fewest (fun r F1 => wp_X7_fewest (fun r2 F2 => r = r2 ∧ Inv (n + 1) F2) F1 a) F a := by
  obtain ⟨d, o', hb, i1, ⟨N, wN, cN, mN⟩, i3, i4, i5, i6, i7⟩ := id h
  have bad : (a < -1 ∨ nI 7 < a) → wp_X7_fewest (fun r2 F2 => (-1 : Int32) = r2 ∧ Inv (n + 1) F2) F a := fun q => by
    unfold wp_X7_fewest
    exact s_in_bad q ⟨fun e => absurd rfl e, fun _ => h.end Ag.rf rfl⟩
  have hw : wgt d (nye N) < 2 ^ 20 := by
    have := wgt_le o' (y := nye N) (by have := wN.2.2.2.1; omega)
    omega
  -- both searched
  have both : ∀ {v : Int32}, (∀ G : HF, (∀ x, (x < 79 ∨ 84 < x) → x ≠ 87 → G x = F x) → G 79 5 = nI (wgt d (nye N)) → FO d (wgt d (nye N)) (G 79 4) (G 84) 9 → Inv n G ∧ MF G d ∧ MNf (G 120) N) := fun {v} G f g4 fo => by
    have e : ∀ x, x < 79 → G x = F x := fun x hx => f x (Or.inl hx) (by omega)
    have e' : ∀ x, (84 < x ∧ x ≠ 87) → G x = F x := fun x hx => f x (Or.inr hx.1) hx.2
    have k1 : I1 G d := i1.kept (fun x _ _ => e x (by omega)) (fun j _ => by rw [e' 100 (by omega)]) (e' _ (by omega)) (e' _ (by omega))
    exact ⟨⟨d, o', hb, k1, I2.kept ⟨N, wN, cN, mN⟩ (fun x _ _ => e x (by omega)) (e' _ (by omega)), i3.kept (fun x _ _ => e x (by omega)) (by rw [e' 100 (by omega)]) (e' _ (by omega)), i4.kept (fun x _ _ => e x (by omega)) (by rw [e' 100 (by omega)]) (e' _ (by omega)), i5.kept (by rw [e 0 (by omega)]) (e' _ (by omega)) (e' _ (by omega)) (by rw [e' 100 (by omega)]) (e' _ (by omega)), i6.kept (by rw [e 1 (by omega)]) (e _ (by omega)) (by rw [e' 100 (by omega)]) (e' _ (by omega)), Or.inr ⟨_, hw, g4, fo⟩⟩, k1.2, by rw [e' 120 (by omega)]; exact mN⟩
  have m1 : (-1 : Int32) = a → ¬ nI 0 ≤ a := fun e => by subst e; decide
  unfold wp_X6_fewest
  by_cases q1 : a < -1
  · exact ⟨fun _ => bad (Or.inl q1), fun g => absurd q1 g⟩
  refine ⟨fun x => absurd x q1, fun _ => ?_⟩
  by_cases q2 : a = -1
  · subst q2
    refine ⟨fun _ => s_X2_weight i1.1 cN (s_X4_find i1.1 o' i7 hw (fun G f g4 fo => ⟨fun e => absurd rfl e, fun _ => ?_⟩)), fun e => absurd (by decide) e⟩
    obtain ⟨ivG, mG, nG⟩ := both (v := 0) G f g4 fo
    have ref : ∀ v : Int32, ((NOS d (wgt d (nye N)) → v = -4) ∧ (∀ s g, 1 ≤ s → s ≤ 8 → BST d (wgt d (nye N)) s g → v = nI s)) → wp_X7_fewest (fun r2 F2 => v = r2 ∧ Inv (n + 1) F2) G (-1) := fun v hv => by
      unfold wp_X7_fewest
      refine s_in (fun _ => ⟨fun _ => s_X7_layFewest mG o' nG wN (fun X fX fo2 => ?_), fun e => absurd e (by decide)⟩) (fun x => absurd ⟨by decide, by decide⟩ x)
      rcases fo2 with ⟨e, ns⟩ | ⟨s, g, s1, s2, e, eg, bs⟩
      · exact ⟨fun _ => ivG.end fX.ag (hv.1 ns), fun x => absurd e x⟩
      · rw [e]
        refine ⟨fun x => ?_, fun _ => ⟨fun _ => ⟨fun x => absurd x (by decide), fun _ => ivG.end fX.ag (hv.2 s g s1 s2 bs)⟩, fun x => ?_⟩⟩
        · rw [nIe (by omega) (by omega)] at x; omega
        · rw [m1_lt (by omega)] at x; exact absurd trivial x
    unfold wp_X4_foundSize
    rcases fo with ⟨e, ns⟩ | ⟨s, g, s1, s2, e, eg, bs⟩
    · exact ⟨fun x => absurd e x, fun _ => ref _ ⟨fun _ => rfl, fun s g _ _ b => absurd b.1 (ns s g)⟩⟩
    · rw [e]
      refine ⟨fun _ => ref _ ⟨fun ns => absurd bs.1 (ns s g), fun s' g' _ _ b => by rw [(BST_u o' bs b).1]⟩, fun x => ?_⟩
      rw [nIe (by omega) (by omega)] at x; omega
  · rcases rng a 0 (N := 7) (by omega) (by omega) with q | ⟨q3, q4, q5⟩ | ⟨j, -, hj, rfl⟩
    · exfalso
      rw [Int32.lt_iff_toInt_lt] at q q1
      have e1 : (nI 0).toInt = 0 := by decide
      have e2 : (-1 : Int32).toInt = -1 := by decide
      rw [e1] at q
      rw [e2] at q1
      exact q2 (Int32.toInt_inj.mp (by rw [e2]; omega))
    · refine ⟨fun x => ?_, fun _ => bad (Or.inr q4)⟩
      exfalso
      rw [Int32.lt_iff_toInt_lt] at q4 x
      have e1 : (nI 7).toInt = 7 := by decide
      have e2 : (nI 8).toInt = 8 := by decide
      rw [e1] at q4
      rw [e2] at x
      omega
    · rw [nIlt (by omega) (by omega)]
      refine ⟨fun _ => s_X2_weight i1.1 cN (s_X4_find i1.1 o' i7 hw (fun G f g4 fo => ⟨fun _ => ?_, fun e => absurd e q2⟩)), fun e => absurd (by omega) e⟩
      obtain ⟨ivG, mG, nG⟩ := both (v := 0) G f g4 fo
      have ref : ∀ v : Int32, ((NOS d (wgt d (nye N)) → v = -4) ∧ (∀ s g, 1 ≤ s → s ≤ 8 → BST d (wgt d (nye N)) s g → v = if j < s then nI (g j) else -4)) → wp_X7_fewest (fun r2 F2 => v = r2 ∧ Inv (n + 1) F2) G (nI j) := fun v hv => by
        unfold wp_X7_fewest
        refine s_in (fun _ => ⟨fun _ => s_X7_layFewest mG o' nG wN (fun X fX fo2 => ?_), fun e => absurd e (by decide)⟩) (fun x => absurd ⟨q1, nI_nlt hj (by omega)⟩ x)
        rcases fo2 with ⟨e, ns⟩ | ⟨s, g, s1, s2, e, eg, bs⟩
        · exact ⟨fun _ => ivG.end fX.ag (hv.1 ns), fun x => absurd e x⟩
        · have hv2 := hv.2 s g s1 s2 bs
          rw [e, nIe (by omega) (by omega), nIlt (by omega) (by omega), nIcl (by omega)]
          refine ⟨fun x => by omega, fun _ => ⟨fun x => ⟨fun _ => ⟨vin (by omega) (by omega), ivG.end fX.ag ?_⟩, fun x => absurd (nI_le (by omega) (by omega)) x⟩, fun x => ivG.end fX.ag ?_⟩⟩
          · rw [hv2, if_pos x, eg j x]
          · rw [hv2, if_neg x]
      unfold wp_X4_foundAt
      rcases fo with ⟨e, ns⟩ | ⟨s, g, s1, s2, e, eg, bs⟩
      · exact ⟨fun _ => ref _ ⟨fun _ => rfl, fun s g _ _ b => absurd b.1 (ns s g)⟩, fun x => absurd e x⟩
      · have fin : ∀ v : Int32, v = (if j < s then nI (g j) else -4) → wp_X7_fewest (fun r2 F2 => v = r2 ∧ Inv (n + 1) F2) G (nI j) := fun v hv => ref v ⟨fun ns => absurd bs.1 (ns s g), fun s' g' _ _ b => by
          obtain ⟨u1, u2⟩ := BST_u o' bs b
          subst u1
          rw [hv]
          by_cases x : j < s
          · rw [if_pos x, if_pos x, u2 j x]
          · rw [if_neg x, if_neg x]⟩
        rw [e, nIe (by omega) (by omega), nIlt (a := j) (b := s) (by omega) (by omega), nIcl (by omega)]
        refine ⟨fun x => by omega, fun _ => ⟨fun x => absurd x (nI_pos (by omega)), fun _ => ⟨fun x => ⟨vin (by omega) (by omega), fin _ ?_⟩, fun x => fin _ ?_⟩⟩⟩
        · rw [if_pos x, eg j x]
        · rw [if_neg x]
end Few4
