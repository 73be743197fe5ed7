def MDr (F : HF) (d : FD) : Prop := F 100 6 = nI (fB d) ∧ F 100 7 = nI (fC d) ∧ F 100 10 = nI (fW d) ∧ F 100 11 = nI (fH d) ∧ F 100 12 = nI (fG d) ∧ (∀ b, b < fB d → F 108 (4 * b) = nI (fS d b)) ∧ (∀ b, b < fB d → F 108 (4 * b + 1) = nI (fL d b)) ∧ (∀ b, b < fB d → F 108 (4 * b + 2) = nI (fK d b)) ∧ (∀ b, b < fB d → F 108 (4 * b + 3) = nI (fD d b)) ∧ ∀ i, i < fC d → F 109 i = nI (fV d i)
def Fr9 (F G : HF) : Prop := (∀ a, a ≠ 100 → a ≠ 103 → a ≠ 108 → a ≠ 109 → G a = F a) ∧ ∀ j, (j = 0 ∨ 13 ≤ j) → G 100 j = F 100 j
theorem Fr9.rf {F : HF} : Fr9 F F := ⟨fun _ _ _ _ _ => rfl, fun _ _ => rfl⟩
theorem Fr9.tr {F G H : HF} (h : Fr9 F G) (g : Fr9 G H) : Fr9 F H := ⟨fun a x y z w => (g.1 a x y z w).trans (h.1 a x y z w), fun j x => (g.2 j x).trans (h.2 j x)⟩
theorem Fr7.to9 {F G : HF} (h : Fr7 F G) : Fr9 F G := ⟨fun a x y _ _ => h.1 a x y, fun j x => h.2 j (by omega) (by omega)⟩
theorem Fr9.u {F : HF} {j : Nat} {v : Int32} (hj : 1 ≤ j ∧ j ≤ 12) : Fr9 F (hup F 100 j v) := ⟨fun a x _ _ _ => hup_n _ _ _ x, fun i x => by rw [hup_at, if_neg (by omega)]⟩
theorem Fr9.u8 {F : HF} {j : Nat} {v : Int32} : Fr9 F (hup F 109 j v) := ⟨fun a _ _ _ x => hup_n _ _ _ x, fun i x => by rw [hup_n _ _ _ (by omega)]⟩
theorem MDr.fr {F G : HF} {d : FD} (h : MDr F d) (f : Fr7 F G) : MDr G d := by
  unfold MDr
  rw [f.2 6 (by omega) (by omega), f.2 7 (by omega) (by omega), f.2 10 (by omega) (by omega), f.2 11 (by omega) (by omega), f.2 12 (by omega) (by omega), f.1 108 (by omega) (by omega), f.1 109 (by omega) (by omega)]
  exact h
theorem s_isB {K : Int32 → HF → Prop} {G : HF} {d : FD} {v : Nat → Nat} (m : MDr G d) (hB : fB d < 8) (hv : ∀ i, i < 4 → G 103 i = nI (v i))
    (k : ∀ H, Fr9 G H → H 100 2 = G 100 2 → MDr H (adB d (v 0) (v 1) (v 2) (v 3)) → K (nI 1) H) : wp_X7_isItem_97 K G (nI 1) := by
  have main : ∀ n i (H : HF), 5 ≤ i + n → i ≤ 4 → (∀ a, a ≠ 108 → H a = G a) → (∀ j, H 108 j = if 4 * fB d ≤ j ∧ j < 4 * fB d + i then G 103 (j - 4 * fB d) else G 108 j) → wp_X7_isItem_100 K n H (nI 1) (nI i) := by
    intro n
    induction n with
    | zero => intro i H h1 h2; omega
    | succ n ih =>
      intro i H h1 h2 ho hs
      have e6 : H 100 6 = nI (fB d) := by rw [ho 100 (by omega)]; exact m.1
      unfold wp_X7_isItem_100
      rw [e6, pk_mul, nI_add, nIcl (by omega), nIcl (by omega), nIle (by omega) (by omega), ho 103 (by omega), nI_add]
      refine ⟨fun g => ?_, fun g => ⟨fun x => absurd x (by decide), fun _ => ⟨vin (by omega) (by omega), vin (by omega) (by omega), fun H1 e1 => ?_⟩⟩⟩
      · have : i = 4 := by omega
        subst this
        unfold wp_X7_isItem_134
        intro H1 e1
        rw [e6, nI_add] at e1
        refine ⟨Or.inr rfl, k H1 ?_ ?_ ?_⟩
        · rw [e1]; exact Fr9.tr ⟨fun a _ _ x _ => ho a x, fun j _ => by rw [ho 100 (by omega)]⟩ (Fr9.u (by omega))
        · rw [e1, hup_at, if_neg (by omega), ho 100 (by omega)]
        · obtain ⟨c0, c1, c2, c3, c4, c5, c6, c7, c8, c9⟩ := m
          have y : ∀ j, j ≠ 6 → H1 100 j = G 100 j := fun j hj => by rw [e1, hup_at, if_neg hj, ho 100 (by omega)]
          have y8 : ∀ j, H1 108 j = if 4 * fB d ≤ j ∧ j < 4 * fB d + 4 then G 103 (j - 4 * fB d) else G 108 j := fun j => by rw [e1, hup_n _ _ _ (by omega), hs]
          have sp : ∀ (r : Nat) (g : Nat → Nat), r < 4 → (∀ b, b < fB d → G 108 (4 * b + r) = nI (g b)) → ∀ b, b < fB d + 1 → H1 108 (4 * b + r) = nI (if b = fB d then v r else g b) := by
            intro r g hr hg b hb
            rw [y8]
            by_cases e : b = fB d
            · rw [if_pos (by omega), if_pos e, show 4 * b + r - 4 * fB d = r by omega]; exact hv r hr
            · rw [if_neg (by omega), if_neg e]; exact hg b (by omega)
          exact ⟨by rw [e1, hup_at, if_pos rfl]; rfl, by rw [y _ (by omega)]; exact c1, by rw [y _ (by omega)]; exact c2, by rw [y _ (by omega)]; exact c3, by rw [y _ (by omega)]; exact c4, sp 0 _ (by omega) c5, sp 1 _ (by omega) c6, sp 2 _ (by omega) c7, sp 3 _ (by omega) c8, by rw [e1, hup_n _ _ _ (by omega), ho 109 (by omega)]; exact c9⟩
      · refine ih (i + 1) H1 (by omega) (by omega) (fun a ha => by rw [e1, hup_n _ _ _ ha, ho a ha]) (fun j => ?_)
        rw [e1, hup_at, hs]
        by_cases e : j = 4 * fB d + i
        · rw [if_pos e, if_pos (by omega)]; congr 1; omega
        · rw [if_neg e]
          by_cases g2 : 4 * fB d ≤ j ∧ j < 4 * fB d + i
          · rw [if_pos g2, if_pos (by omega)]
          · rw [if_neg g2, if_neg (by omega)]
  exact ⟨5, main 5 0 G (by omega) (by omega) (fun _ _ => rfl) (fun j => by rw [if_neg (by omega)])⟩
theorem s_isB0 {K : Int32 → HF → Prop} {G : HF} (k : ∀ H, Fr9 G H → H 100 5 = G 100 5 → K (nI 0) H) : wp_X7_isItem_96 K G := by
  unfold wp_X7_isItem_96 wp_X7_isItem_97
  refine ⟨1, ?_⟩
  unfold wp_X7_isItem_100 wp_X7_isItem_134
  exact ⟨fun x => absurd x (by decide), fun _ => ⟨fun _ H e => ⟨Or.inl rfl, k H (by rw [e]; exact Fr9.u (by omega)) (by rw [e, hup_at, if_neg (by omega)])⟩, fun x => absurd rfl x⟩⟩
theorem s_isW0 {K : Int32 → HF → Prop} {G : HF} (k : ∀ H, Fr9 G H → H 100 5 = G 100 5 → K (nI 0) H) : wp_X7_isItem_184 K G := by
  unfold wp_X7_isItem_184 wp_X7_isItem_185 wp_X7_isItem_205
  exact ⟨fun _ H e => ⟨Or.inl rfl, k H (by rw [e]; exact Fr9.u (by omega)) (by rw [e, hup_at, if_neg (by omega)])⟩, fun x => absurd rfl x⟩
theorem s_isW {K : Int32 → HF → Prop} {G : HF} {d : FD} {v : Nat} (m : MDr G d) (hC : fC d < 8) (hv : G 103 0 = nI v)
    (k : ∀ H, Fr9 G H → H 100 2 = G 100 2 → MDr H (adW d v) → K (nI 1) H) : wp_X7_isItem_185 K G (nI 1) := by
  have z0 : (nI 0).toNatClampNeg = 0 := nIcl (by omega)
  unfold wp_X7_isItem_185
  rw [m.2.1, z0, hv, nIcl (by omega)]
  refine ⟨fun x => absurd x (by decide), fun _ => ⟨vin (by omega) (by omega), vin (by omega) (by omega), fun H e => ?_⟩⟩
  unfold wp_X7_isItem_205
  intro H1 e1
  have e7 : H 100 7 = nI (fC d) := by rw [e, hup_n _ _ _ (by omega)]; exact m.2.1
  rw [e7, nI_add] at e1
  refine ⟨Or.inr rfl, k H1 ?_ ?_ ?_⟩
  · rw [e1]; refine Fr9.tr ?_ (Fr9.u (by omega)); rw [e]; exact Fr9.u8
  · rw [e1, hup_at, if_neg (by omega), e, hup_n _ _ _ (by omega)]
  · obtain ⟨c0, c1, c2, c3, c4, c5, c6, c7, c8, c9⟩ := m
    have y : ∀ j, j ≠ 7 → H1 100 j = G 100 j := fun j hj => by rw [e1, hup_at, if_neg hj, e, hup_n _ _ _ (by omega)]
    have y8 : H1 108 = G 108 := by rw [e1, hup_n _ _ _ (by omega), e, hup_n _ _ _ (by omega)]
    refine ⟨by rw [y _ (by omega)]; exact c0, by rw [e1, hup_at, if_pos rfl]; rfl, by rw [y _ (by omega)]; exact c2, by rw [y _ (by omega)]; exact c3, by rw [y _ (by omega)]; exact c4, by rw [y8]; exact c5, by rw [y8]; exact c6, by rw [y8]; exact c7, by rw [y8]; exact c8, ?_⟩
    intro b hb
    have hb' : b < fC d + 1 := hb
    show H1 109 b = nI (if b = fC d then v else fV d b)
    rw [e1, hup_n _ _ _ (by omega), e, hup_at]
    by_cases g : b = fC d
    · rw [if_pos g, if_pos g]
    · rw [if_neg g, if_neg g]; exact c9 b (by omega)
section Read4
variable {F : HF} {nx : Nat} {tx : Nat → Nat} {d : FD}
theorem s_X7_isItem {K : Int32 → HF → Prop} {p : Nat} (h : TM F nx tx) (hp : p < nx) (e2 : F 100 2 = nI p) (m : MDr F d) (o' : OkF d)
    (k0 : ∀ G, Fr9 F G → G 100 5 = F 100 5 → qt (tc nx tx) d p = none → K (nI 0) G)
    (k1 : ∀ G d2 p2, Fr9 F G → qt (tc nx tx) d p = some (d2, p2) → MDr G d2 → G 100 2 = nI p2 → K (nI 1) G) : wp_X7_isItem K F := by
  have hn := h.1
  have hl := h.le p
  have hB := o'.1
  have hC := o'.2.1
  have z0 : (nI 0).toNatClampNeg = 0 := nIcl (by omega)
  have z1 : (nI 1).toNatClampNeg = 1 := nIcl (by omega)
  have z2 : (nI 2).toNatClampNeg = 2 := nIcl (by omega)
  have z3 : (nI 3).toNatClampNeg = 3 := nIcl (by omega)
  unfold wp_X7_isItem
  rw [z0, z1, z2, z3, e2]
  refine s_X7_letterAt h (by omega) (fun _ => ?_) (fun g _ => absurd hp g)
  intro F2 eF
  rw [e2, nI_add] at eF
  have f2 : Fr7 F F2 := by rw [eF]; exact Fr7.u2
  have x2 : F2 100 2 = nI (p + 1) := by rw [eF, hup_at, if_pos rfl]
  have q9 : ∀ {k : Nat}, rok (tc nx tx) (p + 1) k → ∀ i, i < k → qv (tc nx tx) (p + 1) i ≤ 99 := fun r i hi => qn_le (r i hi).1
  have t5 : ∀ {G : HF}, Fr7 F2 G → G 100 5 = F 100 5 := fun f => by rw [f.2 5 (by omega) (by omega), f2.2 5 (by omega) (by omega)]
  have m2 := m.fr f2
  rw [m2.1, m2.2.1]
  simp (disch := omega) only [nIe, nIle]
  refine ⟨fun n98 => ⟨fun n119 => ⟨fun n114 => ⟨fun n108 => ?_, fun e => ?_⟩, fun e => ?_⟩, fun e => ?_⟩, fun e => ?_⟩
  · refine k0 F2 f2.to9 (t5 Fr7.rf) ?_
    unfold qt; rw [if_neg n98, if_neg n119, if_neg n114, if_neg n108]
  · have eqt : qt (tc nx tx) d p = if gdL (tc nx tx) p then some (stL d (qv (tc nx tx) (p + 1) 0) (qv (tc nx tx) (p + 1) 1), qs (tc nx tx) (p + 1) 2) else none := by
      unfold qt; rw [if_neg n98, if_neg n119, if_neg n114, if_pos e]
    refine s_X7_isRow (h.fr f2) (by omega) (by omega) x2 (fun G fr r => ⟨fun _ => k0 G (f2.tr fr).to9 (t5 fr) (by rw [eqt, if_neg (fun g => r g.1)]), fun x => absurd rfl x⟩) (fun G fr r y2 y3 => ⟨fun x => absurd x (by decide), fun _ => ⟨vin (by omega) (by omega), ?_⟩⟩)
    have u0 := q9 r 0 (by omega)
    have u1 := q9 r 1 (by omega)
    rw [y3 0 (by omega)]
    refine s_in (fun x => ⟨fun y => absurd y (by decide), fun _ => ⟨vin (by omega) (by omega), ?_⟩⟩) (fun x => ⟨fun _ => k0 G (f2.tr fr).to9 (t5 fr) ?_, fun y => absurd rfl y⟩)
    · rw [nIlt (by omega) (by omega), nIlt (by omega) (by omega)] at x
      rw [y3 0 (by omega), y3 1 (by omega), nIle (by omega) (by omega)]
      refine ⟨fun g => ⟨vin (by omega) (by omega), fun G1 e1 => ⟨vin (by omega) (by omega), fun G2 e2' => ?_⟩⟩, fun g => k0 G (f2.tr fr).to9 (t5 fr) (by rw [eqt, if_neg (fun y => g y.2.2.2)])⟩
      have w1 : G1 103 1 = nI (qv (tc nx tx) (p + 1) 1) := by rw [e1, hup_n _ _ _ (by omega)]; exact y3 1 (by omega)
      rw [w1] at e2'
      have y : ∀ j, j ≠ 11 → j ≠ 12 → G2 100 j = G 100 j := fun j h1 h2 => by rw [e2', hup_at, if_neg h2, e1, hup_at, if_neg h1]
      have yo : ∀ a, a ≠ 100 → G2 a = G a := fun a h1 => by rw [e2', hup_n _ _ _ h1, e1, hup_n _ _ _ h1]
      refine k1 G2 _ _ ?_ (by rw [eqt, if_pos ⟨r, by omega, by omega, g⟩]) ?_ (by rw [y _ (by omega) (by omega)]; exact y2)
      · refine (f2.tr fr).to9.tr ?_
        rw [e2']; refine Fr9.tr ?_ (Fr9.u (by omega)); rw [e1]; exact Fr9.u (by omega)
      · obtain ⟨c0, c1, c2, c3, c4, c5, c6, c7, c8, c9⟩ := m2.fr fr
        exact ⟨by rw [y _ (by omega) (by omega)]; exact c0, by rw [y _ (by omega) (by omega)]; exact c1, by rw [y _ (by omega) (by omega)]; exact c2, by rw [e2', hup_at, if_neg (by omega), e1, hup_at, if_pos rfl]; rfl, by rw [e2', hup_at, if_pos rfl]; rfl, by rw [yo _ (by omega)]; exact c5, by rw [yo _ (by omega)]; exact c6, by rw [yo _ (by omega)]; exact c7, by rw [yo _ (by omega)]; exact c8, by rw [yo _ (by omega)]; exact c9⟩
    · rw [nIlt (by omega) (by omega), nIlt (by omega) (by omega)] at x
      rw [eqt, if_neg (fun y => x ⟨by omega, by omega⟩)]
  · have eqt : qt (tc nx tx) d p = if gdR (tc nx tx) p then some (stR d (qv (tc nx tx) (p + 1) 0), qs (tc nx tx) (p + 1) 1) else none := by
      unfold qt; rw [if_neg n98, if_neg n119, if_pos e]
    have bad : ∀ G, Fr7 F2 G → qt (tc nx tx) d p = none → wp_X7_isItem_250 K G := by
      intro G fr eq
      unfold wp_X7_isItem_250 wp_X7_isItem_251
      refine ⟨vin (by omega) (by omega), fun H e => ⟨Or.inl rfl, k0 H ?_ ?_ eq⟩⟩
      · rw [e]; exact (f2.tr fr).to9.tr (Fr9.u (by omega))
      · rw [e, hup_at, if_neg (by omega)]; exact t5 fr
    refine s_X7_isRow (h.fr f2) (by omega) (by omega) x2 (fun G fr r => ⟨fun _ => bad G fr (by rw [eqt, if_neg (fun g => r g.1)]), fun x => absurd rfl x⟩) (fun G fr r y2 y3 => ⟨fun x => absurd x (by decide), fun _ => ⟨vin (by omega) (by omega), ?_⟩⟩)
    have u0 := q9 r 0 (by omega)
    rw [y3 0 (by omega)]
    refine s_in (fun x => ⟨fun y => absurd y (by decide), fun _ => ?_⟩) (fun x => ⟨fun _ => bad G fr ?_, fun y => absurd rfl y⟩)
    · rw [nIlt (by omega) (by omega), nIlt (by omega) (by omega)] at x
      unfold wp_X7_isItem_251
      rw [z0, y3 0 (by omega)]
      refine ⟨vin (by omega) (by omega), fun H e1 => ⟨Or.inr rfl, k1 H _ _ ?_ (by rw [eqt, if_pos ⟨r, by omega, by omega⟩]) ?_ ?_⟩⟩
      · rw [e1]; exact (f2.tr fr).to9.tr (Fr9.u (by omega))
      · have y : ∀ j, j ≠ 10 → H 100 j = G 100 j := fun j h1 => by rw [e1, hup_at, if_neg h1]
        have yo : ∀ a, a ≠ 100 → H a = G a := fun a h1 => by rw [e1, hup_n _ _ _ h1]
        obtain ⟨c0, c1, c2, c3, c4, c5, c6, c7, c8, c9⟩ := m2.fr fr
        exact ⟨by rw [y _ (by omega)]; exact c0, by rw [y _ (by omega)]; exact c1, by rw [e1, hup_at, if_pos rfl]; rfl, by rw [y _ (by omega)]; exact c3, by rw [y _ (by omega)]; exact c4, by rw [yo _ (by omega)]; exact c5, by rw [yo _ (by omega)]; exact c6, by rw [yo _ (by omega)]; exact c7, by rw [yo _ (by omega)]; exact c8, by rw [yo _ (by omega)]; exact c9⟩
      · rw [e1, hup_at, if_neg (by omega)]; exact y2
    · rw [nIlt (by omega) (by omega), nIlt (by omega) (by omega)] at x
      rw [eqt, if_neg (fun y => x ⟨by omega, by omega⟩)]
  · have eqt : qt (tc nx tx) d p = if gdW (tc nx tx) d p then some (adW d (qv (tc nx tx) (p + 1) 0), qs (tc nx tx) (p + 1) 1) else none := by
      unfold qt; rw [if_neg n98, if_pos e]
    have bad : ∀ G, Fr7 F2 G → qt (tc nx tx) d p = none → wp_X7_isItem_184 K G := fun G fr eq => s_isW0 (fun H f1 e5 => k0 H ((f2.tr fr).to9.tr f1) (by rw [e5]; exact t5 fr) eq)
    refine ⟨fun g => bad F2 Fr7.rf (by rw [eqt, if_neg (fun y => absurd y.1 (by omega))]), fun g => s_X7_isRow (h.fr f2) (by omega) (by omega) x2 (fun G fr r => ⟨fun _ => bad G fr (by rw [eqt, if_neg (fun g => r g.2.1)]), fun x => absurd rfl x⟩) (fun G fr r y2 y3 => ⟨fun x => absurd x (by decide), fun _ => ⟨vin (by omega) (by omega), ?_⟩⟩)⟩
    have u0 := q9 r 0 (by omega)
    rw [y3 0 (by omega), nIle (by omega) (by omega)]
    refine ⟨fun x => bad G fr (by rw [eqt, if_neg (fun y => absurd y.2.2 (by omega))]), fun x => s_isW (m2.fr fr) (by omega) (y3 0 (by omega)) (fun H f1 e1 mH => k1 H _ _ ((f2.tr fr).to9.tr f1) (by rw [eqt, if_pos ⟨by omega, r, by omega⟩]) mH (by rw [e1]; exact y2))⟩
  · have eqt : qt (tc nx tx) d p = if gdB (tc nx tx) d p then some (adB d (qv (tc nx tx) (p + 1) 0) (qv (tc nx tx) (p + 1) 1) (qv (tc nx tx) (p + 1) 2) (qv (tc nx tx) (p + 1) 3), qs (tc nx tx) (p + 1) 4) else none := by
      unfold qt; rw [if_pos e]
    have bad : ∀ G, Fr7 F2 G → qt (tc nx tx) d p = none → wp_X7_isItem_96 K G := fun G fr eq => s_isB0 (fun H f1 e5 => k0 H ((f2.tr fr).to9.tr f1) (by rw [e5]; exact t5 fr) eq)
    refine ⟨fun g => bad F2 Fr7.rf (by rw [eqt, if_neg (fun y => absurd y.1 (by omega))]), fun g => s_X7_isRow (h.fr f2) (by omega) (by omega) x2 (fun G fr r => ⟨fun _ => bad G fr (by rw [eqt, if_neg (fun g => r g.2.1)]), fun x => absurd rfl x⟩) (fun G fr r y2 y3 => ⟨fun x => absurd x (by decide), fun _ => ⟨vin (by omega) (by omega), ?_⟩⟩)⟩
    have u0 := q9 r 0 (by omega)
    have u1 := q9 r 1 (by omega)
    have u2 := q9 r 2 (by omega)
    have u3 := q9 r 3 (by omega)
    rw [y3 0 (by omega)]
    refine s_in (fun x => ⟨fun y => absurd y (by decide), fun _ => ⟨vin (by omega) (by omega), ?_⟩⟩) (fun x => ⟨fun _ => bad G fr ?_, fun y => absurd rfl y⟩)
    · rw [nIlt (by omega) (by omega), nIlt (by omega) (by omega)] at x
      rw [y3 1 (by omega)]
      refine s_in (fun x2 => ⟨fun y => absurd y (by decide), fun _ => ⟨vin (by omega) (by omega), ?_⟩⟩) (fun x2 => ⟨fun _ => bad G fr ?_, fun y => absurd rfl y⟩)
      · rw [nIlt (by omega) (by omega), nIlt (by omega) (by omega)] at x2
        rw [y3 2 (by omega), y3 3 (by omega), nIle (by omega) (by omega), nIle (by omega) (by omega)]
        refine ⟨fun x3 => bad G fr (by rw [eqt, if_neg (fun y => absurd y.2.2.2.2.2.2.1 (by omega))]), fun x3 => ⟨vin (by omega) (by omega), fun x4 => bad G fr (by rw [eqt, if_neg (fun y => absurd y.2.2.2.2.2.2.2 (by omega))]), fun x4 => ?_⟩⟩
        exact s_isB (m2.fr fr) (by omega) y3 (fun H f1 e1 mH => k1 H _ _ ((f2.tr fr).to9.tr f1) (by rw [eqt, if_pos ⟨by omega, r, by omega, by omega, by omega, by omega, by omega, by omega⟩]) mH (by rw [e1]; exact y2))
      · rw [nIlt (by omega) (by omega), nIlt (by omega) (by omega)] at x2
        rw [eqt, if_neg (fun y => x2 ⟨by omega, by omega⟩)]
    · rw [nIlt (by omega) (by omega), nIlt (by omega) (by omega)] at x
      rw [eqt, if_neg (fun y => x ⟨by omega, by omega⟩)]
theorem TM.fr9 {G : HF} (h : TM F nx tx) (f : Fr9 F G) : TM G nx tx := by
  unfold TM; rw [f.2 0 (by omega), f.1 101 (by omega) (by omega) (by omega) (by omega)]; exact h
theorem qt_le {cc : Nat → Nat} {d2 : FD} {p p2 : Nat} (h : qt cc d p = some (d2, p2)) : p2 ≤ p + 13 := by
  unfold qt at h
  have := qs_le (c := cc) (p := p + 1) 4
  have := qs_le (c := cc) (p := p + 1) 1
  have := qs_le (c := cc) (p := p + 1) 2
  split at h <;> (try split at h) <;> (try split at h) <;> (try split at h) <;> (try split at h) <;> simp at h <;> omega
theorem s_X7_isRead {K : Int32 → HF → Prop} (h : TM F nx tx)
    (k1 : ∀ G, Fr9 F G → (qr (tc nx tx) nx (nx + 1) d00 0).2 = none → MDr G (qr (tc nx tx) nx (nx + 1) d00 0).1 → K (nI 1) G)
    (k0 : ∀ G q, Fr9 F G → (qr (tc nx tx) nx (nx + 1) d00 0).2 = some q → G 100 5 = nI q → K (nI 0) G) : wp_X7_isRead K F := by
  have hn := h.1
  have main : ∀ n p (e : FD) (G : HF), 1 ≤ n → nx + 1 ≤ p + n → p ≤ nx + 13 → Fr9 F G → MDr G e → OkF e → G 100 2 = nI p →
      (∀ G, Fr9 F G → (qr (tc nx tx) nx n e p).2 = none → MDr G (qr (tc nx tx) nx n e p).1 → K (nI 1) G) →
      (∀ G q, Fr9 F G → (qr (tc nx tx) nx n e p).2 = some q → G 100 5 = nI q → K (nI 0) G) → wp_X7_isRead_31 K n G := by
    intro n
    induction n with
    | zero => intro p e G h0; omega
    | succ n ih =>
      intro p e G h0 h1 h2 fr cG oe x2 k1 k0
      have hG := h.fr9 fr
      unfold wp_X7_isRead_31
      rw [hG.2.1, x2, nIle (by omega) (by omega)]
      have er : qr (tc nx tx) nx (n + 1) e p = if nx ≤ p then (e, none) else match qt (tc nx tx) e p with
        | none => (e, some p)
        | some (d2, p2) => qr (tc nx tx) nx n d2 p2 := rfl
      refine ⟨fun g => ?_, fun g G1 e1 => ?_⟩
      · rw [if_pos g] at er
        rw [er] at k1
        exact k1 G fr rfl cG
      have fr1 : Fr9 F G1 := by rw [e1]; exact fr.tr (Fr9.u (by omega))
      have y : ∀ j, j ≠ 5 → G1 100 j = G 100 j := fun j hj => by rw [e1, hup_at, if_neg hj]
      have m1 : MDr G1 e := by
        unfold MDr
        rw [y 6 (by omega), y 7 (by omega), y 10 (by omega), y 11 (by omega), y 12 (by omega), e1, hup_n _ _ _ (by omega), hup_n _ _ _ (by omega)]
        exact cG
      refine s_X7_isItem (p := p) (h.fr9 fr1) (by omega) (by rw [y _ (by omega)]; exact x2) m1 oe (fun G2 f2 e5 eq => ⟨fun x => absurd rfl x, fun _ => ?_⟩) (fun G2 d2 p2 f2 eq mG y2 => ⟨fun _ => ?_, fun x => absurd x (by decide)⟩)
      · rw [if_neg g, eq] at er
        rw [er] at k0
        exact k0 G2 p (fr1.tr f2) rfl (by rw [e5, e1, hup_at, if_pos rfl])
      · have := qt_lt eq
        have := qt_le eq
        rw [if_neg g, eq] at er
        rw [er] at k1 k0
        exact ih _ d2 G2 (by omega) (by omega) (by omega) (fr1.tr f2) mG (qt_ok oe eq) y2 k1 k0
  unfold wp_X7_isRead
  intro F1 e1 F2 e2 F3 e3 F4 e4 F5 e5 F6 e6
  have y0 : ∀ j, F6 100 j = if j = 12 then nI 1 else if j = 11 then nI 12 else if j = 10 then nI 5 else if j = 7 then nI 0 else if j = 6 then nI 0 else if j = 2 then nI 0 else F 100 j := fun j => by rw [e6, hup_at, e5, hup_at, e4, hup_at, e3, hup_at, e2, hup_at, e1, hup_at]
  have yo : ∀ a, a ≠ 100 → F6 a = F a := fun a p => by rw [e6, hup_n _ _ _ p, e5, hup_n _ _ _ p, e4, hup_n _ _ _ p, e3, hup_n _ _ _ p, e2, hup_n _ _ _ p, e1, hup_n _ _ _ p]
  refine ⟨nx + 1, main (nx + 1) 0 d00 F6 (by omega) (by omega) (by omega) ⟨fun a x _ _ _ => yo a x, fun j hj => ?_⟩ ⟨y0 6, y0 7, y0 10, y0 11, y0 12, fun b hb => absurd hb (Nat.not_lt_zero b), fun b hb => absurd hb (Nat.not_lt_zero b), fun b hb => absurd hb (Nat.not_lt_zero b), fun b hb => absurd hb (Nat.not_lt_zero b), fun b hb => absurd hb (Nat.not_lt_zero b)⟩ ok_d00 (y0 2) k1 k0⟩
  rw [y0, if_neg (by omega), if_neg (by omega), if_neg (by omega), if_neg (by omega), if_neg (by omega), if_neg (by omega)]
end Read4
