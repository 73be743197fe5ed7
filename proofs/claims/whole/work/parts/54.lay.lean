def Nz0 : ND := ((0, 0, 0, 0, 0), (fun _ => 0), fun _ => 0)
theorem Nz0_wf {n : Nat} {d : FD} (o' : OkF d) : WfN n d Nz0 := ⟨⟨Nat.zero_le 8, fun k hk => absurd hk (Nat.not_lt_zero k), fun i j hi => absurd hi (Nat.not_lt_zero i)⟩, fun x _ => Nat.zero_le _, Nat.zero_le _, Nat.zero_le _, Nat.zero_le _, Nat.zero_le _, fun h => absurd h (by decide)⟩
theorem s_X1_copyFrom {F : HF} {d : FD} {K : HF → Prop} (c : CF F 10 d) (o' : OkF d) (k : ∀ G, (∀ a, (a < 4 ∨ 9 < a) → G a = F a) → CF G 4 d → K G) : wp_X1_copyFrom K F 4 10 := by
  have hB := o'.1
  have hC := o'.2.1
  unfold wp_X1_copyFrom
  intro F1 e1 F2 e2 F3 e3 F4 e4 F5 e5 F6 e6 F7 e7 F8 e8 F9 e9 F10 e10
  have k1 : ∀ a, a ≠ 5 → F1 a = F a := fun a h => by rw [e1, hst_n _ _ h]
  have k2 : ∀ a, a ≠ 6 → F2 a = F1 a := fun a h => by rw [e2, hst_n _ _ h]
  have k3 : ∀ a, a ≠ 7 → F3 a = F2 a := fun a h => by rw [e3, hst_n _ _ h]
  have k4 : ∀ a, a ≠ 8 → F4 a = F3 a := fun a h => by rw [e4, hst_n _ _ h]
  have k5 : ∀ a, a ≠ 9 → F5 a = F4 a := fun a h => by rw [e5, hst_n _ _ h]
  have k6 : ∀ a, a ≠ 4 → F6 a = F5 a := fun a h => by rw [e6, hup_n _ _ _ h]
  have k7 : ∀ a, a ≠ 4 → F7 a = F6 a := fun a h => by rw [e7, hup_n _ _ _ h]
  have k8 : ∀ a, a ≠ 4 → F8 a = F7 a := fun a h => by rw [e8, hup_n _ _ _ h]
  have k9 : ∀ a, a ≠ 4 → F9 a = F8 a := fun a h => by rw [e9, hup_n _ _ _ h]
  have k10 : ∀ a, a ≠ 4 → F10 a = F9 a := fun a h => by rw [e10, hup_n _ _ _ h]
  have u10 : F5 10 = F 10 := by rw [k5 _ (by omega), k4 _ (by omega), k3 _ (by omega), k2 _ (by omega), k1 _ (by omega)]
  rw [u10] at e6
  rw [k6 _ (by omega), u10] at e7
  rw [k7 _ (by omega), k6 _ (by omega), u10] at e8
  rw [k8 _ (by omega), k7 _ (by omega), k6 _ (by omega), u10] at e9
  rw [k9 _ (by omega), k8 _ (by omega), k7 _ (by omega), k6 _ (by omega), u10] at e10
  have w : ∀ a, a ≠ 4 → F10 a = F5 a := fun a h => by rw [k10 a h, k9 a h, k8 a h, k7 a h, k6 a h]
  have y4 : ∀ j, F10 4 j = if j = 9 then F 10 9 else if j = 8 then F 10 8 else if j = 7 then F 10 7 else if j = 6 then F 10 6 else if j = 5 then F 10 5 else F5 4 j := fun j => by rw [e10, hup_at, e9, hup_at, e8, hup_at, e7, hup_at, e6, hup_at]
  obtain ⟨c0, c1, c2, c3, c4, c5, c6, c7, c8, c9⟩ := c
  refine k F10 (fun a h => by rw [w a (by omega), k5 a (by omega), k4 a (by omega), k3 a (by omega), k2 a (by omega), k1 a (by omega)]) ⟨(y4 5).trans c0, (y4 6).trans c1, (y4 7).trans c2, (y4 8).trans c3, (y4 9).trans c4, fun b hb => ?_, fun b hb => ?_, fun b hb => ?_, fun b hb => ?_, fun b hb => ?_⟩
  · show F10 5 b = _
    rw [w _ (by omega), k5 _ (by omega), k4 _ (by omega), k3 _ (by omega), k2 _ (by omega), e1, hst_s, pk_cpy_in (by omega) (by omega)]
    simp only [Nat.zero_add, Nat.sub_zero]
    exact c5 b hb
  · show F10 6 b = _
    rw [w _ (by omega), k5 _ (by omega), k4 _ (by omega), k3 _ (by omega), e2, hst_s, pk_cpy_in (by omega) (by omega), k1 _ (by omega)]
    simp only [Nat.zero_add, Nat.sub_zero]
    exact c6 b hb
  · show F10 7 b = _
    rw [w _ (by omega), k5 _ (by omega), k4 _ (by omega), e3, hst_s, pk_cpy_in (by omega) (by omega), k2 _ (by omega), k1 _ (by omega)]
    simp only [Nat.zero_add, Nat.sub_zero]
    exact c7 b hb
  · show F10 8 b = _
    rw [w _ (by omega), k5 _ (by omega), e4, hst_s, pk_cpy_in (by omega) (by omega), k3 _ (by omega), k2 _ (by omega), k1 _ (by omega)]
    simp only [Nat.zero_add, Nat.sub_zero]
    exact c8 b hb
  · show F10 9 b = _
    rw [w _ (by omega), e5, hst_s, pk_cpy_in (by omega) (by omega), k4 _ (by omega), k3 _ (by omega), k2 _ (by omega), k1 _ (by omega)]
    simp only [Nat.zero_add, Nat.sub_zero]
    exact c9 b hb
theorem s_X2_begin {F : HF} {K : HF → Prop} {n : Nat} (k : ∀ G, (∀ a, (a < n ∨ n + 3 < a) → G a = F a) → CN G n Nz0 → K G) : wp_X2_begin K F n := by
  unfold wp_X2_begin
  refine s_X0_clear (o := fun _ => 0) (fun G fr c => ?_)
  intro F2 e2 F3 e3 F4 e4 F5 e5
  have k5 : ∀ a, a ≠ n → F5 a = G a := fun a h => by rw [e5, hup_n _ _ _ h, e4, hup_n _ _ _ h, e3, hup_n _ _ _ h, e2, hup_n _ _ _ h]
  have y : ∀ j, F5 n j = if j = 5 then nI 0 else if j = 4 then (-1 : Int32) else if j = 3 then nI 0 else if j = 2 then nI 0 else G n j := fun j => by rw [e5, hup_at, e4, hup_at, e3, hup_at, e2, hup_at]
  refine k F5 (fun a ha => ?_) ⟨y 2, y 3, y 4, y 5, c.kept (by rw [k5 _ (by omega)]) (k5 _ (by omega)) (k5 _ (by omega))⟩
  rw [k5 a (by omega)]
  exact fr a (by simp; omega)
theorem s_X7_begin {F : HF} {K : HF → Prop} (k : ∀ G, (∀ a, a ≠ 100 → a ≠ 120 → G a = F a) → (∀ j, j ≠ 23 → j ≠ 25 → j ≠ 27 → G 100 j = F 100 j) → G 100 23 = nI 0 → G 100 25 = nI 0 → G 100 27 = nI 0 → MNf (G 120) Nz0 → K G) : wp_X7_begin K F := by
  have z3 : (nI 3).toNatClampNeg = 3 := nIcl (by omega)
  have main : ∀ n i (G : HF), 22 ≤ i + n → i ≤ 21 → (∀ a, a ≠ 120 → G a = F a) → (∀ j, j < i → G 120 j = nI 0) → wp_X7_begin_2 K n G (nI i) := by
    intro n
    induction n with
    | zero => intro i G h1 h2; omega
    | succ n ih =>
      intro i G h1 h2 ho hz
      unfold wp_X7_begin_2
      rw [z3, nIle (by omega) (by omega), nIcl (n := i) (by omega), nI_add]
      refine ⟨fun g => ⟨vin (by omega) (by omega), fun F1 e1 F2 e2 F3 e3 F4 e4 => ?_⟩, fun g => ⟨vin (by omega) (by omega), fun F1 e1 => ?_⟩⟩
      · have : i = 21 := by omega
        subst this
        have y : ∀ j, F4 120 j = if j = 3 then (-1 : Int32) else G 120 j := fun j => by rw [e4, hup_n _ _ _ (by omega), e3, hup_n _ _ _ (by omega), e2, hup_n _ _ _ (by omega), e1, hup_at]
        have y2 : ∀ j, F4 100 j = if j = 27 then nI 0 else if j = 25 then nI 0 else if j = 23 then nI 0 else F 100 j := fun j => by rw [e4, hup_at, e3, hup_at, e2, hup_at, e1, hup_n _ _ _ (by omega), ho 100 (by omega)]
        refine k F4 (fun a x y => ?_) (fun j a b c => by rw [y2, if_neg c, if_neg b, if_neg a]) (y2 23) (y2 25) (y2 27) ⟨?_, ?_, ?_, ?_, ?_, fun k hk => absurd hk (Nat.not_lt_zero k), fun k hk => ?_⟩
        · rw [e4, hup_n _ _ _ x, e3, hup_n _ _ _ x, e2, hup_n _ _ _ x, e1, hup_n _ _ _ y, ho a y]
        · rw [y, if_neg (by omega)]; exact hz 0 (by omega)
        · rw [y, if_neg (by omega)]; exact hz 1 (by omega)
        · rw [y, if_neg (by omega)]; exact hz 2 (by omega)
        · rw [y, if_pos rfl]; rfl
        · rw [y, if_neg (by omega)]; exact hz 4 (by omega)
        · rw [y, if_neg (by omega)]; exact hz _ (by omega)
      · refine ih (i + 1) F1 (by omega) (by omega) (fun a ha => by rw [e1, hup_n _ _ _ ha, ho a ha]) (fun j hj => ?_)
        rw [e1, hup_at]
        by_cases e : j = i
        · rw [if_pos e]
        · rw [if_neg e]; exact hz j (by omega)
  exact ⟨22, main 22 0 F (by omega) (by omega) (fun _ _ => rfl) (fun j hj => absurd hj (by omega))⟩
theorem s_lay65 {F : HF} {d : FD} {K : Int32 → HF → Prop} (m : MDr F d) (o' : OkF d) (e13 : F 100 13 = nI (fB d)) (e15 : F 100 15 = nI (fC d)) (hb : (∀ b, b < fB d → F 114 (4 * b) = nI (fS d b)) ∧ (∀ b, b < fB d → F 114 (4 * b + 1) = nI (fL d b)) ∧ (∀ b, b < fB d → F 114 (4 * b + 2) = nI (fK d b)) ∧ ∀ b, b < fB d → F 114 (4 * b + 3) = nI (fD d b))
    (k : ∀ G, (∀ a, a ≠ 100 → a ≠ 120 → a ≠ 116 → G a = F a) → G 100 0 = F 100 0 → MF G d → G 100 23 = nI 0 → G 100 25 = nI 0 → G 100 27 = nI 0 → MNf (G 120) Nz0 → K (nI (fB d)) G) : ∃ m_, wp_X7_lay_65 K m_ F (nI 0) := by
  have hC := o'.2.1
  have main : ∀ n i (G : HF), fC d + 1 ≤ i + n → i ≤ fC d → (∀ a, a ≠ 116 → G a = F a) → (∀ j, j < i → G 116 j = nI (fV d j)) → wp_X7_lay_65 K n G (nI i) := by
    intro n
    induction n with
    | zero => intro i G h1 h2; omega
    | succ n ih =>
      intro i G h1 h2 ho hz
      unfold wp_X7_lay_65
      rw [ho 100 (by omega), e15, nIle (by omega) (by omega), nIcl (by omega), nI_add, ho 109 (by omega)]
      refine ⟨fun g F1 e1 F2 e2 F3 e3 => ?_, fun g => ⟨vin (by omega) (by omega), vin (by omega) (by omega), fun F1 e1 => ?_⟩⟩
      · have : i = fC d := by omega
        subst this
        have u1 : ∀ j, j ≠ 17 → F1 100 j = F 100 j := fun j hj => by rw [e1, hup_at, if_neg hj, ho 100 (by omega)]
        have u2 : ∀ j, j ≠ 17 → j ≠ 18 → F2 100 j = F 100 j := fun j hj h2 => by rw [e2, hup_at, if_neg h2, u1 j hj]
        rw [u1 _ (by omega)] at e2
        rw [u2 _ (by omega) (by omega)] at e3
        have u3 : ∀ j, F3 100 j = if j = 19 then F 100 12 else if j = 18 then F 100 11 else if j = 17 then F 100 10 else F 100 j := fun j => by rw [e3, hup_at, e2, hup_at, e1, hup_at, ho 100 (by omega)]
        have uo : ∀ a, a ≠ 100 → F3 a = G a := fun a h => by rw [e3, hup_n _ _ _ h, e2, hup_n _ _ _ h, e1, hup_n _ _ _ h]
        refine s_X7_begin (fun H g1 g2 g3 g4 g5 g6 => ?_)
        have e13' : H 100 13 = nI (fB d) := by rw [g2 _ (by omega) (by omega) (by omega), u3, if_neg (by omega), if_neg (by omega), if_neg (by omega)]; exact e13
        rw [e13']
        have v : ∀ j, j ≠ 23 → j ≠ 25 → j ≠ 27 → H 100 j = if j = 19 then F 100 12 else if j = 18 then F 100 11 else if j = 17 then F 100 10 else F 100 j := fun j a b c => by rw [g2 j a b c, u3]
        have vo : ∀ a, a ≠ 100 → a ≠ 120 → H a = G a := fun a h1 h2 => by rw [g1 a h1 h2, uo a h1]
        have v114 : H 114 = F 114 := by rw [vo _ (by omega) (by omega), ho _ (by omega)]
        refine k H (fun a h1 h2 h3 => by rw [vo a h1 h2, ho a h3]) (v 0 (by omega) (by omega) (by omega)) ⟨e13', ?_, ?_, ?_, ?_, by rw [v114]; exact hb.1, by rw [v114]; exact hb.2.1, by rw [v114]; exact hb.2.2.1, by rw [v114]; exact hb.2.2.2, by rw [vo _ (by omega) (by omega)]; exact hz⟩ g3 g4 g5 g6
        · exact (v 15 (by omega) (by omega) (by omega)).trans e15
        · exact (v 17 (by omega) (by omega) (by omega)).trans m.2.2.1
        · exact (v 18 (by omega) (by omega) (by omega)).trans m.2.2.2.1
        · exact (v 19 (by omega) (by omega) (by omega)).trans m.2.2.2.2.1
      · refine ih (i + 1) F1 (by omega) (by omega) (fun a ha => by rw [e1, hup_n _ _ _ ha, ho a ha]) (fun j hj => ?_)
        rw [e1, hup_at]
        by_cases e : j = i
        · rw [if_pos e, e]; exact m.2.2.2.2.2.2.2.2.2 i (by omega)
        · rw [if_neg e]; exact hz j (by omega)
  exact ⟨fC d + 1, main _ 0 F (by omega) (by omega) (fun _ _ => rfl) (fun j hj => absurd hj (by omega))⟩
theorem s_lay27 {F : HF} {d : FD} {K : Int32 → HF → Prop} (m : MDr F d) (o' : OkF d) (e13 : F 100 13 = nI (fB d))
    (k : ∀ G, (∀ a, a ≠ 100 → a ≠ 120 → a ≠ 116 → a ≠ 114 → G a = F a) → G 100 0 = F 100 0 → MF G d → G 100 23 = nI 0 → G 100 25 = nI 0 → G 100 27 = nI 0 → MNf (G 120) Nz0 → K (nI (fB d)) G) : ∃ m_, wp_X7_lay_27 K m_ F (nI 0) := by
  have hB := o'.1
  have main : ∀ n i (G : HF), 4 * fB d + 1 ≤ i + n → i ≤ 4 * fB d → (∀ a, a ≠ 114 → G a = F a) → (∀ j, j < i → G 114 j = F 108 j) → wp_X7_lay_27 K n G (nI i) := by
    intro n
    induction n with
    | zero => intro i G h1 h2; omega
    | succ n ih =>
      intro i G h1 h2 ho hz
      unfold wp_X7_lay_27
      rw [ho 100 (by omega), e13, pk_mul, nIle (by omega) (by omega), nIcl (by omega), nI_add, ho 108 (by omega)]
      refine ⟨fun g F1 e1 => ?_, fun g => ⟨vin (by omega) (by omega), vin (by omega) (by omega), fun F1 e1 => ?_⟩⟩
      · have : i = 4 * fB d := by omega
        subst this
        have u : ∀ j, F1 100 j = if j = 15 then F 100 7 else F 100 j := fun j => by rw [e1, hup_at, ho 100 (by omega)]
        have uo : ∀ a, a ≠ 100 → F1 a = G a := fun a h => by rw [e1, hup_n _ _ _ h]
        obtain ⟨c0, c1, c2, c3, c4, c5, c6, c7, c8, c9⟩ := m
        have w114 : ∀ j, j < 4 * fB d → F1 114 j = F 108 j := fun j hj => by rw [uo _ (by omega), hz j hj]
        have w108 : F1 108 = F 108 := by rw [uo _ (by omega), ho _ (by omega)]
        have w109 : F1 109 = F 109 := by rw [uo _ (by omega), ho _ (by omega)]
        refine s_lay65 (d := d) ⟨(u 6).trans c0, (u 7).trans c1, (u 10).trans c2, (u 11).trans c3, (u 12).trans c4, by rw [w108]; exact c5, by rw [w108]; exact c6, by rw [w108]; exact c7, by rw [w108]; exact c8, by rw [w109]; exact c9⟩ o' ((u 13).trans e13) ((u 15).trans c1) ⟨fun b hb => by rw [w114 _ (by omega)]; exact c5 b hb, fun b hb => by rw [w114 _ (by omega)]; exact c6 b hb, fun b hb => by rw [w114 _ (by omega)]; exact c7 b hb, fun b hb => by rw [w114 _ (by omega)]; exact c8 b hb⟩ (fun H g1 g2 g3 g4 g5 g6 g7 => k H (fun a h1 h2 h3 h4 => by rw [g1 a h1 h2 h3, uo a h1, ho a h4]) (g2.trans (u 0)) g3 g4 g5 g6 g7)
      · refine ih (i + 1) F1 (by omega) (by omega) (fun a ha => by rw [e1, hup_n _ _ _ ha, ho a ha]) (fun j hj => ?_)
        rw [e1, hup_at]
        by_cases e : j = i
        · rw [if_pos e, e]
        · rw [if_neg e]; exact hz j (by omega)
  exact ⟨4 * fB d + 1, main _ 0 F (by omega) (by omega) (fun _ _ => rfl) (fun j hj => absurd hj (by omega))⟩
section Lay
variable {F G : HF} {n : Nat}
theorem FrT.ag (h : FrT 10 F G) : Ag F G := ⟨fun a x y => h a (by unfold scr at x; omega) (by unfold scr at x; omega), fun j _ => by rw [h 100 (by omega) (by omega)]⟩
theorem Fr9.ag (h : Fr9 F G) : Ag F G := ⟨fun a x y => h.1 a y (by unfold scr at x; omega) (by unfold scr at x; omega) (by unfold scr at x; omega), fun j x => h.2 j (by unfold S100 at x; omega)⟩
theorem I6.tx {nx : Nat} {tx : Nat → Nat} (h : nx ≤ 200 ∧ F 1 2 = nI nx ∧ F 100 0 = nI nx ∧ ∀ i, i < nx → 32 ≤ tx i ∧ tx i ≤ 126 ∧ F 2 i = nI (tx i) ∧ F 101 i = nI (tx i)) : TX F nx tx ∧ TM F nx tx :=
  ⟨⟨h.1, h.2.1, fun i hi => ⟨(h.2.2.2 i hi).1, (h.2.2.2 i hi).2.1, (h.2.2.2 i hi).2.2.1⟩⟩, ⟨h.1, h.2.2.1, fun i hi => ⟨(h.2.2.2 i hi).1, (h.2.2.2 i hi).2.1, (h.2.2.2 i hi).2.2.2⟩⟩⟩
theorem TM.frT {nx : Nat} {tx : Nat → Nat} (h : TM F nx tx) (f : FrT 10 F G) : TM G nx tx := by
  unfold TM; rw [f 100 (by omega) (by omega), f 101 (by omega) (by omega)]; exact h
theorem t_fault (h : Inv n F) : wp_X6_fault (fun r F1 => wp_X7_fault (fun r2 F2 => r = r2 ∧ Inv (n + 1) F2) F1) F := by
  obtain ⟨d, o', hb, i1, i2, i3, i4, i5, ⟨nx, tx, x⟩, i7⟩ := id h
  obtain ⟨hx, hm⟩ := I6.tx x
  unfold wp_X6_fault
  refine s_X3_readInto hx (by omega) (fun G fr e c => ?_) (fun G q fr hq e => ?_)
  · unfold wp_X7_fault
    refine s_X7_isRead (hm.frT fr) (fun H f2 e2 _ => ⟨fun y => absurd y (by decide), fun _ => h.end (fr.ag.tr f2.ag) rfl⟩) (fun H q f2 e2 _ => absurd (e.symm.trans e2) (by simp))
  · unfold wp_X7_fault
    refine s_X7_isRead (hm.frT fr) (fun H f2 e2 _ => absurd (e.symm.trans e2) (by simp)) (fun H q2 f2 e2 e5 => ⟨fun _ => ?_, fun y => absurd rfl y⟩)
    have : q = q2 := by have := e.symm.trans e2; simpa using this
    subst this
    exact h.end (fr.ag.tr f2.ag) e5.symm
theorem t_lay1 (h : Inv n F) : wp_X6_lay (fun r F1 => wp_X7_lay (fun r2 F2 => r = r2 ∧ Inv (n + 1) F2) F1) F := by
  obtain ⟨d, o', hb, i1, i2, ⟨pp, pps, rl, sp, pm, wp⟩, ⟨kp, kps, sk, km, wk⟩, i5, ⟨nx, tx, x⟩, i7⟩ := id h
  obtain ⟨hx, hm⟩ := I6.tx x
  have hnx := hx.1
  unfold wp_X6_lay
  refine s_X3_readInto hx (by omega) (fun G fr e c => ⟨fun y => absurd rfl y, fun _ => ?_⟩) (fun G q fr hq e => ⟨fun _ => ?_, fun y => ?_⟩)
  · have oq : OkF (qr (tc nx tx) nx (nx + 1) d00 0).1 := qr_ok _ _ _ ok_d00
    have hB := oq.1
    refine s_X1_birds c ?_
    rw [nIe (by omega) (by omega)]
    refine ⟨fun g => s_X1_copyFrom c oq (fun G3 f3 c3 => s_X2_begin (fun G4 f4 n4 => ?_)), fun g => ?_⟩
    · unfold wp_X5_clear wp_X4_begin
      intro G5 e5 G6 e6 G7 e7 G8 e8
      have w : ∀ a, a ≠ 25 → a ≠ 67 → a ≠ 79 → a ≠ 0 → G8 a = G4 a := fun a h1 h2 h3 h4 => by rw [e8, hup_n _ _ _ h4, e7, hup_n _ _ _ h3, e6, hup_n _ _ _ h2, e5, hup_n _ _ _ h1]
      have wF : ∀ a, 15 < a → (a < 16 ∨ 19 < a) → a ≠ 25 → a ≠ 67 → a ≠ 79 → G8 a = F a := fun a h1 h2 h3 h4 h5 => by rw [w a h3 h4 h5 (by omega), f4 a (by omega), f3 a (by omega), fr a (by omega) (by omega)]
      have w25 : ∀ j, G8 25 j = if j = 1 then nI 0 else F 25 j := fun j => by rw [e8, hup_n _ _ _ (by omega), e7, hup_n _ _ _ (by omega), e6, hup_n _ _ _ (by omega), e5, hup_at, f4 25 (by omega), f3 25 (by omega), fr 25 (by omega) (by omega)]
      have w67 : ∀ j, G8 67 j = if j = 1 then nI 0 else F 67 j := fun j => by rw [e8, hup_n _ _ _ (by omega), e7, hup_n _ _ _ (by omega), e6, hup_at, e5, hup_n _ _ _ (by omega), f4 67 (by omega), f3 67 (by omega), fr 67 (by omega) (by omega)]
      have w79 : G8 79 5 = -1 := by rw [e8, hup_n _ _ _ (by omega), e7, hup_at, if_pos rfl]
      have w0 : G8 0 10 = nI 0 := by rw [e8, hup_at, if_pos rfl]
      have w1 : G8 1 = F 1 := by rw [w 1 (by omega) (by omega) (by omega) (by omega), f4 1 (by omega), f3 1 (by omega), fr 1 (by omega) (by omega)]
      have w2 : G8 2 = F 2 := by rw [w 2 (by omega) (by omega) (by omega) (by omega), f4 2 (by omega), f3 2 (by omega), fr 2 (by omega) (by omega)]
      have c8 : CF G8 4 (qr (tc nx tx) nx (nx + 1) d00 0).1 := (c3.kept (f4 _ (by omega)) (f4 _ (by omega)) (f4 _ (by omega)) (f4 _ (by omega)) (f4 _ (by omega)) (f4 _ (by omega))).kept (w _ (by omega) (by omega) (by omega) (by omega)) (w _ (by omega) (by omega) (by omega) (by omega)) (w _ (by omega) (by omega) (by omega) (by omega)) (w _ (by omega) (by omega) (by omega) (by omega)) (w _ (by omega) (by omega) (by omega) (by omega)) (w _ (by omega) (by omega) (by omega) (by omega))
      have n8 : CN G8 16 Nz0 := n4.kept (w _ (by omega) (by omega) (by omega) (by omega)) (w _ (by omega) (by omega) (by omega) (by omega)) (w _ (by omega) (by omega) (by omega) (by omega)) (w _ (by omega) (by omega) (by omega) (by omega))
      refine s_X1_birds c8 ?_
      unfold wp_X7_lay
      have hm8 : TM G8 nx tx := by unfold TM; rw [wF 100 (by omega) (by omega) (by omega) (by omega) (by omega), wF 101 (by omega) (by omega) (by omega) (by omega) (by omega)]; exact hm
      refine s_X7_isRead hm8 (fun H f2 e2 mH => ⟨fun y => absurd y (by decide), fun _ => ?_⟩) (fun H q f2 e2 _ => absurd (e.symm.trans e2) (by simp))
      rw [mH.1, nIe (by omega) (by omega)]
      refine ⟨fun _ H2 eH => ?_, fun y => absurd y g⟩
      have u : ∀ j, j ≠ 13 → H2 100 j = H 100 j := fun j hj => by rw [eH, hup_at, if_neg hj]
      have uo : ∀ a, a ≠ 100 → H2 a = H a := fun a ha => by rw [eH, hup_n _ _ _ ha]
      have mH2 : MDr H2 (qr (tc nx tx) nx (nx + 1) d00 0).1 := by
        unfold MDr; rw [u 6 (by omega), u 7 (by omega), u 10 (by omega), u 11 (by omega), u 12 (by omega), uo 108 (by omega), uo 109 (by omega)]; exact mH
      refine s_lay27 mH2 oq (by rw [eH, hup_at, if_pos rfl]) (fun J g1 g2 g3 g4 g5 g6 g7 => ⟨rfl, ?_⟩)
      have v : ∀ a, a < 100 → J a = G8 a := fun a ha => by rw [g1 a (by omega) (by omega) (by omega) (by omega), uo a (by omega), f2.1 a (by omega) (by omega) (by omega) (by omega)]
      have v101 : J 101 = F 101 := by rw [g1 101 (by omega) (by omega) (by omega) (by omega), uo _ (by omega), f2.1 _ (by omega) (by omega) (by omega) (by omega), wF _ (by omega) (by omega) (by omega) (by omega) (by omega)]
      have v0 : J 100 0 = F 100 0 := by rw [g2, u 0 (by omega), f2.2 0 (by omega), wF _ (by omega) (by omega) (by omega) (by omega) (by omega)]
      refine ⟨_, oq, by omega, ⟨c8.kept (v _ (by omega)) (v _ (by omega)) (v _ (by omega)) (v _ (by omega)) (v _ (by omega)) (v _ (by omega)), g3⟩, ⟨Nz0, Nz0_wf oq, n8.kept (v _ (by omega)) (v _ (by omega)) (v _ (by omega)) (v _ (by omega)), g7⟩, ⟨0, fun _ => Nz0, rl, ⟨?_, Nat.zero_le _, ?_, sp.2.2.2.1, sp.2.2.2.2.1, fun i hi => absurd hi (Nat.not_lt_zero i)⟩, ⟨g4, fun i hi => absurd hi (Nat.not_lt_zero i)⟩, fun i hi => absurd hi (Nat.not_lt_zero i)⟩, ⟨0, fun _ => Nz0, ⟨?_, Nat.zero_le _, ?_, sk.2.2.2.1, sk.2.2.2.2.1, fun i hi => absurd hi (Nat.not_lt_zero i)⟩, ⟨g5, fun i hi => absurd hi (Nat.not_lt_zero i)⟩, fun i hi => absurd hi (Nat.not_lt_zero i)⟩, ⟨0, fun _ => 0, fun _ => 0, by omega, ?_, g6, fun i hi => absurd hi (Nat.not_lt_zero i)⟩, ⟨nx, tx, ?_⟩, Or.inl ?_⟩
      · rw [v _ (by omega)]; exact w25 1
      · rw [v _ (by omega), wF _ (by omega) (by omega) (by omega) (by omega) (by omega)]; exact sp.2.2.1
      · rw [v _ (by omega)]; exact w67 1
      · rw [v _ (by omega), wF _ (by omega) (by omega) (by omega) (by omega) (by omega)]; exact sk.2.2.1
      · rw [v _ (by omega)]; exact w0
      · rw [v0, v 1 (by omega), v 2 (by omega), w1, w2, v101]; exact x
      · rw [v _ (by omega)]; exact w79
    · unfold wp_X7_lay
      refine s_X7_isRead (hm.frT fr) (fun H f2 e2 mH => ⟨fun y => absurd y (by decide), fun _ => ?_⟩) (fun H q f2 e2 _ => absurd (e.symm.trans e2) (by simp))
      rw [mH.1, nIe (by omega) (by omega)]
      exact ⟨fun y => absurd g y, fun _ => h.end (fr.ag.tr f2.ag) rfl⟩
  · unfold wp_X7_lay
    exact s_X7_isRead (hm.frT fr) (fun H f2 e2 _ => absurd (e.symm.trans e2) (by simp)) (fun H q2 f2 e2 e5 => ⟨fun _ => h.end (fr.ag.tr f2.ag) rfl, fun y => absurd rfl y⟩)
  · rw [nI_ne_m4 (by omega)] at y; exact absurd y id
end Lay
