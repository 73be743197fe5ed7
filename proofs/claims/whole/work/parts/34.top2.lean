section Top2
variable {F : HF} {n : Nat}
theorem s_X2_minute {K : Int32 → HF → Prop} {r : Nat} {N : ND} (h : CN F r N) (k : K (nI (nmi N)) F) : wp_X2_minute K F r := by
  unfold wp_X2_minute; rw [h.1]; exact k
theorem s_X2_yearNow {K : Int32 → HF → Prop} {r : Nat} {N : ND} (h : CN F r N) (k : K (nI (nye N)) F) : wp_X2_yearNow K F r := by
  unfold wp_X2_yearNow; rw [h.2.1]; exact k
theorem s_X2_place {K : Int32 → HF → Prop} {r : Nat} {N : ND} (h : CN F r N) (k : K (pI (nq N)) F) : wp_X2_place K F r := by
  unfold wp_X2_place; rw [h.2.2.1]; exact k
theorem s_X2_weight {K : Int32 → HF → Prop} {r : Nat} {N : ND} {d : FD} (c : CF F 4 d) (h : CN F r N) (k : K (nI (wgt d (nye N))) F) : wp_X2_weight K F r := by
  unfold wp_X2_weight; rw [h.2.1]; exact s_X1_weightIn c k
theorem s_X5_size {K : Int32 → HF → Prop} {s ln np : Nat} (h : F s 1 = nI np) (k : K (nI np) F) : wp_X5_size K F s ln := by
  unfold wp_X5_size; rw [h]; exact k
theorem s_X3_length {K : Int32 → HF → Prop} {nx : Nat} (h : F 1 2 = nI nx) (k : K (nI nx) F) : wp_X3_length K F := by
  unfold wp_X3_length; rw [h]; exact k
theorem t_count (h : Inv n F) (a : Int32) : wp_X6_count (fun r F1 => wp_X7_count (fun r2 F2 => r = r2 ∧ Inv (n + 1) F2) F1 a) F a := by
  obtain ⟨d, o', hb, i1, ⟨N, wN, cN, mN⟩, ⟨np, ps, rl, s3, p3, w3⟩, ⟨nk, ks, s4, p4, w4⟩, ⟨ns, sk, sh, y0, y1, y2, y3⟩, ⟨nx, tx, x0, x1, x2, x3⟩, -⟩ := id h
  unfold wp_X6_count wp_X7_count
  by_cases c0 : a = nI 0
  · subst c0
    exact ⟨fun _ => s_X1_birds i1.1 (⟨fun _ => h.end Ag.rf i1.2.1.symm, fun e => absurd e (by decide), fun e => absurd e (by decide), fun e => absurd e (by decide), fun e => absurd e (by decide), fun e => absurd e (by decide), fun e => absurd e (by decide), fun e => absurd e (by decide), fun e => absurd e (by decide), fun e => absurd e (by decide), fun e => absurd e (by decide), fun c0 c1 c2 c3 c4 c5 c6 c7 c8 c9 c10 => absurd rfl c0⟩), fun e => absurd e (by decide), fun e => absurd e (by decide), fun e => absurd e (by decide), fun e => absurd e (by decide), fun e => absurd e (by decide), fun e => absurd e (by decide), fun e => absurd e (by decide), fun e => absurd e (by decide), fun e => absurd e (by decide), fun e => absurd e (by decide), fun c0 c1 c2 c3 c4 c5 c6 c7 c8 c9 c10 => absurd rfl c0⟩
  by_cases c1 : a = nI 1
  · subst c1
    exact ⟨fun e => absurd e (by decide), fun _ => s_X0_size cN.2.2.2.2 (⟨fun e => absurd e (by decide), fun _ => ⟨vin (by omega) (by omega), h.end Ag.rf mN.1.symm⟩, fun e => absurd e (by decide), fun e => absurd e (by decide), fun e => absurd e (by decide), fun e => absurd e (by decide), fun e => absurd e (by decide), fun e => absurd e (by decide), fun e => absurd e (by decide), fun e => absurd e (by decide), fun e => absurd e (by decide), fun c0 c1 c2 c3 c4 c5 c6 c7 c8 c9 c10 => absurd rfl c1⟩), fun e => absurd e (by decide), fun e => absurd e (by decide), fun e => absurd e (by decide), fun e => absurd e (by decide), fun e => absurd e (by decide), fun e => absurd e (by decide), fun e => absurd e (by decide), fun e => absurd e (by decide), fun e => absurd e (by decide), fun c0 c1 c2 c3 c4 c5 c6 c7 c8 c9 c10 => absurd rfl c1⟩
  by_cases c2 : a = nI 2
  · subst c2
    exact ⟨fun e => absurd e (by decide), fun e => absurd e (by decide), fun _ => s_X0_placesSpanned i1.1 o' cN.2.2.2.2 wN.1 (⟨fun e => absurd e (by decide), fun e => absurd e (by decide), fun _ => s_X7_spanned i1.2 o' mN.mb wN.1 (h.end Ag.rf rfl), fun e => absurd e (by decide), fun e => absurd e (by decide), fun e => absurd e (by decide), fun e => absurd e (by decide), fun e => absurd e (by decide), fun e => absurd e (by decide), fun e => absurd e (by decide), fun e => absurd e (by decide), fun c0 c1 c2 c3 c4 c5 c6 c7 c8 c9 c10 => absurd rfl c2⟩), fun e => absurd e (by decide), fun e => absurd e (by decide), fun e => absurd e (by decide), fun e => absurd e (by decide), fun e => absurd e (by decide), fun e => absurd e (by decide), fun e => absurd e (by decide), fun e => absurd e (by decide), fun c0 c1 c2 c3 c4 c5 c6 c7 c8 c9 c10 => absurd rfl c2⟩
  by_cases c3 : a = nI 3
  · subst c3
    exact ⟨fun e => absurd e (by decide), fun e => absurd e (by decide), fun e => absurd e (by decide), fun _ => s_X1_width i1.1 (⟨fun e => absurd e (by decide), fun e => absurd e (by decide), fun e => absurd e (by decide), fun _ => h.end Ag.rf i1.2.2.2.1.symm, fun e => absurd e (by decide), fun e => absurd e (by decide), fun e => absurd e (by decide), fun e => absurd e (by decide), fun e => absurd e (by decide), fun e => absurd e (by decide), fun e => absurd e (by decide), fun c0 c1 c2 c3 c4 c5 c6 c7 c8 c9 c10 => absurd rfl c3⟩), fun e => absurd e (by decide), fun e => absurd e (by decide), fun e => absurd e (by decide), fun e => absurd e (by decide), fun e => absurd e (by decide), fun e => absurd e (by decide), fun e => absurd e (by decide), fun c0 c1 c2 c3 c4 c5 c6 c7 c8 c9 c10 => absurd rfl c3⟩
  by_cases c4 : a = nI 4
  · subst c4
    exact ⟨fun e => absurd e (by decide), fun e => absurd e (by decide), fun e => absurd e (by decide), fun e => absurd e (by decide), fun _ => s_X2_minute cN (⟨fun e => absurd e (by decide), fun e => absurd e (by decide), fun e => absurd e (by decide), fun e => absurd e (by decide), fun _ => ⟨vin (by omega) (by omega), h.end Ag.rf mN.2.1.symm⟩, fun e => absurd e (by decide), fun e => absurd e (by decide), fun e => absurd e (by decide), fun e => absurd e (by decide), fun e => absurd e (by decide), fun e => absurd e (by decide), fun c0 c1 c2 c3 c4 c5 c6 c7 c8 c9 c10 => absurd rfl c4⟩), fun e => absurd e (by decide), fun e => absurd e (by decide), fun e => absurd e (by decide), fun e => absurd e (by decide), fun e => absurd e (by decide), fun e => absurd e (by decide), fun c0 c1 c2 c3 c4 c5 c6 c7 c8 c9 c10 => absurd rfl c4⟩
  by_cases c5 : a = nI 5
  · subst c5
    exact ⟨fun e => absurd e (by decide), fun e => absurd e (by decide), fun e => absurd e (by decide), fun e => absurd e (by decide), fun e => absurd e (by decide), fun _ => s_X2_yearNow cN (⟨fun e => absurd e (by decide), fun e => absurd e (by decide), fun e => absurd e (by decide), fun e => absurd e (by decide), fun e => absurd e (by decide), fun _ => ⟨vin (by omega) (by omega), h.end Ag.rf mN.2.2.1.symm⟩, fun e => absurd e (by decide), fun e => absurd e (by decide), fun e => absurd e (by decide), fun e => absurd e (by decide), fun e => absurd e (by decide), fun c0 c1 c2 c3 c4 c5 c6 c7 c8 c9 c10 => absurd rfl c5⟩), fun e => absurd e (by decide), fun e => absurd e (by decide), fun e => absurd e (by decide), fun e => absurd e (by decide), fun e => absurd e (by decide), fun c0 c1 c2 c3 c4 c5 c6 c7 c8 c9 c10 => absurd rfl c5⟩
  by_cases c7 : a = nI 7
  · subst c7
    exact ⟨fun e => absurd e (by decide), fun e => absurd e (by decide), fun e => absurd e (by decide), fun e => absurd e (by decide), fun e => absurd e (by decide), fun e => absurd e (by decide), fun e => absurd e (by decide), fun _ => ⟨fun e => absurd e (by decide), fun e => absurd e (by decide), fun e => absurd e (by decide), fun e => absurd e (by decide), fun e => absurd e (by decide), fun e => absurd e (by decide), fun e => absurd e (by decide), fun _ => h.end Ag.rf (y1.trans y2.symm), fun e => absurd e (by decide), fun e => absurd e (by decide), fun e => absurd e (by decide), fun c0 c1 c2 c3 c4 c5 c6 c7 c8 c9 c10 => absurd rfl c7⟩, fun e => absurd e (by decide), fun e => absurd e (by decide), fun e => absurd e (by decide), fun c0 c1 c2 c3 c4 c5 c6 c7 c8 c9 c10 => absurd rfl c7⟩
  by_cases c8 : a = nI 8
  · subst c8
    exact ⟨fun e => absurd e (by decide), fun e => absurd e (by decide), fun e => absurd e (by decide), fun e => absurd e (by decide), fun e => absurd e (by decide), fun e => absurd e (by decide), fun e => absurd e (by decide), fun e => absurd e (by decide), fun _ => s_X5_size s3.1 (⟨fun e => absurd e (by decide), fun e => absurd e (by decide), fun e => absurd e (by decide), fun e => absurd e (by decide), fun e => absurd e (by decide), fun e => absurd e (by decide), fun e => absurd e (by decide), fun e => absurd e (by decide), fun _ => h.end Ag.rf p3.1.symm, fun e => absurd e (by decide), fun e => absurd e (by decide), fun c0 c1 c2 c3 c4 c5 c6 c7 c8 c9 c10 => absurd rfl c8⟩), fun e => absurd e (by decide), fun e => absurd e (by decide), fun c0 c1 c2 c3 c4 c5 c6 c7 c8 c9 c10 => absurd rfl c8⟩
  by_cases c9 : a = nI 9
  · subst c9
    exact ⟨fun e => absurd e (by decide), fun e => absurd e (by decide), fun e => absurd e (by decide), fun e => absurd e (by decide), fun e => absurd e (by decide), fun e => absurd e (by decide), fun e => absurd e (by decide), fun e => absurd e (by decide), fun e => absurd e (by decide), fun _ => s_X5_size s4.1 (⟨fun e => absurd e (by decide), fun e => absurd e (by decide), fun e => absurd e (by decide), fun e => absurd e (by decide), fun e => absurd e (by decide), fun e => absurd e (by decide), fun e => absurd e (by decide), fun e => absurd e (by decide), fun e => absurd e (by decide), fun _ => h.end Ag.rf p4.1.symm, fun e => absurd e (by decide), fun c0 c1 c2 c3 c4 c5 c6 c7 c8 c9 c10 => absurd rfl c9⟩), fun e => absurd e (by decide), fun c0 c1 c2 c3 c4 c5 c6 c7 c8 c9 c10 => absurd rfl c9⟩
  by_cases c10 : a = nI 10
  · subst c10
    exact ⟨fun e => absurd e (by decide), fun e => absurd e (by decide), fun e => absurd e (by decide), fun e => absurd e (by decide), fun e => absurd e (by decide), fun e => absurd e (by decide), fun e => absurd e (by decide), fun e => absurd e (by decide), fun e => absurd e (by decide), fun e => absurd e (by decide), fun _ => s_X3_length x1 (⟨fun e => absurd e (by decide), fun e => absurd e (by decide), fun e => absurd e (by decide), fun e => absurd e (by decide), fun e => absurd e (by decide), fun e => absurd e (by decide), fun e => absurd e (by decide), fun e => absurd e (by decide), fun e => absurd e (by decide), fun e => absurd e (by decide), fun _ => h.end Ag.rf x2.symm, fun c0 c1 c2 c3 c4 c5 c6 c7 c8 c9 c10 => absurd rfl c10⟩), fun c0 c1 c2 c3 c4 c5 c6 c7 c8 c9 c10 => absurd rfl c10⟩
  by_cases c6 : a = nI 6
  · subst c6
    refine ⟨fun e => absurd e (by decide), fun e => absurd e (by decide), fun e => absurd e (by decide), fun e => absurd e (by decide), fun e => absurd e (by decide), fun e => absurd e (by decide), fun _ => s_X2_isBroken cN wN.2.2.2.2.2.1 ?_, fun e => absurd e (by decide), fun e => absurd e (by decide), fun e => absurd e (by decide), fun e => absurd e (by decide), fun c0 c1 c2 c3 c4 c5 c6 c7 c8 c9 c10 => absurd rfl c6⟩
    rcases (show nbr N = 0 ∨ nbr N = 1 by have := wN.2.2.2.2.2.1; omega) with e6 | e6
    · rw [e6]
      exact ⟨fun _ => ⟨fun e => absurd e (by decide), fun e => absurd e (by decide), fun e => absurd e (by decide), fun e => absurd e (by decide), fun e => absurd e (by decide), fun e => absurd e (by decide), fun _ => ⟨vin (by omega) (by omega), h.end Ag.rf (by rw [show F 120 (nI 4).toNatClampNeg = nI (nbr N) from mN.2.2.2.2.1, e6])⟩, fun e => absurd e (by decide), fun e => absurd e (by decide), fun e => absurd e (by decide), fun e => absurd e (by decide), fun c0 c1 c2 c3 c4 c5 c6 c7 c8 c9 c10 => absurd rfl c6⟩, fun e => absurd rfl e⟩
    · rw [e6]
      exact ⟨fun e => absurd e (by decide), fun _ => ⟨fun e => absurd e (by decide), fun e => absurd e (by decide), fun e => absurd e (by decide), fun e => absurd e (by decide), fun e => absurd e (by decide), fun e => absurd e (by decide), fun _ => ⟨vin (by omega) (by omega), h.end Ag.rf (by rw [show F 120 (nI 4).toNatClampNeg = nI (nbr N) from mN.2.2.2.2.1, e6])⟩, fun e => absurd e (by decide), fun e => absurd e (by decide), fun e => absurd e (by decide), fun e => absurd e (by decide), fun c0 c1 c2 c3 c4 c5 c6 c7 c8 c9 c10 => absurd rfl c6⟩⟩
  exact ⟨fun e => absurd e c0, fun e => absurd e c1, fun e => absurd e c2, fun e => absurd e c3, fun e => absurd e c4, fun e => absurd e c5, fun e => absurd e c6, fun e => absurd e c7, fun e => absurd e c8, fun e => absurd e c9, fun e => absurd e c10, fun _ _ _ _ _ _ _ _ _ _ _ => ⟨fun e => absurd e c0, fun e => absurd e c1, fun e => absurd e c2, fun e => absurd e c3, fun e => absurd e c4, fun e => absurd e c5, fun e => absurd e c6, fun e => absurd e c7, fun e => absurd e c8, fun e => absurd e c9, fun e => absurd e c10, fun _ _ _ _ _ _ _ _ _ _ _ => h.end Ag.rf rfl⟩⟩
theorem t_wipe (h : Inv n F) : wp_X6_wipe (fun r F1 => wp_X7_wipe (fun r2 F2 => r = r2 ∧ Inv (n + 1) F2) F1) F := by
  obtain ⟨d, o', hb, i1, i2, i3, i4, i5, ⟨nx, tx, x0, x1, x2, x3⟩, i7⟩ := id h
  unfold wp_X6_wipe
  refine s_X3_length x1 ?_
  unfold wp_X3_clear wp_X7_wipe
  intro F1 e1 F2 e2
  have f1 : ∀ a, a ≠ 1 → F1 a = F a := fun a ha => by rw [e1, hup_n _ _ _ ha]
  have f2 : ∀ a, a ≠ 1 → a ≠ 100 → F2 a = F a := fun a h1 h2 => by rw [e2, hup_n _ _ _ h2, f1 a h1]
  have g2 : ∀ j, j ≠ 0 → F2 100 j = F 100 j := fun j hj => by rw [e2, hup_at, if_neg hj, f1 100 (by omega)]
  refine ⟨by rw [f1 100 (by omega), x2], Inv.mono ⟨d, o', hb, ⟨i1.1.kept (f2 _ (by omega) (by omega)) (f2 _ (by omega) (by omega)) (f2 _ (by omega) (by omega)) (f2 _ (by omega) (by omega)) (f2 _ (by omega) (by omega)) (f2 _ (by omega) (by omega)), i1.2.kept (fun j hj => g2 j (by omega)) (f2 _ (by omega) (by omega)) (f2 _ (by omega) (by omega))⟩, i2.kept (fun a _ _ => f2 a (by omega) (by omega)) (f2 _ (by omega) (by omega)), i3.kept (fun a _ _ => f2 a (by omega) (by omega)) (g2 _ (by omega)) (f2 _ (by omega) (by omega)), i4.kept (fun a _ _ => f2 a (by omega) (by omega)) (g2 _ (by omega)) (f2 _ (by omega) (by omega)), i5.kept (by rw [f2 _ (by omega) (by omega)]) (f2 _ (by omega) (by omega)) (f2 _ (by omega) (by omega)) (g2 _ (by omega)) (f2 _ (by omega) (by omega)), ⟨0, tx, by omega, ?_, ?_, fun i hi => absurd hi (by omega)⟩, i7.kept (f2 _ (by omega) (by omega)) (f2 _ (by omega) (by omega))⟩⟩
  · rw [e2, hup_n _ _ _ (by omega), e1, hup_at, if_pos rfl]
  · rw [e2, hup_at, if_pos rfl]
theorem t_forget (h : Inv n F) : wp_X6_forget (fun r F1 => wp_X7_forget (fun r2 F2 => r = r2 ∧ Inv (n + 1) F2) F1) F := by
  obtain ⟨d, o', hb, i1, i2, i3, i4, ⟨ns, sk, sh, y0, y1, y2, y3⟩, i6, i7⟩ := id h
  unfold wp_X6_forget wp_X7_forget
  intro F1 e1 F2 e2
  have f1 : ∀ a, a ≠ 0 → F1 a = F a := fun a ha => by rw [e1, hup_n _ _ _ ha]
  have f2 : ∀ a, a ≠ 0 → a ≠ 100 → F2 a = F a := fun a h1 h2 => by rw [e2, hup_n _ _ _ h2, f1 a h1]
  have g2 : ∀ j, j ≠ 27 → F2 100 j = F 100 j := fun j hj => by rw [e2, hup_at, if_neg hj, f1 100 (by omega)]
  refine ⟨by rw [f1 100 (by omega), y1, y2], Inv.mono ⟨d, o', hb, ⟨i1.1.kept (f2 _ (by omega) (by omega)) (f2 _ (by omega) (by omega)) (f2 _ (by omega) (by omega)) (f2 _ (by omega) (by omega)) (f2 _ (by omega) (by omega)) (f2 _ (by omega) (by omega)), i1.2.kept (fun j hj => g2 j (by omega)) (f2 _ (by omega) (by omega)) (f2 _ (by omega) (by omega))⟩, i2.kept (fun a _ _ => f2 a (by omega) (by omega)) (f2 _ (by omega) (by omega)), i3.kept (fun a _ _ => f2 a (by omega) (by omega)) (g2 _ (by omega)) (f2 _ (by omega) (by omega)), i4.kept (fun a _ _ => f2 a (by omega) (by omega)) (g2 _ (by omega)) (f2 _ (by omega) (by omega)), ⟨0, sk, sh, by omega, ?_, ?_, fun i hi => absurd hi (by omega)⟩, i6.kept (by rw [f2 _ (by omega) (by omega)]) (f2 _ (by omega) (by omega)) (g2 _ (by omega)) (f2 _ (by omega) (by omega)), i7.kept (f2 _ (by omega) (by omega)) (f2 _ (by omega) (by omega))⟩⟩
  · rw [e2, hup_n _ _ _ (by omega), e1, hup_at, if_pos rfl]
  · rw [e2, hup_at, if_pos rfl]
end Top2
