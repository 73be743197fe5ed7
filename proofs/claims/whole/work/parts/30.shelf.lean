/-! ===== shelves ===== -/
def SC (F : HF) (s ln np : Nat) (ps : Nat → ND) (rl : Nat → Nat) : Prop := F s 1 = nI np ∧ np ≤ ln ∧ (∀ i, i < ln → F (s + 1) i = nI (rl i)) ∧ (∀ i, i < ln → ∃ j, j < ln ∧ rl i = s + 2 + 5 * j) ∧ (∀ i j, i < ln → j < ln → rl i = rl j → i = j) ∧ ∀ i, i < np → CN F (rl i) (ps i)
theorem ntL_past {j : Nat} (h : j < 8) : 25 + 2 + 5 * j ∈ ntL := by
  rcases (show j = 0 ∨ j = 1 ∨ j = 2 ∨ j = 3 ∨ j = 4 ∨ j = 5 ∨ j = 6 ∨ j = 7 by omega) with rfl | rfl | rfl | rfl | rfl | rfl | rfl | rfl <;> decide
theorem ntL_kept {j : Nat} (h : j < 2) : 67 + 2 + 5 * j ∈ ntL := by
  rcases (show j = 0 ∨ j = 1 by omega) with rfl | rfl <;> decide
section ShelfS
variable {F : HF} {s ln np : Nat} {ps : Nat → ND} {rl : Nat → Nat} {N : ND}
/-- how many lie there then, and which -/
def pn (ln np : Nat) : Nat := if np < ln then np + 1 else ln
def pp (ln np : Nat) (ps : Nat → ND) (N : ND) : Nat → ND := fun i => if np < ln then (if i = np then N else ps i) else (if i + 1 = ln then N else ps (i + 1))
theorem s_X5_put_11 {K : HF → Prop} {r : Nat} (hnt : ∀ j, j < ln → s + 2 + 5 * j ∈ ntL) (hln : ln ≤ 8) (hr : r + 5 ≤ s) (h : SC F s ln np ps rl) (hn : np < ln) (hN : CN F r N) (hz : nz N ≤ 8) (hb : nbr N ≤ 1) (hs : s < 2 ^ 20)
    (k : ∀ G, FrR s (s + 1 + 5 * ln) F G → SC G s ln (np + 1) (fun i => if i = np then N else ps i) rl → K G) : wp_X5_put_11 K s ln r F := by
  obtain ⟨h1, h2, h3, h4, h5, h6⟩ := h
  obtain ⟨j, hj, ej⟩ := h4 np hn
  unfold wp_X5_put_11
  rw [h1, nIcl (by omega), h3 np hn, nIcl (by omega)]
  refine ⟨vin hn (by omega), by rw [ej]; exact hnt j hj, ?_⟩
  refine s_X2_copyFrom (by omega) hN hz hb (fun G f g => fun G1 e1 => ?_)
  have fG : FrR s (s + 1 + 5 * ln) F G := f.mono (by omega) (by omega)
  refine k G1 (by rw [e1]; exact fG.tr (FrR.up (by omega))) ⟨?_, by omega, ?_, h4, h5, ?_⟩
  · rw [e1, hup_at, if_pos rfl, f s (by omega), h1, nI_add]
  · intro i hi
    rw [e1, hup_n _ _ _ (by omega), f (s + 1) (by omega)]; exact h3 i hi
  · intro i hi
    show CN G1 (rl i) (if i = np then N else ps i)
    by_cases e : i = np
    · rw [if_pos e, e]
      exact g.kept (by rw [e1, hup_n _ _ _ (by omega)]) (by rw [e1, hup_n _ _ _ (by omega)]) (by rw [e1, hup_n _ _ _ (by omega)]) (by rw [e1, hup_n _ _ _ (by omega)])
    · rw [if_neg e]
      obtain ⟨j2, hj2, ej2⟩ := h4 i (by omega)
      have hne : j2 ≠ j := fun q => e (h5 i np (by omega) hn (by rw [ej2, ej, q]))
      have c := (h6 i (by omega)).frR f (by omega)
      exact c.kept (by rw [e1, hup_n _ _ _ (by omega)]) (by rw [e1, hup_n _ _ _ (by omega)]) (by rw [e1, hup_n _ _ _ (by omega)]) (by rw [e1, hup_n _ _ _ (by omega)])
theorem s_X5_giveUpOldest {K : HF → Prop} (hnt : ∀ j, j < ln → s + 2 + 5 * j ∈ ntL) (hln : ln ≤ 8) (h0 : 0 < ln) (h : SC F s ln ln ps rl) (hs : s < 2 ^ 20)
    (k : ∀ G, FrR s (s + 1) F G → SC G s ln (ln - 1) (fun i => ps (i + 1)) (fun i => if i + 1 = ln then rl 0 else rl (i + 1)) → K G) : wp_X5_giveUpOldest K F s ln := by
  obtain ⟨h1, h2, h3, h4, h5, h6⟩ := h
  have hrl : ∀ i, i < ln → rl i < 2 ^ 31 ∧ rl i ∈ ntL := fun i hi => by
    obtain ⟨j, hj, e⟩ := h4 i hi
    exact ⟨by omega, by rw [e]; exact hnt j hj⟩
  have main : ∀ n i (G : HF), ln + 1 ≤ i + n → 1 ≤ i → i ≤ ln → FrL [s + 1] F G → (∀ j, j < ln → G (s + 1) j = nI (if j + 1 < i then rl (j + 1) else rl j)) → wp_X5_giveUpOldest_9 K s ln (rl 0) n G (nI i) := by
    intro n
    induction n with
    | zero => intro i G a1 a2 a3; omega
    | succ n ih =>
      intro i G a1 a2 a3 f g
      unfold wp_X5_giveUpOldest_9
      rw [nIsub (show 1 ≤ ln by omega), nIsub (show 1 ≤ i by omega)]
      simp (disch := omega) only [nIle, nIcl, nI_add]
      refine ⟨fun q => ⟨vin (by omega) (by omega), fun F1 e1 F2 e2 => k F2 ?_ ⟨?_, by omega, ?_, ?_, ?_, ?_⟩⟩, fun q => ?_⟩
      · rw [e2]; refine FrR.tr ?_ (FrR.up (by omega)); rw [e1]; exact (f.toR (fun a ha => by simp at ha; omega)).tr (FrR.up (by omega))
      · rw [e2, hup_at, if_pos rfl, e1, hup_n _ _ _ (by omega), f s (by simp), h1, nIsub (by omega)]
      · intro j hj
        have : i = ln := by omega
        subst this
        rw [e2, hup_n _ _ _ (by omega), e1, hup_at]
        show _ = nI (if j + 1 = i then rl 0 else rl (j + 1))
        by_cases x : j + 1 = i
        · rw [if_pos (by omega), if_pos x]
        · rw [if_neg (by omega), if_neg x, g j hj, if_pos (by omega)]
      · intro j hj
        show ∃ j_1, j_1 < ln ∧ (if j + 1 = ln then rl 0 else rl (j + 1)) = _
        by_cases x : j + 1 = ln
        · rw [if_pos x]; exact h4 0 h0
        · rw [if_neg x]; exact h4 (j + 1) (by omega)
      · intro x y hx hy e
        have e : (if x + 1 = ln then rl 0 else rl (x + 1)) = (if y + 1 = ln then rl 0 else rl (y + 1)) := e
        by_cases p1 : x + 1 = ln
        · by_cases p2 : y + 1 = ln
          · omega
          · rw [if_pos p1, if_neg p2] at e
            have := h5 0 (y + 1) h0 (by omega) e; omega
        · by_cases p2 : y + 1 = ln
          · rw [if_neg p1, if_pos p2] at e
            have := h5 (x + 1) 0 (by omega) h0 e; omega
          · rw [if_neg p1, if_neg p2] at e
            have := h5 (x + 1) (y + 1) (by omega) (by omega) e; omega
      · intro j hj
        show CN F2 (if j + 1 = ln then rl 0 else rl (j + 1)) (ps (j + 1))
        rw [if_neg (by omega)]
        obtain ⟨j2, hj2, ej2⟩ := h4 (j + 1) (by omega)
        have fr : FrR s (s + 1) F F2 := by
          rw [e2]; refine FrR.tr ?_ (FrR.up (by omega)); rw [e1]; exact (f.toR (fun a ha => by simp at ha; omega)).tr (FrR.up (by omega))
        exact (h6 (j + 1) (by omega)).frR fr (by omega)
      · have hi : i < ln := by omega
        rw [g i hi, if_neg (by omega), nIcl (hrl i hi).1]
        refine ⟨vin (by omega) (by omega), (hrl i hi).2, vin (by omega) (by omega), fun F1 e1 => ih (i + 1) F1 (by omega) (by omega) (by omega) (by rw [e1]; exact f.tr (FrL.up (by simp))) ?_⟩
        intro j hj
        rw [e1, hup_at]
        by_cases x : j = i - 1
        · rw [if_pos x, if_pos (by omega), show j + 1 = i by omega]
        · rw [if_neg x, g j hj]
          by_cases y : j + 1 < i
          · rw [if_pos y, if_pos (by omega)]
          · rw [if_neg y, if_neg (by omega)]
  unfold wp_X5_giveUpOldest
  rw [nIcl (show 0 < 2 ^ 31 by omega), h3 0 h0, nIcl (hrl 0 h0).1]
  refine ⟨vin h0 (by omega), (hrl 0 h0).2, ln + 1, main _ 1 F (by omega) (by omega) (by omega) FrL.rf (fun j hj => ?_)⟩
  rw [h3 j hj, if_neg (by omega)]
theorem s_X5_put {K : HF → Prop} {r : Nat} (hnt : ∀ j, j < ln → s + 2 + 5 * j ∈ ntL) (hln : ln ≤ 8) (h0 : 0 < ln) (hr : r + 5 ≤ s) (h : SC F s ln np ps rl) (hN : CN F r N) (hz : nz N ≤ 8) (hb : nbr N ≤ 1) (hs : s < 2 ^ 20)
    (k : ∀ G rl', FrR s (s + 1 + 5 * ln) F G → SC G s ln (pn ln np) (pp ln np ps N) rl' → (np < ln → rl' = rl) → K G) : wp_X5_put K F s ln r := by
  have hnp := h.2.1
  unfold wp_X5_put wp_X5_isFull
  rw [h.1, nIlt (by omega) (by omega)]
  refine ⟨fun q => ⟨fun _ => ?_, fun e => absurd rfl e⟩, fun q => ⟨fun e => absurd e (by decide), fun _ => ?_⟩⟩
  · refine s_X5_put_11 hnt hln hr h q hN hz hb hs (fun G f g => k G rl f ?_ (fun _ => rfl))
    have e : pp ln np ps N = fun i => if i = np then N else ps i := by funext i; unfold pp; rw [if_pos q]
    unfold pn
    rw [e, if_pos q]; exact g
  · have en : np = ln := by omega
    subst en
    refine s_X5_giveUpOldest hnt hln h0 h hs (fun G f g => ?_)
    refine s_X5_put_11 hnt hln hr g (by omega) (hN.frR f (by omega)) hz hb hs (fun G2 f2 g2 => k G2 (fun i => if i + 1 = np then rl 0 else rl (i + 1)) ((f.mono (by omega) (by omega)).tr f2) ?_ (fun x => absurd x (by omega)))
    have e : pp np np ps N = fun i => if i = np - 1 then N else (fun i => ps (i + 1)) i := by
      funext i; unfold pp; rw [if_neg (by omega)]
      by_cases x : i + 1 = np
      · rw [if_pos x, if_pos (by omega)]
      · rw [if_neg x, if_neg (by omega)]
    unfold pn
    rw [e, if_neg (by omega)]
    rw [show np - 1 + 1 = np by omega] at g2
    exact g2
theorem s_X5_takeInto {K : Int32 → HF → Prop} {r : Nat} (hnt : ∀ j, j < ln → s + 2 + 5 * j ∈ ntL) (hln : ln ≤ 8) (hr : r + 5 ≤ s) (h : SC F s ln np ps rl) (hz : ∀ i, i < np → nz (ps i) ≤ 8 ∧ nbr (ps i) ≤ 1) (hs : s < 2 ^ 20)
    (k1 : 0 < np → ∀ G, (∀ a, (a < r ∨ r + 3 < a) → a ≠ s → G a = F a) → SC G s ln (np - 1) ps rl → CN G r (ps (np - 1)) → K (nI 1) G) (k0 : np = 0 → K (nI 0) F) : wp_X5_takeInto K F s ln r := by
  obtain ⟨h1, h2, h3, h4, h5, h6⟩ := h
  unfold wp_X5_takeInto
  rw [h1, nIlt (by omega) (by omega)]
  refine ⟨fun q F1 e1 => ?_, fun q => k0 (by omega)⟩
  have e11 : F1 s 1 = nI (np - 1) := by rw [e1, hup_at, if_pos rfl, nIsub (by omega)]
  have en1 : F1 (s + 1) (np - 1) = nI (rl (np - 1)) := by rw [e1, hup_n _ _ _ (by omega)]; exact h3 _ (by omega)
  obtain ⟨j, hj, ej⟩ := h4 (np - 1) (by omega)
  rw [e11, nIcl (by omega), en1, nIcl (by omega)]
  refine ⟨vin (by omega) (by omega), by rw [ej]; exact hnt j hj, ?_⟩
  have c1 : CN F1 (rl (np - 1)) (ps (np - 1)) := (h6 (np - 1) (by omega)).kept (by rw [e1, hup_n _ _ _ (by omega)]) (by rw [e1, hup_n _ _ _ (by omega)]) (by rw [e1, hup_n _ _ _ (by omega)]) (by rw [e1, hup_n _ _ _ (by omega)])
  refine s_X2_copyFrom (by omega) c1 (hz _ (by omega)).1 (hz _ (by omega)).2 (fun G f g => k1 q G ?_ ⟨?_, by omega, ?_, h4, h5, ?_⟩ g)
  · intro a ha hne
    rw [f a ha, e1, hup_n _ _ _ hne]
  · rw [f s (by omega)]; exact e11
  · intro i hi
    rw [f (s + 1) (by omega), e1, hup_n _ _ _ (by omega)]; exact h3 i hi
  · intro i hi
    obtain ⟨j2, hj2, ej2⟩ := h4 i (by omega)
    exact (h6 i (by omega)).kept (by rw [f _ (by omega), e1, hup_n _ _ _ (by omega)]) (by rw [f _ (by omega), e1, hup_n _ _ _ (by omega)]) (by rw [f _ (by omega), e1, hup_n _ _ _ (by omega)]) (by rw [f _ (by omega), e1, hup_n _ _ _ (by omega)])
end ShelfS
