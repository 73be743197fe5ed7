/-! ===== the fewest: what does not hang on the program ===== -/
section Few1
variable {d : FD}
theorem lsum_cong {g h : Nat → Nat} : ∀ k, (∀ i, i < k → g i = h i) → lsum d g k = lsum d h k := by
  intro k
  induction k with
  | zero => intro _; rfl
  | succ k ih =>
    intro e
    show lsum d g k + fL d (g k) = lsum d h k + fL d (h k)
    rw [ih (fun i hi => e i (by omega)), e k (by omega)]
theorem mj_cong {g h : Nat → Nat} {k x : Nat} (e : ∀ i, i < k → g i = h i) (m : mj d k g x) : mj d k h x := by
  refine ⟨by rw [← lsum_cong k e]; exact m.1, fun i hi => by rw [← e i hi]; exact m.2.1 i hi, m.2.2.1, fun hk => ?_⟩
  rw [← e (k - 1) (by omega)]; exact m.2.2.2 hk
theorem vsq_wf (o' : OkF d) {g : Nat → Nat} : ∀ s, vsq d s g → WfB d s g := by
  intro s
  induction s with
  | zero => intro _; exact ⟨by omega, fun k hk => absurd hk (by omega), fun i j hi => absurd hi (by omega)⟩
  | succ s ih =>
    intro v
    have w := ih (fun k hk => v k (by omega))
    have hs := mj_lt o' w (v s (by omega)).1 (v s (by omega)).2
    have a := w.add (v s (by omega)).1 hs (v s (by omega)).2.2.1
    refine ⟨a.1, fun k hk => (v k hk).1, fun i j hi hj e => ?_⟩
    have ee : ∀ k, k < s + 1 → (if k = s then g s else g k) = g k := fun k hk => by
      by_cases q : k = s
      · rw [if_pos q, q]
      · rw [if_neg q]
    exact a.2.2 i j hi hj (by show (if i = s then g s else g i) = (if j = s then g s else g j); rw [ee i hi, ee j hj, e])
theorem hol_cong {g h : Nat → Nat} {k s p : Nat} (hks : k ≤ s) (e : ∀ i, i < k → g i = h i) (hp : p < lsum d g k) : hol d g p k = hol d h p s := by
  have a := hol_spec k hp
  have l1 : lsum d h (hol d g p k) = lsum d g (hol d g p k) := (lsum_cong _ (fun i hi => e i (by omega))).symm
  have l2 : lsum d h (hol d g p k + 1) = lsum d g (hol d g p k + 1) := (lsum_cong _ (fun i hi => e i (by omega))).symm
  have hps : p < lsum d h s := by
    have := lsum_mono (d := d) (o := h) (i := k) s hks
    rw [← lsum_cong k e] at this; omega
  exact hol_uniq hps (by rw [l1]; exact a.2.1) (by rw [l2]; exact a.2.2)
theorem tir_out {o w t : Nat → Nat} {b : Nat} : ∀ k, (∀ i, i < k → o i ≠ b) → tir d o w k t b = t b := by
  intro k
  induction k with
  | zero => intro _; rfl
  | succ k ih =>
    intro h
    show (if b = o k then _ else tir d o w k t b) = t b
    rw [if_neg (fun e => h k (by omega) e.symm)]
    exact ih (fun i hi => h i (by omega))
theorem tir_cong {g h w v t u : Nat → Nat} {b : Nat} (htu : t b = u b) : ∀ k, (∀ i, i < k → g i = h i) → (∀ i, i < k → w i = v i) → tir d g w k t b = tir d h v k u b := by
  intro k
  induction k with
  | zero => intro _ _; exact htu
  | succ k ih =>
    intro e1 e2
    show (if b = g k then tir d g w k t b + inc d b (w k) else tir d g w k t b) = (if b = h k then tir d h v k u b + inc d b (v k) else tir d h v k u b)
    rw [ih (fun i hi => e1 i (by omega)) (fun i hi => e2 i (by omega)), e1 k (by omega), e2 k (by omega)]
theorem tir_app {o w t : Nat → Nat} {b k : Nat} : ∀ s, k ≤ s → (∀ i, k ≤ i → i < s → o i ≠ b) → tir d o w s t b = tir d o w k t b := by
  intro s
  induction s with
  | zero => intro h _; have : k = 0 := by omega
            subst this; rfl
  | succ s ih =>
    intro h1 h2
    rcases Nat.lt_or_ge k (s + 1) with q | q
    · show (if b = o s then _ else tir d o w s t b) = _
      rw [if_neg (fun e => h2 s (by omega) (by omega) e.symm)]
      exact ih (by omega) (fun i a c => h2 i a (by omega))
    · have : k = s + 1 := by omega
      subst this; rfl
/-- a part of a bridge that breaks breaks with more behind it, if its last one is not PAIRED -/
theorem prune {g h : Nat → Nat} {k s : Nat} {om : Nat → Nat} (hks : k ≤ s) (hk : 0 < k) (e : ∀ i, i < k → g i = h i) (ws : WfB d s h) (hlast : fK d (g (k - 1)) ≠ 4) : ∀ n p t u, p + n = lsum d g k → (∀ i, i < k → t (h i) = u (h i)) → wlk d k g om n p u < p + n → ∀ m, n ≤ m → wlk d s h om m p t < p + n := by
  intro n
  induction n with
  | zero => intro p t u _ _ hb; exact absurd hb (by show ¬ p < p + 0; omega)
  | succ n ih =>
    intro p t u hp htu hb m hm
    obtain ⟨m, rfl⟩ : ∃ m', m = m' + 1 := ⟨m - 1, by omega⟩
    have eb : ∀ i, i < k → bl d g k p (om p) i = bl d h s p (om p) i := fun i hi => by
      unfold bl
      rw [if_pos hi, if_pos (by omega), hol_cong hks e (by omega)]
    have epw : ∀ i, i < k → pw d s h t i ≤ pw d k g u i := fun i hi => by
      have e0 := e i hi
      have e1 : ∀ j, j < k → g j = h j := e
      unfold pw
      rw [e0, htu i hi]
      by_cases c1 : fK d (h i) = 1
      · have n4 : ¬ fK d (h i) = 4 := by omega
        rw [if_neg (show ¬ (fK d (h i) = 4 ∧ _) from fun x => n4 x.1), if_neg (show ¬ (fK d (h i) = 4 ∧ _) from fun x => n4 x.1)]
        by_cases c2 : 0 < i ∧ i + 1 < k
        · rw [if_pos ⟨c1, c2.1, by omega⟩, if_pos ⟨c1, c2⟩]; exact Nat.le_refl _
        · rw [if_neg (show ¬ (fK d (h i) = 1 ∧ 0 < i ∧ i + 1 < k) from fun x => c2 x.2)]
          split <;> omega
      · rw [if_neg (show ¬ (fK d (h i) = 1 ∧ 0 < i ∧ i + 1 < s) from fun x => c1 x.1), if_neg (show ¬ (fK d (h i) = 1 ∧ 0 < i ∧ i + 1 < k) from fun x => c1 x.1)]
        by_cases c4 : fK d (h i) = 4
        · have hi1 : i + 1 < k := by
            rcases Nat.lt_or_ge (i + 1) k with q | q
            · exact q
            · exfalso; apply hlast
              rw [show k - 1 = i by omega, e0]; exact c4
          rw [e1 (i - 1) (by omega), e1 (i + 1) hi1]
          by_cases c5 : (0 < i ∧ fK d (h (i - 1)) = 4) ∨ (i + 1 < k ∧ fK d (h (i + 1)) = 4)
          · rw [if_pos (show fK d (h i) = 4 ∧ ((0 < i ∧ fK d (h (i - 1)) = 4) ∨ (i + 1 < k ∧ fK d (h (i + 1)) = 4)) from ⟨c4, c5⟩)]; split <;> omega
          · rw [if_neg (show ¬ (fK d (h i) = 4 ∧ ((0 < i ∧ fK d (h (i - 1)) = 4) ∨ (i + 1 < k ∧ fK d (h (i + 1)) = 4))) from fun x => c5 x.2), if_neg (show ¬ (fK d (h i) = 4 ∧ ((0 < i ∧ fK d (h (i - 1)) = 4) ∨ (i + 1 < s ∧ fK d (h (i + 1)) = 4))) from fun x => c5 (x.2.elim Or.inl (fun y => Or.inr ⟨hi1, y.2⟩)))]
            exact Nat.le_refl _
        · rw [if_neg (show ¬ (fK d (h i) = 4 ∧ _) from fun x => c4 x.1), if_neg (show ¬ (fK d (h i) = 4 ∧ _) from fun x => c4 x.1)]
          exact Nat.le_refl _
    by_cases hs : setl d s h t (bl d h s p (om p))
    · have hk2 : setl d k g u (bl d g k p (om p)) := fun i hi => by
        rw [eb i hi]
        exact Nat.le_trans (hs i (by omega)) (epw i hi)
      rw [wlk_t hs]
      rw [wlk_t hk2] at hb
      have := ih (p + 1) (tir d h (bl d h s p (om p)) s t) (tir d g (bl d g k p (om p)) k u) (by omega) (fun i hi => ?_) (by omega) m (by omega)
      · omega
      · rw [tir_app (k := k) s hks (fun j hj1 hj2 ej => by have := ws.2.2 j i hj2 (by omega) ej; omega)]
        exact (tir_cong (htu i hi).symm k e eb).symm
    · rw [wlk_f hs]; omega
theorem sol_cong {w s : Nat} {g h : Nat → Nat} (e : ∀ i, i < s → g i = h i) (o' : OkF d) (m : sol d w s g) : sol d w s h := by
  have wf := vsq_wf o' s m.1
  refine ⟨fun k hk => ⟨by rw [← e k hk]; exact (m.1 k hk).1, ?_⟩, by rw [← lsum_cong s e]; exact m.2.1, ?_⟩
  · rw [← e k hk]; exact mj_cong (fun i hi => e i (by omega)) (m.1 k hk).2
  · have : ∀ n p t u, p + n ≤ lsum d g s → (∀ i, i < s → t (g i) = u (g i)) → wlk d s g (fun p => w + wnd d p) n p t = wlk d s h (fun p => w + wnd d p) n p u := by
      intro n
      induction n with
      | zero => intro p t u _ _; rfl
      | succ n ih =>
        intro p t u hp htu
        have eb : ∀ i, i < s → bl d g s p (w + wnd d p) i = bl d h s p (w + wnd d p) i := fun i hi => by
          unfold bl; rw [if_pos hi, if_pos hi, hol_cong (Nat.le_refl s) e (by omega)]
        have epw : ∀ i, i < s → pw d s h u i = pw d s g t i := fun i hi => by
          unfold pw
          rw [← e i hi, htu i hi]
          have a1 : (0 < i ∧ fK d (h (i - 1)) = 4) = (0 < i ∧ fK d (g (i - 1)) = 4) := by
            apply propext; constructor <;> rintro ⟨x, y⟩ <;> refine ⟨x, ?_⟩
            · rw [e (i - 1) (by omega)]; exact y
            · rw [← e (i - 1) (by omega)]; exact y
          have a2 : (i + 1 < s ∧ fK d (h (i + 1)) = 4) = (i + 1 < s ∧ fK d (g (i + 1)) = 4) := by
            apply propext; constructor <;> rintro ⟨x, y⟩ <;> refine ⟨x, ?_⟩
            · rw [e (i + 1) x]; exact y
            · rw [← e (i + 1) x]; exact y
          simp only [a1, a2]
        by_cases hs : setl d s g t (bl d g s p (w + wnd d p))
        · have hs2 : setl d s h u (bl d h s p (w + wnd d p)) := fun i hi => by rw [← eb i hi, epw i hi]; exact hs i hi
          rw [wlk_t (om := fun p => w + wnd d p) hs, wlk_t (om := fun p => w + wnd d p) hs2]
          exact ih (p + 1) _ _ (by omega) (fun i hi => tir_cong (htu i hi) s e eb)
        · have hs2 : ¬ setl d s h u (bl d h s p (w + wnd d p)) := fun x => hs (fun i hi => by rw [eb i hi, ← epw i hi]; exact x i hi)
          rw [wlk_f (om := fun p => w + wnd d p) hs, wlk_f (om := fun p => w + wnd d p) hs2]
    rw [← this (fW d) 0 (fun _ => 0) (fun _ => 0) (by have := m.2.1; omega) (fun _ _ => rfl)]
    exact m.2.2
theorem lx_tri {g h : Nat → Nat} {s : Nat} (h1 : ¬ lx g h s) (h2 : ¬ lx h g s) : ∀ i, i < s → g i = h i := by
  have : ∀ k, k ≤ s → ∀ i, i < k → g i = h i := by
    intro k
    induction k with
    | zero => intro _ i hi; omega
    | succ k ih =>
      intro hk i hi
      have a := ih (by omega)
      rcases Nat.lt_or_ge i k with q | q
      · exact a i q
      · have : i = k := by omega
        subst this
        rcases Nat.lt_trichotomy (g i) (h i) with e | e | e
        · exact absurd ⟨i, by omega, a, e⟩ h1
        · exact e
        · exact absurd ⟨i, by omega, fun j hj => (a j hj).symm, e⟩ h2
  exact this s (Nat.le_refl s)
theorem BST_u (o' : OkF d) {w s s' : Nat} {g g' : Nat → Nat} (h : BST d w s g) (h' : BST d w s' g') : s = s' ∧ ∀ i, i < s → g i = g' i := by
  have e : s = s' := by
    rcases Nat.lt_trichotomy s s' with q | q | q
    · exact absurd h.1 (h'.2.1 s g q)
    · exact q
    · exact absurd h'.1 (h.2.1 s' g' q)
  subst e
  exact ⟨rfl, lx_tri (h'.2.2 g h.1) (h.2.2 g' h'.1)⟩
end Few1
