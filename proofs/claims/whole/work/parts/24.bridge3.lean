theorem tir_le {d : FD} (o' : OkF d) {z : Nat} {o t w : Nat → Nat} (hw : WfB d z o) (ht : ∀ b, b < fB d → t b ≤ fS d b) (hs : setl d z o t w) : ∀ b, b < fB d → tir d o w z t b ≤ fS d b := by
  -- a bird is tired once, by at most its power
  have key : ∀ k, k ≤ z → ∀ b, b < fB d → ((∀ i, i < k → o i ≠ b) → tir d o w k t b = t b) ∧ (∀ i, i < k → o i = b → tir d o w k t b = t b + inc d b (w i)) := by
    intro k
    induction k with
    | zero => intro _ b _; exact ⟨fun _ => rfl, fun i hi => absurd hi (by omega)⟩
    | succ k ih =>
      intro hk b hb
      have h1 := ih (by omega) b hb
      refine ⟨fun q => ?_, fun i hi e => ?_⟩
      · show (if b = o k then _ else tir d o w k t b) = t b
        rw [if_neg (fun e => q k (by omega) e.symm)]
        exact h1.1 (fun i hi => q i (by omega))
      · show (if b = o k then tir d o w k t b + inc d b (w k) else tir d o w k t b) = _
        by_cases g : b = o k
        · rw [if_pos g]
          have : i = k := hw.2.2 i k (by omega) (by omega) (e.trans g)
          subst this
          rw [h1.1 (fun j hj q => by have := hw.2.2 j i (by omega) (by omega) (q.trans e.symm); omega)]
        · rw [if_neg g]
          have : i ≠ k := fun q => g (by subst q; exact e.symm)
          exact h1.2 i (by omega) e
  intro b hb
  have h := key z (Nat.le_refl z) b hb
  by_cases q : ∃ i, i < z ∧ o i = b
  · obtain ⟨i, hi, e⟩ := q
    rw [h.2 i hi e]
    have hp := hs i hi
    have hok := o'.2.2.2.2.2.2.2.1 b hb
    have htb := ht b hb
    have hpw : pw d z o t i ≤ fS d b - t b + 5 ∧ (fK d b ≠ 4 → pw d z o t i ≤ fS d b - t b) := by
      unfold pw
      rw [e]
      split
      · omega
      · split
        · rename_i g; exact ⟨by omega, fun q => absurd g.1 q⟩
        · omega
    have hinc : inc d b (w i) ≤ fS d b - t b := by
      unfold inc
      split
      · rename_i g
        have := hpw.2 (by omega)
        omega
      · have := hpw.1
        omega
    omega
  · rw [h.1 (fun i hi e => q ⟨i, hi, e⟩)]
    exact ht b hb
/-- she goes on: n places from p on, by the load at each: where it breaks, or the end -/
def wlk (d : FD) (z : Nat) (o : Nat → Nat) (om : Nat → Nat) : Nat → Nat → (Nat → Nat) → Nat
  | 0, p, _ => p
  | n + 1, p, t => if ∀ k, k < z → bl d o z p (om p) k ≤ pw d z o t k then wlk d z o om n (p + 1) (tir d o (bl d o z p (om p)) z t) else p
theorem wlk_t {d : FD} {z : Nat} {o om t : Nat → Nat} {n p : Nat} (h : setl d z o t (bl d o z p (om p))) : wlk d z o om (n + 1) p t = wlk d z o om n (p + 1) (tir d o (bl d o z p (om p)) z t) := by
  show (if ∀ k, k < z → bl d o z p (om p) k ≤ pw d z o t k then _ else _) = _
  exact if_pos h
theorem wlk_f {d : FD} {z : Nat} {o om t : Nat → Nat} {n p : Nat} (h : ¬ setl d z o t (bl d o z p (om p))) : wlk d z o om (n + 1) p t = p := by
  show (if ∀ k, k < z → bl d o z p (om p) k ≤ pw d z o t k then _ else _) = _
  exact if_neg h
section BridgeV
variable {F : HF} {b : Nat} {d : FD} {z : Nat} {o t : Nat → Nat}
theorem s_X0_walk {K : Int32 → HF → Prop} (c : CF F 4 d) (o' : OkF d) (h : CB F b z o t) (hw : WfB d z o) (hb : 10 ≤ b) (ht : ∀ x, x < fB d → t x ≤ fS d x) {p e mi wg : Nat} (hp : p ≤ e) (he : e ≤ lsum d o z) (hmi : mi < 2 ^ 20) (hwg : wg < 2 ^ 20) (k : ∀ G, FrL [b + 2, b + 3] F G → K (nI (wlk d z o (fun q => wg + wnd d (mi + q - p)) (e - p) p t)) G) : wp_X0_walk K F b (nI p) (nI e) (nI mi) (nI wg) := by
  have h8 := hw.1
  have hl := lsum_le o' hw z (Nat.le_refl z)
  have main : ∀ n m q (G : HF) (u : Nat → Nat), m < n → q + m = e → p ≤ q → FrL [b + 2, b + 3] F G → CB G b z o u → (∀ x, x < fB d → u x ≤ fS d x) → wlk d z o (fun q => wg + wnd d (mi + q - p)) (e - p) p t = wlk d z o (fun q => wg + wnd d (mi + q - p)) m q u → wp_X0_walk_3 K b n G (nI p) (nI e) (nI mi) (nI wg) (nI q) := by
    intro n
    induction n with
    | zero => intro m q G u h0; omega
    | succ n ih =>
      intro m q G u h0 h1 h2 h3 h4 h5 h6
      unfold wp_X0_walk_3
      simp (disch := omega) only [nIle]
      have hcG : CF G 4 d := c.fr h3 (fun a g1 g2 => by simp; omega)
      refine ⟨fun g => ?_, fun g => ?_⟩
      · have : m = 0 := by omega
        subst this
        have : q = e := by omega
        subst this
        have := k G h3
        rw [h6] at this
        exact this
      · rw [show nI mi + nI q - nI p = nI (mi + q - p) from by rw [nI_add, nIsub (by omega)]]
        refine s_X1_windIn hcG o' (by omega) ?_
        rw [nI_add wg]
        have hwn := wnd_le o' (mi + q - p)
        refine s_X0_loadAlone hcG o' h4 hw hb (by omega) (by omega) (fun G1 f1 g1 => ?_)
        have hbl := bl_le d o z q (wg + wnd d (mi + q - p))
        obtain ⟨m', rfl⟩ : ∃ m', m = m' + 1 := ⟨m - 1, by omega⟩
        refine s_X0_settle (w := bl d o z q (wg + wnd d (mi + q - p))) (hcG.fr f1 (fun a g1 g2 => by simp; omega)) o' (h4.fr f1 (by simp) (by simp) (by simp)) hw hb (fun k hk => h5 _ (hw.2.1 k hk)) g1 (fun i hi => by have := hbl i; omega) (fun hs G2 f2 g2 => ?_) (fun hs => ?_)
        · refine ⟨fun _ => ?_, fun e => absurd e (by decide)⟩
          rw [nI_add]
          have f12 : FrL [b + 2, b + 3] G G2 := (f1.mono (fun a ha => by simp at ha; simp [ha])).tr (f2.mono (fun a ha => by simp at ha; simp [ha]))
          refine ih m' (q + 1) G2 _ (by omega) (by omega) (by omega) (h3.tr f12) g2 (tir_le o' hw h5 hs) ?_
          rw [h6, wlk_t hs]
        · refine ⟨fun e => absurd rfl e, fun _ => ?_⟩
          have f12 : FrL [b + 2, b + 3] F G1 := h3.tr (f1.mono (fun a ha => by simp at ha; simp [ha]))
          have := k G1 f12
          rw [h6, wlk_f hs] at this
          exact this
  exact ⟨e - p + 1, main _ (e - p) p F t (by omega) (by omega) (Nat.le_refl p) FrL.rf h ht rfl⟩
theorem s_X0_rest {K : HF → Prop} (k : ∀ G, FrL [b + 2] F G → (∀ i, i < 8 → G (b + 2) i = nI 0) → K G) : wp_X0_rest K F b := by
  have main : ∀ n i (G : HF), 9 ≤ i + n → i ≤ 8 → FrL [b + 2] F G → (∀ j, j < i → G (b + 2) j = nI 0) → wp_X0_rest_2 K b n G (nI i) := by
    intro n
    induction n with
    | zero => intro i G h1 h2; omega
    | succ n ih =>
      intro i G h1 h2 h3 h4
      unfold wp_X0_rest_2
      simp (disch := omega) only [nIle, nIcl, nI_add]
      refine ⟨fun q => k G h3 (fun j hj => h4 j (by omega)), fun q => ⟨vin (by omega) (by omega), fun G1 e => ih (i + 1) G1 (by omega) (by omega) ?_ ?_⟩⟩
      · rw [e]; exact h3.tr (FrL.up (by simp))
      · intro j hj
        rw [e, hup_at]
        split
        · rfl
        · exact h4 j (by omega)
  exact ⟨9, main 9 0 F (by omega) (by omega) FrL.rf (fun j hj => absurd hj (by omega))⟩
theorem s_X0_copyFrom {K : HF → Prop} {r : Nat} (hr : r + 4 ≤ b ∨ b + 4 ≤ r) (h : CB F r z o t) (hz : z ≤ 8) (k : ∀ G, FrL [b, b + 1, b + 2] F G → CB G b z o t → K G) : wp_X0_copyFrom K F b r := by
  unfold wp_X0_copyFrom
  intro F1 e1 F2 e2 F3 e3
  refine k F3 ?_ ⟨?_, ?_, ?_⟩
  · rw [e3]; refine FrL.tr ?_ (FrL.up (by simp)); rw [e2]; refine FrL.tr ?_ (FrL.st (by simp)); rw [e1]; exact FrL.st (by simp)
  · rw [e3, hup_at, if_pos rfl, e2, hst_n _ _ (show r ≠ b + 2 by omega), e1, hst_n _ _ (show r ≠ b + 1 by omega)]
    exact h.1
  · intro i hi
    rw [e3, hup_n _ _ _ (by omega), e2, hst_n _ _ (by omega), e1, hst_s, pk_cpy_in (by omega) (by omega)]
    simp only [Nat.zero_add, Nat.sub_zero]
    exact h.2.1 i hi
  · intro i hi
    rw [e3, hup_n _ _ _ (by omega), e2, hst_s, pk_cpy_in (by omega) (by omega), e1, hst_n _ _ (show r + 2 ≠ b + 1 by omega)]
    simp only [Nat.zero_add, Nat.sub_zero]
    exact h.2.2 i hi
theorem s_X0_copyRested {K : HF → Prop} {r : Nat} (hr : r + 4 ≤ b ∨ b + 4 ≤ r) (h : CB F r z o t) (hz : z ≤ 8) (k : ∀ G, FrL [b, b + 1, b + 2] F G → CB G b z o (fun _ => 0) → K G) : wp_X0_copyRested K F b r := by
  unfold wp_X0_copyRested
  refine s_X0_copyFrom hr h hz (fun G f g => ?_)
  refine s_X0_rest (fun G2 f2 g2 => k G2 (f.tr (f2.mono (fun a ha => by simp at ha; simp [ha]))) ⟨?_, ?_, g2⟩)
  · rw [f2 b (by simp)]; exact g.1
  · rw [f2 (b + 1) (by simp)]; exact g.2.1
theorem s_X0_clear {K : HF → Prop} (k : ∀ G, FrL [b, b + 2] F G → CB G b 0 o (fun _ => 0) → K G) : wp_X0_clear K F b := by
  unfold wp_X0_clear
  intro F1 e1
  refine s_X0_rest (fun G2 f2 g2 => k G2 ?_ ⟨?_, fun i hi => absurd hi (by omega), g2⟩)
  · refine FrL.tr ?_ (f2.mono (fun a ha => by simp at ha; simp [ha])); rw [e1]; exact FrL.up (by simp)
  · rw [f2 b (by simp), e1, hup_at, if_pos rfl]
theorem s_X0_append {K : HF → Prop} (h : CB F b z o t) (hz : z < 8) {x : Nat} (k : ∀ G, FrL [b, b + 1] F G → CB G b (z + 1) (fun i => if i = z then x else o i) t → K G) : wp_X0_append K F b (nI x) := by
  unfold wp_X0_append
  simp (disch := omega) only [h.1, nIle, nIcl]
  refine ⟨fun q => absurd q (by omega), fun _ => ⟨vin hz (by omega), fun F1 e1 F2 e2 => k F2 ?_ ⟨?_, ?_, ?_⟩⟩⟩
  · rw [e2]; refine FrL.tr ?_ (FrL.up (by simp)); rw [e1]; exact FrL.up (by simp)
  · rw [e2, hup_at, if_pos rfl, e1, hup_n _ _ _ (by omega), h.1, nI_add]
  · intro i hi
    rw [e2, hup_n _ _ _ (by omega), e1, hup_at]
    show _ = nI (if i = z then x else o i)
    by_cases g : i = z
    · rw [if_pos g, if_pos g]
    · rw [if_neg g, if_neg g]; exact h.2.1 i (by omega)
  · intro i hi
    rw [e2, hup_n _ _ _ (by omega), e1, hup_n _ _ _ (by omega)]
    exact h.2.2 i hi
theorem s_X0_dropLast {K : HF → Prop} (h : CB F b z o t) (hz : 0 < z) (hz8 : z ≤ 8) (k : ∀ G, FrL [b] F G → CB G b (z - 1) o t → K G) : wp_X0_dropLast K F b := by
  unfold wp_X0_dropLast
  simp (disch := omega) only [h.1, nIle]
  refine ⟨fun q => absurd q (by omega), fun _ F1 e1 => k F1 ?_ ⟨?_, ?_, ?_⟩⟩
  · rw [e1]; exact FrL.up (by simp)
  · rw [e1, hup_at, if_pos rfl, nIsub (by omega)]
  · intro i hi
    rw [e1, hup_n _ _ _ (by omega)]
    exact h.2.1 i (by omega)
  · intro i hi
    rw [e1, hup_n _ _ _ (by omega)]
    exact h.2.2 i hi
theorem s_X0_replace {K : HF → Prop} (h : CB F b z o t) (hz8 : z ≤ 8) {i x : Nat} (hi : i < z) (k : ∀ G, FrL [b + 1] F G → CB G b z (fun j => if j = i then x else o j) t → K G) : wp_X0_replace K F b (nI i) (nI x) := by
  unfold wp_X0_replace
  simp (disch := omega) only [h.1, nIle, nIlt, nIcl]
  refine ⟨fun q => absurd q (by omega), fun _ => ⟨fun q => absurd q (by omega), fun _ => ⟨vin (by omega) (by omega), fun F1 e1 => k F1 ?_ ⟨?_, ?_, ?_⟩⟩⟩⟩
  · rw [e1]; exact FrL.up (by simp)
  · rw [e1, hup_n _ _ _ (by omega)]; exact h.1
  · intro j hj
    rw [e1, hup_at]
    show _ = nI (if j = i then x else o j)
    by_cases g : j = i
    · rw [if_pos g, if_pos g]
    · rw [if_neg g, if_neg g]; exact h.2.1 j hj
  · intro j hj
    rw [e1, hup_n _ _ _ (by omega)]
    exact h.2.2 j hj
theorem s_X0_borneAt {K : Int32 → HF → Prop} {w : Nat → Nat} (h : CB F b z o t) (hz8 : z ≤ 8) {i : Nat} (hi : i < z) (hw0 : ∀ i, i < 8 → F (b + 3) i = nI (w i)) (k : K (nI (w i)) F) : wp_X0_borneAt K F b (nI i) := by
  unfold wp_X0_borneAt
  simp (disch := omega) only [h.1, nIlt, nIle, nIcl, hw0 i (by omega)]
  refine ⟨fun q => absurd q (by omega), fun _ => ⟨fun q => absurd q (by omega), fun _ => ⟨vin (by omega) (by omega), k⟩⟩⟩
end BridgeV
