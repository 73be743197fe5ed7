def prs (d : FD) (o w : Nat → Nat) (z p L : Nat) : Nat → Nat := fun i => if i < z then w i + part (dist i (hol d o p z)) L else w i
def bl (d : FD) (o : Nat → Nat) (z p L : Nat) : Nat → Nat := fun i => if i < z then part (dist i (hol d o p z)) L else 0
theorem bl_le (d : FD) (o : Nat → Nat) (z p L i : Nat) : bl d o z p L i ≤ L := by
  unfold bl
  split
  · exact part_le _ _
  · omega
section BridgeU
variable {F : HF} {b : Nat} {d : FD} {z : Nat} {o t w : Nat → Nat}
theorem s_X0_press {K : HF → Prop} (c : CF F 4 d) (o' : OkF d) (h : CB F b z o t) (hw : WfB d z o) {p L : Nat} (hp : p < lsum d o z) (hL : L < 2 ^ 30) (hw0 : ∀ i, i < 8 → F (b + 3) i = nI (w i)) (k : ∀ G, FrL [b + 3] F G → (∀ i, i < 8 → G (b + 3) i = nI (prs d o w z p L i)) → K G) : wp_X0_press K F b (nI p) (nI L) := by
  have h8 := hw.1
  have hh := (hol_spec z hp).1
  unfold wp_X0_press
  refine s_X0_whoSpans c o' h hw hp ?_
  refine ⟨fun _ => ?_, fun e => by rw [nI_ne_m4 (by omega)] at e; exact e.elim⟩
  have main : ∀ n i (G : HF), z + 1 ≤ i + n → i ≤ z → FrL [b + 3] F G → (∀ j, j < 8 → G (b + 3) j = nI (if j < i then w j + part (dist j (hol d o p z)) L else w j)) → wp_X0_press_16 K b n G (nI L) (nI (hol d o p z)) (nI i) := by
    intro n
    induction n with
    | zero => intro i G h1 h2; omega
    | succ n ih =>
      intro i G h1 h2 h3 h4
      have hsz : G b 4 = nI z := by rw [h3 b (by simp)]; exact h.1
      have hG : i < z → G (b + 3) i = nI (w i) := fun g => by rw [h4 i (by omega), if_neg (by omega)]
      unfold wp_X0_press_16
      rw [hsz, abs_dist (by omega) (by omega)]
      have hd : dist i (hol d o p z) < 2 ^ 31 := by unfold dist; split <;> omega
      rw [nIcl (show i < 2 ^ 31 by omega)]
      simp (disch := omega) only [nIle]
      refine ⟨fun q => k G h3 (fun j hj => ?_), fun q => ?_⟩
      · have ez : i = z := by omega
        rw [h4 j hj, ez]; rfl
      · have hi : i < z := by omega
        have hv := vin (show i < 8 by omega) (by omega)
        refine ⟨hv, s_X0_partOf (by omega) hd ⟨hv, fun G1 e => ?_⟩⟩
        rw [hG hi, nI_add] at e
        rw [nI_add, e]
        refine ih (i + 1) _ (by omega) (by omega) (h3.tr (FrL.up (by simp))) ?_
        intro j hj
        rw [hup_at]
        by_cases e : j = i
        · subst e
          rw [if_pos rfl, if_pos (by omega)]
        · rw [if_neg e, h4 j hj]
          by_cases g : j < i
          · rw [if_pos g, if_pos (by omega)]
          · rw [if_neg g, if_neg (by omega)]
  refine ⟨z + 1, main _ 0 F (by omega) (by omega) FrL.rf (fun j hj => ?_)⟩
  rw [hw0 j hj, if_neg (by omega)]
theorem CB.fr {G : HF} {L : List Nat} (h : CB F b z o t) (f : FrL L F G) (h0 : b ∉ L) (h1 : b + 1 ∉ L) (h2 : b + 2 ∉ L) : CB G b z o t := h.kept (by rw [f b h0]) (f _ h1) (f _ h2)
theorem CF.fr {G : HF} {L : List Nat} {r : Nat} (h : CF F r d) (f : FrL L F G) (hL : ∀ a, r ≤ a → a ≤ r + 5 → a ∉ L) : CF G r d := h.kept (f _ (hL _ (by omega) (by omega))) (f _ (hL _ (by omega) (by omega))) (f _ (hL _ (by omega) (by omega))) (f _ (hL _ (by omega) (by omega))) (f _ (hL _ (by omega) (by omega))) (f _ (hL _ (by omega) (by omega)))
theorem s_X0_loadAlone {K : HF → Prop} (c : CF F 4 d) (o' : OkF d) (h : CB F b z o t) (hw : WfB d z o) (hb : 10 ≤ b) {p L : Nat} (hp : p < lsum d o z) (hL : L < 2 ^ 30) (k : ∀ G, FrL [b + 3] F G → (∀ i, i < 8 → G (b + 3) i = nI (bl d o z p L i)) → K G) : wp_X0_loadAlone K F b (nI p) (nI L) := by
  unfold wp_X0_loadAlone
  refine s_X0_unload (fun G f1 g1 => ?_)
  refine s_X0_press (w := fun _ => 0) (c.fr f1 (fun a h1 h2 => by simp; omega)) o' (h.fr f1 (by simp) (by simp) (by simp)) hw hp hL g1 (fun G2 f2 g2 => k G2 (f1.tr f2) (fun i hi => ?_))
  rw [g2 i hi]
  unfold prs bl
  by_cases g : i < z
  · rw [if_pos g, if_pos g, Nat.zero_add]
  · rw [if_neg g, if_neg g]
theorem s_X0_tire {K : HF → Prop} (c : CF F 4 d) (o' : OkF d) (h : CB F b z o t) (hw : WfB d z o) (hb : 10 ≤ b) (hw0 : ∀ i, i < 8 → F (b + 3) i = nI (w i)) (hws : ∀ i, i < z → w i < 2 ^ 31) (k : ∀ G, FrL [b + 2] F G → CB G b z o (tir d o w z t) → K G) : wp_X0_tire K F b := by
  have h8 := hw.1
  have hB := o'.1
  have main : ∀ n i (G : HF), z + 1 ≤ i + n → i ≤ z → FrL [b + 2] F G → (∀ j, j < 8 → G (b + 2) j = nI (tir d o w i t j)) → wp_X0_tire_2 K b n G (nI i) := by
    intro n
    induction n with
    | zero => intro i G h1 h2; omega
    | succ n ih =>
      intro i G h1 h2 h3 h4
      have hsz : G b 4 = nI z := by rw [h3 b (by simp)]; exact h.1
      have ho : i < z → G (b + 1) i = nI (o i) := fun g => by rw [h3 (b + 1) (by simp)]; exact h.2.1 i g
      have hbo : G (b + 3) = F (b + 3) := h3 _ (by simp)
      unfold wp_X0_tire_2
      rw [hsz, nIcl (show i < 2 ^ 31 by omega)]
      simp (disch := omega) only [nIle]
      refine ⟨fun q => k G h3 ?_, fun q => ?_⟩
      · have ez : i = z := by omega
        subst ez
        exact ⟨hsz, fun j hj => by rw [h3 (b + 1) (by simp)]; exact h.2.1 j hj, h4⟩
      · have hi : i < z := by omega
        have hoi := hw.2.1 i hi
        rw [ho hi, nIcl (show o i < 2 ^ 31 by omega), h4 (o i) (by omega)]
        have hv := vin (show i < 8 by omega) (by omega)
        simp (disch := omega) only [nIle, nIlt]
        refine ⟨hv, fun e => absurd e (by omega), fun _ => ⟨fun e => absurd e (by omega), fun _ => ⟨vin (by omega) (by omega), ?_⟩⟩⟩
        have hcG : CF G 4 d := c.fr h3 (fun a h1 h2 => by simp; omega)
        refine s_X1_kindOf hcG o' hoi ⟨hv, ?_⟩
        have hk := (o'.2.2.2.2.2.2.2.1 (o i) hoi).2.2.2.2.1
        rw [hbo, hw0 i (by omega)]
        refine s_X0_tiredBy (hws i hi) hk ⟨vin (by omega) (by omega), fun G1 e => ?_⟩
        unfold wp_X0_tire_53
        rw [nI_add] at e
        rw [nI_add]
        refine ih (i + 1) G1 (by omega) (by omega) (by rw [e]; exact h3.tr (FrL.up (by simp))) ?_
        intro j hj
        rw [e, hup_at]
        show _ = nI (if j = o i then tir d o w i t j + inc d j (w i) else tir d o w i t j)
        by_cases g : j = o i
        · rw [if_pos g, if_pos g, g]
        · rw [if_neg g, if_neg g, h4 j hj]
  exact ⟨z + 1, main _ 0 F (by omega) (by omega) FrL.rf (fun j hj => h.2.2 j hj)⟩
def setl (d : FD) (z : Nat) (o t w : Nat → Nat) : Prop := ∀ k, k < z → w k ≤ pw d z o t k
theorem pw_le {d : FD} {z : Nat} {o t : Nat → Nat} (o' : OkF d) (hw : WfB d z o) {k : Nat} (hk : k < z) : pw d z o t k ≤ 65 := by
  have := (o'.2.2.2.2.2.2.2.1 (o k) (hw.2.1 k hk)).2.1
  unfold pw
  split
  · omega
  · split <;> omega
theorem s_X0_settle {K : Int32 → HF → Prop} (c : CF F 4 d) (o' : OkF d) (h : CB F b z o t) (hw : WfB d z o) (hb : 10 ≤ b) (ht : ∀ k, k < z → t (o k) ≤ fS d (o k)) (hw0 : ∀ i, i < 8 → F (b + 3) i = nI (w i)) (hws : ∀ i, i < z → w i < 2 ^ 31) (k1 : setl d z o t w → ∀ G, FrL [b + 2] F G → CB G b z o (tir d o w z t) → K (nI 1) G) (k0 : ¬ setl d z o t w → K (nI 0) F) : wp_X0_settle K F b := by
  have h8 := hw.1
  have main : ∀ n i, z + 1 ≤ i + n → i ≤ z → (∀ j, j < i → w j ≤ pw d z o t j) → wp_X0_settle_2 K b n F (nI i) := by
    intro n
    induction n with
    | zero => intro i h1 h2; omega
    | succ n ih =>
      intro i h1 h2 h3
      unfold wp_X0_settle_2
      rw [h.1, nIcl (show i < 2 ^ 31 by omega)]
      simp (disch := omega) only [nIle]
      refine ⟨fun q => s_X0_tire c o' h hw hb hw0 hws (fun G f g => k1 (fun j hj => h3 j (by omega)) G f g), fun q => ⟨vin (by omega) (by omega), ?_⟩⟩
      have hi : i < z := by omega
      refine s_X0_powerAt c o' h hw hi (ht i hi) ?_
      have := pw_le (t := t) o' hw hi
      have := hws i hi
      rw [hw0 i (by omega), nI_add]
      simp (disch := omega) only [nIle]
      refine ⟨fun e => ih (i + 1) (by omega) (by omega) (fun j hj => ?_), fun e => k0 (fun m => e (m i hi))⟩
      rcases Nat.lt_or_ge j i with g | g
      · exact h3 j g
      · have : j = i := by omega
        subst this; exact e
  exact ⟨z + 1, main _ 0 (by omega) (by omega) (fun j hj => absurd hj (by omega))⟩
end BridgeU
