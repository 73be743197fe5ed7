section ModelT
variable {F : HF} {d : FD} {z r : Nat} {o t w : Nat → Nat}
theorem s_X7_holderOf {K : Int32 → HF → Prop} (m : MF F d) (o' : OkF d) (h : MB F r z o t) (hw : WfB d z o) {p : Nat} (hp : p < lsum d o z) (k : K (nI (hol d o p z)) F) : wp_X7_holderOf K F r 21 (nI p) := by
  have h8 := hw.1
  have hB := o'.1
  have hl := lsum_le o' hw z (Nat.le_refl z)
  have hz : 0 < z := by
    rcases Nat.eq_zero_or_pos z with e | e
    · subst e; exact absurd hp (Nat.not_lt_zero _)
    · exact e
  have main : ∀ n i, z ≤ i + n → i < z → lsum d o i ≤ p → wp_X7_holderOf_16 K r 21 n F (nI p) (nI i) (nI (lsum d o (i + 1))) := by
    intro n
    induction n with
    | zero => intro i h1 h2; omega
    | succ n ih =>
      intro i h1 h2 h3
      have hl2 := lsum_le o' hw (i + 1) (by omega)
      unfold wp_X7_holderOf_16
      simp (disch := omega) only [nIlt, nI_add, nIcl]
      refine ⟨fun q => ?_, fun q => ?_⟩
      · rw [hol_uniq hp h3 q]; exact k
      · have hi : i + 1 < z := by
          rcases Nat.lt_or_ge (i + 1) z with g | g
          · exact g
          · have : i + 1 = z := by omega
            rw [this] at q; exact absurd hp q
        have hoi := hw.2.1 (i + 1) hi
        simp (disch := omega) only [h.2.1 (i + 1) hi, pk_mul, nI_add, nIcl, m.2.2.2.2.2.2.1 (o (i + 1)) hoi]
        exact ⟨vin (by omega) (by omega), vin (by omega) (by omega), ih (i + 1) (by omega) hi (by omega)⟩
  unfold wp_X7_holderOf
  have ho0 := hw.2.1 0 hz
  simp (disch := omega) only [nIcl, show F r 5 = nI (o 0) from h.2.1 0 hz, pk_mul, nI_add, m.2.2.2.2.2.2.1 (o 0) ho0]
  refine ⟨vin (by omega) (by omega), vin (by omega) (by omega), z, ?_⟩
  have e : fL d (o 0) = lsum d o (0 + 1) := by show _ = 0 + fL d (o 0); omega
  rw [e]
  exact main z 0 (by omega) hz (Nat.zero_le _)
theorem s_X7_noLoads {K : HF → Prop} (k : ∀ G, FrL [129] F G → (∀ i, i < 8 → G 129 i = nI 0) → K G) : wp_X7_noLoads K F := by
  have main : ∀ n i (G : HF), 9 ≤ i + n → i ≤ 8 → FrL [129] F G → (∀ j, j < i → G 129 j = nI 0) → wp_X7_noLoads_2 K n G (nI i) := by
    intro n
    induction n with
    | zero => intro i G h1 h2; omega
    | succ n ih =>
      intro i G h1 h2 h3 h4
      unfold wp_X7_noLoads_2
      simp (disch := omega) only [nIle, nIcl, nI_add]
      refine ⟨fun q => k G h3 (fun j hj => h4 j (by omega)), fun q => ⟨vin (by omega) (by omega), fun G1 e => ih (i + 1) G1 (by omega) (by omega) ?_ ?_⟩⟩
      · rw [e]; exact h3.tr (FrL.up (by simp))
      · intro j hj
        rw [e, hup_at]
        split
        · rfl
        · exact h4 j (by omega)
  exact ⟨9, main 9 0 F (by omega) (by omega) FrL.rf (fun j hj => absurd hj (by omega))⟩
theorem s_X7_bear {K : HF → Prop} (m : MF F d) (o' : OkF d) (h : MB F r z o t) (hw : WfB d z o) (hr : r ≠ 129) {p L : Nat} (hp : p < lsum d o z) (hL : L < 2 ^ 30) (hw0 : ∀ i, i < 8 → F 129 i = nI (w i)) (k : ∀ G, FrL [129] F G → (∀ i, i < 8 → G 129 i = nI (prs d o w z p L i)) → K G) : wp_X7_bear K F r 21 (nI p) (nI L) := by
  have h8 := hw.1
  have hh := (hol_spec z hp).1
  unfold wp_X7_bear
  refine s_X7_holderOf m o' h hw hp ?_
  have main : ∀ n i (G : HF), z + 1 ≤ i + n → i ≤ z → FrL [129] F G → (∀ j, j < 8 → G 129 j = nI (if j < i then w j + part (dist j (hol d o p z)) L else w j)) → wp_X7_bear_11 K r 21 n G (nI L) (nI (hol d o p z)) (nI i) := by
    intro n
    induction n with
    | zero => intro i G h1 h2; omega
    | succ n ih =>
      intro i G h1 h2 h3 h4
      have hsz : G r 0 = nI z := by rw [h3 r (by simp [hr])]; exact h.1
      have hG : i < z → G 129 i = nI (w i) := fun g => by rw [h4 i (by omega), if_neg (by omega)]
      have next : ∀ (x : Nat), part (dist i (hol d o p z)) L = x → i < z → wp_X7_bear_83 K (wp_X7_bear_11 K r 21 n) r 21 G (nI L) (nI (hol d o p z)) (nI i) (nI i) (nI (w i)) (nI x) := by
        intro x hx hi
        unfold wp_X7_bear_83
        refine ⟨vin (by omega) (by omega), fun G1 e => ?_⟩
        rw [nI_add, nIcl (by omega)] at e
        rw [nI_add]
        refine ih (i + 1) G1 (by omega) (by omega) (by rw [e]; exact h3.tr (FrL.up (by simp))) ?_
        intro j hj
        rw [e, hup_at]
        by_cases g : j = i
        · subst g
          rw [if_pos rfl, if_pos (by omega), hx]
        · rw [if_neg g, h4 j hj]
          by_cases g2 : j < i
          · rw [if_pos g2, if_pos (by omega)]
          · rw [if_neg g2, if_neg (by omega)]
      have s39 : i < z → wp_X7_bear_39 K (wp_X7_bear_11 K r 21 n) r 21 G (nI L) (nI (hol d o p z)) (nI i) (nI (dist i (hol d o p z))) := by
        intro hi
        have hd : dist i (hol d o p z) < 2 ^ 31 := by unfold dist; split <;> omega
        unfold wp_X7_bear_39
        rw [nIcl (show i < 2 ^ 31 by omega), hG hi, nIdiv (by omega) (by omega) (by omega), nIdiv (by omega) (by omega) (by omega)]
        simp (disch := omega) only [nIe]
        refine ⟨vin (by omega) (by omega), fun q0 => ⟨fun q1 => ⟨fun q2 => next 0 ?_ hi, fun q2 => next _ ?_ hi⟩, fun q1 => next _ ?_ hi⟩, fun q0 => next _ ?_ hi⟩
        · unfold part; rw [if_neg q0, if_neg q1, if_neg q2]
        · unfold part; rw [if_neg q0, if_neg q1, if_pos q2]
        · unfold part; rw [if_neg q0, if_pos q1]
        · unfold part; rw [if_pos q0]
      unfold wp_X7_bear_11
      rw [nIcl (show 0 < 2 ^ 31 by omega), hsz]
      simp (disch := omega) only [nIle]
      refine ⟨vin (by omega) (by omega), fun q => k G h3 (fun j hj => ?_), fun q => ⟨fun q1 => ?_, fun q1 => ?_⟩⟩
      · have ez : i = z := by omega
        rw [h4 j hj, ez]; rfl
      · rw [nIsub q1]
        have e : hol d o p z - i = dist i (hol d o p z) := by unfold dist; split <;> omega
        rw [e]
        exact s39 (by omega)
      · rw [nIsub (by omega)]
        have e : i - hol d o p z = dist i (hol d o p z) := by unfold dist; split <;> omega
        rw [e]
        exact s39 (by omega)
  refine ⟨z + 1, main _ 0 F (by omega) (by omega) FrL.rf (fun j hj => ?_)⟩
  rw [hw0 j hj, if_neg (by omega)]
theorem s_X7_tire {K : HF → Prop} (m : MF F d) (o' : OkF d) (h : MB F r z o t) (hw : WfB d z o) (hr : 120 ≤ r) (hr2 : r ≠ 129) (hw0 : ∀ i, i < 8 → F 129 i = nI (w i)) (hws : ∀ i, i < z → w i < 2 ^ 31) (k : ∀ G, FrL [r] F G → (∀ j, j < 13 → G r j = F r j) → MB G r z o (tir d o w z t) → K G) : wp_X7_tire K F r 21 := by
  have h8 := hw.1
  have hB := o'.1
  have main : ∀ n i (G : HF), z + 1 ≤ i + n → i ≤ z → FrL [r] F G → (∀ j, j < 13 → G r j = F r j) → (∀ j, j < 8 → G r (13 + j) = nI (tir d o w i t j)) → wp_X7_tire_2 K r 21 n G (nI i) := by
    intro n
    induction n with
    | zero => intro i G h1 h2; omega
    | succ n ih =>
      intro i G h1 h2 h3 h3b h4
      have hsz : G r 0 = nI z := by rw [h3b 0 (by omega)]; exact h.1
      have ho : i < z → G r (5 + i) = nI (o i) := fun g => by rw [h3b (5 + i) (by omega)]; exact h.2.1 i g
      have hbo : G 129 = F 129 := h3 _ (by simp; omega)
      unfold wp_X7_tire_2
      rw [nIcl (show 0 < 2 ^ 31 by omega), hsz]
      simp (disch := omega) only [nIle, nI_add, nIcl, hbo]
      refine ⟨vin (by omega) (by omega), fun q => k G h3 h3b ?_, fun q => ?_⟩
      · have ez : i = z := by omega
        subst ez
        exact ⟨hsz, fun j hj => by rw [h3b (5 + j) (by omega)]; exact h.2.1 j hj, h4⟩
      · have hi : i < z := by omega
        have hoi := hw.2.1 i hi
        rw [ho hi, hw0 i (by omega), nIdiv (hws i hi) (by omega) (by omega)]
        simp (disch := omega) only [nI_add, nIcl]
        rw [h4 (o i) (by omega)]
        refine ⟨vin (by omega) (by omega), vin (by omega) (by omega), vin (by omega) (by omega), ?_⟩
        have hmG : MF G d := m.fr h3 (by simp; omega) (by simp; omega) (by simp; omega)
        refine s_X7_kindOf hmG o' hoi ?_
        have hk := (o'.2.2.2.2.2.2.2.1 (o i) hoi).2.2.2.2.1
        have next : ∀ x, inc d (o i) (w i) = x → wp_X7_tire_51 K (wp_X7_tire_2 K r 21 n) r 21 G (nI i) (nI (13 + o i)) (nI (tir d o w i t (o i))) (nI x) := by
          intro x hx
          unfold wp_X7_tire_51
          refine ⟨vin (by omega) (by omega), fun G1 e => ?_⟩
          rw [nI_add, nIcl (by omega)] at e
          rw [nI_add]
          refine ih (i + 1) G1 (by omega) (by omega) (by rw [e]; exact h3.tr (FrL.up (by simp))) ?_ ?_
          · intro j hj
            rw [e, hup_at, if_neg (by omega)]
            exact h3b j hj
          · intro j hj
            rw [e, hup_at]
            show _ = nI (if j = o i then tir d o w i t j + inc d j (w i) else tir d o w i t j)
            by_cases g : j = o i
            · rw [if_pos (by omega), if_pos g, g, hx]
            · rw [if_neg (by omega), if_neg g, h4 j hj]
        simp (disch := omega) only [nIe]
        refine ⟨fun e => next _ ?_, fun e => ?_⟩
        · unfold inc; rw [if_neg e]
        · rw [pk_mul]; refine next _ ?_; unfold inc; rw [if_pos e]
  exact ⟨z + 1, main _ 0 F (by omega) (by omega) FrL.rf (fun _ _ => rfl) (fun j hj => h.2.2 j hj)⟩
theorem s_X7_holds {K : Int32 → HF → Prop} (m : MF F d) (o' : OkF d) (h : MB F r z o t) (hw : WfB d z o) (hr : 120 ≤ r) (hr2 : r ≠ 129) (ht : ∀ k, k < z → t (o k) ≤ fS d (o k)) (hw0 : ∀ i, i < 8 → F 129 i = nI (w i)) (hws : ∀ i, i < z → w i < 2 ^ 31) (k1 : setl d z o t w → ∀ G, FrL [r] F G → (∀ j, j < 13 → G r j = F r j) → MB G r z o (tir d o w z t) → K (nI 1) G) (k0 : ¬ setl d z o t w → K (nI 0) F) : wp_X7_holds K F r 21 := by
  have h8 := hw.1
  have main : ∀ n i, z + 1 ≤ i + n → i ≤ z → (∀ j, j < i → w j ≤ pw d z o t j) → wp_X7_holds_2 K r 21 n F (nI i) := by
    intro n
    induction n with
    | zero => intro i h1 h2; omega
    | succ n ih =>
      intro i h1 h2 h3
      unfold wp_X7_holds_2
      rw [nIcl (show 0 < 2 ^ 31 by omega), h.1, nIcl (show i < 2 ^ 31 by omega)]
      simp (disch := omega) only [nIle]
      refine ⟨vin (by omega) (by omega), fun q => s_X7_tire m o' h hw hr hr2 hw0 hws (fun G f f2 g => k1 (fun j hj => h3 j (by omega)) G f f2 g), fun q => ⟨vin (by omega) (by omega), ?_⟩⟩
      have hi : i < z := by omega
      refine s_X7_powerOf m o' h hw hi (ht i hi) ?_
      have := pw_le (t := t) o' hw hi
      have := hws i hi
      rw [hw0 i (by omega), nI_add]
      simp (disch := omega) only [nIle]
      refine ⟨fun e => ih (i + 1) (by omega) (by omega) (fun j hj => ?_), fun e => k0 (fun m => e (m i hi))⟩
      rcases Nat.lt_or_ge j i with g | g
      · exact h3 j g
      · have : j = i := by omega
        subst this; exact e
  exact ⟨z + 1, main _ 0 (by omega) (by omega) (fun j hj => absurd hj (by omega))⟩
theorem s_X7_isOn {K : Int32 → HF → Prop} {q W : Nat} (hq : q < 2 ^ 20) (hW1 : 1 ≤ W) (hW : W < 2 ^ 20) (k1 : (1 ≤ q ∧ q ≤ W) → K (nI 1) F) (k0 : ¬ (1 ≤ q ∧ q ≤ W) → K (nI 0) F) : wp_X7_isOn K F (pI q) (nI W) := by
  unfold wp_X7_isOn
  rw [nIsub hW1]
  rcases Nat.eq_zero_or_pos q with e | e
  · subst e
    rw [pI_0]
    exact s_in (fun g => absurd (by decide) g.1) (fun _ => ⟨Or.inl rfl, k0 (by omega)⟩)
  · obtain ⟨p, rfl⟩ : ∃ p, q = p + 1 := ⟨q - 1, by omega⟩
    rw [pI_s]
    refine s_in (fun g => ⟨Or.inr rfl, k1 ?_⟩) (fun g => ⟨Or.inl rfl, k0 (fun g2 => g ⟨nI_pos (by omega), ?_⟩)⟩)
    · have := g.2
      rw [nIlt (by omega) (by omega)] at this
      omega
    · rw [nIlt (by omega) (by omega)]; omega
end ModelT
