theorem qs_le {c : Nat → Nat} {p : Nat} : ∀ k, qs c p k ≤ p + 3 * k := by
  intro k
  induction k with
  | zero => exact Nat.le_refl _
  | succ k ih =>
    have := qf_le (c := c) (p := qs c p k)
    show qs c p k + qf c (qs c p k) + 1 ≤ p + 3 * (k + 1)
    omega
def nbh (x : Nat) : Nat := if x = 98 then 4 else if x = 108 then 2 else if x = 114 then 1 else if x = 119 then 1 else 0
theorem nbh_le {x : Nat} : nbh x ≤ 4 := by unfold nbh; split <;> (try split) <;> (try split) <;> (try split) <;> omega
def FrT (f : Nat) (F G : HF) : Prop := ∀ a, a ≠ 3 → (a < f ∨ f + 5 < a) → G a = F a
theorem FrT.rf {f : Nat} {F : HF} : FrT f F F := fun _ _ _ => rfl
theorem FrT.tr {f : Nat} {F G H : HF} (h : FrT f F G) (g : FrT f G H) : FrT f F H := fun a x y => (g a x y).trans (h a x y)
section Read2
variable {F : HF} {nx : Nat} {tx : Nat → Nat}
theorem s_X3_numbersBehind {K : Int32 → HF → Prop} {x : Nat} (hx : x ≤ 126) (k : K (nI (nbh x)) F) : wp_X3_numbersBehind K F (nI x) := by
  unfold wp_X3_numbersBehind
  simp (disch := omega) only [nIe]
  unfold nbh at k
  refine ⟨fun e => ?_, fun e => ?_, fun e => ?_, fun e => ?_, fun a b c e => ?_⟩
  · rw [if_pos e] at k; exact k
  · rw [if_neg (by omega), if_pos e] at k; exact k
  · rw [if_neg (by omega), if_neg (by omega), if_pos e] at k; exact k
  · rw [if_neg (by omega), if_neg (by omega), if_neg (by omega), if_pos e] at k; exact k
  · rw [if_neg a, if_neg b, if_neg c, if_neg e] at k; exact k
theorem s_X3_readItem {K : Int32 → HF → Prop} {p : Nat} (h : TX F nx tx) (hp : p < 2 ^ 18)
    (k0 : ∀ G, FrL [3] F G → (nbh (tc nx tx p) = 0 ∨ ¬ rok (tc nx tx) (p + 1) (nbh (tc nx tx p))) → K (-4 : Int32) G)
    (k1 : ∀ G, FrL [3] F G → nbh (tc nx tx p) ≠ 0 → rok (tc nx tx) (p + 1) (nbh (tc nx tx p)) → (∀ i, i < nbh (tc nx tx p) → G 3 i = nI (qv (tc nx tx) (p + 1) i)) → K (nI (qs (tc nx tx) (p + 1) (nbh (tc nx tx p)))) G) : wp_X3_readItem K F (nI p) := by
  unfold wp_X3_readItem
  refine s_X3_letterAt h (by omega) (s_X3_numbersBehind (tc_le h p) ?_)
  have hm : nbh (tc nx tx p) ≤ 4 := nbh_le
  generalize nbh (tc nx tx p) = m at hm k0 k1 ⊢
  rw [nI_add]
  have main : ∀ n j (G : HF), m + 1 ≤ j + n → j ≤ m → FrL [3] F G → (∀ i, i < j → okn (tc nx tx) (p + 1) m i) → (∀ i, i < j → G 3 i = nI (qv (tc nx tx) (p + 1) i)) → wp_X3_readItem_16 K n G (nI m) (nI (qs (tc nx tx) (p + 1) j)) (nI j) := by
    intro n
    induction n with
    | zero => intro j G h1 h2; omega
    | succ n ih =>
      intro j G h1 h2 fr ho hv
      have hq := qs_le (c := tc nx tx) (p := p + 1) j
      have hf2 := qf_le (c := tc nx tx) (p := qs (tc nx tx) (p + 1) j)
      have hG := h.fr fr (by simp) (by simp)
      have e101 : m ≤ j → wp_X3_readItem_101 K G (nI m) (nI (qs (tc nx tx) (p + 1) j)) := by
        intro q
        have : j = m := by omega
        subst this
        unfold wp_X3_readItem_101
        rw [nIe (by omega) (by omega)]
        exact ⟨fun e => k1 G fr e (fun i hi => ho i hi) hv, fun e => k0 G fr (Or.inl e)⟩
      unfold wp_X3_readItem_16
      rw [nIle (a := m) (b := j) (by omega) (by omega), nIle (a := 4) (b := j) (by omega) (by omega)]
      refine ⟨e101, fun q => ⟨fun q2 => e101 (by omega), fun q2 => s_X3_figuresFrom hG (by omega) ⟨fun hf => ?_, fun hf => ?_⟩⟩⟩
      · have hf' : qf (tc nx tx) (qs (tc nx tx) (p + 1) j) ≠ 0 := fun e => hf (by rw [e])
        refine s_X3_numberAt hG (by omega) hf' ⟨vin (by omega) (by omega), fun G1 e1 => ?_⟩
        rw [nIcl (by omega)] at e1
        have fr1 : FrL [3] F G1 := by rw [e1]; exact fr.tr (FrL.up (by simp))
        have hG1 := h.fr fr1 (by simp) (by simp)
        simp only [nI_add]
        have fin : ∀ s, s ≤ 126 → s = (if j + 1 = m then 59 else 44) → wp_X3_readItem_86 K (wp_X3_readItem_16 K n) G1 (nI m) (nI (qs (tc nx tx) (p + 1) j + qf (tc nx tx) (qs (tc nx tx) (p + 1) j))) (nI j) (nI (tc nx tx (qs (tc nx tx) (p + 1) j + qf (tc nx tx) (qs (tc nx tx) (p + 1) j)))) (nI s) := by
          intro s hs es
          have hl := tc_le h (qs (tc nx tx) (p + 1) j + qf (tc nx tx) (qs (tc nx tx) (p + 1) j))
          unfold wp_X3_readItem_86
          rw [nI_add, nI_add, nIe (by omega) (by omega)]
          refine ⟨fun e => ?_, fun e => k0 G1 fr1 (Or.inr (fun r => e ?_))⟩
          · refine ih (j + 1) G1 (by omega) (by omega) fr1 (fun i hi => ?_) (fun i hi => ?_)
            · rcases Nat.lt_or_ge i j with g | g
              · exact ho i g
              · have : i = j := by omega
                subst this
                exact ⟨hf', e.trans es⟩
            · rw [e1, hup_at]
              by_cases g : i = j
              · rw [if_pos g, g]; rfl
              · rw [if_neg g]; exact hv i (by omega)
          · rw [(r j (by omega)).2, es]
        refine s_X3_letterAt hG1 (by omega) ?_
        rw [nIsub (a := m) (b := 1) (by omega), nIe (a := j) (b := m - 1) (by omega) (by omega)]
        refine ⟨fun g => fin 44 (by omega) (by rw [if_neg (by omega)]), fun g => fin 59 (by omega) (by rw [if_pos (by omega)])⟩
      · refine k0 G fr (Or.inr (fun r => (r j (by omega)).1 ?_))
        rw [nIe (by omega) (by omega)] at hf
        exact hf
  exact ⟨m + 1, main _ 0 F (by omega) (by omega) FrL.rf (fun i hi => absurd hi (by omega)) (fun i hi => absurd hi (by omega))⟩
variable {f : Nat} {d : FD}
theorem s_X1_takeBird {K : Int32 → HF → Prop} (c : CF F f d) (o' : OkF d) {a1 a2 a3 a4 : Nat} (h1 : a1 ≤ 99) (h2 : a2 ≤ 99) (h3 : a3 ≤ 99) (h4 : a4 ≤ 99)
    (k1 : fB d < 8 → 1 ≤ a1 → a1 ≤ 60 → 1 ≤ a2 → a2 ≤ 3 → a3 ≤ 4 → a4 ≤ 40 → ∀ G, FrR f (f + 5) F G → CF G f (adB d a1 a2 a3 a4) → K (nI 1) G)
    (k0 : ¬ (fB d < 8 ∧ 1 ≤ a1 ∧ a1 ≤ 60 ∧ 1 ≤ a2 ∧ a2 ≤ 3 ∧ a3 ≤ 4 ∧ a4 ≤ 40) → K (nI 0) F) : wp_X1_takeBird K F f (nI a1) (nI a2) (nI a3) (nI a4) := by
  have hB := o'.1
  unfold wp_X1_takeBird
  rw [c.1]
  simp (disch := omega) only [nIle, nIlt, nIcl]
  refine ⟨fun g => k0 (by omega), fun g0 => ⟨fun g => k0 (by omega), fun g1 => ⟨fun g => k0 (by omega), fun g2 => ⟨fun g => k0 (by omega), fun g3 => ⟨fun g => k0 (by omega), fun g4 => ⟨fun g => absurd g (by omega), fun _ => ⟨fun g => k0 (by omega), fun g5 => ⟨fun g => absurd g (by omega), fun _ => ⟨fun g6 => ?_, fun g => k0 (by omega)⟩⟩⟩⟩⟩⟩⟩⟩⟩
  refine ⟨vin (by omega) (by omega), fun F1 e1 => ?_⟩
  have x1 : F1 f = F f := by rw [e1, hup_n _ _ _ (by omega)]
  rw [x1, c.1, nIcl (by omega)]
  refine ⟨vin (by omega) (by omega), fun F2 e2 => ?_⟩
  have x2 : F2 f = F f := by rw [e2, hup_n _ _ _ (by omega), x1]
  rw [x2, c.1, nIcl (by omega)]
  refine ⟨vin (by omega) (by omega), fun F3 e3 => ?_⟩
  have x3 : F3 f = F f := by rw [e3, hup_n _ _ _ (by omega), x2]
  rw [x3, c.1, nIcl (by omega)]
  refine ⟨vin (by omega) (by omega), fun F4 e4 F5 e5 => ?_⟩
  have x4 : F4 f = F f := by rw [e4, hup_n _ _ _ (by omega), x3]
  rw [x4, c.1, nI_add] at e5
  have y0 : ∀ j, F5 f j = if j = 5 then nI (fB d + 1) else F f j := fun j => by rw [e5, hup_at, x4]
  have y1 : ∀ j, F5 (f + 1) j = if j = fB d then nI a1 else F (f + 1) j := fun j => by rw [e5, hup_n _ _ _ (by omega), e4, hup_n _ _ _ (by omega), e3, hup_n _ _ _ (by omega), e2, hup_n _ _ _ (by omega), e1, hup_at]
  have y2 : ∀ j, F5 (f + 2) j = if j = fB d then nI a2 else F (f + 2) j := fun j => by rw [e5, hup_n _ _ _ (by omega), e4, hup_n _ _ _ (by omega), e3, hup_n _ _ _ (by omega), e2, hup_at, e1, hup_n _ _ _ (by omega)]
  have y3 : ∀ j, F5 (f + 3) j = if j = fB d then nI a3 else F (f + 3) j := fun j => by rw [e5, hup_n _ _ _ (by omega), e4, hup_n _ _ _ (by omega), e3, hup_at, e2, hup_n _ _ _ (by omega), e1, hup_n _ _ _ (by omega)]
  have y4 : ∀ j, F5 (f + 4) j = if j = fB d then nI a4 else F (f + 4) j := fun j => by rw [e5, hup_n _ _ _ (by omega), e4, hup_at, e3, hup_n _ _ _ (by omega), e2, hup_n _ _ _ (by omega), e1, hup_n _ _ _ (by omega)]
  have y5 : F5 (f + 5) = F (f + 5) := by rw [e5, hup_n _ _ _ (by omega), e4, hup_n _ _ _ (by omega), e3, hup_n _ _ _ (by omega), e2, hup_n _ _ _ (by omega), e1, hup_n _ _ _ (by omega)]
  refine k1 (by omega) (by omega) (by omega) (by omega) (by omega) (by omega) (by omega) F5 (fun a ha => by rw [e5, hup_n _ _ _ (by omega), e4, hup_n _ _ _ (by omega), e3, hup_n _ _ _ (by omega), e2, hup_n _ _ _ (by omega), e1, hup_n _ _ _ (by omega)]) ?_
  have sp : ∀ (r : Nat) (g : Nat → Nat) (a : Nat), (∀ b, b < fB d → F (f + r) b = nI (g b)) → (∀ j, F5 (f + r) j = if j = fB d then nI a else F (f + r) j) → ∀ b, b < fB d + 1 → F5 (f + r) b = nI (if b = fB d then a else g b) := by
    intro r g a hg hy b hb
    rw [hy]
    by_cases e : b = fB d
    · rw [if_pos e, if_pos e]
    · rw [if_neg e, if_neg e]; exact hg b (by omega)
  obtain ⟨c0, c1, c2, c3, c4, c5, c6, c7, c8, c9⟩ := c
  refine ⟨by rw [y0, if_pos rfl]; rfl, by rw [y0, if_neg (by omega)]; exact c1, by rw [y0, if_neg (by omega)]; exact c2, by rw [y0, if_neg (by omega)]; exact c3, by rw [y0, if_neg (by omega)]; exact c4, sp 1 _ _ c5 y1, sp 2 _ _ c6 y2, sp 3 _ _ c7 y3, sp 4 _ _ c8 y4, by rw [y5]; exact c9⟩
theorem s_X1_takeWind {K : Int32 → HF → Prop} (c : CF F f d) (o' : OkF d) {a1 : Nat} (h1 : a1 ≤ 99)
    (k1 : fC d < 8 → a1 ≤ 20 → ∀ G, FrR f (f + 5) F G → CF G f (adW d a1) → K (nI 1) G) (k0 : ¬ (fC d < 8 ∧ a1 ≤ 20) → K (nI 0) F) : wp_X1_takeWind K F f (nI a1) := by
  have hC := o'.2.1
  unfold wp_X1_takeWind
  rw [c.2.1]
  simp (disch := omega) only [nIle, nIlt, nIcl]
  refine ⟨fun g => k0 (by omega), fun g0 => ⟨fun g => absurd g (by omega), fun _ => ⟨fun g1 => ⟨vin (by omega) (by omega), fun F1 e1 F2 e2 => ?_⟩, fun g => k0 (by omega)⟩⟩⟩
  have x1 : F1 f = F f := by rw [e1, hup_n _ _ _ (by omega)]
  rw [x1, c.2.1, nI_add] at e2
  have y0 : ∀ j, F2 f j = if j = 6 then nI (fC d + 1) else F f j := fun j => by rw [e2, hup_at, x1]
  have y5 : ∀ j, F2 (f + 5) j = if j = fC d then nI a1 else F (f + 5) j := fun j => by rw [e2, hup_n _ _ _ (by omega), e1, hup_at]
  have yo : ∀ a, a ≠ f → a ≠ f + 5 → F2 a = F a := fun a p q => by rw [e2, hup_n _ _ _ p, e1, hup_n _ _ _ q]
  refine k1 (by omega) (by omega) F2 (fun a ha => yo a (by omega) (by omega)) ?_
  obtain ⟨c0, c1, c2, c3, c4, c5, c6, c7, c8, c9⟩ := c
  refine ⟨by rw [y0, if_neg (by omega)]; exact c0, by rw [y0, if_pos rfl]; rfl, by rw [y0, if_neg (by omega)]; exact c2, by rw [y0, if_neg (by omega)]; exact c3, by rw [y0, if_neg (by omega)]; exact c4, by rw [yo _ (by omega) (by omega)]; exact c5, by rw [yo _ (by omega) (by omega)]; exact c6, by rw [yo _ (by omega) (by omega)]; exact c7, by rw [yo _ (by omega) (by omega)]; exact c8, ?_⟩
  intro b hb
  have hb' : b < fC d + 1 := hb
  show F2 (f + 5) b = nI (if b = fC d then a1 else fV d b)
  rw [y5]
  by_cases e : b = fC d
  · rw [if_pos e, if_pos e]
  · rw [if_neg e, if_neg e]; exact c9 b (by omega)
theorem s_X1_takeRiver {K : Int32 → HF → Prop} (c : CF F f d) {a1 : Nat} (h1 : a1 ≤ 99)
    (k1 : 1 ≤ a1 → a1 ≤ 9 → ∀ G, FrR f (f + 5) F G → CF G f (stR d a1) → K (nI 1) G) (k0 : ¬ (1 ≤ a1 ∧ a1 ≤ 9) → K (nI 0) F) : wp_X1_takeRiver K F f (nI a1) := by
  unfold wp_X1_takeRiver
  simp (disch := omega) only [nIle, nIlt]
  refine ⟨fun g => k0 (by omega), fun g0 => ⟨fun g1 F1 e1 => ?_, fun g => k0 (by omega)⟩⟩
  have y0 : ∀ j, F1 f j = if j = 7 then nI a1 else F f j := fun j => by rw [e1, hup_at]
  have yo : ∀ a, a ≠ f → F1 a = F a := fun a p => by rw [e1, hup_n _ _ _ p]
  refine k1 (by omega) (by omega) F1 (fun a ha => yo a (by omega)) ?_
  obtain ⟨c0, c1, c2, c3, c4, c5, c6, c7, c8, c9⟩ := c
  exact ⟨by rw [y0, if_neg (by omega)]; exact c0, by rw [y0, if_neg (by omega)]; exact c1, by rw [y0, if_pos rfl]; rfl, by rw [y0, if_neg (by omega)]; exact c3, by rw [y0, if_neg (by omega)]; exact c4, by rw [yo _ (by omega)]; exact c5, by rw [yo _ (by omega)]; exact c6, by rw [yo _ (by omega)]; exact c7, by rw [yo _ (by omega)]; exact c8, by rw [yo _ (by omega)]; exact c9⟩
theorem s_X1_takeLoad {K : Int32 → HF → Prop} (c : CF F f d) {a1 a2 : Nat} (h1 : a1 ≤ 99) (h2 : a2 ≤ 99)
    (k1 : 1 ≤ a1 → a1 ≤ 40 → a2 ≤ 9 → ∀ G, FrR f (f + 5) F G → CF G f (stL d a1 a2) → K (nI 1) G) (k0 : ¬ (1 ≤ a1 ∧ a1 ≤ 40 ∧ a2 ≤ 9) → K (nI 0) F) : wp_X1_takeLoad K F f (nI a1) (nI a2) := by
  unfold wp_X1_takeLoad
  simp (disch := omega) only [nIle, nIlt]
  refine ⟨fun g => k0 (by omega), fun g0 => ⟨fun g => k0 (by omega), fun g1 => ⟨fun g => absurd g (by omega), fun _ => ⟨fun g2 F1 e1 F2 e2 => ?_, fun g => k0 (by omega)⟩⟩⟩⟩
  have y0 : ∀ j, F2 f j = if j = 9 then nI a2 else if j = 8 then nI a1 else F f j := fun j => by rw [e2, hup_at, e1, hup_at]
  have yo : ∀ a, a ≠ f → F2 a = F a := fun a p => by rw [e2, hup_n _ _ _ p, e1, hup_n _ _ _ p]
  refine k1 (by omega) (by omega) (by omega) F2 (fun a ha => yo a (by omega)) ?_
  obtain ⟨c0, c1, c2, c3, c4, c5, c6, c7, c8, c9⟩ := c
  exact ⟨by rw [y0, if_neg (by omega), if_neg (by omega)]; exact c0, by rw [y0, if_neg (by omega), if_neg (by omega)]; exact c1, by rw [y0, if_neg (by omega), if_neg (by omega)]; exact c2, by rw [y0, if_neg (by omega), if_pos rfl]; rfl, by rw [y0, if_pos rfl]; rfl, by rw [yo _ (by omega)]; exact c5, by rw [yo _ (by omega)]; exact c6, by rw [yo _ (by omega)]; exact c7, by rw [yo _ (by omega)]; exact c8, by rw [yo _ (by omega)]; exact c9⟩
theorem s_X1_take {K : Int32 → HF → Prop} {cc : Nat → Nat} {p : Nat} (c : CF F f d) (o' : OkF d) (hx : cc p ≤ 126) (hr : rok cc (p + 1) (nbh (cc p))) (hm : nbh (cc p) ≠ 0) (hv : ∀ i, i < nbh (cc p) → F 3 i = nI (qv cc (p + 1) i))
    (k1 : ∀ G d2, qt cc d p = some (d2, qs cc (p + 1) (nbh (cc p))) → FrR f (f + 5) F G → CF G f d2 → K (nI 1) G) (k0 : qt cc d p = none → K (nI 0) F) : wp_X1_take K F f 3 4 (nI (cc p)) := by
  have q9 : ∀ i, i < nbh (cc p) → qv cc (p + 1) i ≤ 99 := fun i hi => qn_le (hr i hi).1
  have z0 : (nI 0).toNatClampNeg = 0 := nIcl (by omega)
  have z1 : (nI 1).toNatClampNeg = 1 := nIcl (by omega)
  have z2 : (nI 2).toNatClampNeg = 2 := nIcl (by omega)
  have z3 : (nI 3).toNatClampNeg = 3 := nIcl (by omega)
  have hn : nbh (cc p) = if cc p = 98 then 4 else if cc p = 108 then 2 else if cc p = 114 then 1 else if cc p = 119 then 1 else 0 := rfl
  unfold wp_X1_take
  rw [z0, z1, z2, z3]
  simp (disch := omega) only [nIe, nIle]
  refine ⟨fun _ => ⟨fun e => ?_, fun e => ?_, fun e => ?_, fun e => ?_, fun a b c e => ?_⟩, fun e => absurd (Nat.le_refl _) e⟩
  · rw [if_pos e] at hn
    rw [hn] at hr hv q9 k1
    rw [hv 0 (by omega), hv 1 (by omega), hv 2 (by omega), hv 3 (by omega)]
    refine ⟨vin (by omega) (by omega), vin (by omega) (by omega), vin (by omega) (by omega), vin (by omega) (by omega), s_X1_takeBird c o' (q9 0 (by omega)) (q9 1 (by omega)) (q9 2 (by omega)) (q9 3 (by omega)) (fun g1 g2 g3 g4 g5 g6 g7 G fr cG => ⟨Or.inr rfl, k1 G _ ?_ fr cG⟩) (fun g => ⟨Or.inl rfl, k0 ?_⟩)⟩
    · unfold qt; rw [if_pos e, if_pos ⟨g1, hr, g2, g3, g4, g5, g6, g7⟩]
    · unfold qt; rw [if_pos e, if_neg (fun h => g ⟨h.1, h.2.2.1, h.2.2.2.1, h.2.2.2.2.1, h.2.2.2.2.2.1, h.2.2.2.2.2.2.1, h.2.2.2.2.2.2.2⟩)]
  · rw [if_neg (by omega), if_pos e] at hn
    rw [hn] at hr hv q9 k1
    rw [hv 0 (by omega), hv 1 (by omega)]
    refine ⟨vin (by omega) (by omega), vin (by omega) (by omega), s_X1_takeLoad c (q9 0 (by omega)) (q9 1 (by omega)) (fun g1 g2 g3 G fr cG => ⟨Or.inr rfl, k1 G _ ?_ fr cG⟩) (fun g => ⟨Or.inl rfl, k0 ?_⟩)⟩
    · unfold qt; rw [if_neg (by omega), if_neg (by omega), if_neg (by omega), if_pos e, if_pos ⟨hr, g1, g2, g3⟩]
    · unfold qt; rw [if_neg (by omega), if_neg (by omega), if_neg (by omega), if_pos e, if_neg (fun h => g h.2)]
  · rw [if_neg (by omega), if_neg (by omega), if_pos e] at hn
    rw [hn] at hr hv q9 k1
    rw [hv 0 (by omega)]
    refine ⟨vin (by omega) (by omega), s_X1_takeRiver c (q9 0 (by omega)) (fun g1 g2 G fr cG => ⟨Or.inr rfl, k1 G _ ?_ fr cG⟩) (fun g => ⟨Or.inl rfl, k0 ?_⟩)⟩
    · unfold qt; rw [if_neg (by omega), if_neg (by omega), if_pos e, if_pos ⟨hr, g1, g2⟩]
    · unfold qt; rw [if_neg (by omega), if_neg (by omega), if_pos e, if_neg (fun h => g h.2)]
  · rw [if_neg (by omega), if_neg (by omega), if_neg (by omega), if_pos e] at hn
    rw [hn] at hr hv q9 k1
    rw [hv 0 (by omega)]
    refine ⟨vin (by omega) (by omega), s_X1_takeWind c o' (q9 0 (by omega)) (fun g1 g2 G fr cG => ⟨Or.inr rfl, k1 G _ ?_ fr cG⟩) (fun g => ⟨Or.inl rfl, k0 ?_⟩)⟩
    · unfold qt; rw [if_neg (by omega), if_pos e, if_pos ⟨g1, hr, g2⟩]
    · unfold qt; rw [if_neg (by omega), if_pos e, if_neg (fun h => g ⟨h.1, h.2.2⟩)]
  · rw [if_neg a, if_neg b, if_neg c, if_neg e] at hn
    exact absurd hn hm
theorem qt_none {cc : Nat → Nat} {p : Nat} (h : nbh (cc p) = 0 ∨ ¬ rok cc (p + 1) (nbh (cc p))) : qt cc d p = none := by
  have hn : nbh (cc p) = if cc p = 98 then 4 else if cc p = 108 then 2 else if cc p = 114 then 1 else if cc p = 119 then 1 else 0 := rfl
  unfold qt
  by_cases e1 : cc p = 98
  · rw [if_pos e1] at hn; rw [hn] at h
    rw [if_pos e1, if_neg (fun g => h.elim (fun q => absurd q (by omega)) (fun q => q g.2.1))]
  by_cases e2 : cc p = 119
  · rw [if_neg e1, if_neg (by omega), if_neg (by omega), if_pos e2] at hn; rw [hn] at h
    rw [if_neg e1, if_pos e2, if_neg (fun g => h.elim (fun q => absurd q (by omega)) (fun q => q g.2.1))]
  by_cases e3 : cc p = 114
  · rw [if_neg e1, if_neg (by omega), if_pos e3] at hn; rw [hn] at h
    rw [if_neg e1, if_neg e2, if_pos e3, if_neg (fun g => h.elim (fun q => absurd q (by omega)) (fun q => q g.1))]
  by_cases e4 : cc p = 108
  · rw [if_neg e1, if_pos e4] at hn; rw [hn] at h
    rw [if_neg e1, if_neg e2, if_neg e3, if_pos e4, if_neg (fun g => h.elim (fun q => absurd q (by omega)) (fun q => q g.1))]
  rw [if_neg e1, if_neg e2, if_neg e3, if_neg e4]
theorem TX.frT {G : HF} (h : TX F nx tx) (fr : FrT f F G) (hf : 4 ≤ f) : TX G nx tx := by
  unfold TX; rw [fr 1 (by omega) (by omega), fr 2 (by omega) (by omega)]; exact h
theorem s_X3_readInto {K : Int32 → HF → Prop} (h : TX F nx tx) (hf : 4 ≤ f)
    (k1 : ∀ G, FrT f F G → (qr (tc nx tx) nx (nx + 1) d00 0).2 = none → CF G f (qr (tc nx tx) nx (nx + 1) d00 0).1 → K (-4 : Int32) G)
    (k0 : ∀ G q, FrT f F G → q ≤ nx → (qr (tc nx tx) nx (nx + 1) d00 0).2 = some q → K (nI q) G) : wp_X3_readInto K F f := by
  have hn := h.1
  have main : ∀ n p (e : FD) (G : HF), 1 ≤ n → nx + 1 ≤ p + n → p ≤ nx + 13 → FrT f F G → CF G f e → OkF e →
      (∀ G, FrT f F G → (qr (tc nx tx) nx n e p).2 = none → CF G f (qr (tc nx tx) nx n e p).1 → K (-4 : Int32) G) →
      (∀ G q, FrT f F G → q ≤ nx → (qr (tc nx tx) nx n e p).2 = some q → K (nI q) G) → wp_X3_readInto_6 K f n G (nI p) := by
    intro n
    induction n with
    | zero => intro p e G h0; omega
    | succ n ih =>
      intro p e G h0 h1 h2 fr cG oe k1 k0
      have hG := h.frT fr hf
      unfold wp_X3_readInto_6
      rw [hG.2.1, nIle (by omega) (by omega)]
      have er : qr (tc nx tx) nx (n + 1) e p = if nx ≤ p then (e, none) else match qt (tc nx tx) e p with
        | none => (e, some p)
        | some (d2, p2) => qr (tc nx tx) nx n d2 p2 := rfl
      refine ⟨fun g => ?_, fun g => s_X3_readItem hG (by omega) (fun G1 f1 g1 => ?_) (fun G1 f1 g1 g2 g3 => ?_)⟩
      · rw [if_pos g] at er
        rw [er] at k1
        exact k1 G fr rfl cG
      · rw [if_neg g, qt_none g1] at er
        rw [er] at k0
        have m4 : (-4 : Int32) ≤ nI p := by
          rw [Int32.le_iff_toInt_le, m4_toInt, nI_toInt (by omega)]; omega
        exact ⟨fun _ => k0 G1 p (fr.tr (fun a x _ => f1 a (by simpa using x))) (by omega) rfl, fun x => absurd m4 x⟩
      · have fr1 : FrT f F G1 := fr.tr (fun a x _ => f1 a (by simpa using x))
        have hG1 := h.frT fr1 hf
        have ql := qs_lt (c := tc nx tx) (p := p + 1) (nbh (tc nx tx p))
        have qu := qs_le (c := tc nx tx) (p := p + 1) (nbh (tc nx tx p))
        have nb : nbh (tc nx tx p) ≤ 4 := nbh_le
        have cG1 : CF G1 f e := cG.fr f1 (fun a x y => by simp; omega)
        rw [nIle (by omega) (by omega)]
        refine ⟨fun x => absurd x (by omega), fun _ => s_X3_letterAt hG1 (by omega) (s_X1_take cG1 oe (tc_le h p) g2 g1 g3 (fun G2 d2 eq f2 c2 => ⟨fun _ => ?_, fun x => absurd x (by decide)⟩) (fun eq => ⟨fun x => absurd rfl x, fun _ => ?_⟩))⟩
        · rw [if_neg g, eq] at er
          rw [er] at k1 k0
          exact ih _ d2 G2 (by omega) (by omega) (by omega) (fr1.tr (fun a x y => f2 a (by omega))) c2 (qt_ok oe eq) k1 k0
        · rw [if_neg g, eq] at er
          rw [er] at k0
          exact k0 G1 p fr1 (by omega) rfl
  unfold wp_X3_readInto wp_X1_clear
  intro F1 e1 F2 e2 F3 e3 F4 e4 F5 e5
  have y0 : ∀ j, F5 f j = if j = 9 then nI 1 else if j = 8 then nI 12 else if j = 7 then nI 5 else if j = 6 then nI 0 else if j = 5 then nI 0 else F f j := fun j => by rw [e5, hup_at, e4, hup_at, e3, hup_at, e2, hup_at, e1, hup_at]
  have yo : ∀ a, a ≠ f → F5 a = F a := fun a p => by rw [e5, hup_n _ _ _ p, e4, hup_n _ _ _ p, e3, hup_n _ _ _ p, e2, hup_n _ _ _ p, e1, hup_n _ _ _ p]
  exact ⟨nx + 1, main (nx + 1) 0 d00 F5 (by omega) (by omega) (by omega) (fun a _ x => yo a (by omega)) ⟨y0 5, y0 6, y0 7, y0 8, y0 9, fun b hb => absurd hb (Nat.not_lt_zero b), fun b hb => absurd hb (Nat.not_lt_zero b), fun b hb => absurd hb (Nat.not_lt_zero b), fun b hb => absurd hb (Nat.not_lt_zero b), fun b hb => absurd hb (Nat.not_lt_zero b)⟩ ok_d00 k1 k0⟩
end Read2
