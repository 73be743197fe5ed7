/-! ===== the reference reads ===== -/
def TM (F : HF) (nx : Nat) (tx : Nat → Nat) : Prop := nx ≤ 200 ∧ F 100 0 = nI nx ∧ ∀ i, i < nx → 32 ≤ tx i ∧ tx i ≤ 126 ∧ F 101 i = nI (tx i)
def Fr7 (F G : HF) : Prop := (∀ a, a ≠ 100 → a ≠ 103 → G a = F a) ∧ ∀ j, j ≠ 2 → j ≠ 4 → G 100 j = F 100 j
theorem Fr7.rf {F : HF} : Fr7 F F := ⟨fun _ _ _ => rfl, fun _ _ _ => rfl⟩
theorem Fr7.tr {F G H : HF} (h : Fr7 F G) (g : Fr7 G H) : Fr7 F H := ⟨fun a x y => (g.1 a x y).trans (h.1 a x y), fun j x y => (g.2 j x y).trans (h.2 j x y)⟩
theorem Fr7.u2 {F : HF} {v : Int32} : Fr7 F (hup F 100 2 v) := ⟨fun a x _ => hup_n _ _ _ x, fun j x _ => by rw [hup_at, if_neg x]⟩
theorem Fr7.u4 {F : HF} {v : Int32} : Fr7 F (hup F 100 4 v) := ⟨fun a x _ => hup_n _ _ _ x, fun j _ x => by rw [hup_at, if_neg x]⟩
theorem Fr7.u103 {F : HF} {j : Nat} {v : Int32} : Fr7 F (hup F 103 j v) := ⟨fun a _ x => hup_n _ _ _ x, fun j _ _ => by rw [hup_n _ _ _ (by omega)]⟩
section Read3
variable {F : HF} {nx : Nat} {tx : Nat → Nat}
theorem TM.fr {G : HF} (h : TM F nx tx) (f : Fr7 F G) : TM G nx tx := by
  unfold TM; rw [f.2 0 (by omega) (by omega), f.1 101 (by omega) (by omega)]; exact h
theorem TM.le (h : TM F nx tx) (p : Nat) : tc nx tx p ≤ 126 := by
  unfold tc; split
  · rename_i g; exact (h.2.2 p g).2.1
  · omega
theorem s_X7_letterAt {K : Int32 → HF → Prop} {p : Nat} (h : TM F nx tx) (hp : p < 2 ^ 20) (k1 : p < nx → K (nI (tc nx tx p)) F) (k0 : ¬ p < nx → tc nx tx p = 0 → K (-1 : Int32) F) : wp_X7_letterAt K F (nI p) := by
  have h1 := h.1
  unfold wp_X7_letterAt
  rw [h.2.1, nIle (a := nx) (b := p) (by omega) (by omega), nIcl (by omega)]
  refine ⟨fun x => k0 (by omega) (if_neg (by omega)), fun x => ⟨vin (by omega) (by omega), ?_⟩⟩
  have k := k1 (by omega)
  have e : tc nx tx p = tx p := if_pos (by omega)
  rw [e] at k
  rw [(h.2.2 p (by omega)).2.2]; exact k
theorem s_X7_isFig {K : Int32 → HF → Prop} {p : Nat} (h : TM F nx tx) (hp : p < 2 ^ 20) (k1 : (48 ≤ tc nx tx p ∧ tc nx tx p ≤ 57) → K (nI 1) F) (k0 : ¬ (48 ≤ tc nx tx p ∧ tc nx tx p ≤ 57) → K (nI 0) F) : wp_X7_letterAt (fun x F1 => wp_X7_in K F1 x (nI 48) (nI 57)) F (nI p) := by
  have hl := h.le p
  refine s_X7_letterAt h hp (fun g => ?_) (fun g e => ?_)
  · refine s_in (fun x => k1 ?_) (fun x => k0 (fun y => x ?_))
    · rw [nIlt (by omega) (by omega), nIlt (by omega) (by omega)] at x; omega
    · rw [nIlt (by omega) (by omega), nIlt (by omega) (by omega)]; omega
  · exact s_in_bad (Or.inl (by decide)) (k0 (by omega))
theorem s_X7_isRow_78 {K : Int32 → HF → Prop} {L5 : HF → Int32 → Prop} {m j q : Nat} (h : TM F nx tx) (hm : m ≤ 4) (hj : j < m) (hq : q < 2 ^ 18) (hf : qf (tc nx tx) q ≠ 0) (e2 : F 100 2 = nI (q + qf (tc nx tx) q)) (e4 : F 100 4 = nI j)
    (k0 : tc nx tx (q + qf (tc nx tx) q) ≠ (if j + 1 = m then 59 else 44) → K (nI 0) F)
    (k1 : tc nx tx (q + qf (tc nx tx) q) = (if j + 1 = m then 59 else 44) → ∀ G, Fr7 F G → G 100 2 = nI (q + qf (tc nx tx) q + 1) → G 100 4 = nI (j + 1) → (∀ i, G 103 i = if i = j then nI (qn (tc nx tx) q) else F 103 i) → L5 G (nI m)) : wp_X7_isRow_78 K L5 F (nI m) (nI (qn (tc nx tx) q)) (nI q) := by
  have hf2 := qf_le (c := tc nx tx) (p := q)
  have hl := h.le (q + qf (tc nx tx) q)
  have fin : ∀ (s : Nat) (x : Int32), s = (if j + 1 = m then 59 else 44) → s ≤ 126 → (x = nI s ↔ tc nx tx (q + qf (tc nx tx) q) = s) → wp_X7_isRow_111 K L5 F (nI m) (nI (qn (tc nx tx) q)) x (nI s) := by
    intro s x es hs hx
    unfold wp_X7_isRow_111
    refine ⟨fun e F1 e1 => ?_, fun e => k0 (fun y => e (hx.mpr (y.trans es.symm)))⟩
    rw [e2, nI_add] at e1
    have x4 : F1 100 4 = nI j := by rw [e1, hup_at, if_neg (by omega), e4]
    rw [x4, nIcl (by omega)]
    refine ⟨vin (by omega) (by omega), fun F2 e2' F3 e3 => ?_⟩
    have x4' : F2 100 4 = nI j := by rw [e2', hup_n _ _ _ (by omega), x4]
    rw [x4', nI_add] at e3
    refine k1 ((hx.mp e).trans es) F3 ?_ ?_ ?_ ?_
    · rw [e3]; refine Fr7.tr ?_ Fr7.u4
      rw [e2']; refine Fr7.tr ?_ Fr7.u103
      rw [e1]; exact Fr7.u2
    · rw [e3, hup_at, if_neg (by omega), e2', hup_n _ _ _ (by omega), e1, hup_at, if_pos rfl]
    · rw [e3, hup_at, if_pos rfl]
    · intro i
      rw [e3, hup_n _ _ _ (by omega), e2', hup_at, e1, hup_n _ _ _ (by omega)]
  unfold wp_X7_isRow_78
  rw [e2, nIe (by omega) (by omega)]
  refine ⟨fun e => absurd e (by omega), fun _ => ?_⟩
  refine s_X7_letterAt h (by omega) (fun g => ?_) (fun g e => ?_)
  · rw [e4, nIsub (by omega), nIe (by omega) (by omega)]
    exact ⟨fun x => fin 44 _ (by rw [if_neg (by omega)]) (by omega) (by rw [nIe (by omega) (by omega)]), fun x => fin 59 _ (by rw [if_pos (by omega)]) (by omega) (by rw [nIe (by omega) (by omega)])⟩
  · rw [e4, nIsub (by omega), nIe (by omega) (by omega)]
    exact ⟨fun x => fin 44 _ (by rw [if_neg (by omega)]) (by omega) (by rw [e]; decide), fun x => fin 59 _ (by rw [if_pos (by omega)]) (by omega) (by rw [e]; decide)⟩
theorem s_X7_isRow {K : Int32 → HF → Prop} {m p : Nat} (h : TM F nx tx) (hm : m ≤ 4) (hp : p < 2 ^ 17) (e2 : F 100 2 = nI p)
    (k0 : ∀ G, Fr7 F G → ¬ rok (tc nx tx) p m → K (nI 0) G)
    (k1 : ∀ G, Fr7 F G → rok (tc nx tx) p m → G 100 2 = nI (qs (tc nx tx) p m) → (∀ i, i < m → G 103 i = nI (qv (tc nx tx) p i)) → K (nI 1) G) : wp_X7_isRow K F (nI m) := by
  have main : ∀ n j (G : HF), m + 1 ≤ j + n → j ≤ m → Fr7 F G → (∀ i, i < j → okn (tc nx tx) p m i) → (∀ i, i < j → G 103 i = nI (qv (tc nx tx) p i)) → G 100 4 = nI j → G 100 2 = nI (qs (tc nx tx) p j) → wp_X7_isRow_5 K n G (nI m) := by
    intro n
    induction n with
    | zero => intro j G h1 h2; omega
    | succ n ih =>
      intro j G h1 h2 fr ho hv x4 x2
      have hq := qs_le (c := tc nx tx) (p := p) j
      have hG := h.fr fr
      unfold wp_X7_isRow_5
      rw [x4, x2, nIle (by omega) (by omega)]
      refine ⟨fun g => ?_, fun g => ⟨3, ?_⟩⟩
      · have : j = m := by omega
        subst this
        exact k1 G fr (fun i hi => ho i hi) x2 hv
      have nx1 : ∀ G1 : HF, Fr7 F G1 → (∀ i, G1 103 i = G 103 i) → qf (tc nx tx) (qs (tc nx tx) p j) ≠ 0 → G1 100 4 = nI j → G1 100 2 = nI (qs (tc nx tx) p j + qf (tc nx tx) (qs (tc nx tx) p j)) → wp_X7_isRow_78 K (wp_X7_isRow_5 K n) G1 (nI m) (nI (qn (tc nx tx) (qs (tc nx tx) p j))) (nI (qs (tc nx tx) p j)) := by
        intro G1 fr1 h3 hf y4 y2
        refine s_X7_isRow_78 (h.fr fr1) hm (by omega) (by omega) hf y2 y4 (fun e => k0 G1 fr1 (fun r => e (r j (by omega)).2)) (fun e G2 f2 z2 z4 z3 => ?_)
        refine ih (j + 1) G2 (by omega) (by omega) (fr1.tr f2) (fun i hi => ?_) (fun i hi => ?_) z4 z2
        · rcases Nat.lt_or_ge i j with g | g
          · exact ho i g
          · have : i = j := by omega
            subst this
            exact ⟨hf, e⟩
        · rw [z3]
          by_cases g : i = j
          · rw [if_pos g, g]; rfl
          · rw [if_neg g, h3]; exact hv i (by omega)
      generalize eq : qs (tc nx tx) p j = q at hq x2 nx1 ⊢
      have hl := h.le q
      have hl1 := h.le (q + 1)
      unfold wp_X7_isRow_20
      rw [x2, nI_add, nIle (by omega) (by omega)]
      refine ⟨fun x => absurd x (by omega), fun _ => s_X7_isFig hG (by omega) (fun g1 => ?_) (fun g1 => ?_)⟩
      · refine ⟨fun x => absurd x (by decide), fun _ => ?_⟩
        rw [x2]
        refine s_X7_letterAt hG (by omega) (fun g2 => ?_) (fun g2 e => by omega)
        intro G1 e1
        rw [x2, nI_add] at e1
        have f1 : Fr7 F G1 := by rw [e1]; exact fr.tr Fr7.u2
        have a1 : G1 100 2 = nI (q + 1) := by rw [e1, hup_at, if_pos rfl]
        have a4 : G1 100 4 = nI j := by rw [e1, hup_at, if_neg (by omega), x4]
        have a3 : ∀ i, G1 103 i = G 103 i := fun i => by rw [e1, hup_n _ _ _ (by omega)]
        have ev : nI 10 * nI 0 + nI (tc nx tx q) - nI 48 = nI (tc nx tx q - 48) := by
          rw [pk_mul, nI_add, nIsub (by omega)]
          show nI (0 + tc nx tx q - 48) = _
          rw [Nat.zero_add]
        rw [ev]
        unfold wp_X7_isRow_20
        rw [a1, nI_add, nIle (by omega) (by omega)]
        refine ⟨fun x => absurd x (by omega), fun _ => s_X7_isFig (h.fr f1) (by omega) (fun g3 => ?_) (fun g3 => ?_)⟩
        · refine ⟨fun x => absurd x (by decide), fun _ => ?_⟩
          rw [a1]
          refine s_X7_letterAt (h.fr f1) (by omega) (fun g4 => ?_) (fun g4 e => by omega)
          intro G2 e2'
          rw [a1, nI_add] at e2'
          have f2 : Fr7 F G2 := by rw [e2']; exact f1.tr Fr7.u2
          have b1 : G2 100 2 = nI (q + 2) := by rw [e2', hup_at, if_pos rfl]
          have b4 : G2 100 4 = nI j := by rw [e2', hup_at, if_neg (by omega), a4]
          have b3 : ∀ i, G2 103 i = G 103 i := fun i => by rw [e2', hup_n _ _ _ (by omega), a3]
          have ef : qf (tc nx tx) q = 2 := by unfold qf; rw [if_pos g1, if_pos g3]
          have en : qn (tc nx tx) q = (tc nx tx q - 48) * 10 + (tc nx tx (q + 1) - 48) := by unfold qn; rw [if_pos ef]
          have ev2 : nI 10 * nI (tc nx tx q - 48) + nI (tc nx tx (q + 1)) - nI 48 = nI (qn (tc nx tx) q) := by
            rw [pk_mul, nI_add, nIsub (by omega), en]
            congr 1; omega
          rw [ev2]
          unfold wp_X7_isRow_20
          rw [b1, nI_add, nIle (by omega) (by omega)]
          refine ⟨fun _ => nx1 G2 f2 b3 (by omega) b4 (by rw [ef]; exact b1), fun x => absurd (Nat.le_refl _) x⟩
        · refine ⟨fun _ => ?_, fun x => absurd rfl x⟩
          have ef : qf (tc nx tx) q = 1 := by unfold qf; rw [if_pos g1, if_neg g3]
          have en : qn (tc nx tx) q = tc nx tx q - 48 := by unfold qn; rw [if_neg (by omega)]
          have := nx1 G1 f1 a3 (by omega) a4 (by rw [ef]; exact a1)
          rw [en] at this
          exact this
      · refine ⟨fun _ => ?_, fun x => absurd rfl x⟩
        unfold wp_X7_isRow_78
        rw [x2]
        refine ⟨fun _ => k0 G fr (fun r => (r j (by omega)).1 ?_), fun x => absurd rfl x⟩
        rw [eq]; unfold qf; rw [if_neg g1]
  unfold wp_X7_isRow
  intro F1 e1
  exact ⟨m + 1, main _ 0 F1 (by omega) (by omega) (by rw [e1]; exact Fr7.u4) (fun i hi => absurd hi (by omega)) (fun i hi => absurd hi (by omega)) (by rw [e1, hup_at, if_pos rfl]) (by rw [e1, hup_at, if_neg (by omega)]; exact e2)⟩
end Read3
