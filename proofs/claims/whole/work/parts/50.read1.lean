/-! ===== the text of a river, read ===== -/
def qf (c : Nat → Nat) (p : Nat) : Nat := if 48 ≤ c p ∧ c p ≤ 57 then (if 48 ≤ c (p + 1) ∧ c (p + 1) ≤ 57 then 2 else 1) else 0
def qn (c : Nat → Nat) (p : Nat) : Nat := if qf c p = 2 then (c p - 48) * 10 + (c (p + 1) - 48) else c p - 48
def qs (c : Nat → Nat) (p : Nat) : Nat → Nat
  | 0 => p
  | j + 1 => qs c p j + qf c (qs c p j) + 1
abbrev okn (c : Nat → Nat) (p k j : Nat) : Prop := qf c (qs c p j) ≠ 0 ∧ c (qs c p j + qf c (qs c p j)) = if j + 1 = k then 59 else 44
abbrev rok (c : Nat → Nat) (p k : Nat) : Prop := ∀ j, j < k → okn c p k j
def qv (c : Nat → Nat) (p j : Nat) : Nat := qn c (qs c p j)
def adB (d : FD) (s l k w : Nat) : FD := ((fB d + 1, fC d, fW d, fH d, fG d), (fun i => if i = fB d then s else fS d i), (fun i => if i = fB d then l else fL d i), (fun i => if i = fB d then k else fK d i), (fun i => if i = fB d then w else fD d i), fV d)
def adW (d : FD) (v : Nat) : FD := ((fB d, fC d + 1, fW d, fH d, fG d), fS d, fL d, fK d, fD d, fun i => if i = fC d then v else fV d i)
def stR (d : FD) (v : Nat) : FD := ((fB d, fC d, v, fH d, fG d), fS d, fL d, fK d, fD d, fV d)
def stL (d : FD) (v w : Nat) : FD := ((fB d, fC d, fW d, v, w), fS d, fL d, fK d, fD d, fV d)
def d00 : FD := ((0, 0, 5, 12, 1), (fun _ => 0), (fun _ => 0), (fun _ => 0), (fun _ => 0), fun _ => 0)
abbrev gdB (c : Nat → Nat) (d : FD) (p : Nat) : Prop := fB d < 8 ∧ rok c (p + 1) 4 ∧ 1 ≤ qv c (p + 1) 0 ∧ qv c (p + 1) 0 ≤ 60 ∧ 1 ≤ qv c (p + 1) 1 ∧ qv c (p + 1) 1 ≤ 3 ∧ qv c (p + 1) 2 ≤ 4 ∧ qv c (p + 1) 3 ≤ 40
abbrev gdW (c : Nat → Nat) (d : FD) (p : Nat) : Prop := fC d < 8 ∧ rok c (p + 1) 1 ∧ qv c (p + 1) 0 ≤ 20
abbrev gdR (c : Nat → Nat) (p : Nat) : Prop := rok c (p + 1) 1 ∧ 1 ≤ qv c (p + 1) 0 ∧ qv c (p + 1) 0 ≤ 9
abbrev gdL (c : Nat → Nat) (p : Nat) : Prop := rok c (p + 1) 2 ∧ 1 ≤ qv c (p + 1) 0 ∧ qv c (p + 1) 0 ≤ 40 ∧ qv c (p + 1) 1 ≤ 9
/-- the item at p, taken -/
def qt (c : Nat → Nat) (d : FD) (p : Nat) : Option (FD × Nat) :=
  if c p = 98 then (if gdB c d p then some (adB d (qv c (p + 1) 0) (qv c (p + 1) 1) (qv c (p + 1) 2) (qv c (p + 1) 3), qs c (p + 1) 4) else none)
  else if c p = 119 then (if gdW c d p then some (adW d (qv c (p + 1) 0), qs c (p + 1) 1) else none)
  else if c p = 114 then (if gdR c p then some (stR d (qv c (p + 1) 0), qs c (p + 1) 1) else none)
  else if c p = 108 then (if gdL c p then some (stL d (qv c (p + 1) 0) (qv c (p + 1) 1), qs c (p + 1) 2) else none)
  else none
def qr (c : Nat → Nat) (nx : Nat) : Nat → FD → Nat → FD × Option Nat
  | 0, d, p => (d, some p)
  | l + 1, d, p => if nx ≤ p then (d, none) else match qt c d p with
    | none => (d, some p)
    | some (d2, p2) => qr c nx l d2 p2
theorem qf_le {c : Nat → Nat} {p : Nat} : qf c p ≤ 2 := by unfold qf; split <;> (try split) <;> omega
theorem qn_le {c : Nat → Nat} {p : Nat} (h : qf c p ≠ 0) : qn c p ≤ 99 := by
  unfold qn
  by_cases g : 48 ≤ c p ∧ c p ≤ 57
  · by_cases g2 : 48 ≤ c (p + 1) ∧ c (p + 1) ≤ 57
    · have e : qf c p = 2 := by unfold qf; rw [if_pos g, if_pos g2]
      rw [if_pos e]; omega
    · have e : qf c p = 1 := by unfold qf; rw [if_pos g, if_neg g2]
      rw [if_neg (by omega)]; omega
  · exact absurd (show qf c p = 0 by unfold qf; rw [if_neg g]) h
theorem qs_lt {c : Nat → Nat} {p : Nat} : ∀ k, p + k ≤ qs c p k := by
  intro k
  induction k with
  | zero => exact Nat.le_refl _
  | succ k ih => show p + (k + 1) ≤ qs c p k + qf c (qs c p k) + 1; omega
theorem qs_mono {c : Nat → Nat} {p : Nat} {i : Nat} : ∀ k, i ≤ k → qs c p i ≤ qs c p k := by
  intro k
  induction k with
  | zero => intro h; have : i = 0 := by omega
            subst this; exact Nat.le_refl _
  | succ k ih =>
    intro h
    rcases Nat.lt_or_ge i (k + 1) with q | q
    · have := ih (by omega)
      show qs c p i ≤ qs c p k + qf c (qs c p k) + 1
      omega
    · have : i = k + 1 := by omega
      subst this; exact Nat.le_refl _
theorem qt_lt {c : Nat → Nat} {d d2 : FD} {p p2 : Nat} (h : qt c d p = some (d2, p2)) : p < p2 := by
  unfold qt at h
  have := qs_lt (c := c) (p := p + 1) 4
  have := qs_lt (c := c) (p := p + 1) 1
  have := qs_lt (c := c) (p := p + 1) 2
  split at h <;> (try split at h) <;> (try split at h) <;> (try split at h) <;> (try split at h) <;> simp at h <;> omega
theorem qt_ok {c : Nat → Nat} {d d2 : FD} {p p2 : Nat} (o' : OkF d) (h : qt c d p = some (d2, p2)) : OkF d2 := by
  obtain ⟨h1, h2, h3, h4, h5, h6, h7, h8, h9⟩ := o'
  unfold qt at h
  split at h
  · split at h
    · rename_i g
      simp only [Option.some.injEq, Prod.mk.injEq] at h
      obtain ⟨rfl, -⟩ := h
      obtain ⟨g1, g2, g3, g4, g5, g6, g7, g8⟩ := g
      refine ⟨g1, h2, h3, h4, h5, h6, h7, fun b hb => ?_, h9⟩
      have hb' : b < fB d + 1 := hb
      unfold OkB
      show 1 ≤ (if b = fB d then _ else fS d b) ∧ (if b = fB d then _ else fS d b) ≤ 60 ∧ 1 ≤ (if b = fB d then _ else fL d b) ∧ (if b = fB d then _ else fL d b) ≤ 3 ∧ (if b = fB d then _ else fK d b) ≤ 4 ∧ (if b = fB d then _ else fD d b) ≤ 40
      by_cases e : b = fB d
      · rw [if_pos e, if_pos e, if_pos e, if_pos e]; exact ⟨g3, g4, g5, g6, g7, g8⟩
      · rw [if_neg e, if_neg e, if_neg e, if_neg e]; exact h8 b (by omega)
    · exact absurd h (by simp)
  · split at h
    · split at h
      · rename_i g
        simp only [Option.some.injEq, Prod.mk.injEq] at h
        obtain ⟨rfl, -⟩ := h
        obtain ⟨g1, g2, g3⟩ := g
        refine ⟨h1, g1, h3, h4, h5, h6, h7, h8, fun i hi => ?_⟩
        have hi' : i < fC d + 1 := hi
        show (if i = fC d then _ else fV d i) ≤ 20
        by_cases e : i = fC d
        · rw [if_pos e]; exact g3
        · rw [if_neg e]; exact h9 i (by omega)
      · exact absurd h (by simp)
    · split at h
      · split at h
        · rename_i g
          simp only [Option.some.injEq, Prod.mk.injEq] at h
          obtain ⟨rfl, -⟩ := h
          exact ⟨h1, h2, g.2.1, g.2.2, h5, h6, h7, h8, h9⟩
        · exact absurd h (by simp)
      · split at h
        · split at h
          · rename_i g
            simp only [Option.some.injEq, Prod.mk.injEq] at h
            obtain ⟨rfl, -⟩ := h
            exact ⟨h1, h2, h3, h4, g.2.1, g.2.2.1, g.2.2.2, h8, h9⟩
          · exact absurd h (by simp)
        · exact absurd h (by simp)
theorem qr_ok {c : Nat → Nat} {nx : Nat} : ∀ l d p, OkF d → OkF (qr c nx l d p).1 := by
  intro l
  induction l with
  | zero => intro d p h; exact h
  | succ l ih =>
    intro d p h
    unfold qr
    split
    · exact h
    · split
      · exact h
      · rename_i e
        exact ih _ _ (qt_ok h e)
theorem ok_d00 : OkF d00 := ⟨by decide, by decide, by decide, by decide, by decide, by decide, by decide, fun b hb => absurd hb (by show ¬ b < 0; omega), fun b hb => absurd hb (by show ¬ b < 0; omega)⟩
def tc (nx : Nat) (tx : Nat → Nat) : Nat → Nat := fun i => if i < nx then tx i else 0
/-! ===== the class reads ===== -/
def TX (F : HF) (nx : Nat) (tx : Nat → Nat) : Prop := nx ≤ 200 ∧ F 1 2 = nI nx ∧ ∀ i, i < nx → 32 ≤ tx i ∧ tx i ≤ 126 ∧ F 2 i = nI (tx i)
section Read1
variable {F : HF} {nx : Nat} {tx : Nat → Nat}
theorem TX.fr {G : HF} {L : List Nat} (h : TX F nx tx) (f : FrL L F G) (h1 : 1 ∉ L) (h2 : 2 ∉ L) : TX G nx tx := by
  unfold TX; rw [f 1 h1, f 2 h2]; exact h
theorem nar_c {x : Nat} (h : x ≤ 126) : narrow .char (.int (nI x)) = .int (nI x) := by
  have : ∀ y : Fin 127, narrow .char (.int (nI y.1)) = .int (nI y.1) := by decide
  exact this ⟨x, by omega⟩
theorem tc_le (h : TX F nx tx) (p : Nat) : tc nx tx p ≤ 126 := by
  unfold tc; split
  · rename_i g; exact (h.2.2 p g).2.1
  · omega
theorem tc_in (p : Nat) (h : tc nx tx p ≠ 0) : p < nx := by
  unfold tc at h; split at h
  · assumption
  · exact absurd rfl h
theorem s_X3_letterAt {K : Int32 → HF → Prop} {p : Nat} (h : TX F nx tx) (hp : p < 2 ^ 20) (k : K (nI (tc nx tx p)) F) : wp_X3_letterAt K F (nI p) := by
  have h1 := h.1
  unfold wp_X3_letterAt
  rw [h.2.1, nIle (a := nx) (b := p) (by omega) (by omega), nIle (a := 200) (b := p) (by omega) (by omega), nIcl (by omega)]
  refine ⟨fun x => absurd x (nI_pos (by omega)), fun _ => ⟨fun x => ⟨nar_c (by omega), ?_⟩, fun x => ⟨fun y => by omega, fun _ => ⟨vin (by omega) (by omega), ?_⟩⟩⟩⟩
  · have e : tc nx tx p = 0 := if_neg (by omega)
    rw [e] at k; exact k
  · have e : tc nx tx p = tx p := if_pos (by omega)
    have t := h.2.2 p (by omega)
    rw [t.2.2]
    rw [e] at k
    exact ⟨nar_c t.2.1, k⟩
theorem s_X3_isFigure {K : Int32 → HF → Prop} {x : Nat} (hx : x ≤ 126) (k1 : 48 ≤ x ∧ x ≤ 57 → K (nI 1) F) (k0 : ¬ (48 ≤ x ∧ x ≤ 57) → K (nI 0) F) : wp_X3_isFigure K F (nI x) := by
  unfold wp_X3_isFigure
  rw [nIlt (by omega) (by omega), nIlt (by omega) (by omega)]
  exact ⟨fun g => k0 (by omega), fun g => ⟨fun g2 => k0 (by omega), fun g2 => k1 (by omega)⟩⟩
theorem s_X3_figuresFrom {K : Int32 → HF → Prop} {p : Nat} (h : TX F nx tx) (hp : p < 2 ^ 19) (k : K (nI (qf (tc nx tx) p)) F) : wp_X3_figuresFrom K F (nI p) := by
  unfold wp_X3_figuresFrom
  rw [nI_add]
  refine s_X3_letterAt h (by omega) (s_X3_isFigure (tc_le h p) (fun g => ⟨fun _ => s_X3_letterAt h (by omega) (s_X3_isFigure (tc_le h _) (fun g2 => ⟨fun e => absurd e (by decide), fun _ => ?_⟩) (fun g2 => ⟨fun _ => ?_, fun e => absurd rfl e⟩)), fun e => absurd e (by decide)⟩) (fun g => ⟨fun e => absurd rfl e, fun _ => ?_⟩))
  · have e : qf (tc nx tx) p = 2 := by unfold qf; rw [if_pos g, if_pos g2]
    rw [e] at k; exact k
  · have e : qf (tc nx tx) p = 1 := by unfold qf; rw [if_pos g, if_neg g2]
    rw [e] at k; exact k
  · have e : qf (tc nx tx) p = 0 := by unfold qf; rw [if_neg g]
    rw [e] at k; exact k
theorem s_X3_numberAt {K : Int32 → HF → Prop} {p : Nat} (h : TX F nx tx) (hp : p < 2 ^ 19) (hn : qf (tc nx tx) p ≠ 0) (k : K (nI (qn (tc nx tx) p)) F) : wp_X3_numberAt K F (nI p) (nI (qf (tc nx tx) p)) := by
  have hl := qf_le (c := tc nx tx) (p := p)
  have g1 : 48 ≤ tc nx tx p ∧ tc nx tx p ≤ 57 := by
    unfold qf at hn; split at hn
    · assumption
    · exact absurd rfl hn
  refine ⟨3, ?_⟩
  unfold wp_X3_numberAt_5
  refine ⟨fun g => ?_, fun _ => ?_⟩
  · rw [nIle (by omega) (by omega)] at g; omega
  simp only [nI_add]
  refine s_X3_letterAt (p := p + 0) h (by omega) ?_
  have e0 : nI 0 * nI 10 + (nI (tc nx tx (p + 0)) - nI 48) = nI (tc nx tx p - 48) := by
    rw [nIsub (by show 48 ≤ tc nx tx p; omega), pk_mul, nI_add]
    show nI (0 + (tc nx tx p - 48)) = _
    rw [Nat.zero_add]
  rw [e0]
  unfold wp_X3_numberAt_5
  rw [nIle (by omega) (by omega)]
  refine ⟨fun g => ?_, fun g => ?_⟩
  · have e : qf (tc nx tx) p = 1 := by omega
    have e2 : qn (tc nx tx) p = tc nx tx p - 48 := by unfold qn; rw [if_neg (by omega)]
    rw [e2] at k; exact k
  have e : qf (tc nx tx) p = 2 := by omega
  have g2 : 48 ≤ tc nx tx (p + 1) ∧ tc nx tx (p + 1) ≤ 57 := by
    unfold qf at e; rw [if_pos g1] at e; split at e
    · assumption
    · exact absurd e (by decide)
  simp only [nI_add]
  refine s_X3_letterAt (p := p + (0 + 1)) h (by omega) ?_
  show wp_X3_numberAt_5 K _ F _ _ (nI (tc nx tx p - 48) * nI 10 + (nI (tc nx tx (p + 1)) - nI 48)) _
  rw [nIsub (by omega), pk_mul, nI_add]
  unfold wp_X3_numberAt_5
  rw [nIle (by omega) (by omega)]
  refine ⟨fun _ => ?_, fun g => absurd (by omega) g⟩
  have e2 : qn (tc nx tx) p = (tc nx tx p - 48) * 10 + (tc nx tx (p + 1) - 48) := by unfold qn; rw [if_pos e]
  rw [e2] at k; exact k
end Read1
