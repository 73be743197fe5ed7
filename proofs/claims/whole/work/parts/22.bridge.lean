/-! ===== what is borne, power, tiredness ===== -/
def FrL (L : List Nat) (F G : HF) : Prop := ∀ a, a ∉ L → G a = F a
theorem FrL.rf {L : List Nat} {F : HF} : FrL L F F := fun _ _ => rfl
theorem FrL.tr {L : List Nat} {F G H : HF} (h : FrL L F G) (g : FrL L G H) : FrL L F H := fun a ha => (g a ha).trans (h a ha)
theorem FrL.mono {L M : List Nat} {F G : HF} (h : FrL L F G) (s : ∀ a, a ∈ L → a ∈ M) : FrL M F G := fun a ha => h a (fun q => ha (s a q))
theorem FrL.up {L : List Nat} {F : HF} {k j : Nat} {v : Int32} (h : k ∈ L) : FrL L F (hup F k j v) := fun a ha => hup_n F j v (fun e => ha (e ▸ h))
theorem FrL.st {L : List Nat} {F : HF} {k : Nat} {f : Nat → Int32} (h : k ∈ L) : FrL L F (hst F k f) := fun a ha => hst_n F f (fun e => ha (e ▸ h))
def hol (d : FD) (o : Nat → Nat) (p : Nat) : Nat → Nat
  | 0 => 0
  | z + 1 => if p < lsum d o z then hol d o p z else z
theorem hol_spec {d : FD} {o : Nat → Nat} {p : Nat} : ∀ z, p < lsum d o z → hol d o p z < z ∧ lsum d o (hol d o p z) ≤ p ∧ p < lsum d o (hol d o p z + 1) := by
  intro z
  induction z with
  | zero => intro h; exact absurd h (Nat.not_lt_zero _)
  | succ z ih =>
    intro h
    unfold hol
    split
    · rename_i g
      have := ih g
      exact ⟨by omega, this.2⟩
    · exact ⟨by omega, by omega, h⟩
theorem hol_uniq {d : FD} {o : Nat → Nat} {p z i : Nat} (h : p < lsum d o z) (h1 : lsum d o i ≤ p) (h2 : p < lsum d o (i + 1)) : i = hol d o p z := by
  obtain ⟨-, g1, g2⟩ := hol_spec z h
  rcases Nat.lt_trichotomy i (hol d o p z) with q | q | q
  · have := lsum_mono (d := d) (o := o) (i := i + 1) (hol d o p z) (by omega)
    omega
  · exact q
  · have := lsum_mono (d := d) (o := o) (i := hol d o p z + 1) i (by omega)
    omega
def dist (a b : Nat) : Nat := if b ≤ a then a - b else b - a
def part (n L : Nat) : Nat := if n = 0 then L else if n = 1 then L / 2 else if n = 2 then L / 4 else 0
theorem part_le (n L : Nat) : part n L ≤ L := by
  unfold part
  split
  · omega
  · split
    · omega
    · split <;> omega
def pw (d : FD) (z : Nat) (o t : Nat → Nat) (k : Nat) : Nat :=
  if fK d (o k) = 1 ∧ 0 < k ∧ k + 1 < z then (fS d (o k) - t (o k)) / 2
  else if fK d (o k) = 4 ∧ ((0 < k ∧ fK d (o (k - 1)) = 4) ∨ (k + 1 < z ∧ fK d (o (k + 1)) = 4)) then fS d (o k) - t (o k) + 5
  else fS d (o k) - t (o k)
def inc (d : FD) (b x : Nat) : Nat := if fK d b = 2 then 2 * (x / 8) else x / 8
def tir (d : FD) (o w : Nat → Nat) : Nat → (Nat → Nat) → (Nat → Nat)
  | 0, t => t
  | k + 1, t => fun b => if b = o k then tir d o w k t b + inc d b (w k) else tir d o w k t b
theorem abs_dist {a b : Nat} (ha : a < 2 ^ 30) (hb : b < 2 ^ 30) : (if nI 0 ≤ nI a - nI b then nI a - nI b else nI 0 - (nI a - nI b)) = nI (dist a b) := by
  unfold dist
  by_cases h : b ≤ a
  · rw [if_pos h, nIsub h, if_pos (nI_le (by omega) (by omega))]
  · rw [if_neg h, if_neg]
    · have e : nI 0 - (nI a - nI b) = nI b - nI a := by
        show (0 : Int32) - (nI a - nI b) = nI b - nI a
        rw [Int32.zero_sub, Int32.neg_sub]
      rw [e, nIsub (by omega)]
    · intro q
      have := pk_sneg hb (show a < b by omega)
      rw [Int32.lt_iff_toInt_lt] at this
      rw [Int32.le_iff_toInt_le] at q
      have z0 : (nI 0).toInt = 0 := by decide
      have z1 : (0 : Int32).toInt = 0 := by decide
      omega
theorem pigeon : ∀ (n : Nat) (o : Nat → Nat), (∀ k, k < n → o k < n) → (∀ i j, i < n → j < n → o i = o j → i = j) → ∀ x, x < n → ∃ k, k < n ∧ o k = x := by
  intro n
  induction n with
  | zero => intro o _ _ x hx; omega
  | succ n ih =>
    intro o h1 h2 x hx
    -- the value n is taken at most once; swap it away
    let g : Nat → Nat := fun k => if o k = n then o n else o k
    have hg1 : ∀ k, k < n → g k < n := by
      intro k hk
      show (if o k = n then o n else o k) < n
      split
      · rename_i e
        have := h1 n (by omega)
        have : o n ≠ n := fun e2 => by have := h2 k n (by omega) (by omega) (e.trans e2.symm); omega
        omega
      · have := h1 k (by omega); omega
    have hg2 : ∀ i j, i < n → j < n → g i = g j → i = j := by
      intro i j hi hj e
      have e : (if o i = n then o n else o i) = (if o j = n then o n else o j) := e
      split at e
      · split at e
        · rename_i a b; exact h2 i j (by omega) (by omega) (a.trans b.symm)
        · have := h2 n j (by omega) (by omega) e; omega
      · split at e
        · have := h2 i n (by omega) (by omega) e; omega
        · exact h2 i j (by omega) (by omega) e
    by_cases hxn : x = n
    · subst hxn
      -- if x is not hit, o maps all n+1 into n
      by_cases hn : o x = x
      · exact ⟨x, by omega, hn⟩
      · obtain ⟨k, hk, e⟩ := ih g hg1 hg2 (o x) (by have := h1 x (by omega); omega)
        have e : (if o k = x then o x else o k) = o x := e
        split at e
        · rename_i a; exact ⟨k, by omega, a⟩
        · have := h2 k x (by omega) (by omega) e; omega
    · obtain ⟨k, hk, e⟩ := ih g hg1 hg2 x (by omega)
      have e : (if o k = n then o n else o k) = x := e
      split at e
      · exact ⟨n, by omega, e⟩
      · exact ⟨k, by omega, e⟩
/-- who may join -/
def mj (d : FD) (z : Nat) (o : Nat → Nat) (x : Nat) : Prop := lsum d o z < fW d ∧ (∀ i, i < z → o i ≠ x) ∧ (z = 0 → fK d x = 1 ∨ ¬ ∃ b, b < fB d ∧ fK d b = 1) ∧ (0 < z → fK d x ≠ 3 ∨ fK d (o (z - 1)) ≠ 3)
section BridgeT
variable {F : HF} {b : Nat} {d : FD} {z : Nat} {o t w : Nat → Nat}
theorem s_X0_mayJoin {K : Int32 → HF → Prop} (c : CF F 4 d) (o' : OkF d) (h : CB F b z o t) (hw : WfB d z o) {x : Nat} (hx : x < fB d) (k1 : mj d z o x → K (nI 1) F) (k0 : ¬ mj d z o x → K (nI 0) F) : wp_X0_mayJoin K F b (nI x) := by
  have h8 := hw.1
  have hB := o'.1
  have hkx := (o'.2.2.2.2.2.2.2.1 x hx).2.2.2.2.1
  unfold wp_X0_mayJoin
  simp (disch := omega) only [h.1, nIle]
  refine ⟨fun q => k0 ?_, fun q => ?_⟩
  · intro m
    have e8 : z = 8 := by omega
    subst e8
    obtain ⟨k, hk, e⟩ := pigeon 8 o (fun k hk => Nat.lt_of_lt_of_le (hw.2.1 k hk) hB) hw.2.2 x (by omega)
    exact m.2.1 k hk e
  refine s_X0_isWhole c o' h hw (fun q1 => ?_) (fun q1 => ?_)
  · refine ⟨fun _ => k0 (fun m => ?_), fun e => absurd e (by decide)⟩
    have := m.1; omega
  refine ⟨fun e => absurd rfl e, fun _ => ?_⟩
  refine s_X0_positionOf h hw o' (by omega) (fun i hi e => ?_) (fun q2 => ?_)
  · refine ⟨fun e => ?_, fun _ => k0 (fun m => m.2.1 i hi e)⟩
    rw [nI_ne_m4 (by omega)] at e; exact e.elim
  refine ⟨fun _ => ?_, fun e => absurd rfl e⟩
  refine s_X1_kindOf c o' hx ?_
  simp (disch := omega) only [h.1, nIe]
  refine ⟨fun q3 => ⟨fun q4 => k1 ⟨q1, q2, fun e => absurd e q3, fun _ => Or.inl q4⟩, fun q4 => ?_⟩, fun q3 => ⟨fun q4 => k1 ⟨q1, q2, fun _ => Or.inl q4, fun e => absurd e (by omega)⟩, fun q4 => ?_⟩⟩
  · rw [nIsub (by omega)]
    refine s_X0_kindAt c o' h hw (by omega) ?_
    have hk2 := (o'.2.2.2.2.2.2.2.1 _ (hw.2.1 (z - 1) (by omega))).2.2.2.2.1
    simp (disch := omega) only [nIe]
    refine ⟨fun q5 => k0 (fun m => ?_), fun q5 => k1 ⟨q1, q2, fun e => absurd e q3, fun _ => Or.inr q5⟩⟩
    rcases m.2.2.2 (by omega) with g | g
    · exact g q4
    · exact g q5
  · refine s_X1_hasCrow c o' (fun q5 => ?_) (fun q5 => ?_)
    · refine ⟨fun _ => k0 (fun m => ?_), fun e => absurd e (by decide)⟩
      rcases m.2.2.1 q3 with g | g
      · exact q4 g
      · exact g q5
    · exact ⟨fun e => absurd rfl e, fun _ => k1 ⟨q1, q2, fun _ => Or.inr q5, fun e => absurd e (by omega)⟩⟩
/-- what is left of a bird's strength, as power -/
def pwq (kd l am bp : Nat) : Nat := if kd = 1 ∧ am = 1 then l / 2 else if kd = 4 ∧ bp = 1 then l + 5 else l
theorem s_X0_powerOf {K : Int32 → HF → Prop} {kd l am bp : Nat} (hk : kd ≤ 4) (hl : l < 2 ^ 20) (ha : am ≤ 1) (hb : bp ≤ 1) (k : K (nI (pwq kd l am bp)) F) : wp_X0_powerOf K F (nI kd) (nI l) (nI am) (nI bp) := by
  unfold pwq at k
  have s13 : ¬ (kd = 1 ∧ am = 1) → wp_X0_powerOf_13 K F (nI kd) (nI l) (nI bp) := by
    intro hn
    rw [if_neg hn] at k
    unfold wp_X0_powerOf_13
    simp (disch := omega) only [nIe, nI_add]
    refine ⟨fun q => ?_, fun q => ⟨fun q2 => ?_, fun q2 => ?_⟩⟩
    · rw [if_neg (fun m => q m.1)] at k; exact k
    · rw [if_neg (fun m => by omega)] at k; exact k
    · rw [if_pos ⟨q, by omega⟩] at k; exact k
  unfold wp_X0_powerOf
  rw [nIdiv (by omega) (by omega) (by omega)]
  simp (disch := omega) only [nIe]
  refine ⟨fun q => s13 (fun m => q m.1), fun q => ⟨fun q2 => s13 (fun m => by omega), fun q2 => ?_⟩⟩
  rw [if_pos ⟨q, by omega⟩] at k; exact k
theorem s_X0_partOf {K : Int32 → HF → Prop} {L n : Nat} (hL : L < 2 ^ 31) (hn : n < 2 ^ 31) (k : K (nI (part n L)) F) : wp_X0_partOf K F (nI L) (nI n) := by
  unfold part at k
  unfold wp_X0_partOf
  rw [nIdiv hL (by omega) (by omega), nIdiv hL (by omega) (by omega)]
  simp (disch := omega) only [nIe]
  refine ⟨fun q => ?_, fun q => ?_, fun q => ?_, fun q0 q1 q2 => ?_⟩
  · rw [if_pos q] at k; exact k
  · rw [if_neg (by omega), if_pos q] at k; exact k
  · rw [if_neg (by omega), if_neg (by omega), if_pos q] at k; exact k
  · rw [if_neg q0, if_neg q1, if_neg q2] at k; exact k
theorem s_X0_tiredBy {K : Int32 → HF → Prop} {x y : Nat} (hx : x < 2 ^ 31) (hk : fK d y ≤ 4) (k : K (nI (inc d y x)) F) : wp_X0_tiredBy K F (nI (fK d y)) (nI x) := by
  unfold inc at k
  unfold wp_X0_tiredBy
  rw [nIdiv hx (by omega) (by omega), pk_mul]
  simp (disch := omega) only [nIe]
  refine ⟨fun q => ?_, fun q => ?_⟩
  · rw [if_neg q] at k; exact k
  · rw [if_pos q, Nat.mul_comm] at k; exact k
theorem s_X0_powerAt {K : Int32 → HF → Prop} (c : CF F 4 d) (o' : OkF d) (h : CB F b z o t) (hw : WfB d z o) {k : Nat} (hk : k < z) (ht : t (o k) ≤ fS d (o k)) (kk : K (nI (pw d z o t k)) F) : wp_X0_powerAt K F b (nI k) := by
  have h8 := hw.1
  have hB := o'.1
  have hb := hw.2.1 k hk
  have ok := o'.2.2.2.2.2.2.2.1 (o k) hb
  have hkx := ok.2.2.2.2.1
  have hS := ok.2.1
  have s53 : ∀ am bp, am ≤ 1 → bp ≤ 1 → (am = 1 ↔ 0 < k ∧ k + 1 < z) → (bp = 1 ↔ ((0 < k ∧ fK d (o (k - 1)) = 4) ∨ (k + 1 < z ∧ fK d (o (k + 1)) = 4))) → wp_X0_powerAt_53 K b F (nI (o k)) (nI am) (nI bp) := by
    intro am bp ha hbp e1 e2
    unfold wp_X0_powerAt_53
    refine s_X1_kindOf c o' hb (s_X1_strengthOf c o' hb (s_X0_tiredOf h (by omega) ?_))
    rw [nIsub ht]
    refine s_X0_powerOf hkx (by omega) ha hbp ?_
    have e : pwq (fK d (o k)) (fS d (o k) - t (o k)) am bp = pw d z o t k := by
      unfold pwq pw
      simp only [e1, e2]
    rw [e]; exact kk
  have s25 : ∀ am, am ≤ 1 → (am = 1 ↔ 0 < k ∧ k + 1 < z) → wp_X0_powerAt_25 K b F (nI k) (nI (o k)) (nI am) := by
    intro am ha e1
    unfold wp_X0_powerAt_25 wp_X0_powerAt_48
    rw [nI_add]
    have right : (¬ (0 < k ∧ fK d (o (k - 1)) = 4)) → wp_X0_kindAt (fun x7 F407 => ((¬ x7 = nI 4) → wp_X0_powerAt_53 K b F407 (nI (o k)) (nI am) (nI 0)) ∧ ((x7 = nI 4) → wp_X0_powerAt_53 K b F407 (nI (o k)) (nI am) (nI 1))) F b (nI (k + 1)) := by
      intro hl
      by_cases hr : k + 1 < z
      · refine s_X0_kindAt c o' h hw hr ?_
        have hk2 := (o'.2.2.2.2.2.2.2.1 _ (hw.2.1 (k + 1) hr)).2.2.2.2.1
        simp (disch := omega) only [nIe]
        refine ⟨fun e => s53 am 0 ha (by omega) e1 ⟨fun x => absurd x (by omega), fun m => m.elim (fun x => absurd x hl) (fun g => absurd g.2 e)⟩, fun e => s53 am 1 ha (by omega) e1 ⟨fun _ => Or.inr ⟨hr, e⟩, fun _ => rfl⟩⟩
      · refine s_X0_kindAt_out h hw (by omega) (by omega) ⟨fun _ => s53 am 0 ha (by omega) e1 ⟨fun x => absurd x (by omega), fun m => m.elim (fun x => absurd x hl) (fun g => absurd g.1 hr)⟩, fun e => ?_⟩
        rw [m4_ne_nI (by omega)] at e; exact e.elim
    by_cases h0 : k = 0
    · subst h0
      rw [nI_z1]
      refine s_X0_kindAt_m1 ⟨fun e => ?_, fun _ => right (by omega)⟩
      rw [m4_ne_nI (by omega)] at e; exact e.elim
    · rw [nIsub (by omega)]
      refine s_X0_kindAt c o' h hw (by omega) ?_
      have hk2 := (o'.2.2.2.2.2.2.2.1 _ (hw.2.1 (k - 1) (by omega))).2.2.2.2.1
      simp (disch := omega) only [nIe]
      exact ⟨fun e => s53 am 1 ha (by omega) e1 ⟨fun _ => Or.inl ⟨by omega, e⟩, fun _ => rfl⟩, fun e => right (fun m => e m.2)⟩
  unfold wp_X0_powerAt wp_X0_powerAt_24
  refine s_X0_birdAt h hw hk ?_
  rw [h.1, nIsub (by omega)]
  simp (disch := omega) only [nIle]
  exact ⟨fun q => s25 0 (by omega) ⟨fun x => absurd x (by omega), fun m => absurd m.1 (by omega)⟩, fun q => ⟨fun q2 => s25 0 (by omega) ⟨fun x => absurd x (by omega), fun m => absurd m.2 (by omega)⟩, fun q2 => s25 1 (by omega) ⟨fun _ => by omega, fun _ => rfl⟩⟩⟩
theorem s_X0_unload {K : HF → Prop} (k : ∀ G, FrL [b + 3] F G → (∀ i, i < 8 → G (b + 3) i = nI 0) → K G) : wp_X0_unload K F b := by
  have main : ∀ n i (G : HF), 9 ≤ i + n → i ≤ 8 → FrL [b + 3] F G → (∀ j, j < i → G (b + 3) j = nI 0) → wp_X0_unload_2 K b n G (nI i) := by
    intro n
    induction n with
    | zero => intro i G h1 h2; omega
    | succ n ih =>
      intro i G h1 h2 h3 h4
      unfold wp_X0_unload_2
      simp (disch := omega) only [nIle, nIcl, nI_add]
      refine ⟨fun q => k G h3 (fun j hj => h4 j (by omega)), fun q => ⟨vin (by omega) (by omega), fun G1 e => ih (i + 1) G1 (by omega) (by omega) ?_ ?_⟩⟩
      · rw [e]; exact h3.tr (FrL.up (by simp))
      · intro j hj
        rw [e, hup_at]
        split
        · rfl
        · exact h4 j (by omega)
  exact ⟨9, main 9 0 F (by omega) (by omega) FrL.rf (fun j hj => absurd hj (by omega))⟩
theorem s_X0_whoSpans {K : Int32 → HF → Prop} (c : CF F 4 d) (o' : OkF d) (h : CB F b z o t) (hw : WfB d z o) {p : Nat} (hp : p < lsum d o z) (k : K (nI (hol d o p z)) F) : wp_X0_whoSpans K F b (nI p) := by
  have h8 := hw.1
  have hl := lsum_le o' hw z (Nat.le_refl z)
  have main : ∀ n i, z + 1 ≤ i + n → i ≤ z → lsum d o i ≤ p → wp_X0_whoSpans_4 K b n F (nI p) (nI (lsum d o i)) (nI i) := by
    intro n
    induction n with
    | zero => intro i h1 h2; omega
    | succ n ih =>
      intro i h1 h2 h3
      have hz : i ≠ z := fun e => by subst e; omega
      unfold wp_X0_whoSpans_4
      simp (disch := omega) only [h.1, nIle, nIcl, nI_add]
      refine ⟨fun q => absurd q (by omega), fun q => ⟨vin (by omega) (by omega), ?_⟩⟩
      rw [h.2.1 i (by omega)]
      refine s_X1_lengthOf c o' (hw.2.1 i (by omega)) ?_
      have hl2 := lsum_le o' hw (i + 1) (by omega)
      have e1 : lsum d o (i + 1) = lsum d o i + fL d (o i) := rfl
      simp (disch := omega) only [nI_add, nIle]
      refine ⟨fun q1 => ih (i + 1) (by omega) (by omega) q1, fun q1 => ?_⟩
      rw [hol_uniq hp h3 (by omega)]
      exact k
  exact ⟨z + 1, main _ 0 (by omega) (by omega) (Nat.zero_le _)⟩
end BridgeT
