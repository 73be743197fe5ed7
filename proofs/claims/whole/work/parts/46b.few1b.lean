/-! ===== what a bird must bear, whoever else is in the bridge ===== -/
theorem part_anti {m n : Nat} (L : Nat) (h : m ≤ n) : part n L ≤ part m L := by
  unfold part
  by_cases n0 : n = 0
  · rw [if_pos n0, if_pos (by omega)]; exact Nat.le_refl _
  · rw [if_neg n0]
    by_cases m0 : m = 0
    · rw [if_pos m0]
      split
      · omega
      · split <;> omega
    · rw [if_neg m0]
      by_cases n1 : n = 1
      · rw [if_pos n1, if_pos (by omega)]; exact Nat.le_refl _
      · rw [if_neg n1]
        by_cases m1 : m = 1
        · rw [if_pos m1]; split <;> omega
        · rw [if_neg m1]
          by_cases n2 : n = 2
          · rw [if_pos n2, if_pos (by omega)]; exact Nat.le_refl _
          · rw [if_neg n2]; exact Nat.zero_le _
theorem inc_mono (d : FD) (b : Nat) {x y : Nat} (h : x ≤ y) : inc d b x ≤ inc d b y := by
  unfold inc
  split <;> omega
/-- how many birds apart at most one is that spans a place -/
def apt (a e p : Nat) : Nat := if p < a then a - p else p + 1 - e
section Few1b
variable {d : FD}
theorem lsum_step {g : Nat → Nat} {s i : Nat} (hL : ∀ k, k < s → 1 ≤ fL d (g k)) : ∀ j, i ≤ j → j ≤ s → lsum d g i + (j - i) ≤ lsum d g j := by
  intro j
  induction j with
  | zero => intro h _; have : i = 0 := by omega
            subst this; exact Nat.le_refl _
  | succ j ih =>
    intro h1 h2
    rcases Nat.lt_or_ge i (j + 1) with q | q
    · have a := ih (by omega) (by omega)
      have b := hL j (by omega)
      show lsum d g i + (j + 1 - i) ≤ lsum d g j + fL d (g j)
      omega
    · have : i = j + 1 := by omega
      subst this; omega
theorem dist_apt {g : Nat → Nat} {s k p : Nat} (hL : ∀ i, i < s → 1 ≤ fL d (g i)) (hk : k < s) (hp : p < lsum d g s) : dist k (hol d g p s) ≤ apt (lsum d g k) (lsum d g (k + 1)) p := by
  obtain ⟨h1, h2, h3⟩ := hol_spec s hp
  have m1 := lsum_mono (d := d) (o := g) (i := k) (k + 1) (by omega)
  unfold dist apt
  rcases Nat.lt_trichotomy (hol d g p s) k with q | q | q
  · have a := lsum_step (i := hol d g p s + 1) hL k (by omega) (by omega)
    rw [if_pos (by omega), if_pos (by omega)]
    omega
  · rw [if_pos (by omega)]
    omega
  · have a := lsum_step (i := k + 1) hL (hol d g p s) (by omega) (by omega)
    rw [if_neg (by omega), if_neg (by omega)]
    omega
theorem tir_at {o w t : Nat → Nat} {z i : Nat} (hw : WfB d z o) (hi : i < z) : tir d o w z t (o i) = t (o i) + inc d (o i) (w i) := by
  rw [tir_app (k := i + 1) z (by omega) (fun j hj1 hj2 e => by have := hw.2.2 j i hj2 hi e; omega)]
  show (if o i = o i then tir d o w i t (o i) + inc d (o i) (w i) else tir d o w i t (o i)) = _
  rw [if_pos rfl, tir_out i (fun j hj e => by have := hw.2.2 j i (by omega) hi e; omega)]
def amd (d : FD) (a e : Nat) : Nat := if 0 < a ∧ e < fW d then 1 else 0
def cbl (d : FD) (w b a e am : Nat) : Nat → Nat → Nat → Prop
  | 0, _, _ => True
  | n + 1, p, l => part (apt a e p) (w + wnd d p) ≤ pwq (fK d b) l am 1 ∧ cbl d w b a e am n (p + 1) (l - inc d b (part (apt a e p) (w + wnd d p)))
def cbp (d : FD) (w b a : Nat) : Prop := cbl d w b a (a + fL d b) (amd d a (a + fL d b)) (min (a + fL d b + 2) (fW d) - (a - 2)) (a - 2) (fS d b)
theorem sol_cb (o' : OkF d) {w s k : Nat} {g : Nat → Nat} (m : sol d w s g) (hk : k < s) (ha : lsum d g k < fW d) : cbp d w (g k) (lsum d g k) := by
  have wf := vsq_wf o' s m.1
  have hL : ∀ i, i < s → 1 ≤ fL d (g i) := fun i hi => (o'.2.2.2.2.2.2.2.1 (g i) (m.1 i hi).1).2.2.1
  have hsW := m.2.1
  have e1 : lsum d g (k + 1) = lsum d g k + fL d (g k) := rfl
  have two : ∀ n p t l, p + n = min (lsum d g k + fL d (g k) + 2) (fW d) → fW d ≤ wlk d s g (fun q => w + wnd d q) (fW d - p) p t → fS d (g k) ≤ l + t (g k) → cbl d w (g k) (lsum d g k) (lsum d g k + fL d (g k)) (amd d (lsum d g k) (lsum d g k + fL d (g k))) n p l := by
    intro n
    induction n with
    | zero => intro p t l _ _ _; exact trivial
    | succ n ih =>
      intro p t l hp hwk hl
      have hpW : p < fW d := by omega
      obtain ⟨m', hm'⟩ : ∃ m', fW d - p = m' + 1 := ⟨fW d - p - 1, by omega⟩
      rw [hm'] at hwk
      by_cases hs : setl d s g t (bl d g s p (w + wnd d p))
      · rw [wlk_t (om := fun q => w + wnd d q) hs] at hwk
        have hb : bl d g s p (w + wnd d p) k = part (dist k (hol d g p s)) (w + wnd d p) := by unfold bl; rw [if_pos hk]
        have h1 : part (apt (lsum d g k) (lsum d g k + fL d (g k)) p) (w + wnd d p) ≤ bl d g s p (w + wnd d p) k := by
          rw [hb]
          exact part_anti _ (dist_apt hL hk (by omega))
        have h2 := hs k hk
        have h3 : pw d s g t k ≤ pwq (fK d (g k)) l (amd d (lsum d g k) (lsum d g k + fL d (g k))) 1 := by
          unfold pw pwq amd
          by_cases c1 : fK d (g k) = 1
          · have n4 : ¬ fK d (g k) = 4 := by omega
            rw [if_neg (show ¬ (fK d (g k) = 4 ∧ _) from fun x => n4 x.1), if_neg (show ¬ (fK d (g k) = 4 ∧ 1 = 1) from fun x => n4 x.1)]
            by_cases c2 : 0 < lsum d g k ∧ lsum d g k + fL d (g k) < fW d
            · have k0 : 0 < k := by
                rcases Nat.eq_zero_or_pos k with q | q
                · subst q; have : lsum d g 0 = 0 := rfl
                  omega
                · exact q
              have k1 : k + 1 < s := by
                rcases Nat.lt_or_ge (k + 1) s with q | q
                · exact q
                · have : k + 1 = s := by omega
                  rw [this] at e1; omega
              rw [if_pos ⟨c1, k0, k1⟩, if_pos c2, if_pos ⟨c1, rfl⟩]
              omega
            · rw [if_neg c2, if_neg (show ¬ (fK d (g k) = 1 ∧ 0 = 1) from fun x => absurd x.2 (by omega))]
              split <;> omega
          · rw [if_neg (show ¬ (fK d (g k) = 1 ∧ 0 < k ∧ k + 1 < s) from fun x => c1 x.1), if_neg (show ¬ (fK d (g k) = 1 ∧ _) from fun x => c1 x.1)]
            by_cases c4 : fK d (g k) = 4
            · rw [if_pos (show fK d (g k) = 4 ∧ 1 = 1 from ⟨c4, rfl⟩)]
              split <;> omega
            · rw [if_neg (show ¬ (fK d (g k) = 4 ∧ _) from fun x => c4 x.1), if_neg (show ¬ (fK d (g k) = 4 ∧ 1 = 1) from fun x => c4 x.1)]
              omega
        refine ⟨by omega, ih (p + 1) (tir d g (bl d g s p (w + wnd d p)) s t) _ (by omega) ?_ ?_⟩
        · rw [show fW d - (p + 1) = m' by omega]; exact hwk
        · rw [tir_at wf hk]
          have := inc_mono d (g k) h1
          omega
      · rw [wlk_f (om := fun q => w + wnd d q) hs] at hwk
        omega
  have one : ∀ n p t, p + n = lsum d g k - 2 → fW d ≤ wlk d s g (fun q => w + wnd d q) (fW d - p) p t → ∃ t', fW d ≤ wlk d s g (fun q => w + wnd d q) (fW d - (lsum d g k - 2)) (lsum d g k - 2) t' := by
    intro n
    induction n with
    | zero => intro p t hp h; have : p = lsum d g k - 2 := by omega
              subst this; exact ⟨t, h⟩
    | succ n ih =>
      intro p t hp hwk
      obtain ⟨m', hm'⟩ : ∃ m', fW d - p = m' + 1 := ⟨fW d - p - 1, by omega⟩
      rw [hm'] at hwk
      by_cases hs : setl d s g t (bl d g s p (w + wnd d p))
      · rw [wlk_t (om := fun q => w + wnd d q) hs] at hwk
        exact ih (p + 1) _ (by omega) (by rw [show fW d - (p + 1) = m' by omega]; exact hwk)
      · rw [wlk_f (om := fun q => w + wnd d q) hs] at hwk
        omega
  obtain ⟨t', ht'⟩ := one (lsum d g k - 2) 0 (fun _ => 0) (by omega) m.2.2
  exact two _ _ t' _ (by omega) ht' (by omega)
/-! ===== who stands, as bits ===== -/
def msk (g : Nat → Nat) : Nat → Nat
  | 0 => 0
  | k + 1 => msk g k ||| 2 ^ g k
theorem msk_cong {g h : Nat → Nat} : ∀ k, (∀ i, i < k → g i = h i) → msk g k = msk h k := by
  intro k
  induction k with
  | zero => intro _; rfl
  | succ k ih =>
    intro e
    show msk g k ||| 2 ^ g k = msk h k ||| 2 ^ h k
    rw [ih (fun i hi => e i (by omega)), e k (by omega)]
theorem msk_lt {g : Nat → Nat} : ∀ k, (∀ i, i < k → g i < 8) → msk g k < 256 := by
  intro k
  induction k with
  | zero => intro _; show 0 < 256; omega
  | succ k ih =>
    intro e
    show msk g k ||| 2 ^ g k < 2 ^ 8
    refine Nat.or_lt_two_pow (ih (fun i hi => e i (by omega))) ?_
    exact Nat.pow_lt_pow_right (by omega) (e k (by omega))
theorem msk_bit {g : Nat → Nat} {b : Nat} : ∀ k, (msk g k).testBit b = true → ∃ i, i < k ∧ g i = b := by
  intro k
  induction k with
  | zero => intro h; rw [show msk g 0 = 0 from rfl, Nat.zero_testBit] at h; exact absurd h (by decide)
  | succ k ih =>
    intro h
    rw [show msk g (k + 1) = msk g k ||| 2 ^ g k from rfl, Nat.testBit_or, Nat.testBit_two_pow, Bool.or_eq_true] at h
    rcases h with h | h
    · obtain ⟨i, hi, e⟩ := ih h
      exact ⟨i, by omega, e⟩
    · exact ⟨k, by omega, of_decide_eq_true h⟩
def psum (d : FD) (S : Nat) : Nat → Nat
  | 0 => 0
  | n + 1 => psum d S n + (if S.testBit n = true then 1 else 0) * fL d n
theorem psum_0 : ∀ n, psum d 0 n = 0 := by
  intro n
  induction n with
  | zero => rfl
  | succ n ih =>
    show psum d 0 n + (if (0 : Nat).testBit n = true then 1 else 0) * fL d n = 0
    rw [ih, Nat.zero_testBit, if_neg (by decide)]
    omega
theorem psum_or {S b : Nat} (hb : S.testBit b = false) : ∀ n, psum d (S ||| 2 ^ b) n = psum d S n + (if b < n then fL d b else 0) := by
  intro n
  induction n with
  | zero => rfl
  | succ n ih =>
    have t : (S ||| 2 ^ b).testBit n = (S.testBit n || decide (b = n)) := by rw [Nat.testBit_or, Nat.testBit_two_pow]
    show psum d (S ||| 2 ^ b) n + (if (S ||| 2 ^ b).testBit n = true then 1 else 0) * fL d n = psum d S n + (if S.testBit n = true then 1 else 0) * fL d n + (if b < n + 1 then fL d b else 0)
    rcases Nat.lt_trichotomy b n with q | q | q
    · rw [decide_eq_false (show ¬ b = n by omega), Bool.or_false] at t
      rw [ih, t, if_pos q, if_pos (show b < n + 1 by omega), Nat.add_right_comm]
    · subst q
      rw [hb, decide_eq_true rfl, Bool.or_true] at t
      rw [ih, t, hb, if_neg (show ¬ b < b by omega), if_pos (show b < b + 1 by omega), if_pos rfl, if_neg (show ¬ false = true by decide)]
      omega
    · rw [decide_eq_false (show ¬ b = n by omega), Bool.or_false] at t
      rw [ih, t, if_neg (show ¬ b < n by omega), if_neg (show ¬ b < n + 1 by omega)]
      omega
theorem psum_le (o' : OkF d) (S : Nat) : ∀ n, n ≤ fB d → psum d S n ≤ 3 * n := by
  intro n
  induction n with
  | zero => intro _; exact Nat.le_refl _
  | succ n ih =>
    intro hn
    have h1 := ih (by omega)
    have h2 := (o'.2.2.2.2.2.2.2.1 n (by omega)).2.2.2.1
    show psum d S n + (if S.testBit n = true then 1 else 0) * fL d n ≤ 3 * (n + 1)
    split <;> omega
theorem psum_msk {g : Nat → Nat} {z : Nat} (wf : WfB d z g) : ∀ k, k ≤ z → psum d (msk g k) (fB d) = lsum d g k := by
  intro k
  induction k with
  | zero => intro _; exact psum_0 _
  | succ k ih =>
    intro hk
    have hb : (msk g k).testBit (g k) = false := by
      cases h : (msk g k).testBit (g k) with
      | false => rfl
      | true =>
        obtain ⟨i, hi, e⟩ := msk_bit k h
        have := wf.2.2 i k (by omega) (by omega) e
        omega
    show psum d (msk g k ||| 2 ^ g k) (fB d) = lsum d g k + fL d (g k)
    rw [psum_or hb, ih (by omega), if_pos (wf.2.1 k (by omega))]
theorem or_gt {S b : Nat} (h : ¬ S ||| 2 ^ b = S) : S < S ||| 2 ^ b := by
  have := Nat.left_le_or (n := S) (m := 2 ^ b)
  omega
theorem or_bit {S b : Nat} (h : S ||| 2 ^ b = S) : S.testBit b = true := by
  rw [← h, Nat.testBit_or, Nat.testBit_two_pow, decide_eq_true rfl, Bool.or_true]
theorem or_256 {S b : Nat} (h : S < 256) (hb : b < 8) : S ||| 2 ^ b < 256 := Nat.or_lt_two_pow (n := 8) h (Nat.pow_lt_pow_right (by omega) hb)
theorem bt_or : ∀ S, S < 256 → ∀ b, b < 8 → nI S ||| (nI 1 <<< (nI b &&& 31)) = nI (S ||| 2 ^ b) := by decide +kernel
theorem bt_at : ∀ S, S < 256 → ∀ b, b < 8 → (nI S >>> (nI b &&& 31)) &&& nI 1 = nI (if S.testBit b = true then 1 else 0) := by decide +kernel
theorem mx0 {x y : Nat} (hx : x < 2 ^ 30) (hy : y < 2 ^ 30) : (if nI 0 < nI x - nI y then nI x - nI y else nI 0) = nI (x - y) := by
  by_cases h : y ≤ x
  · rw [nIsub h]
    by_cases q : nI 0 < nI (x - y)
    · rw [if_pos q]
    · rw [if_neg q]
      rw [nIlt (by omega) (by omega)] at q
      rw [show x - y = 0 by omega]
  · rw [if_neg, show x - y = 0 by omega]
    intro q
    have := pk_sneg hy (show x < y by omega)
    rw [Int32.lt_iff_toInt_lt] at this q
    have z0 : (nI 0).toInt = 0 := by decide
    have z1 : (0 : Int32).toInt = 0 := by decide
    omega
theorem sb1 (x y : Nat) : nI x - nI y + nI 1 = nI (x + 1) - nI y := by
  rw [← nI_add x 1, Int32.sub_eq_add_neg, Int32.sub_eq_add_neg, Int32.add_assoc, Int32.add_assoc, Int32.add_comm (-nI y)]
/-- so many more are wanted at least -/
def LB (d : FD) (w S v : Nat) : Prop := ∀ s g k, sol d w s g → k ≤ s → msk g k = S → k + v ≤ s
def LMA (d : FD) (w : Nat) (F : HF) (lo : Nat) : Prop := ∀ S, lo ≤ S → S < 256 → ∃ v, v ≤ 9 ∧ F 87 S = nI v ∧ LB d w S v
end Few1b
section Few1c
variable {F : HF} {d : FD} {w : Nat}
theorem s_X4_placesOf {K : Int32 → HF → Prop} (c : CF F 4 d) (o' : OkF d) {S : Nat} (hS : S < 256) (k : K (nI (psum d S (fB d))) F) : wp_X4_placesOf K F (nI S) := by
  have h8 := o'.1
  have main : ∀ n i, fB d + 1 ≤ i + n → i ≤ fB d → wp_X4_placesOf_4 K n F (nI S) (nI (psum d S i)) (nI i) := by
    intro n
    induction n with
    | zero => intro i h1 h2; omega
    | succ n ih =>
      intro i h1 h2
      unfold wp_X4_placesOf_4
      refine s_X1_birds c ?_
      rw [nIle (by omega) (by omega)]
      refine ⟨fun q => ?_, fun q => s_X1_lengthOf c o' (by omega) ?_⟩
      · have : i = fB d := by omega
        subst this; exact k
      · rw [bt_at S hS i (by omega), pk_mul, nI_add, nI_add]
        exact ih (i + 1) (by omega) (by omega)
  exact ⟨fB d + 1, main _ 0 (by omega) (by omega)⟩
theorem pwq_inc {b l am x : Nat} (h : x ≤ pwq (fK d b) l am 1) : inc d b x ≤ l := by
  unfold pwq at h
  unfold inc
  split at h
  · split <;> omega
  · split at h
    · rename_i g
      rw [if_neg (by omega)]; omega
    · split <;> omega
theorem s_X4_couldBear {K : Int32 → HF → Prop} (c : CF F 4 d) (o' : OkF d) {b a : Nat} (hb : b < fB d) (ha : a < fW d) (hw : w < 2 ^ 20) (k1 : K (nI 1) F) (k0 : ¬ cbp d w b a → K (nI 0) F) : wp_X4_couldBear K F (nI b) (nI a) (nI w) := by
  have hW := o'.2.2.2.1
  have ok := o'.2.2.2.2.2.2.2.1 b hb
  have hkx := ok.2.2.2.2.1
  have hS := ok.2.1
  have hL := ok.2.2.2.1
  have ham : amd d a (a + fL d b) ≤ 1 := by unfold amd; split <;> omega
  have s64 : ∀ n m p l, m < n → p + m = min (a + fL d b + 2) (fW d) → l ≤ 60 → (¬ cbl d w b a (a + fL d b) (amd d a (a + fL d b)) m p l → ¬ cbp d w b a) → wp_X4_couldBear_64 K n F (nI a) (nI w) (nI (fK d b)) (nI (a + fL d b)) (nI (amd d a (a + fL d b))) (nI l) (nI p) := by
    intro n
    induction n with
    | zero => intro m p l h0; omega
    | succ n ih =>
      intro m p l h0 h1 h2 h3
      have s109 : p < a + fL d b + 2 → p < fW d → wp_X4_couldBear_109 K (wp_X4_couldBear_64 K n) F (nI a) (nI w) (nI (fK d b)) (nI (a + fL d b)) (nI (amd d a (a + fL d b))) (nI l) (nI p) (nI (apt a (a + fL d b) p)) := by
        intro g1 g2
        obtain ⟨m, rfl⟩ : ∃ m', m = m' + 1 := ⟨m - 1, by omega⟩
        have hap : apt a (a + fL d b) p < 2 ^ 20 := by unfold apt; split <;> omega
        have hwn := wnd_le o' p
        have hpl := part_le (apt a (a + fL d b) p) (w + wnd d p)
        unfold wp_X4_couldBear_109
        refine s_X1_windIn c o' (by omega) ?_
        rw [nI_add w]
        refine s_X0_partOf (by omega) (by omega) (s_X0_powerOf (bp := 1) hkx (by omega) ham (by omega) ?_)
        have hpq : pwq (fK d b) l (amd d a (a + fL d b)) 1 < 2 ^ 20 := by
          unfold pwq
          split
          · omega
          · split <;> omega
        rw [nIle (by omega) (by omega)]
        refine ⟨fun q => s_X0_tiredBy (by omega) hkx ?_, fun q => k0 (h3 (fun x => q x.1))⟩
        have hi := pwq_inc q
        rw [nIsub hi, nI_add]
        exact ih m (p + 1) _ (by omega) (by omega) (by omega) (fun x => h3 (fun y => x y.2))
      unfold wp_X4_couldBear_64
      rw [nI_add, nIle (by omega) (by omega)]
      refine ⟨fun _ => k1, fun q => s_X1_width c ?_⟩
      rw [nIle (by omega) (by omega), nIle (by omega) (by omega)]
      refine ⟨fun _ => k1, fun q2 => ⟨fun q3 => ?_, fun q3 => ?_⟩⟩
      · have := s109 (by omega) (by omega)
        rw [sb1, mx0 (by omega) (by omega)]
        unfold apt at this
        rw [if_neg (by omega)] at this
        exact this
      · have := s109 (by omega) (by omega)
        rw [nIsub (by omega)]
        unfold apt at this
        rw [if_pos (by omega)] at this
        exact this
  have s43 : ∀ am, am = amd d a (a + fL d b) → wp_X4_couldBear_43 K F (nI b) (nI a) (nI w) (nI (fK d b)) (nI (a + fL d b)) (nI am) := by
    intro am e
    subst e
    unfold wp_X4_couldBear_43
    refine s_X1_strengthOf c o' hb ?_
    rw [mx0 (by omega) (by omega)]
    exact ⟨_, s64 _ (min (a + fL d b + 2) (fW d) - (a - 2)) (a - 2) (fS d b) (Nat.lt_succ_self _) (by omega) hS (fun x => x)⟩
  unfold wp_X4_couldBear wp_X4_couldBear_42
  refine s_X1_kindOf c o' hb (s_X1_lengthOf c o' hb ?_)
  rw [nI_add, nIle (by omega) (by omega)]
  refine ⟨fun q => s43 0 ?_, fun q => s_X1_width c ?_⟩
  · unfold amd; rw [if_neg (fun x => by omega)]
  · rw [nIle (by omega) (by omega)]
    refine ⟨fun q2 => s43 0 ?_, fun q2 => s43 1 ?_⟩
    · unfold amd; rw [if_neg (fun x => by omega)]
    · unfold amd; rw [if_pos ⟨by omega, by omega⟩]
theorem s_X4_leastMoreBehind {K : Int32 → HF → Prop} (c : CF F 4 d) (o' : OkF d) (hw : w < 2 ^ 20) {S : Nat} (hS : S < 256) (lm : LMA d w F (S + 1)) (ha : psum d S (fB d) < fW d) (k : ∀ v, v ≤ 9 → LB d w S v → K (nI v) F) : wp_X4_leastMoreBehind K F (nI S) (nI (psum d S (fB d))) (nI w) := by
  have h8 := o'.1
  have main : ∀ n b v, fB d + 1 ≤ b + n → b ≤ fB d → v ≤ 9 → (∀ s g k, sol d w s g → k < s → msk g k = S → g k < b → k + v ≤ s) → wp_X4_leastMoreBehind_7 K n F (nI S) (nI (psum d S (fB d))) (nI w) (nI v) (nI b) := by
    intro n
    induction n with
    | zero => intro b v h1 h2; omega
    | succ n ih =>
      intro b v h1 h2 h3 h4
      have next : ∀ v', v' ≤ 9 → v' ≤ v → (∀ s g k, sol d w s g → k < s → msk g k = S → g k = b → k + v' ≤ s) → b < fB d → wp_X4_leastMoreBehind_70 K (wp_X4_leastMoreBehind_7 K n) F (nI S) (nI (psum d S (fB d))) (nI w) (nI v') (nI b) := by
        intro v' g1 g2 g3 g4
        unfold wp_X4_leastMoreBehind_70
        rw [nI_add]
        refine ih (b + 1) v' (by omega) (by omega) g1 (fun s g k m hk e hlt => ?_)
        rcases Nat.lt_or_ge (g k) b with q | q
        · have := h4 s g k m hk e q; omega
        · exact g3 s g k m hk e (by omega)
      unfold wp_X4_leastMoreBehind_7
      refine s_X1_birds c ?_
      rw [nIle (by omega) (by omega)]
      refine ⟨fun q => k v h3 (fun s g j m hj e => ?_), fun q => ?_⟩
      · have wf := vsq_wf o' s m.1
        have hjs : j < s := by
          rcases Nat.lt_or_ge j s with x | x
          · exact x
          · have : j = s := by omega
            subst this
            have h5 := psum_msk wf j (Nat.le_refl _)
            rw [e] at h5
            have := m.2.1
            omega
        exact h4 s g j m hjs e (by have := (m.1 j hjs).1; omega)
      · have hb : b < fB d := by omega
        have h256 := or_256 (b := b) hS (by omega)
        rw [bt_or S hS b (by omega), nIe (by omega) (by omega), nIle (by omega) (by omega)]
        refine ⟨fun q2 => next v h3 (Nat.le_refl _) (fun s g j m hj e eb => ?_) hb, fun q2 => ⟨fun q3 => absurd q3 (by omega), fun _ => s_X4_couldBear c o' hb ha hw ⟨fun x => absurd x (by decide), fun _ => ?_⟩ (fun nc => ⟨fun _ => next v h3 (Nat.le_refl _) (fun s g j m hj e eb => ?_) hb, fun x => absurd rfl x⟩)⟩⟩
        · have wf := vsq_wf o' s m.1
          have h5 := or_bit q2
          rw [← e] at h5
          obtain ⟨i, hi, e6⟩ := msk_bit j h5
          have := wf.2.2 i j (by omega) hj (e6.trans eb.symm)
          omega
        · obtain ⟨u, hu, eu, lb⟩ := lm (S ||| 2 ^ b) (or_gt q2) h256
          rw [nIcl (by omega), eu, nI_add]
          refine ⟨vin h256 (by omega), ?_⟩
          have fin : ∀ v', v' ≤ 9 → v' ≤ v → v' ≤ u + 1 → wp_X4_leastMoreBehind_70 K (wp_X4_leastMoreBehind_7 K n) F (nI S) (nI (psum d S (fB d))) (nI w) (nI v') (nI b) := by
            intro v' g1 g2 g3
            refine next v' g1 g2 (fun s g j m hj e eb => ?_) hb
            have := lb s g (j + 1) m hj (by show msk g j ||| 2 ^ g j = _; rw [e, eb])
            omega
          by_cases q5 : nI (u + 1) < nI v
          · rw [if_pos q5]
            rw [nIlt (by omega) (by omega)] at q5
            exact fin (u + 1) (by omega) (by omega) (Nat.le_refl _)
          · rw [if_neg q5]
            rw [nIlt (by omega) (by omega)] at q5
            exact fin v h3 (Nat.le_refl _) (by omega)
        · have wf := vsq_wf o' s m.1
          have h5 := psum_msk wf j (by omega)
          rw [e] at h5
          exfalso; apply nc
          have := sol_cb o' m hj (by omega)
          rw [eb, ← h5] at this
          exact this
  exact ⟨fB d + 1, main _ 0 9 (by omega) (by omega) (by omega) (fun s g k _ _ _ h => absurd h (by omega))⟩
theorem pI_less (k : Nat) : nI k + (-1 : Int32) = pI k := by
  rcases Nat.eq_zero_or_pos k with e | e
  · subst e; decide
  · obtain ⟨j, rfl⟩ : ∃ j, k = j + 1 := ⟨k - 1, by omega⟩
    rw [pk_m1, pI_s]
theorem s_X4_findLeastMore {K : HF → Prop} (c : CF F 4 d) (o' : OkF d) (hw : w < 2 ^ 20) (k : ∀ G, FrL [87] F G → LMA d w G 0 → K G) : wp_X4_findLeastMore K F (nI w) := by
  have h8 := o'.1
  have hW := o'.2.2.2.1
  have main : ∀ n j (G : HF), j < n → j ≤ 256 → FrL [87] F G → LMA d w G j → wp_X4_findLeastMore_8 K n G (nI w) (pI j) := by
    intro n
    induction n with
    | zero => intro j G h1; omega
    | succ n ih =>
      intro j G h1 h2 h3 h4
      have cG : CF G 4 d := c.fr h3 (fun a g1 g2 => by simp; omega)
      unfold wp_X4_findLeastMore_8
      rcases Nat.eq_zero_or_pos j with e | e
      · subst e
        exact ⟨fun _ => k G h3 h4, fun q => absurd (by decide) q⟩
      · obtain ⟨j, rfl⟩ : ∃ i, j = i + 1 := ⟨j - 1, by omega⟩
        rw [pI_s]
        refine ⟨fun q => absurd q (nI_pos (by omega)), fun _ => s_X4_placesOf cG o' (by omega) (s_X1_width cG ?_)⟩
        have hp := psum_le o' j (fB d) (Nat.le_refl _)
        have s45 : ∀ v, v ≤ 9 → LB d w j v → wp_X4_findLeastMore_45 K (wp_X4_findLeastMore_8 K n) G (nI w) (nI j) (nI j) (nI v) := by
          intro v hv lb
          unfold wp_X4_findLeastMore_45
          refine ⟨vin (by omega) (by omega), fun H eH => ?_⟩
          rw [nIcl (by omega)] at eH
          rw [pI_less]
          refine ih j H (by omega) (by omega) (by rw [eH]; exact h3.tr (FrL.up (by simp))) (fun S g1 g2 => ?_)
          rw [eH, hup_at]
          by_cases q : S = j
          · rw [if_pos q, q]; exact ⟨v, hv, rfl, lb⟩
          · rw [if_neg q]; exact h4 S (by omega) g2
        rw [nIlt (by omega) (by omega)]
        exact ⟨fun q => s_X4_leastMoreBehind cG o' hw (by omega) h4 q s45, fun q => s45 0 (by omega) (fun s g i _ hi _ => by omega)⟩
  unfold wp_X4_findLeastMore
  rw [nIsub (by omega)]
  have := main 257 256 F (by omega) (by omega) FrL.rf (fun S h1 h2 => absurd h1 (by omega))
  rw [pI_s] at this
  exact ⟨257, this⟩
end Few1c
