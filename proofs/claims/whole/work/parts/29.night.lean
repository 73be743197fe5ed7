/-! ===== a night ===== -/
abbrev ND : Type := (Nat × Nat × Nat × Nat × Nat) × (Nat → Nat) × (Nat → Nat)
def nz (N : ND) : Nat := N.1.1
def nmi (N : ND) : Nat := N.1.2.1
def nye (N : ND) : Nat := N.1.2.2.1
def nq (N : ND) : Nat := N.1.2.2.2.1
def nbr (N : ND) : Nat := N.1.2.2.2.2
def no (N : ND) : Nat → Nat := N.2.1
def nt (N : ND) : Nat → Nat := N.2.2
def CN (F : HF) (n : Nat) (N : ND) : Prop := F n 2 = nI (nmi N) ∧ F n 3 = nI (nye N) ∧ F n 4 = pI (nq N) ∧ F n 5 = nI (nbr N) ∧ CB F (n + 1) (nz N) (no N) (nt N)
def MNf (f : Nat → Int32) (N : ND) : Prop := f 0 = nI (nz N) ∧ f 1 = nI (nmi N) ∧ f 2 = nI (nye N) ∧ f 3 = pI (nq N) ∧ f 4 = nI (nbr N) ∧ (∀ k, k < nz N → f (5 + k) = nI (no N k)) ∧ ∀ k, k < 8 → f (13 + k) = nI (nt N k)
def WfN (n : Nat) (d : FD) (N : ND) : Prop := WfB d (nz N) (no N) ∧ (∀ x, x < fB d → nt N x ≤ fS d x) ∧ nmi N ≤ n ∧ nye N ≤ 20 ∧ nq N ≤ fW d + 1 ∧ nbr N ≤ 1 ∧ (1 ≤ nq N → nq N ≤ fW d → fW d ≤ lsum d (no N) (nz N))
theorem WfN.mono {n m : Nat} {d : FD} {N : ND} (h : WfN n d N) (hm : n ≤ m) : WfN m d N := ⟨h.1, h.2.1, Nat.le_trans h.2.2.1 hm, h.2.2.2⟩
def FrR (lo hi : Nat) (F G : HF) : Prop := ∀ a, (a < lo ∨ hi < a) → G a = F a
theorem FrR.rf {lo hi : Nat} {F : HF} : FrR lo hi F F := fun _ _ => rfl
theorem FrR.tr {lo hi : Nat} {F G H : HF} (h : FrR lo hi F G) (g : FrR lo hi G H) : FrR lo hi F H := fun a ha => (g a ha).trans (h a ha)
theorem FrR.mono {lo hi lo' hi' : Nat} {F G : HF} (h : FrR lo hi F G) (h1 : lo' ≤ lo) (h2 : hi ≤ hi') : FrR lo' hi' F G := fun a ha => h a (by omega)
theorem FrR.up {lo hi : Nat} {F : HF} {k j : Nat} {v : Int32} (h : lo ≤ k ∧ k ≤ hi) : FrR lo hi F (hup F k j v) := fun a ha => hup_n F j v (by omega)
theorem FrL.toR {L : List Nat} {lo hi : Nat} {F G : HF} (h : FrL L F G) (hL : ∀ a, a ∈ L → lo ≤ a ∧ a ≤ hi) : FrR lo hi F G := fun a ha => h a (fun q => by have := hL a q; omega)
theorem CN.kept {F G : HF} {n : Nat} {N : ND} (h : CN F n N) (e0 : G n = F n) (e1 : G (n + 1) = F (n + 1)) (e2 : G (n + 2) = F (n + 2)) (e3 : G (n + 3) = F (n + 3)) : CN G n N := by
  unfold CN
  rw [e0]
  exact ⟨h.1, h.2.1, h.2.2.1, h.2.2.2.1, h.2.2.2.2.kept (by rw [e1]) e2 e3⟩
theorem CN.frR {F G : HF} {n lo hi : Nat} {N : ND} (h : CN F n N) (f : FrR lo hi F G) (hn : n + 3 < lo ∨ hi < n) : CN G n N := h.kept (f _ (by omega)) (f _ (by omega)) (f _ (by omega)) (f _ (by omega))
theorem CF.frR {F G : HF} {r lo hi : Nat} {d : FD} (h : CF F r d) (f : FrR lo hi F G) (hn : r + 5 < lo ∨ hi < r) : CF G r d := h.kept (f _ (by omega)) (f _ (by omega)) (f _ (by omega)) (f _ (by omega)) (f _ (by omega)) (f _ (by omega))
section NightS
variable {F : HF} {n : Nat} {d : FD} {N : ND}
theorem s_X2_isOnBridge {K : Int32 → HF → Prop} (c : CF F 4 d) (o' : OkF d) (h : CN F n N) (hq : nq N ≤ fW d + 1) (k1 : (1 ≤ nq N ∧ nq N ≤ fW d) → K (nI 1) F) (k0 : ¬ (1 ≤ nq N ∧ nq N ≤ fW d) → K (nI 0) F) : wp_X2_isOnBridge K F n := by
  have hW := o'.2.2.2.1
  unfold wp_X2_isOnBridge
  rw [h.2.2.1]
  rcases Nat.eq_zero_or_pos (nq N) with e | e
  · rw [e, pI_0]
    exact ⟨fun _ => k0 (by omega), fun g => absurd (by decide) g⟩
  · obtain ⟨q, hq2⟩ : ∃ q, nq N = q + 1 := ⟨nq N - 1, by omega⟩
    rw [hq2, pI_s]
    refine ⟨fun g => absurd g (nI_pos (by omega)), fun _ => s_X1_width c ?_⟩
    simp (disch := omega) only [nIle]
    exact ⟨fun g => k0 (by omega), fun g => k1 (by omega)⟩
theorem s_X2_isBroken {K : Int32 → HF → Prop} (h : CN F n N) (hb : nbr N ≤ 1) (k : K (nI (nbr N)) F) : wp_X2_isBroken K F n := by
  unfold wp_X2_isBroken
  rw [h.2.2.2.1]
  refine ⟨?_, k⟩
  rcases (show nbr N = 0 ∨ nbr N = 1 by omega) with e | e <;> rw [e]
  · exact Or.inl rfl
  · exact Or.inr rfl
theorem s_X2_isFixed {K : Int32 → HF → Prop} (c : CF F 4 d) (o' : OkF d) (h : CN F n N) (hq : nq N ≤ fW d + 1) (hb : nbr N ≤ 1) (k1 : (nbr N = 1 ∨ (1 ≤ nq N ∧ nq N ≤ fW d)) → K (nI 1) F) (k0 : ¬ (nbr N = 1 ∨ (1 ≤ nq N ∧ nq N ≤ fW d)) → K (nI 0) F) : wp_X2_isFixed K F n := by
  unfold wp_X2_isFixed
  rw [h.2.2.2.1, nIe (by omega) (by omega)]
  refine ⟨fun g => k1 (Or.inl (by omega)), fun g => ?_⟩
  refine s_X2_isOnBridge c o' h hq (fun g2 => ⟨fun e => absurd e (by decide), fun _ => k1 (Or.inr g2)⟩) (fun g2 => ⟨fun _ => k0 (fun x => x.elim (fun y => by omega) g2), fun e => absurd rfl e⟩)
theorem s_X2_copyFrom {K : HF → Prop} {r : Nat} (hr : r + 5 ≤ n ∨ n + 5 ≤ r) (h : CN F r N) (hz : nz N ≤ 8) (hb : nbr N ≤ 1) (k : ∀ G, FrR n (n + 3) F G → CN G n N → K G) : wp_X2_copyFrom K F n r := by
  unfold wp_X2_copyFrom
  refine s_X0_copyFrom (by omega) h.2.2.2.2 hz (fun G f g => ?_)
  intro F2 e2 F3 e3 F4 e4
  have fG : ∀ a, (a < n + 1 ∨ n + 3 < a) → G a = F a := fun a ha => f a (by simp; omega)
  have hbr : F4 r 5 = nI (nbr N) := by
    rw [e4, hup_n _ _ _ (by omega), e3, hup_n _ _ _ (by omega), e2, hup_n _ _ _ (by omega), fG r (by omega)]; exact h.2.2.2.1
  rw [hbr]
  refine ⟨?_, fun F5 e5 => k F5 ?_ ⟨?_, ?_, ?_, ?_, ?_⟩⟩
  · rcases (show nbr N = 0 ∨ nbr N = 1 by omega) with e | e <;> rw [e]
    · exact Or.inl rfl
    · exact Or.inr rfl
  · intro a ha
    rw [e5, hup_n _ _ _ (by omega), e4, hup_n _ _ _ (by omega), e3, hup_n _ _ _ (by omega), e2, hup_n _ _ _ (by omega), fG a (by omega)]
  · rw [e5, hup_at, if_neg (by omega), e4, hup_at, if_neg (by omega), e3, hup_at, if_neg (by omega), e2, hup_at, if_pos rfl, fG r (by omega)]; exact h.1
  · rw [e5, hup_at, if_neg (by omega), e4, hup_at, if_neg (by omega), e3, hup_at, if_pos rfl, e2, hup_n _ _ _ (by omega), fG r (by omega)]; exact h.2.1
  · rw [e5, hup_at, if_neg (by omega), e4, hup_at, if_pos rfl, e3, hup_n _ _ _ (by omega), e2, hup_n _ _ _ (by omega), fG r (by omega)]; exact h.2.2.1
  · rw [e5, hup_at, if_pos rfl]
  · refine g.kept ?_ ?_ ?_
    · rw [e5, hup_n _ _ _ (by omega), e4, hup_n _ _ _ (by omega), e3, hup_n _ _ _ (by omega), e2, hup_n _ _ _ (by omega)]
    · rw [e5, hup_n _ _ _ (by omega), e4, hup_n _ _ _ (by omega), e3, hup_n _ _ _ (by omega), e2, hup_n _ _ _ (by omega)]
    · rw [e5, hup_n _ _ _ (by omega), e4, hup_n _ _ _ (by omega), e3, hup_n _ _ _ (by omega), e2, hup_n _ _ _ (by omega)]
/-- a minute in which she is at the place behind q -/
theorem s_X2_passMinuteAt {K : Int32 → HF → Prop} (c : CF F 4 d) (o' : OkF d) (h : CN F n N) (hn : 10 ≤ n) {B : Nat} (hw : WfN B d N) (hB : B < 2 ^ 20) {q : Nat} (hq : q ≤ fW d + 1) (hwh : q ≤ fW d → fW d ≤ lsum d (no N) (nz N)) (hbr : nbr N = 0)
    (k1 : setl d (nz N) (no N) (nt N) (lw d (nz N) (no N) q (wgt d (nye N) + wnd d (nmi N))) → ∀ G, FrR n (n + 4) F G → CN G n ((nz N, nmi N + 1, nye N, q, 0), no N, tir d (no N) (lw d (nz N) (no N) q (wgt d (nye N) + wnd d (nmi N))) (nz N) (nt N)) → K (nI 1) G)
    (k0 : ¬ setl d (nz N) (no N) (nt N) (lw d (nz N) (no N) q (wgt d (nye N) + wnd d (nmi N))) → ∀ G, FrR n (n + 4) F G → CN G n ((nz N, nmi N + 1, nye N, q, 1), no N, nt N) → K (nI 0) G) : wp_X2_passMinuteAt K F n (pI q) := by
  have hW := o'.2.2.2.1
  have h8 := hw.1.1
  have hmi := hw.2.2.1
  have hye := hw.2.2.2.1
  have hwg := wgt_le o' (y := nye N) (by omega)
  unfold wp_X2_passMinuteAt
  intro F1 e1
  have f1 : FrR n (n + 4) F F1 := by rw [e1]; exact FrR.up (by omega)
  have at1 : ∀ j, j ≠ 4 → F1 n j = F n j := fun j a => by rw [e1, hup_at, if_neg a]
  have b1 : CB F1 (n + 1) (nz N) (no N) (nt N) := h.2.2.2.2.kept (by rw [e1, hup_n _ _ _ (by omega)]) (by rw [e1, hup_n _ _ _ (by omega)]) (by rw [e1, hup_n _ _ _ (by omega)])
  have c1 : CF F1 4 d := c.frR f1 (by omega)
  have n1 : CN F1 n ((nz N, nmi N, nye N, q, 0), no N, nt N) := ⟨by rw [at1 2 (by omega)]; exact h.1, by rw [at1 3 (by omega)]; exact h.2.1, by rw [e1, hup_at, if_pos rfl]; rfl, by rw [at1 5 (by omega), h.2.2.2.1, hbr]; rfl, b1⟩
  refine s_X2_isOnBridge c1 o' n1 hq (fun g => ?_) (fun g => ?_)
  · refine ⟨fun e => absurd e (by decide), fun _ => ?_⟩
    unfold wp_X2_weight
    rw [n1.2.1]
    refine s_X1_weightIn c1 ?_
    show wp_X1_windIn _ F1 4 (F1 n 2)
    rw [n1.1]
    show wp_X1_windIn _ F1 4 (nI (nmi N))
    refine s_X1_windIn c1 o' (by omega) ?_
    have hwn := wnd_le o' (nmi N)
    have g : 1 ≤ q ∧ q ≤ fW d := g
    obtain ⟨p, rfl⟩ : ∃ p, q = p + 1 := ⟨q - 1, by omega⟩
    have e4 : F1 n 4 = nI p := by rw [e1, hup_at, if_pos rfl, pI_s]
    rw [e4]
    show wp_X0_loadAlone _ F1 (n + 1) (nI p) (nI (wgt d (nye N)) + nI (wnd d (nmi N)))
    rw [nI_add]
    have el : lw d (nz N) (no N) (p + 1) (wgt d (nye N) + wnd d (nmi N)) = bl d (no N) (nz N) p (wgt d (nye N) + wnd d (nmi N)) := by
      unfold lw; rw [if_pos g]; rfl
    rw [el] at k1 k0
    refine s_X0_loadAlone c1 o' b1 hw.1 (by omega) (by have := hwh (by omega); omega) (by omega) (fun G fG gG => ?_)
    have hbl := bl_le d (no N) (nz N) p (wgt d (nye N) + wnd d (nmi N))
    have cG : CF G 4 d := c1.fr fG (fun a x1 x2 => by simp; omega)
    have bG : CB G (n + 1) (nz N) (no N) (nt N) := b1.fr fG (by simp) (by simp) (by simp)
    have fRG : FrR n (n + 4) F G := f1.tr (fG.toR (fun a ha => by simp at ha; omega))
    have aG : ∀ j, j ≠ 4 → G n j = F n j := fun j a => by rw [fG n (by simp; omega), at1 j a]
    have aG4 : G n 4 = pI (p + 1) := by rw [fG n (by simp; omega), e4, pI_s]
    refine s_X0_settle (w := bl d (no N) (nz N) p (wgt d (nye N) + wnd d (nmi N))) cG o' bG hw.1 (by omega) (fun k hk => hw.2.1 _ (hw.1.2.1 k hk)) gG (fun i _ => by have := hbl i; omega) (fun hs G2 f2 g2 => ?_) (fun hs => ?_)
    · refine ⟨fun _ => ?_, fun e => absurd e (by decide)⟩
      unfold wp_X2_passMinuteAt_55 wp_X2_passMinuteAt_58
      refine ⟨Or.inl rfl, fun F3 e3 F4 e4 => ?_⟩
      have a2 : ∀ j, j ≠ 4 → G2 n j = F n j := fun j a => by rw [f2 n (by simp; omega), aG j a]
      have e5 : F4 n 5 = nI 0 := by rw [e4, hup_at, if_neg (by omega), e3, hup_at, if_pos rfl]
      rw [e5]
      refine ⟨fun e => absurd rfl e, fun _ => k1 hs F4 ?_ ⟨?_, ?_, ?_, e5, ?_⟩⟩
      · rw [e4]; refine FrR.tr ?_ (FrR.up (by omega)); rw [e3]; refine FrR.tr ?_ (FrR.up (by omega))
        exact fRG.tr (f2.toR (fun a ha => by simp at ha; omega))
      · rw [e4, hup_at, if_pos rfl, e3, hup_at, if_neg (by omega), a2 2 (by omega), h.1, nI_add]; rfl
      · rw [e4, hup_at, if_neg (by omega), e3, hup_at, if_neg (by omega), a2 3 (by omega)]; exact h.2.1
      · rw [e4, hup_at, if_neg (by omega), e3, hup_at, if_neg (by omega), f2 n (by simp; omega)]; exact aG4
      · exact g2.kept (by rw [e4, hup_n _ _ _ (by omega), e3, hup_n _ _ _ (by omega)]) (by rw [e4, hup_n _ _ _ (by omega), e3, hup_n _ _ _ (by omega)]) (by rw [e4, hup_n _ _ _ (by omega), e3, hup_n _ _ _ (by omega)])
    · refine ⟨fun e => absurd rfl e, fun _ => ?_⟩
      unfold wp_X2_passMinuteAt_55 wp_X2_passMinuteAt_58
      refine ⟨Or.inr rfl, fun F3 e3 F4 e4 => ?_⟩
      have e5 : F4 n 5 = nI 1 := by rw [e4, hup_at, if_neg (by omega), e3, hup_at, if_pos rfl]
      rw [e5]
      refine ⟨fun _ => k0 hs F4 ?_ ⟨?_, ?_, ?_, e5, ?_⟩, fun e => absurd e (by decide)⟩
      · rw [e4]; refine FrR.tr ?_ (FrR.up (by omega)); rw [e3]; exact fRG.tr (FrR.up (by omega))
      · rw [e4, hup_at, if_pos rfl, e3, hup_at, if_neg (by omega), aG 2 (by omega), h.1, nI_add]; rfl
      · rw [e4, hup_at, if_neg (by omega), e3, hup_at, if_neg (by omega), aG 3 (by omega)]; exact h.2.1
      · rw [e4, hup_at, if_neg (by omega), e3, hup_at, if_neg (by omega)]; exact aG4
      · exact bG.kept (by rw [e4, hup_n _ _ _ (by omega), e3, hup_n _ _ _ (by omega)]) (by rw [e4, hup_n _ _ _ (by omega), e3, hup_n _ _ _ (by omega)]) (by rw [e4, hup_n _ _ _ (by omega), e3, hup_n _ _ _ (by omega)])
  · refine ⟨fun _ => ?_, fun e => absurd rfl e⟩
    have g : ¬ (1 ≤ q ∧ q ≤ fW d) := g
    have el : lw d (nz N) (no N) q (wgt d (nye N) + wnd d (nmi N)) = fun _ => 0 := by unfold lw; rw [if_neg g]
    rw [el] at k1
    have et : ∀ k, tir d (no N) (fun _ => 0) k (nt N) = nt N := by
      intro k
      induction k with
      | zero => rfl
      | succ k ih =>
        funext x
        show (if x = no N k then tir d (no N) (fun _ => 0) k (nt N) x + inc d x 0 else tir d (no N) (fun _ => 0) k (nt N) x) = nt N x
        rw [ih]
        unfold inc
        split <;> (try split) <;> simp
    rw [et] at k1
    unfold wp_X2_passMinuteAt_58
    intro F4 e4
    have e5 : F4 n 5 = nI 0 := by rw [e4, hup_at, if_neg (by omega), n1.2.2.2.1]; rfl
    rw [e5]
    refine ⟨fun e => absurd rfl e, fun _ => k1 setl_0 F4 ?_ ⟨?_, ?_, ?_, e5, ?_⟩⟩
    · rw [e4]; exact f1.tr (FrR.up (by omega))
    · rw [e4, hup_at, if_pos rfl, n1.1, nI_add]; rfl
    · rw [e4, hup_at, if_neg (by omega)]; exact n1.2.1
    · rw [e4, hup_at, if_neg (by omega)]; exact n1.2.2.1
    · exact b1.kept (by rw [e4, hup_n _ _ _ (by omega)]) (by rw [e4, hup_n _ _ _ (by omega)]) (by rw [e4, hup_n _ _ _ (by omega)])
end NightS
