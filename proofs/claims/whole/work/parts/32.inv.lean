/-! ===== the fewest birds ===== -/
def vsq (d : FD) (s : Nat) (g : Nat → Nat) : Prop := ∀ k, k < s → g k < fB d ∧ mj d k g (g k)
def sol (d : FD) (w s : Nat) (g : Nat → Nat) : Prop := vsq d s g ∧ fW d ≤ lsum d g s ∧ fW d ≤ wlk d s g (fun p => w + wnd d p) (fW d) 0 (fun _ => 0)
def lx (g h : Nat → Nat) (s : Nat) : Prop := ∃ k, k < s ∧ (∀ i, i < k → g i = h i) ∧ g k < h k
def BST (d : FD) (w s : Nat) (g : Nat → Nat) : Prop := sol d w s g ∧ (∀ s' g', s' < s → ¬ sol d w s' g') ∧ ∀ g', sol d w s g' → ¬ lx g' g s
def NOS (d : FD) (w : Nat) : Prop := ∀ s g, ¬ sol d w s g
/-! ===== what holds between calls ===== -/
def KM (F : HF) (np : Nat) (ps : Nat → ND) : Prop := F 100 25 = nI np ∧ ∀ i, i < np → MNf (fun j => F 124 (21 * i + j)) (ps i)
def I1 (F : HF) (d : FD) : Prop := CF F 4 d ∧ MF F d
def I2 (n : Nat) (F : HF) (d : FD) : Prop := ∃ N, WfN n d N ∧ CN F 16 N ∧ MNf (F 120) N
def I3 (n : Nat) (F : HF) (d : FD) : Prop := ∃ np ps rl, SC F 25 8 np ps rl ∧ PM F np ps ∧ ∀ i, i < np → WfN n d (ps i)
def I4 (n : Nat) (F : HF) (d : FD) : Prop := ∃ np ps, SC F 67 2 np ps (fun i => 67 + 2 + 5 * i) ∧ KM F np ps ∧ ∀ i, i < np → WfN n d (ps i)
def I5 (F : HF) : Prop := ∃ (ns : Nat) (sk sh : Nat → Nat), ns ≤ 6 ∧ F 0 10 = nI ns ∧ F 100 27 = nI ns ∧ ∀ i, i < ns → sk i < 8 ∧ sh i ≤ 99 ∧ F 85 i = nI (sk i) ∧ F 86 i = nI (sh i) ∧ F 126 (2 * i) = nI (sk i) ∧ F 126 (2 * i + 1) = nI (sh i)
def I6 (F : HF) : Prop := ∃ (nx : Nat) (tx : Nat → Nat), nx ≤ 200 ∧ F 1 2 = nI nx ∧ F 100 0 = nI nx ∧ ∀ i, i < nx → 32 ≤ tx i ∧ tx i ≤ 126 ∧ F 2 i = nI (tx i) ∧ F 101 i = nI (tx i)
def I7 (F : HF) (d : FD) : Prop := F 79 5 = -1 ∨ ∃ w, w < 2 ^ 20 ∧ F 79 5 = nI w ∧ ((F 79 4 = nI 9 ∧ NOS d w) ∨ ∃ s g, 1 ≤ s ∧ s ≤ 8 ∧ F 79 4 = nI s ∧ (∀ k, k < s → F 84 k = nI (g k)) ∧ BST d w s g)
def Inv (n : Nat) (F : HF) : Prop := ∃ d, OkF d ∧ 1 ≤ fB d ∧ I1 F d ∧ I2 n F d ∧ I3 n F d ∧ I4 n F d ∧ I5 F ∧ I6 F ∧ I7 F d
section InvS
variable {F G : HF} {n : Nat} {d : FD}
theorem I1.kept (h : I1 F d) (e : ∀ a, 4 ≤ a → a ≤ 9 → G a = F a) (e1 : ∀ j, S100 j → G 100 j = F 100 j) (e2 : G 114 = F 114) (e3 : G 116 = F 116) : I1 G d :=
  ⟨h.1.kept (e _ (by omega) (by omega)) (e _ (by omega) (by omega)) (e _ (by omega) (by omega)) (e _ (by omega) (by omega)) (e _ (by omega) (by omega)) (e _ (by omega) (by omega)), h.2.kept (fun j hj => e1 j (by unfold S100; omega)) e2 e3⟩
theorem I2.kept (h : I2 n F d) (e : ∀ a, 16 ≤ a → a ≤ 19 → G a = F a) (e1 : G 120 = F 120) : I2 n G d := by
  obtain ⟨N, h1, h2, h3⟩ := h
  exact ⟨N, h1, h2.kept (e _ (by omega) (by omega)) (e _ (by omega) (by omega)) (e _ (by omega) (by omega)) (e _ (by omega) (by omega)), by rw [e1]; exact h3⟩
theorem SC.kept {s ln np : Nat} {ps : Nat → ND} {rl : Nat → Nat} (h : SC F s ln np ps rl) (e : ∀ a, s ≤ a → a ≤ s + 1 + 5 * ln → G a = F a) : SC G s ln np ps rl := by
  obtain ⟨h1, h2, h3, h4, h5, h6⟩ := h
  refine ⟨by rw [e s (by omega) (by omega)]; exact h1, h2, fun i hi => by rw [e (s + 1) (by omega) (by omega)]; exact h3 i hi, h4, h5, fun i hi => ?_⟩
  obtain ⟨j, hj, ej⟩ := h4 i (by omega)
  exact (h6 i hi).kept (e _ (by omega) (by omega)) (e _ (by omega) (by omega)) (e _ (by omega) (by omega)) (e _ (by omega) (by omega))
theorem PM.kept {np : Nat} {ps : Nat → ND} (h : PM F np ps) (e1 : G 100 23 = F 100 23) (e2 : G 122 = F 122) : PM G np ps := by
  unfold PM; rw [e1, e2]; exact h
theorem KM.kept {np : Nat} {ps : Nat → ND} (h : KM F np ps) (e1 : G 100 25 = F 100 25) (e2 : G 124 = F 124) : KM G np ps := by
  unfold KM; rw [e1, e2]; exact h
theorem I3.kept (h : I3 n F d) (e : ∀ a, 25 ≤ a → a ≤ 66 → G a = F a) (e1 : G 100 23 = F 100 23) (e2 : G 122 = F 122) : I3 n G d := by
  obtain ⟨np, ps, rl, h1, h2, h3⟩ := h
  exact ⟨np, ps, rl, h1.kept (fun a x y => e a x (by omega)), h2.kept e1 e2, h3⟩
theorem I4.kept (h : I4 n F d) (e : ∀ a, 67 ≤ a → a ≤ 78 → G a = F a) (e1 : G 100 25 = F 100 25) (e2 : G 124 = F 124) : I4 n G d := by
  obtain ⟨np, ps, h1, h2, h3⟩ := h
  exact ⟨np, ps, h1.kept (fun a x y => e a x (by omega)), h2.kept e1 e2, h3⟩
theorem I5.kept (h : I5 F) (e : G 0 10 = F 0 10) (e1 : G 85 = F 85) (e2 : G 86 = F 86) (e3 : G 100 27 = F 100 27) (e4 : G 126 = F 126) : I5 G := by
  unfold I5; rw [e, e1, e2, e3, e4]; exact h
theorem I6.kept (h : I6 F) (e : G 1 2 = F 1 2) (e1 : G 2 = F 2) (e2 : G 100 0 = F 100 0) (e3 : G 101 = F 101) : I6 G := by
  unfold I6; rw [e, e1, e2, e3]; exact h
theorem I7.kept (h : I7 F d) (e : G 79 = F 79) (e1 : G 84 = F 84) : I7 G d := by
  unfold I7; rw [e, e1]; exact h
theorem I2.mono (h : I2 n F d) : I2 (n + 1) F d := by
  obtain ⟨N, h1, h2⟩ := h
  exact ⟨N, h1.mono (by omega), h2⟩
theorem I3.mono (h : I3 n F d) : I3 (n + 1) F d := by
  obtain ⟨np, ps, rl, h1, h2, h3⟩ := h
  exact ⟨np, ps, rl, h1, h2, fun i hi => (h3 i hi).mono (by omega)⟩
theorem I4.mono (h : I4 n F d) : I4 (n + 1) F d := by
  obtain ⟨np, ps, h1, h2, h3⟩ := h
  exact ⟨np, ps, h1, h2, fun i hi => (h3 i hi).mono (by omega)⟩
theorem Inv.mono (h : Inv n F) : Inv (n + 1) F := by
  obtain ⟨d, h0, h1, h2, h3, h4, h5, h6⟩ := h
  exact ⟨d, h0, h1, h2, h3.mono, h4.mono, h5.mono, h6⟩
/-- what no call needs of another -/
def scr (a : Nat) : Prop := a = 3 ∨ (10 ≤ a ∧ a ≤ 15) ∨ (20 ≤ a ∧ a ≤ 24) ∨ (80 ≤ a ∧ a ≤ 83) ∨ a = 87 ∨ a = 103 ∨ a = 108 ∨ a = 109 ∨ a = 121 ∨ a = 128 ∨ a = 129 ∨ a = 131 ∨ a = 132
def Ag (F G : HF) : Prop := (∀ a, ¬ scr a → a ≠ 100 → G a = F a) ∧ ∀ j, S100 j → G 100 j = F 100 j
theorem Ag.rf : Ag F F := ⟨fun _ _ _ => rfl, fun _ _ => rfl⟩
theorem Ag.tr {H : HF} (h : Ag F G) (g : Ag G H) : Ag F H := ⟨fun a x y => (g.1 a x y).trans (h.1 a x y), fun j x => (g.2 j x).trans (h.2 j x)⟩
theorem Ag.inv (a : Ag F G) (h : Inv n F) : Inv n G := by
  obtain ⟨d, h0, h1, h2, h3, h4, h5, h6, h7, h8⟩ := h
  have e : ∀ x, ¬ scr x → x ≠ 100 → G x = F x := a.1
  refine ⟨d, h0, h1, h2.kept (fun x p q => e x (by unfold scr; omega) (by omega)) a.2 (e _ (by unfold scr; omega) (by omega)) (e _ (by unfold scr; omega) (by omega)), h3.kept (fun x p q => e x (by unfold scr; omega) (by omega)) (e _ (by unfold scr; omega) (by omega)), h4.kept (fun x p q => e x (by unfold scr; omega) (by omega)) (a.2 _ (by unfold S100; omega)) (e _ (by unfold scr; omega) (by omega)), h5.kept (fun x p q => e x (by unfold scr; omega) (by omega)) (a.2 _ (by unfold S100; omega)) (e _ (by unfold scr; omega) (by omega)), h6.kept (by rw [e _ (by unfold scr; omega) (by omega)]) (e _ (by unfold scr; omega) (by omega)) (e _ (by unfold scr; omega) (by omega)) (a.2 _ (by unfold S100; omega)) (e _ (by unfold scr; omega) (by omega)), h7.kept (by rw [e _ (by unfold scr; omega) (by omega)]) (e _ (by unfold scr; omega) (by omega)) (a.2 _ (by unfold S100; omega)) (e _ (by unfold scr; omega) (by omega)), h8.kept (e _ (by unfold scr; omega) (by omega)) (e _ (by unfold scr; omega) (by omega))⟩
theorem FrL.ag {L : List Nat} (h : FrL L F G) (hL : ∀ a, a ∈ L → scr a) : Ag F G := by
  have h100 : 100 ∉ L := fun q => by have := hL 100 q; unfold scr at this; omega
  exact ⟨fun a x y => h a (fun q => x (hL a q)), fun j _ => by rw [h 100 h100]⟩
/-- the end of a call of both that leaves all as it was, but for scratch -/
theorem Inv.end (h : Inv n F) (a : Ag F G) {r r2 : Int32} (e : r = r2) : r = r2 ∧ Inv (n + 1) G := ⟨e, (a.inv h).mono⟩
end InvS
