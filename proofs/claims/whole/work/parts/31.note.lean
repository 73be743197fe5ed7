/-! ===== the reference's nights undone ===== -/
def PM (F : HF) (np : Nat) (ps : Nat → ND) : Prop := F 100 23 = nI np ∧ ∀ i, i < np → MNf (fun j => F 122 (21 * i + j)) (ps i)
theorem MNf.cong {f g : Nat → Int32} {N : ND} (h : MNf f N) (hz : nz N ≤ 8) (e : ∀ j, j < 21 → g j = f j) : MNf g N := by
  unfold MNf
  rw [e 0 (by omega), e 1 (by omega), e 2 (by omega), e 3 (by omega), e 4 (by omega)]
  exact ⟨h.1, h.2.1, h.2.2.1, h.2.2.2.1, h.2.2.2.2.1, fun k hk => by rw [e (5 + k) (by omega)]; exact h.2.2.2.2.2.1 k hk, fun k hk => by rw [e (13 + k) (by omega)]; exact h.2.2.2.2.2.2 k hk⟩
theorem MNf.mb {F : HF} {r : Nat} {N : ND} (h : MNf (F r) N) : MB F r (nz N) (no N) (nt N) := ⟨h.1, h.2.2.2.2.2.1, h.2.2.2.2.2.2⟩
/-- slots of the reference's object that say something between calls -/
def S100 (j : Nat) : Prop := j = 0 ∨ j = 13 ∨ j = 15 ∨ j = 17 ∨ j = 18 ∨ j = 19 ∨ j = 23 ∨ j = 25 ∨ j = 27
section NoteS
variable {F : HF} {np : Nat} {ps : Nat → ND} {N : ND}
theorem s_X7_note_49 {K : HF → Prop} (h : PM F np ps) (hn : np < 8) (hz : ∀ i, i < np → nz (ps i) ≤ 8) (hN : MNf (F 120) N) (hzN : nz N ≤ 8)
    (k : ∀ G, FrL [100, 122] F G → (∀ j, j ≠ 23 → G 100 j = F 100 j) → PM G (np + 1) (fun i => if i = np then N else ps i) → K G) : wp_X7_note_49 K F := by
  unfold wp_X7_note_49
  rw [h.1, pk_mul]
  refine s_X7_copy (x := 0) (by decide) (by omega) (by omega) (by omega) (by omega) (fun G f g => fun G1 e1 => k G1 ?_ ?_ ⟨?_, ?_⟩)
  · rw [e1]; exact (f.mono (fun a ha => by simp at ha; simp [ha])).tr (FrL.up (by simp))
  · intro j hj
    rw [e1, hup_at, if_neg hj, f 100 (by simp)]
  · rw [e1, hup_at, if_pos rfl, f 100 (by simp), h.1, nI_add]
  · intro i hi
    have e122 : G1 122 = G 122 := by rw [e1, hup_n _ _ _ (by omega)]
    show MNf (fun j => G1 122 (21 * i + j)) (if i = np then N else ps i)
    rw [e122]
    by_cases e : i = np
    · rw [if_pos e, e]
      refine hN.cong hzN (fun j hj => ?_)
      show G 122 (21 * np + j) = F 120 j
      rw [g, if_pos (by omega)]
      congr 1; omega
    · rw [if_neg e]
      refine (h.2 i (by omega)).cong (hz i (by omega)) (fun j hj => ?_)
      show G 122 (21 * i + j) = F 122 (21 * i + j)
      rw [g, if_neg (by omega)]
theorem s_X7_note {K : HF → Prop} (h : PM F np ps) (hn : np ≤ 8) (hz : ∀ i, i < np → nz (ps i) ≤ 8) (hN : MNf (F 120) N) (hzN : nz N ≤ 8)
    (k : ∀ G, FrL [100, 122] F G → (∀ j, j ≠ 23 → G 100 j = F 100 j) → PM G (pn 8 np) (pp 8 np ps N) → K G) : wp_X7_note K F := by
  unfold wp_X7_note
  rw [h.1, nIe (by omega) (by omega)]
  refine ⟨fun q => ?_, fun q => ?_⟩
  · refine s_X7_note_49 h (by omega) hz hN hzN (fun G f1 f2 g => k G f1 f2 ?_)
    have e : pp 8 np ps N = fun i => if i = np then N else ps i := by funext i; unfold pp; rw [if_pos (by omega)]
    unfold pn
    rw [e, if_pos (by omega)]; exact g
  · subst q
    have main : ∀ n i (G : HF), 148 ≤ i + n → i ≤ 147 → FrL [122] F G → (∀ j, G 122 j = if j < i then F 122 (j + 21) else F 122 j) → wp_X7_note_11 K n G (nI i) := by
      intro n
      induction n with
      | zero => intro i G a1 a2; omega
      | succ n ih =>
        intro i G a1 a2 f g
        unfold wp_X7_note_11
        simp (disch := omega) only [nIle, nI_add, nIcl]
        refine ⟨fun q F1 e1 => ?_, fun q => ⟨vin (by omega) (by omega), vin (by omega) (by omega), fun F1 e1 => ih (i + 1) F1 (by omega) (by omega) (by rw [e1]; exact f.tr (FrL.up (by simp))) ?_⟩⟩
        · have : i = 147 := by omega
          subst this
          have e122 : F1 122 = G 122 := by rw [e1, hup_n _ _ _ (by omega)]
          have e120 : F1 120 = F 120 := by rw [e1, hup_n _ _ _ (by omega), f 120 (by simp)]
          have p1 : PM F1 7 (fun i => ps (i + 1)) := by
            refine ⟨by rw [e1, hup_at, if_pos rfl, f 100 (by simp), h.1]; decide, fun i hi => ?_⟩
            show MNf (fun j => F1 122 (21 * i + j)) (ps (i + 1))
            rw [e122]
            refine (h.2 (i + 1) (by omega)).cong (hz (i + 1) (by omega)) (fun j hj => ?_)
            show G 122 (21 * i + j) = F 122 (21 * (i + 1) + j)
            rw [g, if_pos (by omega)]
            congr 1; omega
          refine s_X7_note_49 p1 (by omega) (fun i hi => hz _ (by omega)) (by rw [e120]; exact hN) hzN (fun G2 f2 f3 g2 => k G2 ?_ ?_ ?_)
          · refine FrL.tr ?_ f2
            rw [e1]; exact (f.mono (fun a ha => by simp at ha; simp [ha])).tr (FrL.up (by simp))
          · intro j hj
            rw [f3 j hj, e1, hup_at, if_neg hj, f 100 (by simp)]
          · have e : pp 8 8 ps N = fun i => if i = 7 then N else (fun i => ps (i + 1)) i := by
              funext i; unfold pp; rw [if_neg (by omega)]
              by_cases x : i + 1 = 8
              · rw [if_pos x, if_pos (by omega)]
              · rw [if_neg x, if_neg (by omega)]
            unfold pn
            rw [e, if_neg (by omega)]; exact g2
        · intro j
          rw [e1, hup_at]
          by_cases x : j = i
          · rw [if_pos x, if_pos (by omega), g, if_neg (by omega), x]
          · rw [if_neg x, g]
            by_cases y : j < i
            · rw [if_pos y, if_pos (by omega)]
            · rw [if_neg y, if_neg (by omega)]
    exact ⟨148, main _ 0 F (by omega) (by omega) FrL.rf (fun j => by rw [if_neg (by omega)])⟩
theorem s_X7_isShut {K : Int32 → HF → Prop} {d : FD} (m : MF F d) (o' : OkF d) (hN : MNf (F 120) N) (hq : nq N ≤ fW d + 1) (hb : nbr N ≤ 1) (k1 : (nbr N = 1 ∨ (1 ≤ nq N ∧ nq N ≤ fW d)) → K (nI 1) F) (k0 : ¬ (nbr N = 1 ∨ (1 ≤ nq N ∧ nq N ≤ fW d)) → K (nI 0) F) : wp_X7_isShut K F := by
  have hW := o'.2.2.2.1
  have hW1 := o'.2.2.1
  unfold wp_X7_isShut
  simp (disch := omega) only [nIcl]
  rw [hN.2.2.2.1, m.2.2.1]
  refine ⟨vin (by omega) (by omega), s_X7_isOn (by omega) hW1 (by omega) (fun g => ⟨fun _ => k1 (Or.inr g), fun e => absurd e (by decide)⟩) (fun g => ⟨fun e => absurd rfl e, fun _ => ⟨vin (by omega) (by omega), ?_⟩⟩)⟩
  rw [hN.2.2.2.2.1, nIe (by omega) (by omega)]
  exact ⟨fun x => k0 (fun y => y.elim x g), fun x => k1 (Or.inl x)⟩
end NoteS
