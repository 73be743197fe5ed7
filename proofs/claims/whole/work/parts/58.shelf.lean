theorem z_198 : Cond.fieldLink RX5 21 "BirdBridge$Shelf" "nights" "[LBirdBridge$Night;" ∈ WB := inWB 198 (by decide +kernel) (by decide +kernel)
theorem z_195 : Cond.classLink RX5 19 RX2 ∈ WB := inWB 195 (by decide +kernel) (by decide +kernel)
theorem z_138 : Cond.instantiable RX2 6 ∈ WB := inWB 138 (by decide +kernel) (by decide +kernel)
theorem z_59 : Cond.initialized RX2 ∈ WB := inWB 59 (by decide +kernel) (by decide +kernel)
theorem z_141 : Cond.code yX2_init cX2_init 2 none ∈ WB := inWB 141 (by decide +kernel) (by decide +kernel)
theorem z_197 : Cond.methodLink RX5 25 yX2_init ∈ WB := inWB 197 (by decide +kernel) (by decide +kernel)
theorem z_140 : Cond.instanceMethod yX2_init ∈ WB := inWB 140 (by decide +kernel) (by decide +kernel)
theorem z_191 : Cond.methodLink RX5 1 Lib.objectInit ∈ WB := inWB 191 (by decide +kernel) (by decide +kernel)
theorem z_199 : Cond.fieldLink RX5 7 "BirdBridge$Shelf" "size" "I" ∈ WB := inWB 199 (by decide +kernel) (by decide +kernel)
theorem z_192 : Cond.methodLink RX5 13 Lib.Math.max.name ∈ WB := inWB 192 (by decide +kernel) (by decide +kernel)
theorem z_193 : Cond.static Lib.Math.max.name ∈ WB := inWB 193 (by decide +kernel) (by decide +kernel)
theorem z_62 : Cond.initialized RJ9 ∈ WB := inWB 62 (by decide +kernel) (by decide +kernel)
theorem z_194 : Cond.code Lib.Math.max.name Lib.Math.max.code 2 (some .int) ∈ WB := inWB 194 (by decide +kernel) (by decide +kernel)
theorem dX5_init_0 : decode cX5_init 0 = .ok (.aload_n 0, 1) := by decide +kernel
theorem dX5_init_1 : decode cX5_init 1 = .ok (.invokespecial 1, 3) := by decide +kernel
theorem dX5_init_4 : decode cX5_init 4 = .ok (.aload_n 0, 1) := by decide +kernel
theorem dX5_init_5 : decode cX5_init 5 = .ok (.iconst 0, 1) := by decide +kernel
theorem dX5_init_6 : decode cX5_init 6 = .ok (.putfield 7, 3) := by decide +kernel
theorem dX5_init_9 : decode cX5_init 9 = .ok (.aload_n 0, 1) := by decide +kernel
theorem dX5_init_10 : decode cX5_init 10 = .ok (.iconst 1, 1) := by decide +kernel
theorem dX5_init_11 : decode cX5_init 11 = .ok (.iload_n 2, 1) := by decide +kernel
theorem dX5_init_12 : decode cX5_init 12 = .ok (.invokestatic 13, 3) := by decide +kernel
theorem dX5_init_15 : decode cX5_init 15 = .ok (.anewarray 19, 3) := by decide +kernel
theorem dX5_init_18 : decode cX5_init 18 = .ok (.putfield 21, 3) := by decide +kernel
theorem dX5_init_21 : decode cX5_init 21 = .ok (.iconst 0, 1) := by decide +kernel
theorem dX5_init_22 : decode cX5_init 22 = .ok (.istore_n 3, 1) := by decide +kernel
theorem dX5_init_23 : decode cX5_init 23 = .ok (.iload_n 3, 1) := by decide +kernel
theorem dX5_init_24 : decode cX5_init 24 = .ok (.aload_n 0, 1) := by decide +kernel
theorem dX5_init_25 : decode cX5_init 25 = .ok (.getfield 21, 3) := by decide +kernel
theorem dX5_init_28 : decode cX5_init 28 = .ok (.arraylength, 1) := by decide +kernel
theorem dX5_init_29 : decode cX5_init 29 = .ok (.if_icmp .ge 23, 3) := by decide +kernel
theorem dX5_init_32 : decode cX5_init 32 = .ok (.aload_n 0, 1) := by decide +kernel
theorem dX5_init_33 : decode cX5_init 33 = .ok (.getfield 21, 3) := by decide +kernel
theorem dX5_init_36 : decode cX5_init 36 = .ok (.iload_n 3, 1) := by decide +kernel
theorem dX5_init_37 : decode cX5_init 37 = .ok (.new 19, 3) := by decide +kernel
theorem dX5_init_40 : decode cX5_init 40 = .ok (.dup, 1) := by decide +kernel
theorem dX5_init_41 : decode cX5_init 41 = .ok (.aload_n 1, 1) := by decide +kernel
theorem dX5_init_42 : decode cX5_init 42 = .ok (.invokespecial 25, 3) := by decide +kernel
theorem dX5_init_45 : decode cX5_init 45 = .ok (.aastore, 1) := by decide +kernel
theorem dX5_init_46 : decode cX5_init 46 = .ok (.iinc 3 1, 3) := by decide +kernel
theorem dX5_init_49 : decode cX5_init 49 = .ok (.goto (-26), 3) := by decide +kernel
theorem dX5_init_52 : decode cX5_init 52 = .ok (.return_, 1) := by decide +kernel
def RS (R : List Nat) (r : Nat) : Nat → List Nat
  | 0 => R ++ [r + 1]
  | i + 1 => RS R r i ++ [r + 2 + 5 * i] ++ [r + 2 + 5 * i + 1] ++ [r + 2 + 5 * i + 2] ++ [r + 2 + 5 * i + 3] ++ [r + 2 + 5 * i + 4]
theorem RS_mem {R : List Nat} {r k : Nat} : ∀ i, k ∈ RS R r i ↔ k ∈ R ∨ (r + 1 ≤ k ∧ k ≤ r + 1 + 5 * i) := by
  intro i
  induction i with
  | zero =>
    unfold RS
    rw [List.mem_append, List.mem_singleton]
    constructor
    · rintro (h | h)
      · exact Or.inl h
      · exact Or.inr (by omega)
    · rintro (h | h)
      · exact Or.inl h
      · exact Or.inr (by omega)
  | succ i ih =>
    unfold RS
    simp only [List.mem_append, List.mem_singleton, ih]
    constructor
    · rintro (((((h | h) | h) | h) | h) | h)
      · rcases h with h | h
        · exact Or.inl h
        · exact Or.inr (by omega)
      all_goals exact Or.inr (by omega)
    · rintro (h | h)
      · exact Or.inl (Or.inl (Or.inl (Or.inl (Or.inl (Or.inl h)))))
      · rcases (show k ≤ r + 1 + 5 * i ∨ k = r + 2 + 5 * i ∨ k = r + 2 + 5 * i + 1 ∨ k = r + 2 + 5 * i + 2 ∨ k = r + 2 + 5 * i + 3 ∨ k = r + 2 + 5 * i + 4 by omega) with g | g | g | g | g | g
        · exact Or.inl (Or.inl (Or.inl (Or.inl (Or.inl (Or.inr ⟨h.1, g⟩)))))
        · exact Or.inl (Or.inl (Or.inl (Or.inl (Or.inr g))))
        · exact Or.inl (Or.inl (Or.inl (Or.inr g)))
        · exact Or.inl (Or.inl (Or.inr g))
        · exact Or.inl (Or.inr g)
        · exact Or.inr g
def ShI (r n fl : Nat) (ad : Nat → Nat) (F : HF) (G : HG) : Prop := F r 1 = nI 0 ∧ G r 0 = some (ad (r + 1)) ∧ (∀ j, F (r + 1) j = nI (r + 2 + 5 * j)) ∧ ∀ j, j < n → G (r + 1) j = some (ad (r + 2 + 5 * j)) ∧ NtI (r + 2 + 5 * j) fl ad F G
theorem ShI.kept {r n fl : Nat} {ad ad' : Nat → Nat} {F F' : HF} {G G' : HG} (h : ShI r n fl ad F G) (e : ∀ k, r ≤ k → k ≤ r + 1 + 5 * n → ad' k = ad k ∧ F' k = F k ∧ G' k = G k) : ShI r n fl ad' F' G' := by
  obtain ⟨h1, h2, h3, h4⟩ := h
  refine ⟨by rw [(e r (by omega) (by omega)).2.1]; exact h1, by rw [(e r (by omega) (by omega)).2.2, (e (r + 1) (by omega) (by omega)).1]; exact h2, by rw [(e (r + 1) (by omega) (by omega)).2.1]; exact h3, fun j hj => ⟨?_, (h4 j hj).2.kept (fun k x y => e k (by omega) (by omega))⟩⟩
  rw [(e (r + 1) (by omega) (by omega)).2.2, (e (r + 2 + 5 * j) (by omega) (by omega)).1]; exact (h4 j hj).1
abbrev rm_sh (n : Nat) : Room := { frames := 3, cells := 1 + 5 * n, slots := n + 35 * n, locals := 80 }
section CtorS
variable {l : Launch} {D : va_G} {dA : Nat → ClassId} {ad : Nat → Nat} {R : List Nat} {F : HF} {G : HG} {K : (Nat → Nat) → List Nat → HF → HG → Prop}
set_option maxRecDepth 100000 in
set_option maxHeartbeats 4000000 in
theorem k_X5_init {r n a0 fl : Nat} (h0 : ad r = a0) (hr0 : r < 2 ^ 10) (hn1 : 1 < n) (hn8 : n ≤ 8) (hk : kd r = (5 + 3, 0)) (hk1 : kd (r + 1) = (2, n)) (hkn : ∀ j, j < n → NtK (r + 2 + 5 * j)) (hb : r ∈ R) (nn : ∀ k, r + 1 ≤ k → k ≤ r + 1 + 5 * n → k ∉ R) (h : ∀ ad' F' G', Ch r (r + 1 + 5 * n) ad ad' F F' G G' → ShI r n fl ad' F' G' → K ad' (RS R r n) F' G') : MK l yX5_init cX5_init 4 (rm_sh n) (1 + 5 * n) (n + 35 * n) D dA ad R F G [.ref a0, .ref fl, .int (nI n)] K := by
  refine MK.of (own := RX5) (by decide) rfl (Nat.le_of_ble_eq_true rfl) ?_
  intro p e s m args below meth c A hA X hO hnm hr
  have loop : ∀ k i, i + k = n → ∀ (ad' : Nat → Nat) (F' : HF) (G' : HG), Ch r (r + 1 + 5 * n) ad ad' F F' G G' → ShI r i fl ad' F' G' → JG (1 + 5 * i) (n + 35 * i) p l e (rm_sh n) s m args below meth c 4 D (wlG dA ad' (RS R r i) F' G') A (QK D dA A below args s (1 + 5 * n) (n + 35 * n) K) 23 [(3, .int (nI i)), (0, .ref a0), (1, .ref fl), (2, .int (nI n))] [] := by
    intro k
    induction k with
    | zero =>
      intro i hi ad' F' G' ch sh
      have : i = n := by omega
      subst this
      have a' : ad' r = a0 := ch.1.trans h0
      refine g_iload_n X 0 dX5_init_23 rfl rfl ?_
      refine g_aload_n X 1 dX5_init_24 rfl rfl ?_
      refine m_getR X (k := r) (j := 0) cl_X5 (by decide) rfl z_198 rfl hk ((RS_mem i).mpr (Or.inl hb)) a' sh.2.1 dX5_init_25 ?_
      refine m_alen X hk1 ((RS_mem i).mpr (Or.inr (by omega))) rfl dX5_init_28 ?_
      refine g_icmp_ge X (tgt := 52) dX5_init_29 (by decide) (fun _ => ?_) (fun g => absurd (nI_le (Nat.le_refl _) (by omega)) g)
      exact m_vret X hr dX5_init_52 (h ad' F' G' ch sh)
    | succ k ih =>
      intro i hi ad' F' G' ch sh
      have hin : i < n := by omega
      have a' : ad' r = a0 := ch.1.trans h0
      refine g_iload_n X 0 dX5_init_23 rfl rfl ?_
      refine g_aload_n X 1 dX5_init_24 rfl rfl ?_
      refine m_getR X (k := r) (j := 0) cl_X5 (by decide) rfl z_198 rfl hk ((RS_mem i).mpr (Or.inl hb)) a' sh.2.1 dX5_init_25 ?_
      refine m_alen X hk1 ((RS_mem i).mpr (Or.inr (by omega))) rfl dX5_init_28 ?_
      refine g_icmp_ge X (tgt := 52) dX5_init_29 (by decide) (fun g => ?_) (fun _ => ?_)
      · rw [nIle (by omega) (by omega)] at g; omega
      refine g_aload_n X 1 dX5_init_32 rfl rfl ?_
      refine m_getR X (k := r) (j := 0) cl_X5 (by decide) rfl z_198 rfl hk ((RS_mem i).mpr (Or.inl hb)) a' sh.2.1 dX5_init_33 ?_
      refine g_iload_n X 0 dX5_init_36 rfl rfl ?_
      have nin : ∀ q, r + 2 + 5 * i ≤ q → q ≤ r + 6 + 5 * i → q ∉ RS R r i := fun q x y g => by
        rcases (RS_mem i).mp g with g | g
        · exact nn q (by omega) (by omega) g
        · omega
      refine m_new X hA (r + 2 + 5 * i) cl_X2 z_195 z_138 z_59 (hkn i hin).1 (nin _ (by omega) (by omega)) (by decide) (by show _ ≤ 1 + 5 * n; omega) (by show _ ≤ n + 35 * n; omega) dX5_init_37 (fun ad1 F1 G1 e1 f1 g1 => ?_)
      refine g_dup X dX5_init_40 rfl ?_
      refine g_aload_n X 2 dX5_init_41 rfl rfl ?_
      refine m_callK X hO hA (np := 1) (t := ad1 (r + 2 + 5 * i)) (As := [.ref fl]) (st := [.ref (ad1 (r + 2 + 5 * i)), .int (nI i), .ref (ad' (r + 1))]) (k_X2_init (n := r + 2 + 5 * i) (K := fun ad2 R2 F2 G2 => R2 = RS R r (i + 1) ∧ Ch (r + 2 + 5 * i) (r + 2 + 5 * i + 4) ad1 ad2 F1 F2 G1 G2 ∧ NtI (r + 2 + 5 * i) fl ad2 F2 G2) rfl (hkn i hin) in_last (nin_push (nin _ (by omega) (by omega)) (by omega)) (nin_push (nin _ (by omega) (by omega)) (by omega)) (nin_push (nin _ (by omega) (by omega)) (by omega)) (nin_push (nin _ (by omega) (by omega)) (by omega)) (fun ad2 F2 G2 x y => ⟨rfl, x, y⟩)) z_141 z_59 z_197 z_140 rfl (by decide +kernel) rfl rfl rfl ⟨Nat.le_of_ble_eq_true rfl, Nat.le_of_ble_eq_true rfl⟩ ⟨by show _ ≤ 1 + 5 * n; omega, by show _ ≤ n + 35 * n; omega⟩ rfl (Nat.le_of_ble_eq_true rfl) dX5_init_42 ?_
      rintro ad2 _ F2 G2 ⟨rfl, c2, n2⟩
      have eo : ∀ q, (q < r + 2 + 5 * i ∨ r + 2 + 5 * i + 4 < q) → ad2 q = ad' q ∧ F2 q = F' q ∧ G2 q = G' q := fun q hq => ⟨by rw [(c2.2 q hq).1, e1 q (by omega)], by rw [(c2.2 q hq).2.1, f1, hst_n _ _ (by omega)], by rw [(c2.2 q hq).2.2, g1, gst_n _ _ (by omega)]⟩
      refine m_aast X (k := r + 1) (v := r + 2 + 5 * i) hk1 ((RS_mem (i + 1)).mpr (Or.inr (by omega))) (hkn i hin).1 ((RS_mem (i + 1)).mpr (Or.inr (by omega))) (eo (r + 1) (by omega)).1 c2.1 (vin hin (by omega)) dX5_init_45 (fun G3 g3 => ?_)
      rw [nIcl (by omega), ← c2.1] at g3
      refine g_iinc X 0 [(3, .int (nI (i + 1))), (0, .ref a0), (1, .ref fl), (2, .int (nI n))] dX5_init_46 rfl (nI_1 i) (by decide) rfl ?_
      refine g_goto X (tgt := 23) dX5_init_49 (by decide) ?_
      have q1 : 1 + 5 * i + 1 + 4 = 1 + 5 * (i + 1) := by omega
      have q2 : n + 35 * i + 6 + 29 = n + 35 * (i + 1) := by omega
      rw [q1, q2]
      have g3n : ∀ q, q ≠ r + 1 → G3 q = G2 q := fun q hq => by rw [g3, gup_n _ _ _ hq]
      refine ih (i + 1) (by omega) ad2 F2 G3 ⟨(eo r (by omega)).1.trans ch.1, fun q hq => ⟨(eo q (by omega)).1.trans (ch.2 q hq).1, (eo q (by omega)).2.1.trans (ch.2 q hq).2.1, by rw [g3n q (by omega), (eo q (by omega)).2.2]; exact (ch.2 q hq).2.2⟩⟩ ⟨by rw [(eo r (by omega)).2.1]; exact sh.1, by rw [g3n r (by omega), (eo r (by omega)).2.2, (eo (r + 1) (by omega)).1]; exact sh.2.1, by rw [(eo (r + 1) (by omega)).2.1]; exact sh.2.2.1, fun j hj => ?_⟩
      rcases Nat.lt_or_ge j i with g | g
      · obtain ⟨s1, s2⟩ := sh.2.2.2 j g
        refine ⟨?_, s2.kept (fun q x y => ⟨(eo q (by omega)).1, (eo q (by omega)).2.1, by rw [g3n q (by omega)]; exact (eo q (by omega)).2.2⟩)⟩
        rw [g3, gup_at, if_neg (by omega), (eo (r + 1) (by omega)).2.2, (eo (r + 2 + 5 * j) (by omega)).1]; exact s1
      · have : j = i := by omega
        subst this
        exact ⟨by rw [g3, gup_at, if_pos rfl], n2.kept (fun q x y => ⟨rfl, rfl, g3n q (by omega)⟩)⟩
  refine g_aload_n X 0 dX5_init_0 rfl rfl ?_
  refine m_objInit X z_191 (Nat.le_of_ble_eq_true rfl) (Nat.le_of_ble_eq_true rfl) dX5_init_1 ?_
  refine g_aload_n X 0 dX5_init_4 rfl rfl ?_
  refine g_iconst X (v := nI 0) dX5_init_5 (by decide) ?_
  refine m_putI X (k := r) (j := 1) cl_X5 (by decide) rfl z_199 rfl rfl rfl rfl hk hb h0 dX5_init_6 (fun F1 f1 => ?_)
  refine g_aload_n X 0 dX5_init_9 rfl rfl ?_
  refine g_iconst X (v := nI 1) dX5_init_10 (by decide) ?_
  refine g_iload_n X 2 dX5_init_11 rfl rfl ?_
  refine m_mmax X z_192 z_193 z_62 z_194 (Nat.le_of_ble_eq_true rfl) (Nat.le_of_ble_eq_true rfl) (Nat.zero_le _) (Nat.zero_le _) dX5_init_12 ?_
  rw [if_pos (nI_lt hn1 (by omega))]
  refine m_newN X hO hA (r + 1) n (fun j => nI (r + 2 + 5 * j)) rfl (by omega) z_195 hk1 (nn _ (by omega) (by omega)) (by show _ ≤ 1 + 5 * n; omega) (by show _ ≤ n + 35 * n; omega) dX5_init_15 (fun ad2 F2 G2 e2 f2 g2 => ?_)
  refine m_putR X hnm (k := r) (j := 0) cl_X5 (by decide) rfl z_198 rfl rfl rfl rfl rfl hk (in_push hb) ((e2 r (by omega)).trans h0) dX5_init_18 (fun G3 g3 => ?_)
  refine g_iconst X (v := nI 0) dX5_init_21 (by decide) ?_
  refine g_istore_n X [(3, .int (nI 0)), (0, .ref a0), (1, .ref fl), (2, .int (nI n))] dX5_init_22 rfl (by decide) rfl ?_
  have q1 : 0 + 1 = 1 + 5 * 0 := rfl
  have q2 : 0 + n = n + 35 * 0 := by omega
  rw [q1, q2]
  refine loop n 0 (by omega) ad2 F2 G3 ⟨e2 r (by omega), fun q hq => ⟨e2 q (by omega), by rw [f2, hst_n _ _ (by omega), f1, hup_n _ _ _ (by omega)], by rw [g3, gup_n _ _ _ (by omega), g2, gst_n _ _ (by omega)]⟩⟩ ⟨by rw [f2, hst_n _ _ (by omega), f1, hup_at, if_pos rfl], by rw [g3, gup_at, if_pos rfl], fun j => by rw [f2, hst_s], fun j hj => absurd hj (by omega)⟩
end CtorS
