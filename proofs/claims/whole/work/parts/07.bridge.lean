theorem dX0_rest_0 : decode cX0_rest 0 = .ok (.iconst 0, 1) := by decide +kernel
theorem dX0_rest_1 : decode cX0_rest 1 = .ok (.istore_n 1, 1) := by decide +kernel
theorem dX0_rest_2 : decode cX0_rest 2 = .ok (.iload_n 1, 1) := by decide +kernel
theorem dX0_rest_3 : decode cX0_rest 3 = .ok (.bipush 8, 2) := by decide +kernel
theorem dX0_rest_5 : decode cX0_rest 5 = .ok (.if_icmp .ge 16, 3) := by decide +kernel
theorem dX0_rest_8 : decode cX0_rest 8 = .ok (.aload_n 0, 1) := by decide +kernel
theorem dX0_rest_9 : decode cX0_rest 9 = .ok (.getfield 15, 3) := by decide +kernel
theorem dX0_rest_12 : decode cX0_rest 12 = .ok (.iload_n 1, 1) := by decide +kernel
theorem dX0_rest_13 : decode cX0_rest 13 = .ok (.iconst 0, 1) := by decide +kernel
theorem dX0_rest_14 : decode cX0_rest 14 = .ok (.iastore, 1) := by decide +kernel
theorem dX0_rest_15 : decode cX0_rest 15 = .ok (.iinc 1 1, 3) := by decide +kernel
theorem dX0_rest_18 : decode cX0_rest 18 = .ok (.goto (-16), 3) := by decide +kernel
theorem dX0_rest_21 : decode cX0_rest 21 = .ok (.return_, 1) := by decide +kernel
theorem hd_X0_rest : yX0_rest.cls = RX0 ∧ yX0_rest.cls ≠ "java/lang/invoke/MethodHandle" ∧ yX0_rest.cls ≠ "java/lang/invoke/VarHandle" ∧ (parseMethodDescriptor yX0_rest.desc).map (fun d => d.parameters.length) = some 0 := by decide +kernel
abbrev rm_X0_rest : Room := { frames := 0, cells := 0, slots := 0, locals := 0 }
def wp_X0_rest_2 (K : HF → Prop) (b : Nat) : Nat → HF → Int32 → Prop
  | 0 => fun _ _ => False
  | n2_ + 1 => fun F v1 => (((nI 8) ≤ v1) → (K F)) ∧ ((¬ (nI 8) ≤ v1) → ((vp_in v1 8) ∧ (∀ F101 : HF, F101 = hup F (b + 2) v1.toNatClampNeg (nI 0) → (wp_X0_rest_2 K b  n2_ F101 (v1 + (nI 1))))))
set_option maxRecDepth 100000 in
set_option maxHeartbeats 4000000 in
theorem k_X0_rest_2 {p : Program} {l : Launch} {e : Env} {s : State} {m : MethodId} {args : Array Value} {below : List Frame} {meth : Method} {c : Code} {D : va_G} {dA : Nat → ClassId} {ad : Nat → Nat} {R : List Nat} {A : Nat → Prop} {K : HF → Prop} {b : Nat} (X : Cx p s m args meth c cX0_rest 2 RX0 D dA) (hA : ∀ q, s.heap.size ≤ q → A q) (hr : meth.sig.returnType = none) (hT : Br R b) : ∀ (n_ : Nat) (F : HF) (v1 : Int32), wp_X0_rest_2 K b n_ F v1 → J p l e rm_X0_rest s m args below meth c 2 D dA ad R A (QV D dA ad R A below args s K) F 2 [(0, .ref (ad b)), (1, .int v1)] [] := by
  intro n_
  induction n_ with
  | zero => intro F v1 h; exact h.elim
  | succ n_ ih =>
    intro F v1 h
    unfold wp_X0_rest_2 at h
    refine r_iload_n (pc := 2) X 1 dX0_rest_2 rfl rfl ?_
    refine r_bipush (pc := 3) (v := (nI 8)) X dX0_rest_3 (by decide) ?_
    refine r_icmp_ge (pc := 5) (tgt := 21) X dX0_rest_5 (by decide) (fun hc => ?_) (fun hc => ?_)
    · replace h := h.1 hc
      exact r_vret (pc := 21) X hr dX0_rest_21 h
    · replace h := h.2 hc
      refine r_aload_n (pc := 8) X 0 dX0_rest_8 rfl rfl ?_
      refine fg_X0_15 (pc := 9) X hT.1 dX0_rest_9 ?_
      refine r_iload_n (pc := 12) X 1 dX0_rest_12 rfl rfl ?_
      refine r_iconst (pc := 13) (v := (nI 0)) X dX0_rest_13 (by decide) ?_
      refine r_iast (pc := 14) X hT.2.2.1 h.1 dX0_rest_14 (fun F101 e1 => ?_)
      replace h := h.2 F101 e1
      refine r_iinc (pc := 15) (v := (v1 + (nI 1))) X 1 [(1, .int (v1 + (nI 1))), (0, .ref (ad b))] dX0_rest_15 rfl rfl (by decide) rfl ?_
      refine r_goto (pc := 18) (tgt := 2) X dX0_rest_18 (by decide) ?_
      refine r_sub [1, 0] rfl ?_
      exact ih _ _ h
def wp_X0_rest (K : HF → Prop) (F : HF) (b : Nat) : Prop := ∃ m_, wp_X0_rest_2 K b  m_ F (nI 0)
set_option maxRecDepth 100000 in
set_option maxHeartbeats 4000000 in
theorem c_X0_rest {l : Launch} {D : va_G} {dA : Nat → ClassId} {ad : Nat → Nat} {R : List Nat} {F : HF} {b : Nat} {K : HF → Prop} (hT : Br R b) (h : wp_X0_rest K F b) : MV l yX0_rest cX0_rest 2 rm_X0_rest D dA ad R F [.ref (ad b)] K := by
  refine MV.of (own := RX0) (by decide) rfl (Nat.le_of_ble_eq_true rfl) ?_
  intro p e s m args below meth c A hA X hr
  unfold wp_X0_rest at h
  show J p l e rm_X0_rest s m args below meth c 2 D dA ad R A (QV D dA ad R A below args s K) F 0 [(0, .ref (ad b))] []
  refine r_iconst (pc := 0) (v := (nI 0)) X dX0_rest_0 (by decide) ?_
  refine r_istore_n (pc := 1) X [(1, .int (nI 0)), (0, .ref (ad b))] dX0_rest_1 rfl (by decide) rfl ?_
  refine r_sub [1, 0] rfl ?_
  obtain ⟨n1, h⟩ := h
  exact k_X0_rest_2 X hA hr hT  n1 _ _ h
theorem dX0_clear_0 : decode cX0_clear 0 = .ok (.aload_n 0, 1) := by decide +kernel
theorem dX0_clear_1 : decode cX0_clear 1 = .ok (.iconst 0, 1) := by decide +kernel
theorem dX0_clear_2 : decode cX0_clear 2 = .ok (.putfield 21, 3) := by decide +kernel
theorem dX0_clear_5 : decode cX0_clear 5 = .ok (.aload_n 0, 1) := by decide +kernel
theorem dX0_clear_6 : decode cX0_clear 6 = .ok (.invokevirtual 29, 3) := by decide +kernel
theorem dX0_clear_9 : decode cX0_clear 9 = .ok (.return_, 1) := by decide +kernel
theorem hd_X0_clear : yX0_clear.cls = RX0 ∧ yX0_clear.cls ≠ "java/lang/invoke/MethodHandle" ∧ yX0_clear.cls ≠ "java/lang/invoke/VarHandle" ∧ (parseMethodDescriptor yX0_clear.desc).map (fun d => d.parameters.length) = some 0 := by decide +kernel
abbrev rm_X0_clear : Room := { frames := 1, cells := 0, slots := 0, locals := 21 }
def wp_X0_clear (K : HF → Prop) (F : HF) (b : Nat) : Prop := ∀ F1 : HF, F1 = hup F b 4 (nI 0) → (wp_X0_rest (fun F2 => K F2) F1 b)
set_option maxRecDepth 100000 in
set_option maxHeartbeats 4000000 in
theorem c_X0_clear {l : Launch} {D : va_G} {dA : Nat → ClassId} {ad : Nat → Nat} {R : List Nat} {F : HF} {b : Nat} {K : HF → Prop} (hT : Br R b) (h : wp_X0_clear K F b) : MV l yX0_clear cX0_clear 1 rm_X0_clear D dA ad R F [.ref (ad b)] K := by
  refine MV.of (own := RX0) (by decide) rfl (Nat.le_of_ble_eq_true rfl) ?_
  intro p e s m args below meth c A hA X hr
  unfold wp_X0_clear at h
  show J p l e rm_X0_clear s m args below meth c 1 D dA ad R A (QV D dA ad R A below args s K) F 0 [(0, .ref (ad b))] []
  refine r_aload_n (pc := 0) X 0 dX0_clear_0 rfl rfl ?_
  refine r_iconst (pc := 1) (v := (nI 0)) X dX0_clear_1 (by decide) ?_
  refine fp_X0_21 (pc := 2) X hT.1 dX0_clear_2 (fun F1 e1 => ?_)
  replace h := h F1 e1
  refine r_aload_n (pc := 5) X 0 dX0_clear_5 rfl rfl ?_
  refine r_callVV (pc := 6) (As := []) (st := []) X hA (c_X0_rest hT h) g_X0_29 cl_X0 hT.1 hd_X0_rest rfl rfl rfl ⟨Nat.le_of_ble_eq_true rfl, Nat.le_of_ble_eq_true rfl⟩ rfl (Nat.le_of_ble_eq_true rfl) dX0_clear_6 (fun F2 h => ?_)
  exact r_vret (pc := 9) X hr dX0_clear_9 h
theorem dX0_copyFrom_0 : decode cX0_copyFrom 0 = .ok (.aload_n 1, 1) := by decide +kernel
theorem dX0_copyFrom_1 : decode cX0_copyFrom 1 = .ok (.getfield 9, 3) := by decide +kernel
theorem dX0_copyFrom_4 : decode cX0_copyFrom 4 = .ok (.iconst 0, 1) := by decide +kernel
theorem dX0_copyFrom_5 : decode cX0_copyFrom 5 = .ok (.aload_n 0, 1) := by decide +kernel
theorem dX0_copyFrom_6 : decode cX0_copyFrom 6 = .ok (.getfield 9, 3) := by decide +kernel
theorem dX0_copyFrom_9 : decode cX0_copyFrom 9 = .ok (.iconst 0, 1) := by decide +kernel
theorem dX0_copyFrom_10 : decode cX0_copyFrom 10 = .ok (.bipush 8, 2) := by decide +kernel
theorem dX0_copyFrom_12 : decode cX0_copyFrom 12 = .ok (.invokestatic 32, 3) := by decide +kernel
theorem dX0_copyFrom_15 : decode cX0_copyFrom 15 = .ok (.aload_n 1, 1) := by decide +kernel
theorem dX0_copyFrom_16 : decode cX0_copyFrom 16 = .ok (.getfield 15, 3) := by decide +kernel
theorem dX0_copyFrom_19 : decode cX0_copyFrom 19 = .ok (.iconst 0, 1) := by decide +kernel
theorem dX0_copyFrom_20 : decode cX0_copyFrom 20 = .ok (.aload_n 0, 1) := by decide +kernel
theorem dX0_copyFrom_21 : decode cX0_copyFrom 21 = .ok (.getfield 15, 3) := by decide +kernel
theorem dX0_copyFrom_24 : decode cX0_copyFrom 24 = .ok (.iconst 0, 1) := by decide +kernel
theorem dX0_copyFrom_25 : decode cX0_copyFrom 25 = .ok (.bipush 8, 2) := by decide +kernel
theorem dX0_copyFrom_27 : decode cX0_copyFrom 27 = .ok (.invokestatic 32, 3) := by decide +kernel
theorem dX0_copyFrom_30 : decode cX0_copyFrom 30 = .ok (.aload_n 0, 1) := by decide +kernel
theorem dX0_copyFrom_31 : decode cX0_copyFrom 31 = .ok (.aload_n 1, 1) := by decide +kernel
theorem dX0_copyFrom_32 : decode cX0_copyFrom 32 = .ok (.getfield 21, 3) := by decide +kernel
theorem dX0_copyFrom_35 : decode cX0_copyFrom 35 = .ok (.putfield 21, 3) := by decide +kernel
theorem dX0_copyFrom_38 : decode cX0_copyFrom 38 = .ok (.return_, 1) := by decide +kernel
theorem hd_X0_copyFrom : yX0_copyFrom.cls = RX0 ∧ yX0_copyFrom.cls ≠ "java/lang/invoke/MethodHandle" ∧ yX0_copyFrom.cls ≠ "java/lang/invoke/VarHandle" ∧ (parseMethodDescriptor yX0_copyFrom.desc).map (fun d => d.parameters.length) = some 1 := by decide +kernel
abbrev rm_X0_copyFrom : Room := { frames := 1, cells := 0, slots := 0, locals := 48 }
def wp_X0_copyFrom (K : HF → Prop) (F : HF) (b : Nat) (r1 : Nat) : Prop := ∀ F1 : HF, F1 = hst F (b + 1) (va_cpy (F (r1 + 1)) (F (b + 1)) 0 0 8) → (∀ F2 : HF, F2 = hst F1 (b + 2) (va_cpy (F1 (r1 + 2)) (F1 (b + 2)) 0 0 8) → (∀ F3 : HF, F3 = hup F2 b 4 (F2 r1 4) → (K F3)))
set_option maxRecDepth 100000 in
set_option maxHeartbeats 4000000 in
theorem c_X0_copyFrom {l : Launch} {D : va_G} {dA : Nat → ClassId} {ad : Nat → Nat} {R : List Nat} {F : HF} {b : Nat} {r1 : Nat} {K : HF → Prop} (hT : Br R b) (hr1 : Br R r1) (h : wp_X0_copyFrom K F b r1) : MV l yX0_copyFrom cX0_copyFrom 2 rm_X0_copyFrom D dA ad R F [.ref (ad b), .ref (ad r1)] K := by
  refine MV.of (own := RX0) (by decide) rfl (Nat.le_of_ble_eq_true rfl) ?_
  intro p e s m args below meth c A hA X hr
  unfold wp_X0_copyFrom at h
  show J p l e rm_X0_copyFrom s m args below meth c 2 D dA ad R A (QV D dA ad R A below args s K) F 0 [(0, .ref (ad b)), (1, .ref (ad r1))] []
  refine r_aload_n (pc := 0) X 1 dX0_copyFrom_0 rfl rfl ?_
  refine fg_X0_9 (pc := 1) X hr1.1 dX0_copyFrom_1 ?_
  refine r_iconst (pc := 4) (v := (nI 0)) X dX0_copyFrom_4 (by decide) ?_
  refine r_aload_n (pc := 5) X 0 dX0_copyFrom_5 rfl rfl ?_
  refine fg_X0_9 (pc := 6) X hT.1 dX0_copyFrom_6 ?_
  refine r_iconst (pc := 9) (v := (nI 0)) X dX0_copyFrom_9 (by decide) ?_
  refine r_bipush (pc := 10) (v := (nI 8)) X dX0_copyFrom_10 (by decide) ?_
  refine r_copy (pc := 12) X w_506 w_401 w_400 w_69 hr1.2.1 hT.2.1 (by decide) (by decide) (by decide) (Nat.le_of_ble_eq_true rfl) (Nat.le_of_ble_eq_true rfl) dX0_copyFrom_12 (fun F1 e1 => ?_)
  replace h := h F1 e1
  refine r_aload_n (pc := 15) X 1 dX0_copyFrom_15 rfl rfl ?_
  refine fg_X0_15 (pc := 16) X hr1.1 dX0_copyFrom_16 ?_
  refine r_iconst (pc := 19) (v := (nI 0)) X dX0_copyFrom_19 (by decide) ?_
  refine r_aload_n (pc := 20) X 0 dX0_copyFrom_20 rfl rfl ?_
  refine fg_X0_15 (pc := 21) X hT.1 dX0_copyFrom_21 ?_
  refine r_iconst (pc := 24) (v := (nI 0)) X dX0_copyFrom_24 (by decide) ?_
  refine r_bipush (pc := 25) (v := (nI 8)) X dX0_copyFrom_25 (by decide) ?_
  refine r_copy (pc := 27) X w_506 w_401 w_400 w_69 hr1.2.2.1 hT.2.2.1 (by decide) (by decide) (by decide) (Nat.le_of_ble_eq_true rfl) (Nat.le_of_ble_eq_true rfl) dX0_copyFrom_27 (fun F2 e1 => ?_)
  replace h := h F2 e1
  refine r_aload_n (pc := 30) X 0 dX0_copyFrom_30 rfl rfl ?_
  refine r_aload_n (pc := 31) X 1 dX0_copyFrom_31 rfl rfl ?_
  refine fg_X0_21 (pc := 32) X hr1.1 dX0_copyFrom_32 ?_
  refine fp_X0_21 (pc := 35) X hT.1 dX0_copyFrom_35 (fun F3 e1 => ?_)
  replace h := h F3 e1
  exact r_vret (pc := 38) X hr dX0_copyFrom_38 h
theorem dX0_copyRested_0 : decode cX0_copyRested 0 = .ok (.aload_n 0, 1) := by decide +kernel
theorem dX0_copyRested_1 : decode cX0_copyRested 1 = .ok (.aload_n 1, 1) := by decide +kernel
theorem dX0_copyRested_2 : decode cX0_copyRested 2 = .ok (.invokevirtual 38, 3) := by decide +kernel
theorem dX0_copyRested_5 : decode cX0_copyRested 5 = .ok (.aload_n 0, 1) := by decide +kernel
theorem dX0_copyRested_6 : decode cX0_copyRested 6 = .ok (.invokevirtual 29, 3) := by decide +kernel
theorem dX0_copyRested_9 : decode cX0_copyRested 9 = .ok (.return_, 1) := by decide +kernel
theorem hd_X0_copyRested : yX0_copyRested.cls = RX0 ∧ yX0_copyRested.cls ≠ "java/lang/invoke/MethodHandle" ∧ yX0_copyRested.cls ≠ "java/lang/invoke/VarHandle" ∧ (parseMethodDescriptor yX0_copyRested.desc).map (fun d => d.parameters.length) = some 1 := by decide +kernel
abbrev rm_X0_copyRested : Room := { frames := 2, cells := 0, slots := 0, locals := 69 }
def wp_X0_copyRested (K : HF → Prop) (F : HF) (b : Nat) (r1 : Nat) : Prop := wp_X0_copyFrom (fun F1 => wp_X0_rest (fun F2 => K F2) F1 b) F b r1
set_option maxRecDepth 100000 in
set_option maxHeartbeats 4000000 in
theorem c_X0_copyRested {l : Launch} {D : va_G} {dA : Nat → ClassId} {ad : Nat → Nat} {R : List Nat} {F : HF} {b : Nat} {r1 : Nat} {K : HF → Prop} (hT : Br R b) (hr1 : Br R r1) (h : wp_X0_copyRested K F b r1) : MV l yX0_copyRested cX0_copyRested 2 rm_X0_copyRested D dA ad R F [.ref (ad b), .ref (ad r1)] K := by
  refine MV.of (own := RX0) (by decide) rfl (Nat.le_of_ble_eq_true rfl) ?_
  intro p e s m args below meth c A hA X hr
  unfold wp_X0_copyRested at h
  show J p l e rm_X0_copyRested s m args below meth c 2 D dA ad R A (QV D dA ad R A below args s K) F 0 [(0, .ref (ad b)), (1, .ref (ad r1))] []
  refine r_aload_n (pc := 0) X 0 dX0_copyRested_0 rfl rfl ?_
  refine r_aload_n (pc := 1) X 1 dX0_copyRested_1 rfl rfl ?_
  refine r_callVV (pc := 2) (As := [.ref (ad r1)]) (st := []) X hA (c_X0_copyFrom hT hr1 h) g_X0_38 cl_X0 hT.1 hd_X0_copyFrom rfl rfl rfl ⟨Nat.le_of_ble_eq_true rfl, Nat.le_of_ble_eq_true rfl⟩ rfl (Nat.le_of_ble_eq_true rfl) dX0_copyRested_2 (fun F1 h => ?_)
  refine r_aload_n (pc := 5) X 0 dX0_copyRested_5 rfl rfl ?_
  refine r_callVV (pc := 6) (As := []) (st := []) X hA (c_X0_rest hT h) g_X0_29 cl_X0 hT.1 hd_X0_rest rfl rfl rfl ⟨Nat.le_of_ble_eq_true rfl, Nat.le_of_ble_eq_true rfl⟩ rfl (Nat.le_of_ble_eq_true rfl) dX0_copyRested_6 (fun F2 h => ?_)
  exact r_vret (pc := 9) X hr dX0_copyRested_9 h
theorem dX0_size_0 : decode cX0_size 0 = .ok (.aload_n 0, 1) := by decide +kernel
theorem dX0_size_1 : decode cX0_size 1 = .ok (.getfield 21, 3) := by decide +kernel
theorem dX0_size_4 : decode cX0_size 4 = .ok (.ireturn, 1) := by decide +kernel
theorem hd_X0_size : yX0_size.cls = RX0 ∧ yX0_size.cls ≠ "java/lang/invoke/MethodHandle" ∧ yX0_size.cls ≠ "java/lang/invoke/VarHandle" ∧ (parseMethodDescriptor yX0_size.desc).map (fun d => d.parameters.length) = some 0 := by decide +kernel
abbrev rm_X0_size : Room := { frames := 0, cells := 0, slots := 0, locals := 0 }
def wp_X0_size (K : Int32 → HF → Prop) (F : HF) (b : Nat) : Prop := K (F b 4) F
set_option maxRecDepth 100000 in
set_option maxHeartbeats 4000000 in
theorem c_X0_size {l : Launch} {D : va_G} {dA : Nat → ClassId} {ad : Nat → Nat} {R : List Nat} {F : HF} {b : Nat} {K : Int32 → HF → Prop} (hT : Br R b) (h : wp_X0_size K F b) : MI l yX0_size cX0_size 1 .int rm_X0_size D dA ad R F [.ref (ad b)] K := by
  refine MI.of (own := RX0) (by decide) rfl (Nat.le_of_ble_eq_true rfl) ?_
  intro p e s m args below meth c A hA X hr
  unfold wp_X0_size at h
  show J p l e rm_X0_size s m args below meth c 1 D dA ad R A (QI D dA ad R A below args s K) F 0 [(0, .ref (ad b))] []
  refine r_aload_n (pc := 0) X 0 dX0_size_0 rfl rfl ?_
  refine fg_X0_21 (pc := 1) X hT.1 dX0_size_1 ?_
  exact r_iret (pc := 4) X hr dX0_size_4 h
theorem dX0_birdAt_0 : decode cX0_birdAt 0 = .ok (.iload_n 1, 1) := by decide +kernel
theorem dX0_birdAt_1 : decode cX0_birdAt 1 = .ok (.ifCond .lt 20, 3) := by decide +kernel
theorem dX0_birdAt_4 : decode cX0_birdAt 4 = .ok (.iload_n 1, 1) := by decide +kernel
theorem dX0_birdAt_5 : decode cX0_birdAt 5 = .ok (.aload_n 0, 1) := by decide +kernel
theorem dX0_birdAt_6 : decode cX0_birdAt 6 = .ok (.getfield 21, 3) := by decide +kernel
theorem dX0_birdAt_9 : decode cX0_birdAt 9 = .ok (.if_icmp .ge 12, 3) := by decide +kernel
theorem dX0_birdAt_12 : decode cX0_birdAt 12 = .ok (.aload_n 0, 1) := by decide +kernel
theorem dX0_birdAt_13 : decode cX0_birdAt 13 = .ok (.getfield 9, 3) := by decide +kernel
theorem dX0_birdAt_16 : decode cX0_birdAt 16 = .ok (.iload_n 1, 1) := by decide +kernel
theorem dX0_birdAt_17 : decode cX0_birdAt 17 = .ok (.iaload, 1) := by decide +kernel
theorem dX0_birdAt_18 : decode cX0_birdAt 18 = .ok (.goto 5, 3) := by decide +kernel
theorem dX0_birdAt_21 : decode cX0_birdAt 21 = .ok (.bipush (-4), 2) := by decide +kernel
theorem dX0_birdAt_23 : decode cX0_birdAt 23 = .ok (.ireturn, 1) := by decide +kernel
theorem hd_X0_birdAt : yX0_birdAt.cls = RX0 ∧ yX0_birdAt.cls ≠ "java/lang/invoke/MethodHandle" ∧ yX0_birdAt.cls ≠ "java/lang/invoke/VarHandle" ∧ (parseMethodDescriptor yX0_birdAt.desc).map (fun d => d.parameters.length) = some 1 := by decide +kernel
abbrev rm_X0_birdAt : Room := { frames := 0, cells := 0, slots := 0, locals := 0 }
def wp_X0_birdAt (K : Int32 → HF → Prop) (F : HF) (b : Nat) (a1 : Int32) : Prop := ((a1 < (nI 0)) → (K (-4 : Int32) F)) ∧ ((¬ a1 < (nI 0)) → ((((F b 4) ≤ a1) → (K (-4 : Int32) F)) ∧ ((¬ (F b 4) ≤ a1) → ((vp_in a1 8) ∧ (K (F (b + 1) a1.toNatClampNeg) F)))))
set_option maxRecDepth 100000 in
set_option maxHeartbeats 4000000 in
theorem c_X0_birdAt {l : Launch} {D : va_G} {dA : Nat → ClassId} {ad : Nat → Nat} {R : List Nat} {F : HF} {b : Nat} {a1 : Int32} {K : Int32 → HF → Prop} (hT : Br R b) (h : wp_X0_birdAt K F b a1) : MI l yX0_birdAt cX0_birdAt 2 .int rm_X0_birdAt D dA ad R F [.ref (ad b), .int a1] K := by
  refine MI.of (own := RX0) (by decide) rfl (Nat.le_of_ble_eq_true rfl) ?_
  intro p e s m args below meth c A hA X hr
  unfold wp_X0_birdAt at h
  show J p l e rm_X0_birdAt s m args below meth c 2 D dA ad R A (QI D dA ad R A below args s K) F 0 [(0, .ref (ad b)), (1, .int a1)] []
  refine r_iload_n (pc := 0) X 1 dX0_birdAt_0 rfl rfl ?_
  refine r_if_lt (pc := 1) (tgt := 21) X dX0_birdAt_1 (by decide) (fun hc => ?_) (fun hc => ?_)
  · replace h := h.1 hc
    refine r_bipush (pc := 21) (v := (-4 : Int32)) X dX0_birdAt_21 (by decide) ?_
    exact r_iret (pc := 23) X hr dX0_birdAt_23 h
  · replace h := h.2 hc
    refine r_iload_n (pc := 4) X 1 dX0_birdAt_4 rfl rfl ?_
    refine r_aload_n (pc := 5) X 0 dX0_birdAt_5 rfl rfl ?_
    refine fg_X0_21 (pc := 6) X hT.1 dX0_birdAt_6 ?_
    refine r_icmp_ge (pc := 9) (tgt := 21) X dX0_birdAt_9 (by decide) (fun hc => ?_) (fun hc => ?_)
    · replace h := h.1 hc
      refine r_bipush (pc := 21) (v := (-4 : Int32)) X dX0_birdAt_21 (by decide) ?_
      exact r_iret (pc := 23) X hr dX0_birdAt_23 h
    · replace h := h.2 hc
      refine r_aload_n (pc := 12) X 0 dX0_birdAt_12 rfl rfl ?_
      refine fg_X0_9 (pc := 13) X hT.1 dX0_birdAt_13 ?_
      refine r_iload_n (pc := 16) X 1 dX0_birdAt_16 rfl rfl ?_
      refine r_iald (pc := 17) X hT.2.1 h.1 dX0_birdAt_17 ?_
      replace h := h.2
      refine r_goto (pc := 18) (tgt := 23) X dX0_birdAt_18 (by decide) ?_
      exact r_iret (pc := 23) X hr dX0_birdAt_23 h
theorem dX0_kindAt_0 : decode cX0_kindAt 0 = .ok (.iload_n 1, 1) := by decide +kernel
theorem dX0_kindAt_1 : decode cX0_kindAt 1 = .ok (.ifCond .lt 27, 3) := by decide +kernel
theorem dX0_kindAt_4 : decode cX0_kindAt 4 = .ok (.iload_n 1, 1) := by decide +kernel
theorem dX0_kindAt_5 : decode cX0_kindAt 5 = .ok (.aload_n 0, 1) := by decide +kernel
theorem dX0_kindAt_6 : decode cX0_kindAt 6 = .ok (.getfield 21, 3) := by decide +kernel
theorem dX0_kindAt_9 : decode cX0_kindAt 9 = .ok (.if_icmp .ge 19, 3) := by decide +kernel
theorem dX0_kindAt_12 : decode cX0_kindAt 12 = .ok (.aload_n 0, 1) := by decide +kernel
theorem dX0_kindAt_13 : decode cX0_kindAt 13 = .ok (.getfield 25, 3) := by decide +kernel
theorem dX0_kindAt_16 : decode cX0_kindAt 16 = .ok (.aload_n 0, 1) := by decide +kernel
theorem dX0_kindAt_17 : decode cX0_kindAt 17 = .ok (.getfield 9, 3) := by decide +kernel
theorem dX0_kindAt_20 : decode cX0_kindAt 20 = .ok (.iload_n 1, 1) := by decide +kernel
theorem dX0_kindAt_21 : decode cX0_kindAt 21 = .ok (.iaload, 1) := by decide +kernel
theorem dX0_kindAt_22 : decode cX0_kindAt 22 = .ok (.invokevirtual 42, 3) := by decide +kernel
theorem dX0_kindAt_25 : decode cX0_kindAt 25 = .ok (.goto 5, 3) := by decide +kernel
theorem dX0_kindAt_28 : decode cX0_kindAt 28 = .ok (.bipush (-4), 2) := by decide +kernel
theorem dX0_kindAt_30 : decode cX0_kindAt 30 = .ok (.ireturn, 1) := by decide +kernel
theorem hd_X0_kindAt : yX0_kindAt.cls = RX0 ∧ yX0_kindAt.cls ≠ "java/lang/invoke/MethodHandle" ∧ yX0_kindAt.cls ≠ "java/lang/invoke/VarHandle" ∧ (parseMethodDescriptor yX0_kindAt.desc).map (fun d => d.parameters.length) = some 1 := by decide +kernel
abbrev rm_X0_kindAt : Room := { frames := 1, cells := 0, slots := 0, locals := 21 }
def wp_X0_kindAt (K : Int32 → HF → Prop) (F : HF) (b : Nat) (a1 : Int32) : Prop := ((a1 < (nI 0)) → (K (-4 : Int32) F)) ∧ ((¬ a1 < (nI 0)) → ((((F b 4) ≤ a1) → (K (-4 : Int32) F)) ∧ ((¬ (F b 4) ≤ a1) → ((vp_in a1 8) ∧ (wp_X1_kindOf (fun x1 F1 => K x1 F1) F 4 (F (b + 1) a1.toNatClampNeg))))))
set_option maxRecDepth 100000 in
set_option maxHeartbeats 4000000 in
theorem c_X0_kindAt {l : Launch} {D : va_G} {dA : Nat → ClassId} {ad : Nat → Nat} {R : List Nat} {F : HF} {b : Nat} {a1 : Int32} {K : Int32 → HF → Prop} (hT : Br R b) (h : wp_X0_kindAt K F b a1) : MI l yX0_kindAt cX0_kindAt 2 .int rm_X0_kindAt D dA ad R F [.ref (ad b), .int a1] K := by
  refine MI.of (own := RX0) (by decide) rfl (Nat.le_of_ble_eq_true rfl) ?_
  intro p e s m args below meth c A hA X hr
  unfold wp_X0_kindAt at h
  show J p l e rm_X0_kindAt s m args below meth c 2 D dA ad R A (QI D dA ad R A below args s K) F 0 [(0, .ref (ad b)), (1, .int a1)] []
  refine r_iload_n (pc := 0) X 1 dX0_kindAt_0 rfl rfl ?_
  refine r_if_lt (pc := 1) (tgt := 28) X dX0_kindAt_1 (by decide) (fun hc => ?_) (fun hc => ?_)
  · replace h := h.1 hc
    refine r_bipush (pc := 28) (v := (-4 : Int32)) X dX0_kindAt_28 (by decide) ?_
    exact r_iret (pc := 30) X hr dX0_kindAt_30 h
  · replace h := h.2 hc
    refine r_iload_n (pc := 4) X 1 dX0_kindAt_4 rfl rfl ?_
    refine r_aload_n (pc := 5) X 0 dX0_kindAt_5 rfl rfl ?_
    refine fg_X0_21 (pc := 6) X hT.1 dX0_kindAt_6 ?_
    refine r_icmp_ge (pc := 9) (tgt := 28) X dX0_kindAt_9 (by decide) (fun hc => ?_) (fun hc => ?_)
    · replace h := h.1 hc
      refine r_bipush (pc := 28) (v := (-4 : Int32)) X dX0_kindAt_28 (by decide) ?_
      exact r_iret (pc := 30) X hr dX0_kindAt_30 h
    · replace h := h.2 hc
      refine r_aload_n (pc := 12) X 0 dX0_kindAt_12 rfl rfl ?_
      refine fg_X0_25 (pc := 13) X hT.1 dX0_kindAt_13 ?_
      refine r_aload_n (pc := 16) X 0 dX0_kindAt_16 rfl rfl ?_
      refine fg_X0_9 (pc := 17) X hT.1 dX0_kindAt_17 ?_
      refine r_iload_n (pc := 20) X 1 dX0_kindAt_20 rfl rfl ?_
      refine r_iald (pc := 21) X hT.2.1 h.1 dX0_kindAt_21 ?_
      replace h := h.2
      refine r_callIV (pc := 22) (As := [.int (F (b + 1) a1.toNatClampNeg)]) (st := []) X hA (c_X1_kindOf hT.2.2.2.2 h) g_X0_42 cl_X1 hT.2.2.2.2.1 hd_X1_kindOf rfl rfl rfl ⟨Nat.le_of_ble_eq_true rfl, Nat.le_of_ble_eq_true rfl⟩ rfl (Nat.le_of_ble_eq_true rfl) dX0_kindAt_22 (fun x1 F1 h => ?_)
      refine r_goto (pc := 25) (tgt := 30) X dX0_kindAt_25 (by decide) ?_
      exact r_iret (pc := 30) X hr dX0_kindAt_30 h
theorem dX0_borneAt_0 : decode cX0_borneAt 0 = .ok (.iload_n 1, 1) := by decide +kernel
theorem dX0_borneAt_1 : decode cX0_borneAt 1 = .ok (.ifCond .lt 20, 3) := by decide +kernel
theorem dX0_borneAt_4 : decode cX0_borneAt 4 = .ok (.iload_n 1, 1) := by decide +kernel
theorem dX0_borneAt_5 : decode cX0_borneAt 5 = .ok (.aload_n 0, 1) := by decide +kernel
theorem dX0_borneAt_6 : decode cX0_borneAt 6 = .ok (.getfield 21, 3) := by decide +kernel
theorem dX0_borneAt_9 : decode cX0_borneAt 9 = .ok (.if_icmp .ge 12, 3) := by decide +kernel
theorem dX0_borneAt_12 : decode cX0_borneAt 12 = .ok (.aload_n 0, 1) := by decide +kernel
theorem dX0_borneAt_13 : decode cX0_borneAt 13 = .ok (.getfield 18, 3) := by decide +kernel
theorem dX0_borneAt_16 : decode cX0_borneAt 16 = .ok (.iload_n 1, 1) := by decide +kernel
theorem dX0_borneAt_17 : decode cX0_borneAt 17 = .ok (.iaload, 1) := by decide +kernel
theorem dX0_borneAt_18 : decode cX0_borneAt 18 = .ok (.goto 4, 3) := by decide +kernel
theorem dX0_borneAt_21 : decode cX0_borneAt 21 = .ok (.iconst 0, 1) := by decide +kernel
theorem dX0_borneAt_22 : decode cX0_borneAt 22 = .ok (.ireturn, 1) := by decide +kernel
theorem hd_X0_borneAt : yX0_borneAt.cls = RX0 ∧ yX0_borneAt.cls ≠ "java/lang/invoke/MethodHandle" ∧ yX0_borneAt.cls ≠ "java/lang/invoke/VarHandle" ∧ (parseMethodDescriptor yX0_borneAt.desc).map (fun d => d.parameters.length) = some 1 := by decide +kernel
abbrev rm_X0_borneAt : Room := { frames := 0, cells := 0, slots := 0, locals := 0 }
def wp_X0_borneAt (K : Int32 → HF → Prop) (F : HF) (b : Nat) (a1 : Int32) : Prop := ((a1 < (nI 0)) → (K (nI 0) F)) ∧ ((¬ a1 < (nI 0)) → ((((F b 4) ≤ a1) → (K (nI 0) F)) ∧ ((¬ (F b 4) ≤ a1) → ((vp_in a1 8) ∧ (K (F (b + 3) a1.toNatClampNeg) F)))))
set_option maxRecDepth 100000 in
set_option maxHeartbeats 4000000 in
theorem c_X0_borneAt {l : Launch} {D : va_G} {dA : Nat → ClassId} {ad : Nat → Nat} {R : List Nat} {F : HF} {b : Nat} {a1 : Int32} {K : Int32 → HF → Prop} (hT : Br R b) (h : wp_X0_borneAt K F b a1) : MI l yX0_borneAt cX0_borneAt 2 .int rm_X0_borneAt D dA ad R F [.ref (ad b), .int a1] K := by
  refine MI.of (own := RX0) (by decide) rfl (Nat.le_of_ble_eq_true rfl) ?_
  intro p e s m args below meth c A hA X hr
  unfold wp_X0_borneAt at h
  show J p l e rm_X0_borneAt s m args below meth c 2 D dA ad R A (QI D dA ad R A below args s K) F 0 [(0, .ref (ad b)), (1, .int a1)] []
  refine r_iload_n (pc := 0) X 1 dX0_borneAt_0 rfl rfl ?_
  refine r_if_lt (pc := 1) (tgt := 21) X dX0_borneAt_1 (by decide) (fun hc => ?_) (fun hc => ?_)
  · replace h := h.1 hc
    refine r_iconst (pc := 21) (v := (nI 0)) X dX0_borneAt_21 (by decide) ?_
    exact r_iret (pc := 22) X hr dX0_borneAt_22 h
  · replace h := h.2 hc
    refine r_iload_n (pc := 4) X 1 dX0_borneAt_4 rfl rfl ?_
    refine r_aload_n (pc := 5) X 0 dX0_borneAt_5 rfl rfl ?_
    refine fg_X0_21 (pc := 6) X hT.1 dX0_borneAt_6 ?_
    refine r_icmp_ge (pc := 9) (tgt := 21) X dX0_borneAt_9 (by decide) (fun hc => ?_) (fun hc => ?_)
    · replace h := h.1 hc
      refine r_iconst (pc := 21) (v := (nI 0)) X dX0_borneAt_21 (by decide) ?_
      exact r_iret (pc := 22) X hr dX0_borneAt_22 h
    · replace h := h.2 hc
      refine r_aload_n (pc := 12) X 0 dX0_borneAt_12 rfl rfl ?_
      refine fg_X0_18 (pc := 13) X hT.1 dX0_borneAt_13 ?_
      refine r_iload_n (pc := 16) X 1 dX0_borneAt_16 rfl rfl ?_
      refine r_iald (pc := 17) X hT.2.2.2.1 h.1 dX0_borneAt_17 ?_
      replace h := h.2
      refine r_goto (pc := 18) (tgt := 22) X dX0_borneAt_18 (by decide) ?_
      exact r_iret (pc := 22) X hr dX0_borneAt_22 h
theorem dX0_tiredOf_0 : decode cX0_tiredOf 0 = .ok (.iload_n 1, 1) := by decide +kernel
theorem dX0_tiredOf_1 : decode cX0_tiredOf 1 = .ok (.ifCond .lt 18, 3) := by decide +kernel
theorem dX0_tiredOf_4 : decode cX0_tiredOf 4 = .ok (.iload_n 1, 1) := by decide +kernel
theorem dX0_tiredOf_5 : decode cX0_tiredOf 5 = .ok (.bipush 8, 2) := by decide +kernel
theorem dX0_tiredOf_7 : decode cX0_tiredOf 7 = .ok (.if_icmp .ge 12, 3) := by decide +kernel
theorem dX0_tiredOf_10 : decode cX0_tiredOf 10 = .ok (.aload_n 0, 1) := by decide +kernel
theorem dX0_tiredOf_11 : decode cX0_tiredOf 11 = .ok (.getfield 15, 3) := by decide +kernel
theorem dX0_tiredOf_14 : decode cX0_tiredOf 14 = .ok (.iload_n 1, 1) := by decide +kernel
theorem dX0_tiredOf_15 : decode cX0_tiredOf 15 = .ok (.iaload, 1) := by decide +kernel
theorem dX0_tiredOf_16 : decode cX0_tiredOf 16 = .ok (.goto 4, 3) := by decide +kernel
theorem dX0_tiredOf_19 : decode cX0_tiredOf 19 = .ok (.iconst 0, 1) := by decide +kernel
theorem dX0_tiredOf_20 : decode cX0_tiredOf 20 = .ok (.ireturn, 1) := by decide +kernel
theorem hd_X0_tiredOf : yX0_tiredOf.cls = RX0 ∧ yX0_tiredOf.cls ≠ "java/lang/invoke/MethodHandle" ∧ yX0_tiredOf.cls ≠ "java/lang/invoke/VarHandle" ∧ (parseMethodDescriptor yX0_tiredOf.desc).map (fun d => d.parameters.length) = some 1 := by decide +kernel
abbrev rm_X0_tiredOf : Room := { frames := 0, cells := 0, slots := 0, locals := 0 }
def wp_X0_tiredOf (K : Int32 → HF → Prop) (F : HF) (b : Nat) (a1 : Int32) : Prop := ((a1 < (nI 0)) → (K (nI 0) F)) ∧ ((¬ a1 < (nI 0)) → ((((nI 8) ≤ a1) → (K (nI 0) F)) ∧ ((¬ (nI 8) ≤ a1) → ((vp_in a1 8) ∧ (K (F (b + 2) a1.toNatClampNeg) F)))))
set_option maxRecDepth 100000 in
set_option maxHeartbeats 4000000 in
theorem c_X0_tiredOf {l : Launch} {D : va_G} {dA : Nat → ClassId} {ad : Nat → Nat} {R : List Nat} {F : HF} {b : Nat} {a1 : Int32} {K : Int32 → HF → Prop} (hT : Br R b) (h : wp_X0_tiredOf K F b a1) : MI l yX0_tiredOf cX0_tiredOf 2 .int rm_X0_tiredOf D dA ad R F [.ref (ad b), .int a1] K := by
  refine MI.of (own := RX0) (by decide) rfl (Nat.le_of_ble_eq_true rfl) ?_
  intro p e s m args below meth c A hA X hr
  unfold wp_X0_tiredOf at h
  show J p l e rm_X0_tiredOf s m args below meth c 2 D dA ad R A (QI D dA ad R A below args s K) F 0 [(0, .ref (ad b)), (1, .int a1)] []
  refine r_iload_n (pc := 0) X 1 dX0_tiredOf_0 rfl rfl ?_
  refine r_if_lt (pc := 1) (tgt := 19) X dX0_tiredOf_1 (by decide) (fun hc => ?_) (fun hc => ?_)
  · replace h := h.1 hc
    refine r_iconst (pc := 19) (v := (nI 0)) X dX0_tiredOf_19 (by decide) ?_
    exact r_iret (pc := 20) X hr dX0_tiredOf_20 h
  · replace h := h.2 hc
    refine r_iload_n (pc := 4) X 1 dX0_tiredOf_4 rfl rfl ?_
    refine r_bipush (pc := 5) (v := (nI 8)) X dX0_tiredOf_5 (by decide) ?_
    refine r_icmp_ge (pc := 7) (tgt := 19) X dX0_tiredOf_7 (by decide) (fun hc => ?_) (fun hc => ?_)
    · replace h := h.1 hc
      refine r_iconst (pc := 19) (v := (nI 0)) X dX0_tiredOf_19 (by decide) ?_
      exact r_iret (pc := 20) X hr dX0_tiredOf_20 h
    · replace h := h.2 hc
      refine r_aload_n (pc := 10) X 0 dX0_tiredOf_10 rfl rfl ?_
      refine fg_X0_15 (pc := 11) X hT.1 dX0_tiredOf_11 ?_
      refine r_iload_n (pc := 14) X 1 dX0_tiredOf_14 rfl rfl ?_
      refine r_iald (pc := 15) X hT.2.2.1 h.1 dX0_tiredOf_15 ?_
      replace h := h.2
      refine r_goto (pc := 16) (tgt := 20) X dX0_tiredOf_16 (by decide) ?_
      exact r_iret (pc := 20) X hr dX0_tiredOf_20 h
theorem dX0_positionOf_0 : decode cX0_positionOf 0 = .ok (.iconst 0, 1) := by decide +kernel
theorem dX0_positionOf_1 : decode cX0_positionOf 1 = .ok (.istore_n 2, 1) := by decide +kernel
theorem dX0_positionOf_2 : decode cX0_positionOf 2 = .ok (.iload_n 2, 1) := by decide +kernel
theorem dX0_positionOf_3 : decode cX0_positionOf 3 = .ok (.aload_n 0, 1) := by decide +kernel
theorem dX0_positionOf_4 : decode cX0_positionOf 4 = .ok (.getfield 21, 3) := by decide +kernel
theorem dX0_positionOf_7 : decode cX0_positionOf 7 = .ok (.if_icmp .ge 21, 3) := by decide +kernel
theorem dX0_positionOf_10 : decode cX0_positionOf 10 = .ok (.aload_n 0, 1) := by decide +kernel
theorem dX0_positionOf_11 : decode cX0_positionOf 11 = .ok (.getfield 9, 3) := by decide +kernel
theorem dX0_positionOf_14 : decode cX0_positionOf 14 = .ok (.iload_n 2, 1) := by decide +kernel
theorem dX0_positionOf_15 : decode cX0_positionOf 15 = .ok (.iaload, 1) := by decide +kernel
theorem dX0_positionOf_16 : decode cX0_positionOf 16 = .ok (.iload_n 1, 1) := by decide +kernel
theorem dX0_positionOf_17 : decode cX0_positionOf 17 = .ok (.if_icmp .ne 5, 3) := by decide +kernel
theorem dX0_positionOf_20 : decode cX0_positionOf 20 = .ok (.iload_n 2, 1) := by decide +kernel
theorem dX0_positionOf_21 : decode cX0_positionOf 21 = .ok (.ireturn, 1) := by decide +kernel
theorem dX0_positionOf_22 : decode cX0_positionOf 22 = .ok (.iinc 2 1, 3) := by decide +kernel
theorem dX0_positionOf_25 : decode cX0_positionOf 25 = .ok (.goto (-23), 3) := by decide +kernel
theorem dX0_positionOf_28 : decode cX0_positionOf 28 = .ok (.bipush (-4), 2) := by decide +kernel
theorem dX0_positionOf_30 : decode cX0_positionOf 30 = .ok (.ireturn, 1) := by decide +kernel
theorem hd_X0_positionOf : yX0_positionOf.cls = RX0 ∧ yX0_positionOf.cls ≠ "java/lang/invoke/MethodHandle" ∧ yX0_positionOf.cls ≠ "java/lang/invoke/VarHandle" ∧ (parseMethodDescriptor yX0_positionOf.desc).map (fun d => d.parameters.length) = some 1 := by decide +kernel
abbrev rm_X0_positionOf : Room := { frames := 0, cells := 0, slots := 0, locals := 0 }
def wp_X0_positionOf_2 (K : Int32 → HF → Prop) (b : Nat) : Nat → HF → Int32 → Int32 → Prop
  | 0 => fun _ _ _ => False
  | n2_ + 1 => fun F v1 v2 => (((F b 4) ≤ v2) → (K (-4 : Int32) F)) ∧ ((¬ (F b 4) ≤ v2) → ((vp_in v2 8) ∧ (((¬ (F (b + 1) v2.toNatClampNeg) = v1) → (wp_X0_positionOf_2 K b  n2_ F v1 (v2 + (nI 1)))) ∧ (((F (b + 1) v2.toNatClampNeg) = v1) → (K v2 F)))))
set_option maxRecDepth 100000 in
set_option maxHeartbeats 4000000 in
theorem k_X0_positionOf_2 {p : Program} {l : Launch} {e : Env} {s : State} {m : MethodId} {args : Array Value} {below : List Frame} {meth : Method} {c : Code} {D : va_G} {dA : Nat → ClassId} {ad : Nat → Nat} {R : List Nat} {A : Nat → Prop} {K : Int32 → HF → Prop} {b : Nat} (X : Cx p s m args meth c cX0_positionOf 3 RX0 D dA) (hA : ∀ q, s.heap.size ≤ q → A q) (hr : meth.sig.returnType = some .int) (hT : Br R b) : ∀ (n_ : Nat) (F : HF) (v1 : Int32) (v2 : Int32), wp_X0_positionOf_2 K b n_ F v1 v2 → J p l e rm_X0_positionOf s m args below meth c 3 D dA ad R A (QI D dA ad R A below args s K) F 2 [(0, .ref (ad b)), (1, .int v1), (2, .int v2)] [] := by
  intro n_
  induction n_ with
  | zero => intro F v1 v2 h; exact h.elim
  | succ n_ ih =>
    intro F v1 v2 h
    unfold wp_X0_positionOf_2 at h
    refine r_iload_n (pc := 2) X 2 dX0_positionOf_2 rfl rfl ?_
    refine r_aload_n (pc := 3) X 0 dX0_positionOf_3 rfl rfl ?_
    refine fg_X0_21 (pc := 4) X hT.1 dX0_positionOf_4 ?_
    refine r_icmp_ge (pc := 7) (tgt := 28) X dX0_positionOf_7 (by decide) (fun hc => ?_) (fun hc => ?_)
    · replace h := h.1 hc
      refine r_bipush (pc := 28) (v := (-4 : Int32)) X dX0_positionOf_28 (by decide) ?_
      exact r_iret (pc := 30) X hr dX0_positionOf_30 h
    · replace h := h.2 hc
      refine r_aload_n (pc := 10) X 0 dX0_positionOf_10 rfl rfl ?_
      refine fg_X0_9 (pc := 11) X hT.1 dX0_positionOf_11 ?_
      refine r_iload_n (pc := 14) X 2 dX0_positionOf_14 rfl rfl ?_
      refine r_iald (pc := 15) X hT.2.1 h.1 dX0_positionOf_15 ?_
      replace h := h.2
      refine r_iload_n (pc := 16) X 1 dX0_positionOf_16 rfl rfl ?_
      refine r_icmp_ne (pc := 17) (tgt := 22) X dX0_positionOf_17 (by decide) (fun hc => ?_) (fun hc => ?_)
      · replace h := h.1 hc
        refine r_iinc (pc := 22) (v := (v2 + (nI 1))) X 2 [(2, .int (v2 + (nI 1))), (0, .ref (ad b)), (1, .int v1)] dX0_positionOf_22 rfl rfl (by decide) rfl ?_
        refine r_goto (pc := 25) (tgt := 2) X dX0_positionOf_25 (by decide) ?_
        refine r_sub [1, 2, 0] rfl ?_
        exact ih _ _ _ h
      · replace h := h.2 hc
        refine r_iload_n (pc := 20) X 2 dX0_positionOf_20 rfl rfl ?_
        exact r_iret (pc := 21) X hr dX0_positionOf_21 h
def wp_X0_positionOf (K : Int32 → HF → Prop) (F : HF) (b : Nat) (a1 : Int32) : Prop := ∃ m_, wp_X0_positionOf_2 K b  m_ F a1 (nI 0)
set_option maxRecDepth 100000 in
set_option maxHeartbeats 4000000 in
theorem c_X0_positionOf {l : Launch} {D : va_G} {dA : Nat → ClassId} {ad : Nat → Nat} {R : List Nat} {F : HF} {b : Nat} {a1 : Int32} {K : Int32 → HF → Prop} (hT : Br R b) (h : wp_X0_positionOf K F b a1) : MI l yX0_positionOf cX0_positionOf 3 .int rm_X0_positionOf D dA ad R F [.ref (ad b), .int a1] K := by
  refine MI.of (own := RX0) (by decide) rfl (Nat.le_of_ble_eq_true rfl) ?_
  intro p e s m args below meth c A hA X hr
  unfold wp_X0_positionOf at h
  show J p l e rm_X0_positionOf s m args below meth c 3 D dA ad R A (QI D dA ad R A below args s K) F 0 [(0, .ref (ad b)), (1, .int a1)] []
  refine r_iconst (pc := 0) (v := (nI 0)) X dX0_positionOf_0 (by decide) ?_
  refine r_istore_n (pc := 1) X [(2, .int (nI 0)), (0, .ref (ad b)), (1, .int a1)] dX0_positionOf_1 rfl (by decide) rfl ?_
  refine r_sub [1, 2, 0] rfl ?_
  obtain ⟨n1, h⟩ := h
  exact k_X0_positionOf_2 X hA hr hT  n1 _ _ _ h
theorem dX0_firstPlaceOf_0 : decode cX0_firstPlaceOf 0 = .ok (.iconst 0, 1) := by decide +kernel
theorem dX0_firstPlaceOf_1 : decode cX0_firstPlaceOf 1 = .ok (.istore_n 2, 1) := by decide +kernel
theorem dX0_firstPlaceOf_2 : decode cX0_firstPlaceOf 2 = .ok (.iconst 0, 1) := by decide +kernel
theorem dX0_firstPlaceOf_3 : decode cX0_firstPlaceOf 3 = .ok (.istore_n 3, 1) := by decide +kernel
theorem dX0_firstPlaceOf_4 : decode cX0_firstPlaceOf 4 = .ok (.iload_n 3, 1) := by decide +kernel
theorem dX0_firstPlaceOf_5 : decode cX0_firstPlaceOf 5 = .ok (.iload_n 1, 1) := by decide +kernel
theorem dX0_firstPlaceOf_6 : decode cX0_firstPlaceOf 6 = .ok (.if_icmp .ge 33, 3) := by decide +kernel
theorem dX0_firstPlaceOf_9 : decode cX0_firstPlaceOf 9 = .ok (.iload_n 3, 1) := by decide +kernel
theorem dX0_firstPlaceOf_10 : decode cX0_firstPlaceOf 10 = .ok (.aload_n 0, 1) := by decide +kernel
theorem dX0_firstPlaceOf_11 : decode cX0_firstPlaceOf 11 = .ok (.getfield 21, 3) := by decide +kernel
theorem dX0_firstPlaceOf_14 : decode cX0_firstPlaceOf 14 = .ok (.if_icmp .ge 25, 3) := by decide +kernel
theorem dX0_firstPlaceOf_17 : decode cX0_firstPlaceOf 17 = .ok (.iload_n 2, 1) := by decide +kernel
theorem dX0_firstPlaceOf_18 : decode cX0_firstPlaceOf 18 = .ok (.aload_n 0, 1) := by decide +kernel
theorem dX0_firstPlaceOf_19 : decode cX0_firstPlaceOf 19 = .ok (.getfield 25, 3) := by decide +kernel
theorem dX0_firstPlaceOf_22 : decode cX0_firstPlaceOf 22 = .ok (.aload_n 0, 1) := by decide +kernel
theorem dX0_firstPlaceOf_23 : decode cX0_firstPlaceOf 23 = .ok (.getfield 9, 3) := by decide +kernel
theorem dX0_firstPlaceOf_26 : decode cX0_firstPlaceOf 26 = .ok (.iload_n 3, 1) := by decide +kernel
theorem dX0_firstPlaceOf_27 : decode cX0_firstPlaceOf 27 = .ok (.iaload, 1) := by decide +kernel
theorem dX0_firstPlaceOf_28 : decode cX0_firstPlaceOf 28 = .ok (.invokevirtual 48, 3) := by decide +kernel
theorem dX0_firstPlaceOf_31 : decode cX0_firstPlaceOf 31 = .ok (.iadd, 1) := by decide +kernel
theorem dX0_firstPlaceOf_32 : decode cX0_firstPlaceOf 32 = .ok (.istore_n 2, 1) := by decide +kernel
theorem dX0_firstPlaceOf_33 : decode cX0_firstPlaceOf 33 = .ok (.iinc 3 1, 3) := by decide +kernel
theorem dX0_firstPlaceOf_36 : decode cX0_firstPlaceOf 36 = .ok (.goto (-32), 3) := by decide +kernel
theorem dX0_firstPlaceOf_39 : decode cX0_firstPlaceOf 39 = .ok (.iload_n 2, 1) := by decide +kernel
theorem dX0_firstPlaceOf_40 : decode cX0_firstPlaceOf 40 = .ok (.ireturn, 1) := by decide +kernel
theorem hd_X0_firstPlaceOf : yX0_firstPlaceOf.cls = RX0 ∧ yX0_firstPlaceOf.cls ≠ "java/lang/invoke/MethodHandle" ∧ yX0_firstPlaceOf.cls ≠ "java/lang/invoke/VarHandle" ∧ (parseMethodDescriptor yX0_firstPlaceOf.desc).map (fun d => d.parameters.length) = some 1 := by decide +kernel
abbrev rm_X0_firstPlaceOf : Room := { frames := 1, cells := 0, slots := 0, locals := 21 }
def wp_X0_firstPlaceOf_4 (K : Int32 → HF → Prop) (b : Nat) : Nat → HF → Int32 → Int32 → Int32 → Prop
  | 0 => fun _ _ _ _ => False
  | n4_ + 1 => fun F v1 v2 v3 => ((v1 ≤ v3) → (K v2 F)) ∧ ((¬ v1 ≤ v3) → ((((F b 4) ≤ v3) → (K v2 F)) ∧ ((¬ (F b 4) ≤ v3) → ((vp_in v3 8) ∧ (wp_X1_lengthOf (fun x1 F101 => wp_X0_firstPlaceOf_4 K b  n4_ F101 v1 (v2 + x1) (v3 + (nI 1))) F 4 (F (b + 1) v3.toNatClampNeg))))))
set_option maxRecDepth 100000 in
set_option maxHeartbeats 4000000 in
theorem k_X0_firstPlaceOf_4 {p : Program} {l : Launch} {e : Env} {s : State} {m : MethodId} {args : Array Value} {below : List Frame} {meth : Method} {c : Code} {D : va_G} {dA : Nat → ClassId} {ad : Nat → Nat} {R : List Nat} {A : Nat → Prop} {K : Int32 → HF → Prop} {b : Nat} (X : Cx p s m args meth c cX0_firstPlaceOf 4 RX0 D dA) (hA : ∀ q, s.heap.size ≤ q → A q) (hr : meth.sig.returnType = some .int) (hT : Br R b) : ∀ (n_ : Nat) (F : HF) (v1 : Int32) (v2 : Int32) (v3 : Int32), wp_X0_firstPlaceOf_4 K b n_ F v1 v2 v3 → J p l e rm_X0_firstPlaceOf s m args below meth c 4 D dA ad R A (QI D dA ad R A below args s K) F 4 [(0, .ref (ad b)), (1, .int v1), (2, .int v2), (3, .int v3)] [] := by
  intro n_
  induction n_ with
  | zero => intro F v1 v2 v3 h; exact h.elim
  | succ n_ ih =>
    intro F v1 v2 v3 h
    unfold wp_X0_firstPlaceOf_4 at h
    refine r_iload_n (pc := 4) X 3 dX0_firstPlaceOf_4 rfl rfl ?_
    refine r_iload_n (pc := 5) X 1 dX0_firstPlaceOf_5 rfl rfl ?_
    refine r_icmp_ge (pc := 6) (tgt := 39) X dX0_firstPlaceOf_6 (by decide) (fun hc => ?_) (fun hc => ?_)
    · replace h := h.1 hc
      refine r_iload_n (pc := 39) X 2 dX0_firstPlaceOf_39 rfl rfl ?_
      exact r_iret (pc := 40) X hr dX0_firstPlaceOf_40 h
    · replace h := h.2 hc
      refine r_iload_n (pc := 9) X 3 dX0_firstPlaceOf_9 rfl rfl ?_
      refine r_aload_n (pc := 10) X 0 dX0_firstPlaceOf_10 rfl rfl ?_
      refine fg_X0_21 (pc := 11) X hT.1 dX0_firstPlaceOf_11 ?_
      refine r_icmp_ge (pc := 14) (tgt := 39) X dX0_firstPlaceOf_14 (by decide) (fun hc => ?_) (fun hc => ?_)
      · replace h := h.1 hc
        refine r_iload_n (pc := 39) X 2 dX0_firstPlaceOf_39 rfl rfl ?_
        exact r_iret (pc := 40) X hr dX0_firstPlaceOf_40 h
      · replace h := h.2 hc
        refine r_iload_n (pc := 17) X 2 dX0_firstPlaceOf_17 rfl rfl ?_
        refine r_aload_n (pc := 18) X 0 dX0_firstPlaceOf_18 rfl rfl ?_
        refine fg_X0_25 (pc := 19) X hT.1 dX0_firstPlaceOf_19 ?_
        refine r_aload_n (pc := 22) X 0 dX0_firstPlaceOf_22 rfl rfl ?_
        refine fg_X0_9 (pc := 23) X hT.1 dX0_firstPlaceOf_23 ?_
        refine r_iload_n (pc := 26) X 3 dX0_firstPlaceOf_26 rfl rfl ?_
        refine r_iald (pc := 27) X hT.2.1 h.1 dX0_firstPlaceOf_27 ?_
        replace h := h.2
        refine r_callIV (pc := 28) (As := [.int (F (b + 1) v3.toNatClampNeg)]) (st := [.int v2]) X hA (c_X1_lengthOf hT.2.2.2.2 h) g_X0_48 cl_X1 hT.2.2.2.2.1 hd_X1_lengthOf rfl rfl rfl ⟨Nat.le_of_ble_eq_true rfl, Nat.le_of_ble_eq_true rfl⟩ rfl (Nat.le_of_ble_eq_true rfl) dX0_firstPlaceOf_28 (fun x1 F101 h => ?_)
        refine r_iadd (pc := 31) X dX0_firstPlaceOf_31 ?_
        refine r_istore_n (pc := 32) X [(2, .int (v2 + x1)), (0, .ref (ad b)), (1, .int v1), (3, .int v3)] dX0_firstPlaceOf_32 rfl (by decide) rfl ?_
        refine r_iinc (pc := 33) (v := (v3 + (nI 1))) X 3 [(3, .int (v3 + (nI 1))), (2, .int (v2 + x1)), (0, .ref (ad b)), (1, .int v1)] dX0_firstPlaceOf_33 rfl rfl (by decide) rfl ?_
        refine r_goto (pc := 36) (tgt := 4) X dX0_firstPlaceOf_36 (by decide) ?_
        refine r_sub [2, 3, 1, 0] rfl ?_
        exact ih _ _ _ _ h
def wp_X0_firstPlaceOf (K : Int32 → HF → Prop) (F : HF) (b : Nat) (a1 : Int32) : Prop := ∃ m_, wp_X0_firstPlaceOf_4 K b  m_ F a1 (nI 0) (nI 0)
set_option maxRecDepth 100000 in
set_option maxHeartbeats 4000000 in
theorem c_X0_firstPlaceOf {l : Launch} {D : va_G} {dA : Nat → ClassId} {ad : Nat → Nat} {R : List Nat} {F : HF} {b : Nat} {a1 : Int32} {K : Int32 → HF → Prop} (hT : Br R b) (h : wp_X0_firstPlaceOf K F b a1) : MI l yX0_firstPlaceOf cX0_firstPlaceOf 4 .int rm_X0_firstPlaceOf D dA ad R F [.ref (ad b), .int a1] K := by
  refine MI.of (own := RX0) (by decide) rfl (Nat.le_of_ble_eq_true rfl) ?_
  intro p e s m args below meth c A hA X hr
  unfold wp_X0_firstPlaceOf at h
  show J p l e rm_X0_firstPlaceOf s m args below meth c 4 D dA ad R A (QI D dA ad R A below args s K) F 0 [(0, .ref (ad b)), (1, .int a1)] []
  refine r_iconst (pc := 0) (v := (nI 0)) X dX0_firstPlaceOf_0 (by decide) ?_
  refine r_istore_n (pc := 1) X [(2, .int (nI 0)), (0, .ref (ad b)), (1, .int a1)] dX0_firstPlaceOf_1 rfl (by decide) rfl ?_
  refine r_iconst (pc := 2) (v := (nI 0)) X dX0_firstPlaceOf_2 (by decide) ?_
  refine r_istore_n (pc := 3) X [(3, .int (nI 0)), (2, .int (nI 0)), (0, .ref (ad b)), (1, .int a1)] dX0_firstPlaceOf_3 rfl (by decide) rfl ?_
  refine r_sub [2, 3, 1, 0] rfl ?_
  obtain ⟨n1, h⟩ := h
  exact k_X0_firstPlaceOf_4 X hA hr hT  n1 _ _ _ _ h
theorem dX0_placesSpanned_0 : decode cX0_placesSpanned 0 = .ok (.aload_n 0, 1) := by decide +kernel
theorem dX0_placesSpanned_1 : decode cX0_placesSpanned 1 = .ok (.aload_n 0, 1) := by decide +kernel
theorem dX0_placesSpanned_2 : decode cX0_placesSpanned 2 = .ok (.getfield 21, 3) := by decide +kernel
theorem dX0_placesSpanned_5 : decode cX0_placesSpanned 5 = .ok (.invokevirtual 51, 3) := by decide +kernel
theorem dX0_placesSpanned_8 : decode cX0_placesSpanned 8 = .ok (.aload_n 0, 1) := by decide +kernel
theorem dX0_placesSpanned_9 : decode cX0_placesSpanned 9 = .ok (.getfield 25, 3) := by decide +kernel
theorem dX0_placesSpanned_12 : decode cX0_placesSpanned 12 = .ok (.invokevirtual 54, 3) := by decide +kernel
theorem dX0_placesSpanned_15 : decode cX0_placesSpanned 15 = .ok (.invokestatic 58, 3) := by decide +kernel
theorem dX0_placesSpanned_18 : decode cX0_placesSpanned 18 = .ok (.ireturn, 1) := by decide +kernel
theorem hd_X0_placesSpanned : yX0_placesSpanned.cls = RX0 ∧ yX0_placesSpanned.cls ≠ "java/lang/invoke/MethodHandle" ∧ yX0_placesSpanned.cls ≠ "java/lang/invoke/VarHandle" ∧ (parseMethodDescriptor yX0_placesSpanned.desc).map (fun d => d.parameters.length) = some 0 := by decide +kernel
abbrev rm_X0_placesSpanned : Room := { frames := 2, cells := 0, slots := 0, locals := 44 }
def wp_X0_placesSpanned (K : Int32 → HF → Prop) (F : HF) (b : Nat) : Prop := wp_X0_firstPlaceOf (fun x1 F1 => wp_X1_width (fun x2 F2 => K (if x2 < x1 then x2 else x1) F2) F1 4) F b (F b 4)
set_option maxRecDepth 100000 in
set_option maxHeartbeats 4000000 in
theorem c_X0_placesSpanned {l : Launch} {D : va_G} {dA : Nat → ClassId} {ad : Nat → Nat} {R : List Nat} {F : HF} {b : Nat} {K : Int32 → HF → Prop} (hT : Br R b) (h : wp_X0_placesSpanned K F b) : MI l yX0_placesSpanned cX0_placesSpanned 1 .int rm_X0_placesSpanned D dA ad R F [.ref (ad b)] K := by
  refine MI.of (own := RX0) (by decide) rfl (Nat.le_of_ble_eq_true rfl) ?_
  intro p e s m args below meth c A hA X hr
  unfold wp_X0_placesSpanned at h
  show J p l e rm_X0_placesSpanned s m args below meth c 1 D dA ad R A (QI D dA ad R A below args s K) F 0 [(0, .ref (ad b))] []
  refine r_aload_n (pc := 0) X 0 dX0_placesSpanned_0 rfl rfl ?_
  refine r_aload_n (pc := 1) X 0 dX0_placesSpanned_1 rfl rfl ?_
  refine fg_X0_21 (pc := 2) X hT.1 dX0_placesSpanned_2 ?_
  refine r_callIV (pc := 5) (As := [.int (F b 4)]) (st := []) X hA (c_X0_firstPlaceOf hT h) g_X0_51 cl_X0 hT.1 hd_X0_firstPlaceOf rfl rfl rfl ⟨Nat.le_of_ble_eq_true rfl, Nat.le_of_ble_eq_true rfl⟩ rfl (Nat.le_of_ble_eq_true rfl) dX0_placesSpanned_5 (fun x1 F1 h => ?_)
  refine r_aload_n (pc := 8) X 0 dX0_placesSpanned_8 rfl rfl ?_
  refine fg_X0_25 (pc := 9) X hT.1 dX0_placesSpanned_9 ?_
  refine r_callIV (pc := 12) (As := []) (st := [.int x1]) X hA (c_X1_width hT.2.2.2.2 h) g_X0_54 cl_X1 hT.2.2.2.2.1 hd_X1_width rfl rfl rfl ⟨Nat.le_of_ble_eq_true rfl, Nat.le_of_ble_eq_true rfl⟩ rfl (Nat.le_of_ble_eq_true rfl) dX0_placesSpanned_12 (fun x2 F2 h => ?_)
  refine r_mmin (pc := 15) X w_724 w_711 w_62 w_712 (Nat.le_of_ble_eq_true rfl) (Nat.le_of_ble_eq_true rfl) dX0_placesSpanned_15 ?_
  exact r_iret (pc := 18) X hr dX0_placesSpanned_18 h
theorem dX0_isWhole_0 : decode cX0_isWhole 0 = .ok (.aload_n 0, 1) := by decide +kernel
theorem dX0_isWhole_1 : decode cX0_isWhole 1 = .ok (.aload_n 0, 1) := by decide +kernel
theorem dX0_isWhole_2 : decode cX0_isWhole 2 = .ok (.getfield 21, 3) := by decide +kernel
theorem dX0_isWhole_5 : decode cX0_isWhole 5 = .ok (.invokevirtual 51, 3) := by decide +kernel
theorem dX0_isWhole_8 : decode cX0_isWhole 8 = .ok (.aload_n 0, 1) := by decide +kernel
theorem dX0_isWhole_9 : decode cX0_isWhole 9 = .ok (.getfield 25, 3) := by decide +kernel
theorem dX0_isWhole_12 : decode cX0_isWhole 12 = .ok (.invokevirtual 54, 3) := by decide +kernel
theorem dX0_isWhole_15 : decode cX0_isWhole 15 = .ok (.if_icmp .lt 7, 3) := by decide +kernel
theorem dX0_isWhole_18 : decode cX0_isWhole 18 = .ok (.iconst 1, 1) := by decide +kernel
theorem dX0_isWhole_19 : decode cX0_isWhole 19 = .ok (.goto 4, 3) := by decide +kernel
theorem dX0_isWhole_22 : decode cX0_isWhole 22 = .ok (.iconst 0, 1) := by decide +kernel
theorem dX0_isWhole_23 : decode cX0_isWhole 23 = .ok (.ireturn, 1) := by decide +kernel
theorem hd_X0_isWhole : yX0_isWhole.cls = RX0 ∧ yX0_isWhole.cls ≠ "java/lang/invoke/MethodHandle" ∧ yX0_isWhole.cls ≠ "java/lang/invoke/VarHandle" ∧ (parseMethodDescriptor yX0_isWhole.desc).map (fun d => d.parameters.length) = some 0 := by decide +kernel
abbrev rm_X0_isWhole : Room := { frames := 2, cells := 0, slots := 0, locals := 44 }
def wp_X0_isWhole (K : Int32 → HF → Prop) (F : HF) (b : Nat) : Prop := wp_X0_firstPlaceOf (fun x1 F1 => wp_X1_width (fun x2 F2 => ((x1 < x2) → (K (nI 0) F2)) ∧ ((¬ x1 < x2) → (K (nI 1) F2))) F1 4) F b (F b 4)
set_option maxRecDepth 100000 in
set_option maxHeartbeats 4000000 in
theorem c_X0_isWhole {l : Launch} {D : va_G} {dA : Nat → ClassId} {ad : Nat → Nat} {R : List Nat} {F : HF} {b : Nat} {K : Int32 → HF → Prop} (hT : Br R b) (h : wp_X0_isWhole K F b) : MI l yX0_isWhole cX0_isWhole 1 .boolean rm_X0_isWhole D dA ad R F [.ref (ad b)] K := by
  refine MI.of (own := RX0) (by decide) rfl (Nat.le_of_ble_eq_true rfl) ?_
  intro p e s m args below meth c A hA X hr
  unfold wp_X0_isWhole at h
  show J p l e rm_X0_isWhole s m args below meth c 1 D dA ad R A (QI D dA ad R A below args s K) F 0 [(0, .ref (ad b))] []
  refine r_aload_n (pc := 0) X 0 dX0_isWhole_0 rfl rfl ?_
  refine r_aload_n (pc := 1) X 0 dX0_isWhole_1 rfl rfl ?_
  refine fg_X0_21 (pc := 2) X hT.1 dX0_isWhole_2 ?_
  refine r_callIV (pc := 5) (As := [.int (F b 4)]) (st := []) X hA (c_X0_firstPlaceOf hT h) g_X0_51 cl_X0 hT.1 hd_X0_firstPlaceOf rfl rfl rfl ⟨Nat.le_of_ble_eq_true rfl, Nat.le_of_ble_eq_true rfl⟩ rfl (Nat.le_of_ble_eq_true rfl) dX0_isWhole_5 (fun x1 F1 h => ?_)
  refine r_aload_n (pc := 8) X 0 dX0_isWhole_8 rfl rfl ?_
  refine fg_X0_25 (pc := 9) X hT.1 dX0_isWhole_9 ?_
  refine r_callIV (pc := 12) (As := []) (st := [.int x1]) X hA (c_X1_width hT.2.2.2.2 h) g_X0_54 cl_X1 hT.2.2.2.2.1 hd_X1_width rfl rfl rfl ⟨Nat.le_of_ble_eq_true rfl, Nat.le_of_ble_eq_true rfl⟩ rfl (Nat.le_of_ble_eq_true rfl) dX0_isWhole_12 (fun x2 F2 h => ?_)
  refine r_icmp_lt (pc := 15) (tgt := 22) X dX0_isWhole_15 (by decide) (fun hc => ?_) (fun hc => ?_)
  · replace h := h.1 hc
    refine r_iconst (pc := 22) (v := (nI 0)) X dX0_isWhole_22 (by decide) ?_
    exact r_zret (pc := 23) X hr dX0_isWhole_23 nb0 h
  · replace h := h.2 hc
    refine r_iconst (pc := 18) (v := (nI 1)) X dX0_isWhole_18 (by decide) ?_
    refine r_goto (pc := 19) (tgt := 23) X dX0_isWhole_19 (by decide) ?_
    exact r_zret (pc := 23) X hr dX0_isWhole_23 nb1 h
theorem dX0_mayJoin_0 : decode cX0_mayJoin 0 = .ok (.aload_n 0, 1) := by decide +kernel
theorem dX0_mayJoin_1 : decode cX0_mayJoin 1 = .ok (.getfield 21, 3) := by decide +kernel
theorem dX0_mayJoin_4 : decode cX0_mayJoin 4 = .ok (.bipush 8, 2) := by decide +kernel
theorem dX0_mayJoin_6 : decode cX0_mayJoin 6 = .ok (.if_icmp .ge 20, 3) := by decide +kernel
theorem dX0_mayJoin_9 : decode cX0_mayJoin 9 = .ok (.aload_n 0, 1) := by decide +kernel
theorem dX0_mayJoin_10 : decode cX0_mayJoin 10 = .ok (.invokevirtual 64, 3) := by decide +kernel
theorem dX0_mayJoin_13 : decode cX0_mayJoin 13 = .ok (.ifCond .ne 13, 3) := by decide +kernel
theorem dX0_mayJoin_16 : decode cX0_mayJoin 16 = .ok (.aload_n 0, 1) := by decide +kernel
theorem dX0_mayJoin_17 : decode cX0_mayJoin 17 = .ok (.iload_n 1, 1) := by decide +kernel
theorem dX0_mayJoin_18 : decode cX0_mayJoin 18 = .ok (.invokevirtual 68, 3) := by decide +kernel
theorem dX0_mayJoin_21 : decode cX0_mayJoin 21 = .ok (.bipush (-4), 2) := by decide +kernel
theorem dX0_mayJoin_23 : decode cX0_mayJoin 23 = .ok (.if_icmp .eq 5, 3) := by decide +kernel
theorem dX0_mayJoin_26 : decode cX0_mayJoin 26 = .ok (.iconst 0, 1) := by decide +kernel
theorem dX0_mayJoin_27 : decode cX0_mayJoin 27 = .ok (.ireturn, 1) := by decide +kernel
theorem dX0_mayJoin_28 : decode cX0_mayJoin 28 = .ok (.aload_n 0, 1) := by decide +kernel
theorem dX0_mayJoin_29 : decode cX0_mayJoin 29 = .ok (.getfield 25, 3) := by decide +kernel
theorem dX0_mayJoin_32 : decode cX0_mayJoin 32 = .ok (.iload_n 1, 1) := by decide +kernel
theorem dX0_mayJoin_33 : decode cX0_mayJoin 33 = .ok (.invokevirtual 42, 3) := by decide +kernel
theorem dX0_mayJoin_36 : decode cX0_mayJoin 36 = .ok (.istore_n 2, 1) := by decide +kernel
theorem dX0_mayJoin_37 : decode cX0_mayJoin 37 = .ok (.aload_n 0, 1) := by decide +kernel
theorem dX0_mayJoin_38 : decode cX0_mayJoin 38 = .ok (.getfield 21, 3) := by decide +kernel
theorem dX0_mayJoin_41 : decode cX0_mayJoin 41 = .ok (.ifCond .ne 24, 3) := by decide +kernel
theorem dX0_mayJoin_44 : decode cX0_mayJoin 44 = .ok (.iload_n 2, 1) := by decide +kernel
theorem dX0_mayJoin_45 : decode cX0_mayJoin 45 = .ok (.iconst 1, 1) := by decide +kernel
theorem dX0_mayJoin_46 : decode cX0_mayJoin 46 = .ok (.if_icmp .eq 13, 3) := by decide +kernel
theorem dX0_mayJoin_49 : decode cX0_mayJoin 49 = .ok (.aload_n 0, 1) := by decide +kernel
theorem dX0_mayJoin_50 : decode cX0_mayJoin 50 = .ok (.getfield 25, 3) := by decide +kernel
theorem dX0_mayJoin_53 : decode cX0_mayJoin 53 = .ok (.invokevirtual 71, 3) := by decide +kernel
theorem dX0_mayJoin_56 : decode cX0_mayJoin 56 = .ok (.ifCond .ne 7, 3) := by decide +kernel
theorem dX0_mayJoin_59 : decode cX0_mayJoin 59 = .ok (.iconst 1, 1) := by decide +kernel
theorem dX0_mayJoin_60 : decode cX0_mayJoin 60 = .ok (.goto 4, 3) := by decide +kernel
theorem dX0_mayJoin_63 : decode cX0_mayJoin 63 = .ok (.iconst 0, 1) := by decide +kernel
theorem dX0_mayJoin_64 : decode cX0_mayJoin 64 = .ok (.ireturn, 1) := by decide +kernel
theorem dX0_mayJoin_65 : decode cX0_mayJoin 65 = .ok (.iload_n 2, 1) := by decide +kernel
theorem dX0_mayJoin_66 : decode cX0_mayJoin 66 = .ok (.iconst 3, 1) := by decide +kernel
theorem dX0_mayJoin_67 : decode cX0_mayJoin 67 = .ok (.if_icmp .ne 17, 3) := by decide +kernel
theorem dX0_mayJoin_70 : decode cX0_mayJoin 70 = .ok (.aload_n 0, 1) := by decide +kernel
theorem dX0_mayJoin_71 : decode cX0_mayJoin 71 = .ok (.aload_n 0, 1) := by decide +kernel
theorem dX0_mayJoin_72 : decode cX0_mayJoin 72 = .ok (.getfield 21, 3) := by decide +kernel
theorem dX0_mayJoin_75 : decode cX0_mayJoin 75 = .ok (.iconst 1, 1) := by decide +kernel
theorem dX0_mayJoin_76 : decode cX0_mayJoin 76 = .ok (.isub, 1) := by decide +kernel
theorem dX0_mayJoin_77 : decode cX0_mayJoin 77 = .ok (.invokevirtual 74, 3) := by decide +kernel
theorem dX0_mayJoin_80 : decode cX0_mayJoin 80 = .ok (.iconst 3, 1) := by decide +kernel
theorem dX0_mayJoin_81 : decode cX0_mayJoin 81 = .ok (.if_icmp .eq 7, 3) := by decide +kernel
theorem dX0_mayJoin_84 : decode cX0_mayJoin 84 = .ok (.iconst 1, 1) := by decide +kernel
theorem dX0_mayJoin_85 : decode cX0_mayJoin 85 = .ok (.goto 4, 3) := by decide +kernel
theorem dX0_mayJoin_88 : decode cX0_mayJoin 88 = .ok (.iconst 0, 1) := by decide +kernel
theorem dX0_mayJoin_89 : decode cX0_mayJoin 89 = .ok (.ireturn, 1) := by decide +kernel
theorem hd_X0_mayJoin : yX0_mayJoin.cls = RX0 ∧ yX0_mayJoin.cls ≠ "java/lang/invoke/MethodHandle" ∧ yX0_mayJoin.cls ≠ "java/lang/invoke/VarHandle" ∧ (parseMethodDescriptor yX0_mayJoin.desc).map (fun d => d.parameters.length) = some 1 := by decide +kernel
abbrev rm_X0_mayJoin : Room := { frames := 3, cells := 0, slots := 0, locals := 64 }
def wp_X0_mayJoin (K : Int32 → HF → Prop) (F : HF) (b : Nat) (a1 : Int32) : Prop := (((nI 8) ≤ (F b 4)) → (K (nI 0) F)) ∧ ((¬ (nI 8) ≤ (F b 4)) → (wp_X0_isWhole (fun x1 F1 => ((¬ x1 = (nI 0)) → (K (nI 0) F1)) ∧ ((x1 = (nI 0)) → (wp_X0_positionOf (fun x2 F2 => ((x2 = (-4 : Int32)) → (wp_X1_kindOf (fun x3 F3 => ((¬ (F3 b 4) = (nI 0)) → (((¬ x3 = (nI 3)) → (K (nI 1) F3)) ∧ ((x3 = (nI 3)) → (wp_X0_kindAt (fun x4 F4 => ((x4 = (nI 3)) → (K (nI 0) F4)) ∧ ((¬ x4 = (nI 3)) → (K (nI 1) F4))) F3 b ((F3 b 4) - (nI 1)))))) ∧ (((F3 b 4) = (nI 0)) → (((x3 = (nI 1)) → (K (nI 1) F3)) ∧ ((¬ x3 = (nI 1)) → (wp_X1_hasCrow (fun x5 F5 => ((¬ x5 = (nI 0)) → (K (nI 0) F5)) ∧ ((x5 = (nI 0)) → (K (nI 1) F5))) F3 4))))) F2 4 a1)) ∧ ((¬ x2 = (-4 : Int32)) → (K (nI 0) F2))) F1 b a1))) F b))
set_option maxRecDepth 100000 in
set_option maxHeartbeats 4000000 in
theorem c_X0_mayJoin {l : Launch} {D : va_G} {dA : Nat → ClassId} {ad : Nat → Nat} {R : List Nat} {F : HF} {b : Nat} {a1 : Int32} {K : Int32 → HF → Prop} (hT : Br R b) (h : wp_X0_mayJoin K F b a1) : MI l yX0_mayJoin cX0_mayJoin 3 .boolean rm_X0_mayJoin D dA ad R F [.ref (ad b), .int a1] K := by
  refine MI.of (own := RX0) (by decide) rfl (Nat.le_of_ble_eq_true rfl) ?_
  intro p e s m args below meth c A hA X hr
  unfold wp_X0_mayJoin at h
  show J p l e rm_X0_mayJoin s m args below meth c 3 D dA ad R A (QI D dA ad R A below args s K) F 0 [(0, .ref (ad b)), (1, .int a1)] []
  refine r_aload_n (pc := 0) X 0 dX0_mayJoin_0 rfl rfl ?_
  refine fg_X0_21 (pc := 1) X hT.1 dX0_mayJoin_1 ?_
  refine r_bipush (pc := 4) (v := (nI 8)) X dX0_mayJoin_4 (by decide) ?_
  refine r_icmp_ge (pc := 6) (tgt := 26) X dX0_mayJoin_6 (by decide) (fun hc => ?_) (fun hc => ?_)
  · replace h := h.1 hc
    refine r_iconst (pc := 26) (v := (nI 0)) X dX0_mayJoin_26 (by decide) ?_
    exact r_zret (pc := 27) X hr dX0_mayJoin_27 nb0 h
  · replace h := h.2 hc
    refine r_aload_n (pc := 9) X 0 dX0_mayJoin_9 rfl rfl ?_
    refine r_callIV (pc := 10) (As := []) (st := []) X hA (c_X0_isWhole hT h) g_X0_64 cl_X0 hT.1 hd_X0_isWhole rfl rfl rfl ⟨Nat.le_of_ble_eq_true rfl, Nat.le_of_ble_eq_true rfl⟩ rfl (Nat.le_of_ble_eq_true rfl) dX0_mayJoin_10 (fun x1 F1 h => ?_)
    refine r_if_ne (pc := 13) (tgt := 26) X dX0_mayJoin_13 (by decide) (fun hc => ?_) (fun hc => ?_)
    · replace h := h.1 hc
      refine r_iconst (pc := 26) (v := (nI 0)) X dX0_mayJoin_26 (by decide) ?_
      exact r_zret (pc := 27) X hr dX0_mayJoin_27 nb0 h
    · replace h := h.2 hc
      refine r_aload_n (pc := 16) X 0 dX0_mayJoin_16 rfl rfl ?_
      refine r_iload_n (pc := 17) X 1 dX0_mayJoin_17 rfl rfl ?_
      refine r_callIV (pc := 18) (As := [.int a1]) (st := []) X hA (c_X0_positionOf hT h) g_X0_68 cl_X0 hT.1 hd_X0_positionOf rfl rfl rfl ⟨Nat.le_of_ble_eq_true rfl, Nat.le_of_ble_eq_true rfl⟩ rfl (Nat.le_of_ble_eq_true rfl) dX0_mayJoin_18 (fun x2 F2 h => ?_)
      refine r_bipush (pc := 21) (v := (-4 : Int32)) X dX0_mayJoin_21 (by decide) ?_
      refine r_icmp_eq (pc := 23) (tgt := 28) X dX0_mayJoin_23 (by decide) (fun hc => ?_) (fun hc => ?_)
      · replace h := h.1 hc
        refine r_aload_n (pc := 28) X 0 dX0_mayJoin_28 rfl rfl ?_
        refine fg_X0_25 (pc := 29) X hT.1 dX0_mayJoin_29 ?_
        refine r_iload_n (pc := 32) X 1 dX0_mayJoin_32 rfl rfl ?_
        refine r_callIV (pc := 33) (As := [.int a1]) (st := []) X hA (c_X1_kindOf hT.2.2.2.2 h) g_X0_42 cl_X1 hT.2.2.2.2.1 hd_X1_kindOf rfl rfl rfl ⟨Nat.le_of_ble_eq_true rfl, Nat.le_of_ble_eq_true rfl⟩ rfl (Nat.le_of_ble_eq_true rfl) dX0_mayJoin_33 (fun x3 F3 h => ?_)
        refine r_istore_n (pc := 36) X [(2, .int x3), (0, .ref (ad b)), (1, .int a1)] dX0_mayJoin_36 rfl (by decide) rfl ?_
        refine r_aload_n (pc := 37) X 1 dX0_mayJoin_37 rfl rfl ?_
        refine fg_X0_21 (pc := 38) X hT.1 dX0_mayJoin_38 ?_
        refine r_if_ne (pc := 41) (tgt := 65) X dX0_mayJoin_41 (by decide) (fun hc => ?_) (fun hc => ?_)
        · replace h := h.1 hc
          refine r_iload_n (pc := 65) X 0 dX0_mayJoin_65 rfl rfl ?_
          refine r_iconst (pc := 66) (v := (nI 3)) X dX0_mayJoin_66 (by decide) ?_
          refine r_icmp_ne (pc := 67) (tgt := 84) X dX0_mayJoin_67 (by decide) (fun hc => ?_) (fun hc => ?_)
          · replace h := h.1 hc
            refine r_iconst (pc := 84) (v := (nI 1)) X dX0_mayJoin_84 (by decide) ?_
            refine r_goto (pc := 85) (tgt := 89) X dX0_mayJoin_85 (by decide) ?_
            exact r_zret (pc := 89) X hr dX0_mayJoin_89 nb1 h
          · replace h := h.2 hc
            refine r_aload_n (pc := 70) X 1 dX0_mayJoin_70 rfl rfl ?_
            refine r_aload_n (pc := 71) X 1 dX0_mayJoin_71 rfl rfl ?_
            refine fg_X0_21 (pc := 72) X hT.1 dX0_mayJoin_72 ?_
            refine r_iconst (pc := 75) (v := (nI 1)) X dX0_mayJoin_75 (by decide) ?_
            refine r_isub (pc := 76) X dX0_mayJoin_76 ?_
            refine r_callIV (pc := 77) (As := [.int ((F3 b 4) - (nI 1))]) (st := []) X hA (c_X0_kindAt hT h) g_X0_74 cl_X0 hT.1 hd_X0_kindAt rfl rfl rfl ⟨Nat.le_of_ble_eq_true rfl, Nat.le_of_ble_eq_true rfl⟩ rfl (Nat.le_of_ble_eq_true rfl) dX0_mayJoin_77 (fun x4 F4 h => ?_)
            refine r_iconst (pc := 80) (v := (nI 3)) X dX0_mayJoin_80 (by decide) ?_
            refine r_icmp_eq (pc := 81) (tgt := 88) X dX0_mayJoin_81 (by decide) (fun hc => ?_) (fun hc => ?_)
            · replace h := h.1 hc
              refine r_iconst (pc := 88) (v := (nI 0)) X dX0_mayJoin_88 (by decide) ?_
              exact r_zret (pc := 89) X hr dX0_mayJoin_89 nb0 h
            · replace h := h.2 hc
              refine r_iconst (pc := 84) (v := (nI 1)) X dX0_mayJoin_84 (by decide) ?_
              refine r_goto (pc := 85) (tgt := 89) X dX0_mayJoin_85 (by decide) ?_
              exact r_zret (pc := 89) X hr dX0_mayJoin_89 nb1 h
        · replace h := h.2 hc
          refine r_iload_n (pc := 44) X 0 dX0_mayJoin_44 rfl rfl ?_
          refine r_iconst (pc := 45) (v := (nI 1)) X dX0_mayJoin_45 (by decide) ?_
          refine r_icmp_eq (pc := 46) (tgt := 59) X dX0_mayJoin_46 (by decide) (fun hc => ?_) (fun hc => ?_)
          · replace h := h.1 hc
            refine r_iconst (pc := 59) (v := (nI 1)) X dX0_mayJoin_59 (by decide) ?_
            refine r_goto (pc := 60) (tgt := 64) X dX0_mayJoin_60 (by decide) ?_
            exact r_zret (pc := 64) X hr dX0_mayJoin_64 nb1 h
          · replace h := h.2 hc
            refine r_aload_n (pc := 49) X 1 dX0_mayJoin_49 rfl rfl ?_
            refine fg_X0_25 (pc := 50) X hT.1 dX0_mayJoin_50 ?_
            refine r_callIV (pc := 53) (As := []) (st := []) X hA (c_X1_hasCrow hT.2.2.2.2 h) g_X0_71 cl_X1 hT.2.2.2.2.1 hd_X1_hasCrow rfl rfl rfl ⟨Nat.le_of_ble_eq_true rfl, Nat.le_of_ble_eq_true rfl⟩ rfl (Nat.le_of_ble_eq_true rfl) dX0_mayJoin_53 (fun x5 F5 h => ?_)
            refine r_if_ne (pc := 56) (tgt := 63) X dX0_mayJoin_56 (by decide) (fun hc => ?_) (fun hc => ?_)
            · replace h := h.1 hc
              refine r_iconst (pc := 63) (v := (nI 0)) X dX0_mayJoin_63 (by decide) ?_
              exact r_zret (pc := 64) X hr dX0_mayJoin_64 nb0 h
            · replace h := h.2 hc
              refine r_iconst (pc := 59) (v := (nI 1)) X dX0_mayJoin_59 (by decide) ?_
              refine r_goto (pc := 60) (tgt := 64) X dX0_mayJoin_60 (by decide) ?_
              exact r_zret (pc := 64) X hr dX0_mayJoin_64 nb1 h
      · replace h := h.2 hc
        refine r_iconst (pc := 26) (v := (nI 0)) X dX0_mayJoin_26 (by decide) ?_
        exact r_zret (pc := 27) X hr dX0_mayJoin_27 nb0 h
theorem dX0_append_0 : decode cX0_append 0 = .ok (.aload_n 0, 1) := by decide +kernel
theorem dX0_append_1 : decode cX0_append 1 = .ok (.getfield 21, 3) := by decide +kernel
theorem dX0_append_4 : decode cX0_append 4 = .ok (.bipush 8, 2) := by decide +kernel
theorem dX0_append_6 : decode cX0_append 6 = .ok (.if_icmp .ge 23, 3) := by decide +kernel
theorem dX0_append_9 : decode cX0_append 9 = .ok (.aload_n 0, 1) := by decide +kernel
theorem dX0_append_10 : decode cX0_append 10 = .ok (.getfield 9, 3) := by decide +kernel
theorem dX0_append_13 : decode cX0_append 13 = .ok (.aload_n 0, 1) := by decide +kernel
theorem dX0_append_14 : decode cX0_append 14 = .ok (.getfield 21, 3) := by decide +kernel
theorem dX0_append_17 : decode cX0_append 17 = .ok (.iload_n 1, 1) := by decide +kernel
theorem dX0_append_18 : decode cX0_append 18 = .ok (.iastore, 1) := by decide +kernel
theorem dX0_append_19 : decode cX0_append 19 = .ok (.aload_n 0, 1) := by decide +kernel
theorem dX0_append_20 : decode cX0_append 20 = .ok (.dup, 1) := by decide +kernel
theorem dX0_append_21 : decode cX0_append 21 = .ok (.getfield 21, 3) := by decide +kernel
theorem dX0_append_24 : decode cX0_append 24 = .ok (.iconst 1, 1) := by decide +kernel
theorem dX0_append_25 : decode cX0_append 25 = .ok (.iadd, 1) := by decide +kernel
theorem dX0_append_26 : decode cX0_append 26 = .ok (.putfield 21, 3) := by decide +kernel
theorem dX0_append_29 : decode cX0_append 29 = .ok (.return_, 1) := by decide +kernel
theorem hd_X0_append : yX0_append.cls = RX0 ∧ yX0_append.cls ≠ "java/lang/invoke/MethodHandle" ∧ yX0_append.cls ≠ "java/lang/invoke/VarHandle" ∧ (parseMethodDescriptor yX0_append.desc).map (fun d => d.parameters.length) = some 1 := by decide +kernel
abbrev rm_X0_append : Room := { frames := 0, cells := 0, slots := 0, locals := 0 }
def wp_X0_append (K : HF → Prop) (F : HF) (b : Nat) (a1 : Int32) : Prop := (((nI 8) ≤ (F b 4)) → (K F)) ∧ ((¬ (nI 8) ≤ (F b 4)) → ((vp_in (F b 4) 8) ∧ (∀ F1 : HF, F1 = hup F (b + 1) (F b 4).toNatClampNeg a1 → (∀ F2 : HF, F2 = hup F1 b 4 ((F1 b 4) + (nI 1)) → (K F2)))))
set_option maxRecDepth 100000 in
set_option maxHeartbeats 4000000 in
theorem c_X0_append {l : Launch} {D : va_G} {dA : Nat → ClassId} {ad : Nat → Nat} {R : List Nat} {F : HF} {b : Nat} {a1 : Int32} {K : HF → Prop} (hT : Br R b) (h : wp_X0_append K F b a1) : MV l yX0_append cX0_append 2 rm_X0_append D dA ad R F [.ref (ad b), .int a1] K := by
  refine MV.of (own := RX0) (by decide) rfl (Nat.le_of_ble_eq_true rfl) ?_
  intro p e s m args below meth c A hA X hr
  unfold wp_X0_append at h
  show J p l e rm_X0_append s m args below meth c 2 D dA ad R A (QV D dA ad R A below args s K) F 0 [(0, .ref (ad b)), (1, .int a1)] []
  refine r_aload_n (pc := 0) X 0 dX0_append_0 rfl rfl ?_
  refine fg_X0_21 (pc := 1) X hT.1 dX0_append_1 ?_
  refine r_bipush (pc := 4) (v := (nI 8)) X dX0_append_4 (by decide) ?_
  refine r_icmp_ge (pc := 6) (tgt := 29) X dX0_append_6 (by decide) (fun hc => ?_) (fun hc => ?_)
  · replace h := h.1 hc
    exact r_vret (pc := 29) X hr dX0_append_29 h
  · replace h := h.2 hc
    refine r_aload_n (pc := 9) X 0 dX0_append_9 rfl rfl ?_
    refine fg_X0_9 (pc := 10) X hT.1 dX0_append_10 ?_
    refine r_aload_n (pc := 13) X 0 dX0_append_13 rfl rfl ?_
    refine fg_X0_21 (pc := 14) X hT.1 dX0_append_14 ?_
    refine r_iload_n (pc := 17) X 1 dX0_append_17 rfl rfl ?_
    refine r_iast (pc := 18) X hT.2.1 h.1 dX0_append_18 (fun F1 e1 => ?_)
    replace h := h.2 F1 e1
    refine r_aload_n (pc := 19) X 0 dX0_append_19 rfl rfl ?_
    refine r_dup (pc := 20) X dX0_append_20 rfl ?_
    refine fg_X0_21 (pc := 21) X hT.1 dX0_append_21 ?_
    refine r_iconst (pc := 24) (v := (nI 1)) X dX0_append_24 (by decide) ?_
    refine r_iadd (pc := 25) X dX0_append_25 ?_
    refine fp_X0_21 (pc := 26) X hT.1 dX0_append_26 (fun F2 e1 => ?_)
    replace h := h F2 e1
    exact r_vret (pc := 29) X hr dX0_append_29 h
theorem dX0_dropLast_0 : decode cX0_dropLast 0 = .ok (.aload_n 0, 1) := by decide +kernel
theorem dX0_dropLast_1 : decode cX0_dropLast 1 = .ok (.getfield 21, 3) := by decide +kernel
theorem dX0_dropLast_4 : decode cX0_dropLast 4 = .ok (.ifCond .le 13, 3) := by decide +kernel
theorem dX0_dropLast_7 : decode cX0_dropLast 7 = .ok (.aload_n 0, 1) := by decide +kernel
theorem dX0_dropLast_8 : decode cX0_dropLast 8 = .ok (.dup, 1) := by decide +kernel
theorem dX0_dropLast_9 : decode cX0_dropLast 9 = .ok (.getfield 21, 3) := by decide +kernel
theorem dX0_dropLast_12 : decode cX0_dropLast 12 = .ok (.iconst 1, 1) := by decide +kernel
theorem dX0_dropLast_13 : decode cX0_dropLast 13 = .ok (.isub, 1) := by decide +kernel
theorem dX0_dropLast_14 : decode cX0_dropLast 14 = .ok (.putfield 21, 3) := by decide +kernel
theorem dX0_dropLast_17 : decode cX0_dropLast 17 = .ok (.return_, 1) := by decide +kernel
theorem hd_X0_dropLast : yX0_dropLast.cls = RX0 ∧ yX0_dropLast.cls ≠ "java/lang/invoke/MethodHandle" ∧ yX0_dropLast.cls ≠ "java/lang/invoke/VarHandle" ∧ (parseMethodDescriptor yX0_dropLast.desc).map (fun d => d.parameters.length) = some 0 := by decide +kernel
abbrev rm_X0_dropLast : Room := { frames := 0, cells := 0, slots := 0, locals := 0 }
def wp_X0_dropLast (K : HF → Prop) (F : HF) (b : Nat) : Prop := (((F b 4) ≤ (nI 0)) → (K F)) ∧ ((¬ (F b 4) ≤ (nI 0)) → (∀ F1 : HF, F1 = hup F b 4 ((F b 4) - (nI 1)) → (K F1)))
set_option maxRecDepth 100000 in
set_option maxHeartbeats 4000000 in
theorem c_X0_dropLast {l : Launch} {D : va_G} {dA : Nat → ClassId} {ad : Nat → Nat} {R : List Nat} {F : HF} {b : Nat} {K : HF → Prop} (hT : Br R b) (h : wp_X0_dropLast K F b) : MV l yX0_dropLast cX0_dropLast 1 rm_X0_dropLast D dA ad R F [.ref (ad b)] K := by
  refine MV.of (own := RX0) (by decide) rfl (Nat.le_of_ble_eq_true rfl) ?_
  intro p e s m args below meth c A hA X hr
  unfold wp_X0_dropLast at h
  show J p l e rm_X0_dropLast s m args below meth c 1 D dA ad R A (QV D dA ad R A below args s K) F 0 [(0, .ref (ad b))] []
  refine r_aload_n (pc := 0) X 0 dX0_dropLast_0 rfl rfl ?_
  refine fg_X0_21 (pc := 1) X hT.1 dX0_dropLast_1 ?_
  refine r_if_le (pc := 4) (tgt := 17) X dX0_dropLast_4 (by decide) (fun hc => ?_) (fun hc => ?_)
  · replace h := h.1 hc
    exact r_vret (pc := 17) X hr dX0_dropLast_17 h
  · replace h := h.2 hc
    refine r_aload_n (pc := 7) X 0 dX0_dropLast_7 rfl rfl ?_
    refine r_dup (pc := 8) X dX0_dropLast_8 rfl ?_
    refine fg_X0_21 (pc := 9) X hT.1 dX0_dropLast_9 ?_
    refine r_iconst (pc := 12) (v := (nI 1)) X dX0_dropLast_12 (by decide) ?_
    refine r_isub (pc := 13) X dX0_dropLast_13 ?_
    refine fp_X0_21 (pc := 14) X hT.1 dX0_dropLast_14 (fun F1 e1 => ?_)
    replace h := h F1 e1
    exact r_vret (pc := 17) X hr dX0_dropLast_17 h
theorem dX0_replace_0 : decode cX0_replace 0 = .ok (.iload_n 1, 1) := by decide +kernel
theorem dX0_replace_1 : decode cX0_replace 1 = .ok (.ifCond .lt 18, 3) := by decide +kernel
theorem dX0_replace_4 : decode cX0_replace 4 = .ok (.iload_n 1, 1) := by decide +kernel
theorem dX0_replace_5 : decode cX0_replace 5 = .ok (.aload_n 0, 1) := by decide +kernel
theorem dX0_replace_6 : decode cX0_replace 6 = .ok (.getfield 21, 3) := by decide +kernel
theorem dX0_replace_9 : decode cX0_replace 9 = .ok (.if_icmp .ge 10, 3) := by decide +kernel
theorem dX0_replace_12 : decode cX0_replace 12 = .ok (.aload_n 0, 1) := by decide +kernel
theorem dX0_replace_13 : decode cX0_replace 13 = .ok (.getfield 9, 3) := by decide +kernel
theorem dX0_replace_16 : decode cX0_replace 16 = .ok (.iload_n 1, 1) := by decide +kernel
theorem dX0_replace_17 : decode cX0_replace 17 = .ok (.iload_n 2, 1) := by decide +kernel
theorem dX0_replace_18 : decode cX0_replace 18 = .ok (.iastore, 1) := by decide +kernel
theorem dX0_replace_19 : decode cX0_replace 19 = .ok (.return_, 1) := by decide +kernel
theorem hd_X0_replace : yX0_replace.cls = RX0 ∧ yX0_replace.cls ≠ "java/lang/invoke/MethodHandle" ∧ yX0_replace.cls ≠ "java/lang/invoke/VarHandle" ∧ (parseMethodDescriptor yX0_replace.desc).map (fun d => d.parameters.length) = some 2 := by decide +kernel
abbrev rm_X0_replace : Room := { frames := 0, cells := 0, slots := 0, locals := 0 }
def wp_X0_replace (K : HF → Prop) (F : HF) (b : Nat) (a1 : Int32) (a2 : Int32) : Prop := ((a1 < (nI 0)) → (K F)) ∧ ((¬ a1 < (nI 0)) → ((((F b 4) ≤ a1) → (K F)) ∧ ((¬ (F b 4) ≤ a1) → ((vp_in a1 8) ∧ (∀ F1 : HF, F1 = hup F (b + 1) a1.toNatClampNeg a2 → (K F1))))))
set_option maxRecDepth 100000 in
set_option maxHeartbeats 4000000 in
theorem c_X0_replace {l : Launch} {D : va_G} {dA : Nat → ClassId} {ad : Nat → Nat} {R : List Nat} {F : HF} {b : Nat} {a1 : Int32} {a2 : Int32} {K : HF → Prop} (hT : Br R b) (h : wp_X0_replace K F b a1 a2) : MV l yX0_replace cX0_replace 3 rm_X0_replace D dA ad R F [.ref (ad b), .int a1, .int a2] K := by
  refine MV.of (own := RX0) (by decide) rfl (Nat.le_of_ble_eq_true rfl) ?_
  intro p e s m args below meth c A hA X hr
  unfold wp_X0_replace at h
  show J p l e rm_X0_replace s m args below meth c 3 D dA ad R A (QV D dA ad R A below args s K) F 0 [(0, .ref (ad b)), (1, .int a1), (2, .int a2)] []
  refine r_iload_n (pc := 0) X 1 dX0_replace_0 rfl rfl ?_
  refine r_if_lt (pc := 1) (tgt := 19) X dX0_replace_1 (by decide) (fun hc => ?_) (fun hc => ?_)
  · replace h := h.1 hc
    exact r_vret (pc := 19) X hr dX0_replace_19 h
  · replace h := h.2 hc
    refine r_iload_n (pc := 4) X 1 dX0_replace_4 rfl rfl ?_
    refine r_aload_n (pc := 5) X 0 dX0_replace_5 rfl rfl ?_
    refine fg_X0_21 (pc := 6) X hT.1 dX0_replace_6 ?_
    refine r_icmp_ge (pc := 9) (tgt := 19) X dX0_replace_9 (by decide) (fun hc => ?_) (fun hc => ?_)
    · replace h := h.1 hc
      exact r_vret (pc := 19) X hr dX0_replace_19 h
    · replace h := h.2 hc
      refine r_aload_n (pc := 12) X 0 dX0_replace_12 rfl rfl ?_
      refine fg_X0_9 (pc := 13) X hT.1 dX0_replace_13 ?_
      refine r_iload_n (pc := 16) X 1 dX0_replace_16 rfl rfl ?_
      refine r_iload_n (pc := 17) X 2 dX0_replace_17 rfl rfl ?_
      refine r_iast (pc := 18) X hT.2.1 h.1 dX0_replace_18 (fun F1 e1 => ?_)
      replace h := h.2 F1 e1
      exact r_vret (pc := 19) X hr dX0_replace_19 h
theorem dX0_powerOf_0 : decode cX0_powerOf 0 = .ok (.iload_n 0, 1) := by decide +kernel
theorem dX0_powerOf_1 : decode cX0_powerOf 1 = .ok (.iconst 1, 1) := by decide +kernel
theorem dX0_powerOf_2 : decode cX0_powerOf 2 = .ok (.if_icmp .ne 11, 3) := by decide +kernel
theorem dX0_powerOf_5 : decode cX0_powerOf 5 = .ok (.iload_n 2, 1) := by decide +kernel
theorem dX0_powerOf_6 : decode cX0_powerOf 6 = .ok (.ifCond .eq 7, 3) := by decide +kernel
theorem dX0_powerOf_9 : decode cX0_powerOf 9 = .ok (.iload_n 1, 1) := by decide +kernel
theorem dX0_powerOf_10 : decode cX0_powerOf 10 = .ok (.iconst 2, 1) := by decide +kernel
theorem dX0_powerOf_11 : decode cX0_powerOf 11 = .ok (.idiv, 1) := by decide +kernel
theorem dX0_powerOf_12 : decode cX0_powerOf 12 = .ok (.ireturn, 1) := by decide +kernel
theorem dX0_powerOf_13 : decode cX0_powerOf 13 = .ok (.iload_n 0, 1) := by decide +kernel
theorem dX0_powerOf_14 : decode cX0_powerOf 14 = .ok (.iconst 4, 1) := by decide +kernel
theorem dX0_powerOf_15 : decode cX0_powerOf 15 = .ok (.if_icmp .ne 13, 3) := by decide +kernel
theorem dX0_powerOf_18 : decode cX0_powerOf 18 = .ok (.iload_n 3, 1) := by decide +kernel
theorem dX0_powerOf_19 : decode cX0_powerOf 19 = .ok (.ifCond .eq 9, 3) := by decide +kernel
theorem dX0_powerOf_22 : decode cX0_powerOf 22 = .ok (.iload_n 1, 1) := by decide +kernel
theorem dX0_powerOf_23 : decode cX0_powerOf 23 = .ok (.iconst 5, 1) := by decide +kernel
theorem dX0_powerOf_24 : decode cX0_powerOf 24 = .ok (.iadd, 1) := by decide +kernel
theorem dX0_powerOf_25 : decode cX0_powerOf 25 = .ok (.goto 4, 3) := by decide +kernel
theorem dX0_powerOf_28 : decode cX0_powerOf 28 = .ok (.iload_n 1, 1) := by decide +kernel
theorem dX0_powerOf_29 : decode cX0_powerOf 29 = .ok (.ireturn, 1) := by decide +kernel
theorem hd_X0_powerOf : yX0_powerOf.cls = RX0 ∧ yX0_powerOf.cls ≠ "java/lang/invoke/MethodHandle" ∧ yX0_powerOf.cls ≠ "java/lang/invoke/VarHandle" ∧ (parseMethodDescriptor yX0_powerOf.desc).map (fun d => d.parameters.length) = some 4 := by decide +kernel
abbrev rm_X0_powerOf : Room := { frames := 0, cells := 0, slots := 0, locals := 0 }
def wp_X0_powerOf_13 (K : Int32 → HF → Prop) (F : HF) (v0 : Int32) (v1 : Int32) (v3 : Int32) : Prop := ((¬ v0 = (nI 4)) → (K v1 F)) ∧ ((v0 = (nI 4)) → (((v3 = (nI 0)) → (K v1 F)) ∧ ((¬ v3 = (nI 0)) → (K (v1 + (nI 5)) F))))
set_option maxRecDepth 100000 in
set_option maxHeartbeats 4000000 in
theorem k_X0_powerOf_13 {p : Program} {l : Launch} {e : Env} {s : State} {m : MethodId} {args : Array Value} {below : List Frame} {meth : Method} {c : Code} {D : va_G} {dA : Nat → ClassId} {ad : Nat → Nat} {R : List Nat} {A : Nat → Prop} {K : Int32 → HF → Prop} (X : Cx p s m args meth c cX0_powerOf 4 RX0 D dA) (hA : ∀ q, s.heap.size ≤ q → A q) (hr : meth.sig.returnType = some .int) : ∀ (F : HF) (v0 : Int32) (v1 : Int32) (v3 : Int32), wp_X0_powerOf_13 K  F v0 v1 v3 → J p l e rm_X0_powerOf s m args below meth c 4 D dA ad R A (QI D dA ad R A below args s K) F 13 [(0, .int v0), (1, .int v1), (3, .int v3)] [] := by
  intro F v0 v1 v3 h
  unfold wp_X0_powerOf_13 at h
  refine r_iload_n (pc := 13) X 0 dX0_powerOf_13 rfl rfl ?_
  refine r_iconst (pc := 14) (v := (nI 4)) X dX0_powerOf_14 (by decide) ?_
  refine r_icmp_ne (pc := 15) (tgt := 28) X dX0_powerOf_15 (by decide) (fun hc => ?_) (fun hc => ?_)
  · replace h := h.1 hc
    refine r_iload_n (pc := 28) X 1 dX0_powerOf_28 rfl rfl ?_
    exact r_iret (pc := 29) X hr dX0_powerOf_29 h
  · replace h := h.2 hc
    refine r_iload_n (pc := 18) X 2 dX0_powerOf_18 rfl rfl ?_
    refine r_if_eq (pc := 19) (tgt := 28) X dX0_powerOf_19 (by decide) (fun hc => ?_) (fun hc => ?_)
    · replace h := h.1 hc
      refine r_iload_n (pc := 28) X 1 dX0_powerOf_28 rfl rfl ?_
      exact r_iret (pc := 29) X hr dX0_powerOf_29 h
    · replace h := h.2 hc
      refine r_iload_n (pc := 22) X 1 dX0_powerOf_22 rfl rfl ?_
      refine r_iconst (pc := 23) (v := (nI 5)) X dX0_powerOf_23 (by decide) ?_
      refine r_iadd (pc := 24) X dX0_powerOf_24 ?_
      refine r_goto (pc := 25) (tgt := 29) X dX0_powerOf_25 (by decide) ?_
      exact r_iret (pc := 29) X hr dX0_powerOf_29 h
def wp_X0_powerOf (K : Int32 → HF → Prop) (F : HF) (a1 : Int32) (a2 : Int32) (a3 : Int32) (a4 : Int32) : Prop := ((¬ a1 = (nI 1)) → (wp_X0_powerOf_13 K  F a1 a2 a4)) ∧ ((a1 = (nI 1)) → (((a3 = (nI 0)) → (wp_X0_powerOf_13 K  F a1 a2 a4)) ∧ ((¬ a3 = (nI 0)) → (K (a2 / (nI 2)) F))))
set_option maxRecDepth 100000 in
set_option maxHeartbeats 4000000 in
theorem c_X0_powerOf {l : Launch} {D : va_G} {dA : Nat → ClassId} {ad : Nat → Nat} {R : List Nat} {F : HF} {a1 : Int32} {a2 : Int32} {a3 : Int32} {a4 : Int32} {K : Int32 → HF → Prop} (h : wp_X0_powerOf K F a1 a2 a3 a4) : MI l yX0_powerOf cX0_powerOf 4 .int rm_X0_powerOf D dA ad R F [.int a1, .int a2, .int a3, .int a4] K := by
  refine MI.of (own := RX0) (by decide) rfl (Nat.le_of_ble_eq_true rfl) ?_
  intro p e s m args below meth c A hA X hr
  unfold wp_X0_powerOf at h
  show J p l e rm_X0_powerOf s m args below meth c 4 D dA ad R A (QI D dA ad R A below args s K) F 0 [(0, .int a1), (1, .int a2), (2, .int a3), (3, .int a4)] []
  refine r_iload_n (pc := 0) X 0 dX0_powerOf_0 rfl rfl ?_
  refine r_iconst (pc := 1) (v := (nI 1)) X dX0_powerOf_1 (by decide) ?_
  refine r_icmp_ne (pc := 2) (tgt := 13) X dX0_powerOf_2 (by decide) (fun hc => ?_) (fun hc => ?_)
  · replace h := h.1 hc
    refine r_sub [0, 1, 3] rfl ?_
    exact k_X0_powerOf_13 X hA hr   _ _ _ _ h
  · replace h := h.2 hc
    refine r_iload_n (pc := 5) X 2 dX0_powerOf_5 rfl rfl ?_
    refine r_if_eq (pc := 6) (tgt := 13) X dX0_powerOf_6 (by decide) (fun hc => ?_) (fun hc => ?_)
    · replace h := h.1 hc
      refine r_sub [0, 1, 3] rfl ?_
      exact k_X0_powerOf_13 X hA hr   _ _ _ _ h
    · replace h := h.2 hc
      refine r_iload_n (pc := 9) X 1 dX0_powerOf_9 rfl rfl ?_
      refine r_iconst (pc := 10) (v := (nI 2)) X dX0_powerOf_10 (by decide) ?_
      refine r_idiv (pc := 11) X dX0_powerOf_11 (by decide) ?_
      exact r_iret (pc := 12) X hr dX0_powerOf_12 h
theorem dX0_powerAt_0 : decode cX0_powerAt 0 = .ok (.aload_n 0, 1) := by decide +kernel
theorem dX0_powerAt_1 : decode cX0_powerAt 1 = .ok (.iload_n 1, 1) := by decide +kernel
theorem dX0_powerAt_2 : decode cX0_powerAt 2 = .ok (.invokevirtual 77, 3) := by decide +kernel
theorem dX0_powerAt_5 : decode cX0_powerAt 5 = .ok (.istore_n 2, 1) := by decide +kernel
theorem dX0_powerAt_6 : decode cX0_powerAt 6 = .ok (.iload_n 1, 1) := by decide +kernel
theorem dX0_powerAt_7 : decode cX0_powerAt 7 = .ok (.ifCond .le 17, 3) := by decide +kernel
theorem dX0_powerAt_10 : decode cX0_powerAt 10 = .ok (.iload_n 1, 1) := by decide +kernel
theorem dX0_powerAt_11 : decode cX0_powerAt 11 = .ok (.aload_n 0, 1) := by decide +kernel
theorem dX0_powerAt_12 : decode cX0_powerAt 12 = .ok (.getfield 21, 3) := by decide +kernel
theorem dX0_powerAt_15 : decode cX0_powerAt 15 = .ok (.iconst 1, 1) := by decide +kernel
theorem dX0_powerAt_16 : decode cX0_powerAt 16 = .ok (.isub, 1) := by decide +kernel
theorem dX0_powerAt_17 : decode cX0_powerAt 17 = .ok (.if_icmp .ge 7, 3) := by decide +kernel
theorem dX0_powerAt_20 : decode cX0_powerAt 20 = .ok (.iconst 1, 1) := by decide +kernel
theorem dX0_powerAt_21 : decode cX0_powerAt 21 = .ok (.goto 4, 3) := by decide +kernel
theorem dX0_powerAt_24 : decode cX0_powerAt 24 = .ok (.iconst 0, 1) := by decide +kernel
theorem dX0_powerAt_25 : decode cX0_powerAt 25 = .ok (.istore_n 3, 1) := by decide +kernel
theorem dX0_powerAt_26 : decode cX0_powerAt 26 = .ok (.aload_n 0, 1) := by decide +kernel
theorem dX0_powerAt_27 : decode cX0_powerAt 27 = .ok (.iload_n 1, 1) := by decide +kernel
theorem dX0_powerAt_28 : decode cX0_powerAt 28 = .ok (.iconst 1, 1) := by decide +kernel
theorem dX0_powerAt_29 : decode cX0_powerAt 29 = .ok (.isub, 1) := by decide +kernel
theorem dX0_powerAt_30 : decode cX0_powerAt 30 = .ok (.invokevirtual 74, 3) := by decide +kernel
theorem dX0_powerAt_33 : decode cX0_powerAt 33 = .ok (.iconst 4, 1) := by decide +kernel
theorem dX0_powerAt_34 : decode cX0_powerAt 34 = .ok (.if_icmp .eq 14, 3) := by decide +kernel
theorem dX0_powerAt_37 : decode cX0_powerAt 37 = .ok (.aload_n 0, 1) := by decide +kernel
theorem dX0_powerAt_38 : decode cX0_powerAt 38 = .ok (.iload_n 1, 1) := by decide +kernel
theorem dX0_powerAt_39 : decode cX0_powerAt 39 = .ok (.iconst 1, 1) := by decide +kernel
theorem dX0_powerAt_40 : decode cX0_powerAt 40 = .ok (.iadd, 1) := by decide +kernel
theorem dX0_powerAt_41 : decode cX0_powerAt 41 = .ok (.invokevirtual 74, 3) := by decide +kernel
theorem dX0_powerAt_44 : decode cX0_powerAt 44 = .ok (.iconst 4, 1) := by decide +kernel
theorem dX0_powerAt_45 : decode cX0_powerAt 45 = .ok (.if_icmp .ne 7, 3) := by decide +kernel
theorem dX0_powerAt_48 : decode cX0_powerAt 48 = .ok (.iconst 1, 1) := by decide +kernel
theorem dX0_powerAt_49 : decode cX0_powerAt 49 = .ok (.goto 4, 3) := by decide +kernel
theorem dX0_powerAt_52 : decode cX0_powerAt 52 = .ok (.iconst 0, 1) := by decide +kernel
theorem dX0_powerAt_53 : decode cX0_powerAt 53 = .ok (.istore 4, 2) := by decide +kernel
theorem dX0_powerAt_55 : decode cX0_powerAt 55 = .ok (.aload_n 0, 1) := by decide +kernel
theorem dX0_powerAt_56 : decode cX0_powerAt 56 = .ok (.getfield 25, 3) := by decide +kernel
theorem dX0_powerAt_59 : decode cX0_powerAt 59 = .ok (.iload_n 2, 1) := by decide +kernel
theorem dX0_powerAt_60 : decode cX0_powerAt 60 = .ok (.invokevirtual 42, 3) := by decide +kernel
theorem dX0_powerAt_63 : decode cX0_powerAt 63 = .ok (.aload_n 0, 1) := by decide +kernel
theorem dX0_powerAt_64 : decode cX0_powerAt 64 = .ok (.getfield 25, 3) := by decide +kernel
theorem dX0_powerAt_67 : decode cX0_powerAt 67 = .ok (.iload_n 2, 1) := by decide +kernel
theorem dX0_powerAt_68 : decode cX0_powerAt 68 = .ok (.invokevirtual 80, 3) := by decide +kernel
theorem dX0_powerAt_71 : decode cX0_powerAt 71 = .ok (.aload_n 0, 1) := by decide +kernel
theorem dX0_powerAt_72 : decode cX0_powerAt 72 = .ok (.iload_n 2, 1) := by decide +kernel
theorem dX0_powerAt_73 : decode cX0_powerAt 73 = .ok (.invokevirtual 83, 3) := by decide +kernel
theorem dX0_powerAt_76 : decode cX0_powerAt 76 = .ok (.isub, 1) := by decide +kernel
theorem dX0_powerAt_77 : decode cX0_powerAt 77 = .ok (.iload_n 3, 1) := by decide +kernel
theorem dX0_powerAt_78 : decode cX0_powerAt 78 = .ok (.iload 4, 2) := by decide +kernel
theorem dX0_powerAt_80 : decode cX0_powerAt 80 = .ok (.invokestatic 86, 3) := by decide +kernel
theorem dX0_powerAt_83 : decode cX0_powerAt 83 = .ok (.ireturn, 1) := by decide +kernel
theorem hd_X0_powerAt : yX0_powerAt.cls = RX0 ∧ yX0_powerAt.cls ≠ "java/lang/invoke/MethodHandle" ∧ yX0_powerAt.cls ≠ "java/lang/invoke/VarHandle" ∧ (parseMethodDescriptor yX0_powerAt.desc).map (fun d => d.parameters.length) = some 1 := by decide +kernel
abbrev rm_X0_powerAt : Room := { frames := 2, cells := 0, slots := 0, locals := 42 }
def wp_X0_powerAt_53 (K : Int32 → HF → Prop) (b : Nat) (F : HF) (v2 : Int32) (v3 : Int32) (s0 : Int32) : Prop := wp_X1_kindOf (fun x3 F403 => wp_X1_strengthOf (fun x4 F404 => wp_X0_tiredOf (fun x5 F405 => wp_X0_powerOf (fun x6 F406 => K x6 F406) F405 x3 (x4 - x5) v3 s0) F404 b v2) F403 4 v2) F 4 v2
set_option maxRecDepth 100000 in
set_option maxHeartbeats 4000000 in
theorem k_X0_powerAt_53 {p : Program} {l : Launch} {e : Env} {s : State} {m : MethodId} {args : Array Value} {below : List Frame} {meth : Method} {c : Code} {D : va_G} {dA : Nat → ClassId} {ad : Nat → Nat} {R : List Nat} {A : Nat → Prop} {K : Int32 → HF → Prop} {b : Nat} (X : Cx p s m args meth c cX0_powerAt 5 RX0 D dA) (hA : ∀ q, s.heap.size ≤ q → A q) (hr : meth.sig.returnType = some .int) (hT : Br R b) : ∀ (F : HF) (v2 : Int32) (v3 : Int32) (s0 : Int32), wp_X0_powerAt_53 K b F v2 v3 s0 → J p l e rm_X0_powerAt s m args below meth c 5 D dA ad R A (QI D dA ad R A below args s K) F 53 [(0, .ref (ad b)), (2, .int v2), (3, .int v3)] [.int s0] := by
  intro F v2 v3 s0 h
  unfold wp_X0_powerAt_53 at h
  refine r_istore (pc := 53) X [(4, .int s0), (0, .ref (ad b)), (2, .int v2), (3, .int v3)] dX0_powerAt_53 (by decide) rfl ?_
  refine r_aload_n (pc := 55) X 1 dX0_powerAt_55 rfl rfl ?_
  refine fg_X0_25 (pc := 56) X hT.1 dX0_powerAt_56 ?_
  refine r_iload_n (pc := 59) X 2 dX0_powerAt_59 rfl rfl ?_
  refine r_callIV (pc := 60) (As := [.int v2]) (st := []) X hA (c_X1_kindOf hT.2.2.2.2 h) g_X0_42 cl_X1 hT.2.2.2.2.1 hd_X1_kindOf rfl rfl rfl ⟨Nat.le_of_ble_eq_true rfl, Nat.le_of_ble_eq_true rfl⟩ rfl (Nat.le_of_ble_eq_true rfl) dX0_powerAt_60 (fun x3 F403 h => ?_)
  refine r_aload_n (pc := 63) X 1 dX0_powerAt_63 rfl rfl ?_
  refine fg_X0_25 (pc := 64) X hT.1 dX0_powerAt_64 ?_
  refine r_iload_n (pc := 67) X 2 dX0_powerAt_67 rfl rfl ?_
  refine r_callIV (pc := 68) (As := [.int v2]) (st := [.int x3]) X hA (c_X1_strengthOf hT.2.2.2.2 h) g_X0_80 cl_X1 hT.2.2.2.2.1 hd_X1_strengthOf rfl rfl rfl ⟨Nat.le_of_ble_eq_true rfl, Nat.le_of_ble_eq_true rfl⟩ rfl (Nat.le_of_ble_eq_true rfl) dX0_powerAt_68 (fun x4 F404 h => ?_)
  refine r_aload_n (pc := 71) X 1 dX0_powerAt_71 rfl rfl ?_
  refine r_iload_n (pc := 72) X 2 dX0_powerAt_72 rfl rfl ?_
  refine r_callIV (pc := 73) (As := [.int v2]) (st := [.int x4, .int x3]) X hA (c_X0_tiredOf hT h) g_X0_83 cl_X0 hT.1 hd_X0_tiredOf rfl rfl rfl ⟨Nat.le_of_ble_eq_true rfl, Nat.le_of_ble_eq_true rfl⟩ rfl (Nat.le_of_ble_eq_true rfl) dX0_powerAt_73 (fun x5 F405 h => ?_)
  refine r_isub (pc := 76) X dX0_powerAt_76 ?_
  refine r_iload_n (pc := 77) X 3 dX0_powerAt_77 rfl rfl ?_
  refine r_iload (pc := 78) X 0 dX0_powerAt_78 rfl ?_
  refine r_callIS (pc := 80) (As := [.int x3, .int (x4 - x5), .int v3, .int s0]) (st := []) X hA (c_X0_powerOf  h) g_X0_86 hd_X0_powerOf rfl rfl rfl ⟨Nat.le_of_ble_eq_true rfl, Nat.le_of_ble_eq_true rfl⟩ rfl (Nat.le_of_ble_eq_true rfl) dX0_powerAt_80 (fun x6 F406 h => ?_)
  exact r_iret (pc := 83) X hr dX0_powerAt_83 h
def wp_X0_powerAt_48 (K : Int32 → HF → Prop) (b : Nat) (F : HF) (v2 : Int32) (v3 : Int32) : Prop := wp_X0_powerAt_53 K b  F v2 v3 (nI 1)
set_option maxRecDepth 100000 in
set_option maxHeartbeats 4000000 in
theorem k_X0_powerAt_48 {p : Program} {l : Launch} {e : Env} {s : State} {m : MethodId} {args : Array Value} {below : List Frame} {meth : Method} {c : Code} {D : va_G} {dA : Nat → ClassId} {ad : Nat → Nat} {R : List Nat} {A : Nat → Prop} {K : Int32 → HF → Prop} {b : Nat} (X : Cx p s m args meth c cX0_powerAt 5 RX0 D dA) (hA : ∀ q, s.heap.size ≤ q → A q) (hr : meth.sig.returnType = some .int) (hT : Br R b) : ∀ (F : HF) (v2 : Int32) (v3 : Int32), wp_X0_powerAt_48 K b F v2 v3 → J p l e rm_X0_powerAt s m args below meth c 5 D dA ad R A (QI D dA ad R A below args s K) F 48 [(0, .ref (ad b)), (2, .int v2), (3, .int v3)] [] := by
  intro F v2 v3 h
  unfold wp_X0_powerAt_48 at h
  refine r_iconst (pc := 48) (v := (nI 1)) X dX0_powerAt_48 (by decide) ?_
  refine r_goto (pc := 49) (tgt := 53) X dX0_powerAt_49 (by decide) ?_
  exact k_X0_powerAt_53 X hA hr hT  _ _ _ _ h
def wp_X0_powerAt_25 (K : Int32 → HF → Prop) (b : Nat) (F : HF) (v1 : Int32) (v2 : Int32) (s0 : Int32) : Prop := wp_X0_kindAt (fun x2 F202 => ((x2 = (nI 4)) → (wp_X0_powerAt_48 K b  F202 v2 s0)) ∧ ((¬ x2 = (nI 4)) → (wp_X0_kindAt (fun x7 F407 => ((¬ x7 = (nI 4)) → (wp_X0_powerAt_53 K b  F407 v2 s0 (nI 0))) ∧ ((x7 = (nI 4)) → (wp_X0_powerAt_48 K b  F407 v2 s0))) F202 b (v1 + (nI 1))))) F b (v1 - (nI 1))
set_option maxRecDepth 100000 in
set_option maxHeartbeats 4000000 in
theorem k_X0_powerAt_25 {p : Program} {l : Launch} {e : Env} {s : State} {m : MethodId} {args : Array Value} {below : List Frame} {meth : Method} {c : Code} {D : va_G} {dA : Nat → ClassId} {ad : Nat → Nat} {R : List Nat} {A : Nat → Prop} {K : Int32 → HF → Prop} {b : Nat} (X : Cx p s m args meth c cX0_powerAt 5 RX0 D dA) (hA : ∀ q, s.heap.size ≤ q → A q) (hr : meth.sig.returnType = some .int) (hT : Br R b) : ∀ (F : HF) (v1 : Int32) (v2 : Int32) (s0 : Int32), wp_X0_powerAt_25 K b F v1 v2 s0 → J p l e rm_X0_powerAt s m args below meth c 5 D dA ad R A (QI D dA ad R A below args s K) F 25 [(0, .ref (ad b)), (1, .int v1), (2, .int v2)] [.int s0] := by
  intro F v1 v2 s0 h
  unfold wp_X0_powerAt_25 at h
  refine r_istore_n (pc := 25) X [(3, .int s0), (0, .ref (ad b)), (1, .int v1), (2, .int v2)] dX0_powerAt_25 rfl (by decide) rfl ?_
  refine r_aload_n (pc := 26) X 1 dX0_powerAt_26 rfl rfl ?_
  refine r_iload_n (pc := 27) X 2 dX0_powerAt_27 rfl rfl ?_
  refine r_iconst (pc := 28) (v := (nI 1)) X dX0_powerAt_28 (by decide) ?_
  refine r_isub (pc := 29) X dX0_powerAt_29 ?_
  refine r_callIV (pc := 30) (As := [.int (v1 - (nI 1))]) (st := []) X hA (c_X0_kindAt hT h) g_X0_74 cl_X0 hT.1 hd_X0_kindAt rfl rfl rfl ⟨Nat.le_of_ble_eq_true rfl, Nat.le_of_ble_eq_true rfl⟩ rfl (Nat.le_of_ble_eq_true rfl) dX0_powerAt_30 (fun x2 F202 h => ?_)
  refine r_iconst (pc := 33) (v := (nI 4)) X dX0_powerAt_33 (by decide) ?_
  refine r_icmp_eq (pc := 34) (tgt := 48) X dX0_powerAt_34 (by decide) (fun hc => ?_) (fun hc => ?_)
  · replace h := h.1 hc
    refine r_sub [1, 3, 0] rfl ?_
    exact k_X0_powerAt_48 X hA hr hT  _ _ _ h
  · replace h := h.2 hc
    refine r_aload_n (pc := 37) X 1 dX0_powerAt_37 rfl rfl ?_
    refine r_iload_n (pc := 38) X 2 dX0_powerAt_38 rfl rfl ?_
    refine r_iconst (pc := 39) (v := (nI 1)) X dX0_powerAt_39 (by decide) ?_
    refine r_iadd (pc := 40) X dX0_powerAt_40 ?_
    refine r_callIV (pc := 41) (As := [.int (v1 + (nI 1))]) (st := []) X hA (c_X0_kindAt hT h) g_X0_74 cl_X0 hT.1 hd_X0_kindAt rfl rfl rfl ⟨Nat.le_of_ble_eq_true rfl, Nat.le_of_ble_eq_true rfl⟩ rfl (Nat.le_of_ble_eq_true rfl) dX0_powerAt_41 (fun x7 F407 h => ?_)
    refine r_iconst (pc := 44) (v := (nI 4)) X dX0_powerAt_44 (by decide) ?_
    refine r_icmp_ne (pc := 45) (tgt := 52) X dX0_powerAt_45 (by decide) (fun hc => ?_) (fun hc => ?_)
    · replace h := h.1 hc
      refine r_iconst (pc := 52) (v := (nI 0)) X dX0_powerAt_52 (by decide) ?_
      refine r_sub [1, 3, 0] rfl ?_
      exact k_X0_powerAt_53 X hA hr hT  _ _ _ _ h
    · replace h := h.2 hc
      refine r_sub [1, 3, 0] rfl ?_
      exact k_X0_powerAt_48 X hA hr hT  _ _ _ h
def wp_X0_powerAt_24 (K : Int32 → HF → Prop) (b : Nat) (F : HF) (v1 : Int32) (v2 : Int32) : Prop := wp_X0_powerAt_25 K b  F v1 v2 (nI 0)
set_option maxRecDepth 100000 in
set_option maxHeartbeats 4000000 in
theorem k_X0_powerAt_24 {p : Program} {l : Launch} {e : Env} {s : State} {m : MethodId} {args : Array Value} {below : List Frame} {meth : Method} {c : Code} {D : va_G} {dA : Nat → ClassId} {ad : Nat → Nat} {R : List Nat} {A : Nat → Prop} {K : Int32 → HF → Prop} {b : Nat} (X : Cx p s m args meth c cX0_powerAt 5 RX0 D dA) (hA : ∀ q, s.heap.size ≤ q → A q) (hr : meth.sig.returnType = some .int) (hT : Br R b) : ∀ (F : HF) (v1 : Int32) (v2 : Int32), wp_X0_powerAt_24 K b F v1 v2 → J p l e rm_X0_powerAt s m args below meth c 5 D dA ad R A (QI D dA ad R A below args s K) F 24 [(0, .ref (ad b)), (1, .int v1), (2, .int v2)] [] := by
  intro F v1 v2 h
  unfold wp_X0_powerAt_24 at h
  refine r_iconst (pc := 24) (v := (nI 0)) X dX0_powerAt_24 (by decide) ?_
  exact k_X0_powerAt_25 X hA hr hT  _ _ _ _ h
def wp_X0_powerAt (K : Int32 → HF → Prop) (F : HF) (b : Nat) (a1 : Int32) : Prop := wp_X0_birdAt (fun x1 F1 => ((a1 ≤ (nI 0)) → (wp_X0_powerAt_24 K b  F1 a1 x1)) ∧ ((¬ a1 ≤ (nI 0)) → (((((F1 b 4) - (nI 1)) ≤ a1) → (wp_X0_powerAt_24 K b  F1 a1 x1)) ∧ ((¬ ((F1 b 4) - (nI 1)) ≤ a1) → (wp_X0_powerAt_25 K b  F1 a1 x1 (nI 1)))))) F b a1
set_option maxRecDepth 100000 in
set_option maxHeartbeats 4000000 in
theorem c_X0_powerAt {l : Launch} {D : va_G} {dA : Nat → ClassId} {ad : Nat → Nat} {R : List Nat} {F : HF} {b : Nat} {a1 : Int32} {K : Int32 → HF → Prop} (hT : Br R b) (h : wp_X0_powerAt K F b a1) : MI l yX0_powerAt cX0_powerAt 5 .int rm_X0_powerAt D dA ad R F [.ref (ad b), .int a1] K := by
  refine MI.of (own := RX0) (by decide) rfl (Nat.le_of_ble_eq_true rfl) ?_
  intro p e s m args below meth c A hA X hr
  unfold wp_X0_powerAt at h
  show J p l e rm_X0_powerAt s m args below meth c 5 D dA ad R A (QI D dA ad R A below args s K) F 0 [(0, .ref (ad b)), (1, .int a1)] []
  refine r_aload_n (pc := 0) X 0 dX0_powerAt_0 rfl rfl ?_
  refine r_iload_n (pc := 1) X 1 dX0_powerAt_1 rfl rfl ?_
  refine r_callIV (pc := 2) (As := [.int a1]) (st := []) X hA (c_X0_birdAt hT h) g_X0_77 cl_X0 hT.1 hd_X0_birdAt rfl rfl rfl ⟨Nat.le_of_ble_eq_true rfl, Nat.le_of_ble_eq_true rfl⟩ rfl (Nat.le_of_ble_eq_true rfl) dX0_powerAt_2 (fun x1 F1 h => ?_)
  refine r_istore_n (pc := 5) X [(2, .int x1), (0, .ref (ad b)), (1, .int a1)] dX0_powerAt_5 rfl (by decide) rfl ?_
  refine r_iload_n (pc := 6) X 2 dX0_powerAt_6 rfl rfl ?_
  refine r_if_le (pc := 7) (tgt := 24) X dX0_powerAt_7 (by decide) (fun hc => ?_) (fun hc => ?_)
  · replace h := h.1 hc
    refine r_sub [1, 2, 0] rfl ?_
    exact k_X0_powerAt_24 X hA hr hT  _ _ _ h
  · replace h := h.2 hc
    refine r_iload_n (pc := 10) X 2 dX0_powerAt_10 rfl rfl ?_
    refine r_aload_n (pc := 11) X 1 dX0_powerAt_11 rfl rfl ?_
    refine fg_X0_21 (pc := 12) X hT.1 dX0_powerAt_12 ?_
    refine r_iconst (pc := 15) (v := (nI 1)) X dX0_powerAt_15 (by decide) ?_
    refine r_isub (pc := 16) X dX0_powerAt_16 ?_
    refine r_icmp_ge (pc := 17) (tgt := 24) X dX0_powerAt_17 (by decide) (fun hc => ?_) (fun hc => ?_)
    · replace h := h.1 hc
      refine r_sub [1, 2, 0] rfl ?_
      exact k_X0_powerAt_24 X hA hr hT  _ _ _ h
    · replace h := h.2 hc
      refine r_iconst (pc := 20) (v := (nI 1)) X dX0_powerAt_20 (by decide) ?_
      refine r_goto (pc := 21) (tgt := 25) X dX0_powerAt_21 (by decide) ?_
      refine r_sub [1, 2, 0] rfl ?_
      exact k_X0_powerAt_25 X hA hr hT  _ _ _ _ h
theorem dX0_unload_0 : decode cX0_unload 0 = .ok (.iconst 0, 1) := by decide +kernel
theorem dX0_unload_1 : decode cX0_unload 1 = .ok (.istore_n 1, 1) := by decide +kernel
theorem dX0_unload_2 : decode cX0_unload 2 = .ok (.iload_n 1, 1) := by decide +kernel
theorem dX0_unload_3 : decode cX0_unload 3 = .ok (.bipush 8, 2) := by decide +kernel
theorem dX0_unload_5 : decode cX0_unload 5 = .ok (.if_icmp .ge 16, 3) := by decide +kernel
theorem dX0_unload_8 : decode cX0_unload 8 = .ok (.aload_n 0, 1) := by decide +kernel
theorem dX0_unload_9 : decode cX0_unload 9 = .ok (.getfield 18, 3) := by decide +kernel
theorem dX0_unload_12 : decode cX0_unload 12 = .ok (.iload_n 1, 1) := by decide +kernel
theorem dX0_unload_13 : decode cX0_unload 13 = .ok (.iconst 0, 1) := by decide +kernel
theorem dX0_unload_14 : decode cX0_unload 14 = .ok (.iastore, 1) := by decide +kernel
theorem dX0_unload_15 : decode cX0_unload 15 = .ok (.iinc 1 1, 3) := by decide +kernel
theorem dX0_unload_18 : decode cX0_unload 18 = .ok (.goto (-16), 3) := by decide +kernel
theorem dX0_unload_21 : decode cX0_unload 21 = .ok (.return_, 1) := by decide +kernel
theorem hd_X0_unload : yX0_unload.cls = RX0 ∧ yX0_unload.cls ≠ "java/lang/invoke/MethodHandle" ∧ yX0_unload.cls ≠ "java/lang/invoke/VarHandle" ∧ (parseMethodDescriptor yX0_unload.desc).map (fun d => d.parameters.length) = some 0 := by decide +kernel
abbrev rm_X0_unload : Room := { frames := 0, cells := 0, slots := 0, locals := 0 }
def wp_X0_unload_2 (K : HF → Prop) (b : Nat) : Nat → HF → Int32 → Prop
  | 0 => fun _ _ => False
  | n2_ + 1 => fun F v1 => (((nI 8) ≤ v1) → (K F)) ∧ ((¬ (nI 8) ≤ v1) → ((vp_in v1 8) ∧ (∀ F101 : HF, F101 = hup F (b + 3) v1.toNatClampNeg (nI 0) → (wp_X0_unload_2 K b  n2_ F101 (v1 + (nI 1))))))
set_option maxRecDepth 100000 in
set_option maxHeartbeats 4000000 in
theorem k_X0_unload_2 {p : Program} {l : Launch} {e : Env} {s : State} {m : MethodId} {args : Array Value} {below : List Frame} {meth : Method} {c : Code} {D : va_G} {dA : Nat → ClassId} {ad : Nat → Nat} {R : List Nat} {A : Nat → Prop} {K : HF → Prop} {b : Nat} (X : Cx p s m args meth c cX0_unload 2 RX0 D dA) (hA : ∀ q, s.heap.size ≤ q → A q) (hr : meth.sig.returnType = none) (hT : Br R b) : ∀ (n_ : Nat) (F : HF) (v1 : Int32), wp_X0_unload_2 K b n_ F v1 → J p l e rm_X0_unload s m args below meth c 2 D dA ad R A (QV D dA ad R A below args s K) F 2 [(0, .ref (ad b)), (1, .int v1)] [] := by
  intro n_
  induction n_ with
  | zero => intro F v1 h; exact h.elim
  | succ n_ ih =>
    intro F v1 h
    unfold wp_X0_unload_2 at h
    refine r_iload_n (pc := 2) X 1 dX0_unload_2 rfl rfl ?_
    refine r_bipush (pc := 3) (v := (nI 8)) X dX0_unload_3 (by decide) ?_
    refine r_icmp_ge (pc := 5) (tgt := 21) X dX0_unload_5 (by decide) (fun hc => ?_) (fun hc => ?_)
    · replace h := h.1 hc
      exact r_vret (pc := 21) X hr dX0_unload_21 h
    · replace h := h.2 hc
      refine r_aload_n (pc := 8) X 0 dX0_unload_8 rfl rfl ?_
      refine fg_X0_18 (pc := 9) X hT.1 dX0_unload_9 ?_
      refine r_iload_n (pc := 12) X 1 dX0_unload_12 rfl rfl ?_
      refine r_iconst (pc := 13) (v := (nI 0)) X dX0_unload_13 (by decide) ?_
      refine r_iast (pc := 14) X hT.2.2.2.1 h.1 dX0_unload_14 (fun F101 e1 => ?_)
      replace h := h.2 F101 e1
      refine r_iinc (pc := 15) (v := (v1 + (nI 1))) X 1 [(1, .int (v1 + (nI 1))), (0, .ref (ad b))] dX0_unload_15 rfl rfl (by decide) rfl ?_
      refine r_goto (pc := 18) (tgt := 2) X dX0_unload_18 (by decide) ?_
      refine r_sub [1, 0] rfl ?_
      exact ih _ _ h
def wp_X0_unload (K : HF → Prop) (F : HF) (b : Nat) : Prop := ∃ m_, wp_X0_unload_2 K b  m_ F (nI 0)
set_option maxRecDepth 100000 in
set_option maxHeartbeats 4000000 in
theorem c_X0_unload {l : Launch} {D : va_G} {dA : Nat → ClassId} {ad : Nat → Nat} {R : List Nat} {F : HF} {b : Nat} {K : HF → Prop} (hT : Br R b) (h : wp_X0_unload K F b) : MV l yX0_unload cX0_unload 2 rm_X0_unload D dA ad R F [.ref (ad b)] K := by
  refine MV.of (own := RX0) (by decide) rfl (Nat.le_of_ble_eq_true rfl) ?_
  intro p e s m args below meth c A hA X hr
  unfold wp_X0_unload at h
  show J p l e rm_X0_unload s m args below meth c 2 D dA ad R A (QV D dA ad R A below args s K) F 0 [(0, .ref (ad b))] []
  refine r_iconst (pc := 0) (v := (nI 0)) X dX0_unload_0 (by decide) ?_
  refine r_istore_n (pc := 1) X [(1, .int (nI 0)), (0, .ref (ad b))] dX0_unload_1 rfl (by decide) rfl ?_
  refine r_sub [1, 0] rfl ?_
  obtain ⟨n1, h⟩ := h
  exact k_X0_unload_2 X hA hr hT  n1 _ _ h
theorem dX0_partOf_0 : decode cX0_partOf 0 = .ok (.iload_n 1, 1) := by decide +kernel
theorem dX0_partOf_1 : decode cX0_partOf 1 = .ok (.tableswitch 37 0 2 #[27, 29, 33], 27) := by decide +kernel
theorem dX0_partOf_28 : decode cX0_partOf 28 = .ok (.iload_n 0, 1) := by decide +kernel
theorem dX0_partOf_29 : decode cX0_partOf 29 = .ok (.ireturn, 1) := by decide +kernel
theorem dX0_partOf_30 : decode cX0_partOf 30 = .ok (.iload_n 0, 1) := by decide +kernel
theorem dX0_partOf_31 : decode cX0_partOf 31 = .ok (.iconst 2, 1) := by decide +kernel
theorem dX0_partOf_32 : decode cX0_partOf 32 = .ok (.idiv, 1) := by decide +kernel
theorem dX0_partOf_33 : decode cX0_partOf 33 = .ok (.ireturn, 1) := by decide +kernel
theorem dX0_partOf_34 : decode cX0_partOf 34 = .ok (.iload_n 0, 1) := by decide +kernel
theorem dX0_partOf_35 : decode cX0_partOf 35 = .ok (.iconst 4, 1) := by decide +kernel
theorem dX0_partOf_36 : decode cX0_partOf 36 = .ok (.idiv, 1) := by decide +kernel
theorem dX0_partOf_37 : decode cX0_partOf 37 = .ok (.ireturn, 1) := by decide +kernel
theorem dX0_partOf_38 : decode cX0_partOf 38 = .ok (.iconst 0, 1) := by decide +kernel
theorem dX0_partOf_39 : decode cX0_partOf 39 = .ok (.ireturn, 1) := by decide +kernel
theorem hd_X0_partOf : yX0_partOf.cls = RX0 ∧ yX0_partOf.cls ≠ "java/lang/invoke/MethodHandle" ∧ yX0_partOf.cls ≠ "java/lang/invoke/VarHandle" ∧ (parseMethodDescriptor yX0_partOf.desc).map (fun d => d.parameters.length) = some 2 := by decide +kernel
abbrev rm_X0_partOf : Room := { frames := 0, cells := 0, slots := 0, locals := 0 }
def wp_X0_partOf (K : Int32 → HF → Prop) (F : HF) (a1 : Int32) (a2 : Int32) : Prop := (((a2 = (nI 0)) → (K a1 F))) ∧ (((a2 = (nI 1)) → (K (a1 / (nI 2)) F))) ∧ (((a2 = (nI 2)) → (K (a1 / (nI 4)) F))) ∧ ((¬ a2 = (nI 0)) → (¬ a2 = (nI 1)) → (¬ a2 = (nI 2)) → (K (nI 0) F))
set_option maxRecDepth 100000 in
set_option maxHeartbeats 4000000 in
theorem c_X0_partOf {l : Launch} {D : va_G} {dA : Nat → ClassId} {ad : Nat → Nat} {R : List Nat} {F : HF} {a1 : Int32} {a2 : Int32} {K : Int32 → HF → Prop} (h : wp_X0_partOf K F a1 a2) : MI l yX0_partOf cX0_partOf 2 .int rm_X0_partOf D dA ad R F [.int a1, .int a2] K := by
  refine MI.of (own := RX0) (by decide) rfl (Nat.le_of_ble_eq_true rfl) ?_
  intro p e s m args below meth c A hA X hr
  unfold wp_X0_partOf at h
  show J p l e rm_X0_partOf s m args below meth c 2 D dA ad R A (QI D dA ad R A below args s K) F 0 [(0, .int a1), (1, .int a2)] []
  refine r_iload_n (pc := 0) X 1 dX0_partOf_0 rfl rfl ?_
  by_cases hc0 : a2 = (nI 0)
  · replace h := h.1 hc0
    refine r_tableIn (pc := 1) (off := 27) (tgt := 28) X dX0_partOf_1 (by rw [hc0]; decide) (by rw [hc0]; decide) (by rw [hc0]; decide) (by decide) ?_
    refine r_iload_n (pc := 28) X 0 dX0_partOf_28 rfl rfl ?_
    exact r_iret (pc := 29) X hr dX0_partOf_29 h
  · replace h := h.2
    by_cases hc1 : a2 = (nI 1)
    · replace h := h.1 hc1
      refine r_tableIn (pc := 1) (off := 29) (tgt := 30) X dX0_partOf_1 (by rw [hc1]; decide) (by rw [hc1]; decide) (by rw [hc1]; decide) (by decide) ?_
      refine r_iload_n (pc := 30) X 0 dX0_partOf_30 rfl rfl ?_
      refine r_iconst (pc := 31) (v := (nI 2)) X dX0_partOf_31 (by decide) ?_
      refine r_idiv (pc := 32) X dX0_partOf_32 (by decide) ?_
      exact r_iret (pc := 33) X hr dX0_partOf_33 h
    · replace h := h.2
      by_cases hc2 : a2 = (nI 2)
      · replace h := h.1 hc2
        refine r_tableIn (pc := 1) (off := 33) (tgt := 34) X dX0_partOf_1 (by rw [hc2]; decide) (by rw [hc2]; decide) (by rw [hc2]; decide) (by decide) ?_
        refine r_iload_n (pc := 34) X 0 dX0_partOf_34 rfl rfl ?_
        refine r_iconst (pc := 35) (v := (nI 4)) X dX0_partOf_35 (by decide) ?_
        refine r_idiv (pc := 36) X dX0_partOf_36 (by decide) ?_
        exact r_iret (pc := 37) X hr dX0_partOf_37 h
      · replace h := h.2
        replace h := h hc0 hc1 hc2
        refine r_tableOut (pc := 1) (tgt := 38) X dX0_partOf_1 (sw_out (x := a2) 2 (by decide) (fun k hk => by rcases (show k = 0 ∨ k = 1 ∨ k = 2 by omega) with rfl | rfl | rfl <;> first | exact hc0 | exact hc1 | exact hc2)) (by decide) ?_
        refine r_iconst (pc := 38) (v := (nI 0)) X dX0_partOf_38 (by decide) ?_
        exact r_iret (pc := 39) X hr dX0_partOf_39 h
theorem dX0_whoSpans_0 : decode cX0_whoSpans 0 = .ok (.iconst 0, 1) := by decide +kernel
theorem dX0_whoSpans_1 : decode cX0_whoSpans 1 = .ok (.istore_n 2, 1) := by decide +kernel
theorem dX0_whoSpans_2 : decode cX0_whoSpans 2 = .ok (.iconst 0, 1) := by decide +kernel
theorem dX0_whoSpans_3 : decode cX0_whoSpans 3 = .ok (.istore_n 3, 1) := by decide +kernel
theorem dX0_whoSpans_4 : decode cX0_whoSpans 4 = .ok (.iload_n 3, 1) := by decide +kernel
theorem dX0_whoSpans_5 : decode cX0_whoSpans 5 = .ok (.aload_n 0, 1) := by decide +kernel
theorem dX0_whoSpans_6 : decode cX0_whoSpans 6 = .ok (.getfield 21, 3) := by decide +kernel
theorem dX0_whoSpans_9 : decode cX0_whoSpans 9 = .ok (.if_icmp .ge 32, 3) := by decide +kernel
theorem dX0_whoSpans_12 : decode cX0_whoSpans 12 = .ok (.iload_n 2, 1) := by decide +kernel
theorem dX0_whoSpans_13 : decode cX0_whoSpans 13 = .ok (.aload_n 0, 1) := by decide +kernel
theorem dX0_whoSpans_14 : decode cX0_whoSpans 14 = .ok (.getfield 25, 3) := by decide +kernel
theorem dX0_whoSpans_17 : decode cX0_whoSpans 17 = .ok (.aload_n 0, 1) := by decide +kernel
theorem dX0_whoSpans_18 : decode cX0_whoSpans 18 = .ok (.getfield 9, 3) := by decide +kernel
theorem dX0_whoSpans_21 : decode cX0_whoSpans 21 = .ok (.iload_n 3, 1) := by decide +kernel
theorem dX0_whoSpans_22 : decode cX0_whoSpans 22 = .ok (.iaload, 1) := by decide +kernel
theorem dX0_whoSpans_23 : decode cX0_whoSpans 23 = .ok (.invokevirtual 48, 3) := by decide +kernel
theorem dX0_whoSpans_26 : decode cX0_whoSpans 26 = .ok (.iadd, 1) := by decide +kernel
theorem dX0_whoSpans_27 : decode cX0_whoSpans 27 = .ok (.istore_n 2, 1) := by decide +kernel
theorem dX0_whoSpans_28 : decode cX0_whoSpans 28 = .ok (.iload_n 1, 1) := by decide +kernel
theorem dX0_whoSpans_29 : decode cX0_whoSpans 29 = .ok (.iload_n 2, 1) := by decide +kernel
theorem dX0_whoSpans_30 : decode cX0_whoSpans 30 = .ok (.if_icmp .ge 5, 3) := by decide +kernel
theorem dX0_whoSpans_33 : decode cX0_whoSpans 33 = .ok (.iload_n 3, 1) := by decide +kernel
theorem dX0_whoSpans_34 : decode cX0_whoSpans 34 = .ok (.ireturn, 1) := by decide +kernel
theorem dX0_whoSpans_35 : decode cX0_whoSpans 35 = .ok (.iinc 3 1, 3) := by decide +kernel
theorem dX0_whoSpans_38 : decode cX0_whoSpans 38 = .ok (.goto (-34), 3) := by decide +kernel
theorem dX0_whoSpans_41 : decode cX0_whoSpans 41 = .ok (.bipush (-4), 2) := by decide +kernel
theorem dX0_whoSpans_43 : decode cX0_whoSpans 43 = .ok (.ireturn, 1) := by decide +kernel
theorem hd_X0_whoSpans : yX0_whoSpans.cls = RX0 ∧ yX0_whoSpans.cls ≠ "java/lang/invoke/MethodHandle" ∧ yX0_whoSpans.cls ≠ "java/lang/invoke/VarHandle" ∧ (parseMethodDescriptor yX0_whoSpans.desc).map (fun d => d.parameters.length) = some 1 := by decide +kernel
abbrev rm_X0_whoSpans : Room := { frames := 1, cells := 0, slots := 0, locals := 21 }
def wp_X0_whoSpans_4 (K : Int32 → HF → Prop) (b : Nat) : Nat → HF → Int32 → Int32 → Int32 → Prop
  | 0 => fun _ _ _ _ => False
  | n4_ + 1 => fun F v1 v2 v3 => (((F b 4) ≤ v3) → (K (-4 : Int32) F)) ∧ ((¬ (F b 4) ≤ v3) → ((vp_in v3 8) ∧ (wp_X1_lengthOf (fun x1 F101 => (((v2 + x1) ≤ v1) → (wp_X0_whoSpans_4 K b  n4_ F101 v1 (v2 + x1) (v3 + (nI 1)))) ∧ ((¬ (v2 + x1) ≤ v1) → (K v3 F101))) F 4 (F (b + 1) v3.toNatClampNeg))))
set_option maxRecDepth 100000 in
set_option maxHeartbeats 4000000 in
theorem k_X0_whoSpans_4 {p : Program} {l : Launch} {e : Env} {s : State} {m : MethodId} {args : Array Value} {below : List Frame} {meth : Method} {c : Code} {D : va_G} {dA : Nat → ClassId} {ad : Nat → Nat} {R : List Nat} {A : Nat → Prop} {K : Int32 → HF → Prop} {b : Nat} (X : Cx p s m args meth c cX0_whoSpans 4 RX0 D dA) (hA : ∀ q, s.heap.size ≤ q → A q) (hr : meth.sig.returnType = some .int) (hT : Br R b) : ∀ (n_ : Nat) (F : HF) (v1 : Int32) (v2 : Int32) (v3 : Int32), wp_X0_whoSpans_4 K b n_ F v1 v2 v3 → J p l e rm_X0_whoSpans s m args below meth c 4 D dA ad R A (QI D dA ad R A below args s K) F 4 [(0, .ref (ad b)), (1, .int v1), (2, .int v2), (3, .int v3)] [] := by
  intro n_
  induction n_ with
  | zero => intro F v1 v2 v3 h; exact h.elim
  | succ n_ ih =>
    intro F v1 v2 v3 h
    unfold wp_X0_whoSpans_4 at h
    refine r_iload_n (pc := 4) X 3 dX0_whoSpans_4 rfl rfl ?_
    refine r_aload_n (pc := 5) X 0 dX0_whoSpans_5 rfl rfl ?_
    refine fg_X0_21 (pc := 6) X hT.1 dX0_whoSpans_6 ?_
    refine r_icmp_ge (pc := 9) (tgt := 41) X dX0_whoSpans_9 (by decide) (fun hc => ?_) (fun hc => ?_)
    · replace h := h.1 hc
      refine r_bipush (pc := 41) (v := (-4 : Int32)) X dX0_whoSpans_41 (by decide) ?_
      exact r_iret (pc := 43) X hr dX0_whoSpans_43 h
    · replace h := h.2 hc
      refine r_iload_n (pc := 12) X 2 dX0_whoSpans_12 rfl rfl ?_
      refine r_aload_n (pc := 13) X 0 dX0_whoSpans_13 rfl rfl ?_
      refine fg_X0_25 (pc := 14) X hT.1 dX0_whoSpans_14 ?_
      refine r_aload_n (pc := 17) X 0 dX0_whoSpans_17 rfl rfl ?_
      refine fg_X0_9 (pc := 18) X hT.1 dX0_whoSpans_18 ?_
      refine r_iload_n (pc := 21) X 3 dX0_whoSpans_21 rfl rfl ?_
      refine r_iald (pc := 22) X hT.2.1 h.1 dX0_whoSpans_22 ?_
      replace h := h.2
      refine r_callIV (pc := 23) (As := [.int (F (b + 1) v3.toNatClampNeg)]) (st := [.int v2]) X hA (c_X1_lengthOf hT.2.2.2.2 h) g_X0_48 cl_X1 hT.2.2.2.2.1 hd_X1_lengthOf rfl rfl rfl ⟨Nat.le_of_ble_eq_true rfl, Nat.le_of_ble_eq_true rfl⟩ rfl (Nat.le_of_ble_eq_true rfl) dX0_whoSpans_23 (fun x1 F101 h => ?_)
      refine r_iadd (pc := 26) X dX0_whoSpans_26 ?_
      refine r_istore_n (pc := 27) X [(2, .int (v2 + x1)), (0, .ref (ad b)), (1, .int v1), (3, .int v3)] dX0_whoSpans_27 rfl (by decide) rfl ?_
      refine r_iload_n (pc := 28) X 2 dX0_whoSpans_28 rfl rfl ?_
      refine r_iload_n (pc := 29) X 0 dX0_whoSpans_29 rfl rfl ?_
      refine r_icmp_ge (pc := 30) (tgt := 35) X dX0_whoSpans_30 (by decide) (fun hc => ?_) (fun hc => ?_)
      · replace h := h.1 hc
        refine r_iinc (pc := 35) (v := (v3 + (nI 1))) X 3 [(3, .int (v3 + (nI 1))), (2, .int (v2 + x1)), (0, .ref (ad b)), (1, .int v1)] dX0_whoSpans_35 rfl rfl (by decide) rfl ?_
        refine r_goto (pc := 38) (tgt := 4) X dX0_whoSpans_38 (by decide) ?_
        refine r_sub [2, 3, 1, 0] rfl ?_
        exact ih _ _ _ _ h
      · replace h := h.2 hc
        refine r_iload_n (pc := 33) X 3 dX0_whoSpans_33 rfl rfl ?_
        exact r_iret (pc := 34) X hr dX0_whoSpans_34 h
def wp_X0_whoSpans (K : Int32 → HF → Prop) (F : HF) (b : Nat) (a1 : Int32) : Prop := ∃ m_, wp_X0_whoSpans_4 K b  m_ F a1 (nI 0) (nI 0)
set_option maxRecDepth 100000 in
set_option maxHeartbeats 4000000 in
theorem c_X0_whoSpans {l : Launch} {D : va_G} {dA : Nat → ClassId} {ad : Nat → Nat} {R : List Nat} {F : HF} {b : Nat} {a1 : Int32} {K : Int32 → HF → Prop} (hT : Br R b) (h : wp_X0_whoSpans K F b a1) : MI l yX0_whoSpans cX0_whoSpans 4 .int rm_X0_whoSpans D dA ad R F [.ref (ad b), .int a1] K := by
  refine MI.of (own := RX0) (by decide) rfl (Nat.le_of_ble_eq_true rfl) ?_
  intro p e s m args below meth c A hA X hr
  unfold wp_X0_whoSpans at h
  show J p l e rm_X0_whoSpans s m args below meth c 4 D dA ad R A (QI D dA ad R A below args s K) F 0 [(0, .ref (ad b)), (1, .int a1)] []
  refine r_iconst (pc := 0) (v := (nI 0)) X dX0_whoSpans_0 (by decide) ?_
  refine r_istore_n (pc := 1) X [(2, .int (nI 0)), (0, .ref (ad b)), (1, .int a1)] dX0_whoSpans_1 rfl (by decide) rfl ?_
  refine r_iconst (pc := 2) (v := (nI 0)) X dX0_whoSpans_2 (by decide) ?_
  refine r_istore_n (pc := 3) X [(3, .int (nI 0)), (2, .int (nI 0)), (0, .ref (ad b)), (1, .int a1)] dX0_whoSpans_3 rfl (by decide) rfl ?_
  refine r_sub [2, 3, 1, 0] rfl ?_
  obtain ⟨n1, h⟩ := h
  exact k_X0_whoSpans_4 X hA hr hT  n1 _ _ _ _ h
theorem dX0_press_0 : decode cX0_press 0 = .ok (.aload_n 0, 1) := by decide +kernel
theorem dX0_press_1 : decode cX0_press 1 = .ok (.iload_n 1, 1) := by decide +kernel
theorem dX0_press_2 : decode cX0_press 2 = .ok (.invokevirtual 90, 3) := by decide +kernel
theorem dX0_press_5 : decode cX0_press 5 = .ok (.istore_n 3, 1) := by decide +kernel
theorem dX0_press_6 : decode cX0_press 6 = .ok (.iload_n 3, 1) := by decide +kernel
theorem dX0_press_7 : decode cX0_press 7 = .ok (.bipush (-4), 2) := by decide +kernel
theorem dX0_press_9 : decode cX0_press 9 = .ok (.if_icmp .ne 4, 3) := by decide +kernel
theorem dX0_press_12 : decode cX0_press 12 = .ok (.return_, 1) := by decide +kernel
theorem dX0_press_13 : decode cX0_press 13 = .ok (.iconst 0, 1) := by decide +kernel
theorem dX0_press_14 : decode cX0_press 14 = .ok (.istore 4, 2) := by decide +kernel
theorem dX0_press_16 : decode cX0_press 16 = .ok (.iload 4, 2) := by decide +kernel
theorem dX0_press_18 : decode cX0_press 18 = .ok (.aload_n 0, 1) := by decide +kernel
theorem dX0_press_19 : decode cX0_press 19 = .ok (.getfield 21, 3) := by decide +kernel
theorem dX0_press_22 : decode cX0_press 22 = .ok (.if_icmp .ge 30, 3) := by decide +kernel
theorem dX0_press_25 : decode cX0_press 25 = .ok (.aload_n 0, 1) := by decide +kernel
theorem dX0_press_26 : decode cX0_press 26 = .ok (.getfield 18, 3) := by decide +kernel
theorem dX0_press_29 : decode cX0_press 29 = .ok (.iload 4, 2) := by decide +kernel
theorem dX0_press_31 : decode cX0_press 31 = .ok (.dup2, 1) := by decide +kernel
theorem dX0_press_32 : decode cX0_press 32 = .ok (.iaload, 1) := by decide +kernel
theorem dX0_press_33 : decode cX0_press 33 = .ok (.iload_n 2, 1) := by decide +kernel
theorem dX0_press_34 : decode cX0_press 34 = .ok (.iload 4, 2) := by decide +kernel
theorem dX0_press_36 : decode cX0_press 36 = .ok (.iload_n 3, 1) := by decide +kernel
theorem dX0_press_37 : decode cX0_press 37 = .ok (.isub, 1) := by decide +kernel
theorem dX0_press_38 : decode cX0_press 38 = .ok (.invokestatic 93, 3) := by decide +kernel
theorem dX0_press_41 : decode cX0_press 41 = .ok (.invokestatic 96, 3) := by decide +kernel
theorem dX0_press_44 : decode cX0_press 44 = .ok (.iadd, 1) := by decide +kernel
theorem dX0_press_45 : decode cX0_press 45 = .ok (.iastore, 1) := by decide +kernel
theorem dX0_press_46 : decode cX0_press 46 = .ok (.iinc 4 1, 3) := by decide +kernel
theorem dX0_press_49 : decode cX0_press 49 = .ok (.goto (-33), 3) := by decide +kernel
theorem dX0_press_52 : decode cX0_press 52 = .ok (.return_, 1) := by decide +kernel
theorem hd_X0_press : yX0_press.cls = RX0 ∧ yX0_press.cls ≠ "java/lang/invoke/MethodHandle" ∧ yX0_press.cls ≠ "java/lang/invoke/VarHandle" ∧ (parseMethodDescriptor yX0_press.desc).map (fun d => d.parameters.length) = some 2 := by decide +kernel
abbrev rm_X0_press : Room := { frames := 2, cells := 0, slots := 0, locals := 44 }
def wp_X0_press_16 (K : HF → Prop) (b : Nat) : Nat → HF → Int32 → Int32 → Int32 → Prop
  | 0 => fun _ _ _ _ => False
  | n16_ + 1 => fun F v2 v3 v4 => (((F b 4) ≤ v4) → (K F)) ∧ ((¬ (F b 4) ≤ v4) → ((vp_in v4 8) ∧ (wp_X0_partOf (fun x2 F102 => (vp_in v4 8) ∧ (∀ F103 : HF, F103 = hup F102 (b + 3) v4.toNatClampNeg ((F (b + 3) v4.toNatClampNeg) + x2) → (wp_X0_press_16 K b  n16_ F103 v2 v3 (v4 + (nI 1))))) F v2 (if (nI 0) ≤ (v4 - v3) then (v4 - v3) else (nI 0) - (v4 - v3)))))
set_option maxRecDepth 100000 in
set_option maxHeartbeats 4000000 in
theorem k_X0_press_16 {p : Program} {l : Launch} {e : Env} {s : State} {m : MethodId} {args : Array Value} {below : List Frame} {meth : Method} {c : Code} {D : va_G} {dA : Nat → ClassId} {ad : Nat → Nat} {R : List Nat} {A : Nat → Prop} {K : HF → Prop} {b : Nat} (X : Cx p s m args meth c cX0_press 5 RX0 D dA) (hA : ∀ q, s.heap.size ≤ q → A q) (hr : meth.sig.returnType = none) (hT : Br R b) : ∀ (n_ : Nat) (F : HF) (v2 : Int32) (v3 : Int32) (v4 : Int32), wp_X0_press_16 K b n_ F v2 v3 v4 → J p l e rm_X0_press s m args below meth c 5 D dA ad R A (QV D dA ad R A below args s K) F 16 [(0, .ref (ad b)), (2, .int v2), (3, .int v3), (4, .int v4)] [] := by
  intro n_
  induction n_ with
  | zero => intro F v2 v3 v4 h; exact h.elim
  | succ n_ ih =>
    intro F v2 v3 v4 h
    unfold wp_X0_press_16 at h
    refine r_iload (pc := 16) X 3 dX0_press_16 rfl ?_
    refine r_aload_n (pc := 18) X 0 dX0_press_18 rfl rfl ?_
    refine fg_X0_21 (pc := 19) X hT.1 dX0_press_19 ?_
    refine r_icmp_ge (pc := 22) (tgt := 52) X dX0_press_22 (by decide) (fun hc => ?_) (fun hc => ?_)
    · replace h := h.1 hc
      exact r_vret (pc := 52) X hr dX0_press_52 h
    · replace h := h.2 hc
      refine r_aload_n (pc := 25) X 0 dX0_press_25 rfl rfl ?_
      refine fg_X0_18 (pc := 26) X hT.1 dX0_press_26 ?_
      refine r_iload (pc := 29) X 3 dX0_press_29 rfl ?_
      refine r_dup2 (pc := 31) X dX0_press_31 rfl rfl ?_
      refine r_iald (pc := 32) X hT.2.2.2.1 h.1 dX0_press_32 ?_
      replace h := h.2
      refine r_iload_n (pc := 33) X 1 dX0_press_33 rfl rfl ?_
      refine r_iload (pc := 34) X 3 dX0_press_34 rfl ?_
      refine r_iload_n (pc := 36) X 2 dX0_press_36 rfl rfl ?_
      refine r_isub (pc := 37) X dX0_press_37 ?_
      refine r_mabs (pc := 38) X w_543 w_544 w_62 w_545 (Nat.le_of_ble_eq_true rfl) (Nat.le_of_ble_eq_true rfl) dX0_press_38 ?_
      refine r_callIS (pc := 41) (As := [.int v2, .int (if (nI 0) ≤ (v4 - v3) then (v4 - v3) else (nI 0) - (v4 - v3))]) (st := [.int (F (b + 3) v4.toNatClampNeg), .int v4, .ref (ad (b + 3))]) X hA (c_X0_partOf  h) g_X0_96 hd_X0_partOf rfl rfl rfl ⟨Nat.le_of_ble_eq_true rfl, Nat.le_of_ble_eq_true rfl⟩ rfl (Nat.le_of_ble_eq_true rfl) dX0_press_41 (fun x2 F102 h => ?_)
      refine r_iadd (pc := 44) X dX0_press_44 ?_
      refine r_iast (pc := 45) X hT.2.2.2.1 h.1 dX0_press_45 (fun F103 e1 => ?_)
      replace h := h.2 F103 e1
      refine r_iinc (pc := 46) (v := (v4 + (nI 1))) X 3 [(4, .int (v4 + (nI 1))), (0, .ref (ad b)), (2, .int v2), (3, .int v3)] dX0_press_46 rfl rfl (by decide) rfl ?_
      refine r_goto (pc := 49) (tgt := 16) X dX0_press_49 (by decide) ?_
      refine r_sub [1, 2, 3, 0] rfl ?_
      exact ih _ _ _ _ h
def wp_X0_press (K : HF → Prop) (F : HF) (b : Nat) (a1 : Int32) (a2 : Int32) : Prop := wp_X0_whoSpans (fun x1 F1 => ((¬ x1 = (-4 : Int32)) → (∃ m_, wp_X0_press_16 K b  m_ F1 a2 x1 (nI 0))) ∧ ((x1 = (-4 : Int32)) → (K F1))) F b a1
set_option maxRecDepth 100000 in
set_option maxHeartbeats 4000000 in
theorem c_X0_press {l : Launch} {D : va_G} {dA : Nat → ClassId} {ad : Nat → Nat} {R : List Nat} {F : HF} {b : Nat} {a1 : Int32} {a2 : Int32} {K : HF → Prop} (hT : Br R b) (h : wp_X0_press K F b a1 a2) : MV l yX0_press cX0_press 5 rm_X0_press D dA ad R F [.ref (ad b), .int a1, .int a2] K := by
  refine MV.of (own := RX0) (by decide) rfl (Nat.le_of_ble_eq_true rfl) ?_
  intro p e s m args below meth c A hA X hr
  unfold wp_X0_press at h
  show J p l e rm_X0_press s m args below meth c 5 D dA ad R A (QV D dA ad R A below args s K) F 0 [(0, .ref (ad b)), (1, .int a1), (2, .int a2)] []
  refine r_aload_n (pc := 0) X 0 dX0_press_0 rfl rfl ?_
  refine r_iload_n (pc := 1) X 1 dX0_press_1 rfl rfl ?_
  refine r_callIV (pc := 2) (As := [.int a1]) (st := []) X hA (c_X0_whoSpans hT h) g_X0_90 cl_X0 hT.1 hd_X0_whoSpans rfl rfl rfl ⟨Nat.le_of_ble_eq_true rfl, Nat.le_of_ble_eq_true rfl⟩ rfl (Nat.le_of_ble_eq_true rfl) dX0_press_2 (fun x1 F1 h => ?_)
  refine r_istore_n (pc := 5) X [(3, .int x1), (0, .ref (ad b)), (1, .int a1), (2, .int a2)] dX0_press_5 rfl (by decide) rfl ?_
  refine r_iload_n (pc := 6) X 0 dX0_press_6 rfl rfl ?_
  refine r_bipush (pc := 7) (v := (-4 : Int32)) X dX0_press_7 (by decide) ?_
  refine r_icmp_ne (pc := 9) (tgt := 13) X dX0_press_9 (by decide) (fun hc => ?_) (fun hc => ?_)
  · replace h := h.1 hc
    refine r_iconst (pc := 13) (v := (nI 0)) X dX0_press_13 (by decide) ?_
    refine r_istore (pc := 14) X [(4, .int (nI 0)), (3, .int x1), (0, .ref (ad b)), (1, .int a1), (2, .int a2)] dX0_press_14 (by decide) rfl ?_
    refine r_sub [2, 4, 1, 0] rfl ?_
    obtain ⟨n1, h⟩ := h
    exact k_X0_press_16 X hA hr hT  n1 _ _ _ _ h
  · replace h := h.2 hc
    exact r_vret (pc := 12) X hr dX0_press_12 h
theorem dX0_loadAlone_0 : decode cX0_loadAlone 0 = .ok (.aload_n 0, 1) := by decide +kernel
theorem dX0_loadAlone_1 : decode cX0_loadAlone 1 = .ok (.invokevirtual 99, 3) := by decide +kernel
theorem dX0_loadAlone_4 : decode cX0_loadAlone 4 = .ok (.aload_n 0, 1) := by decide +kernel
theorem dX0_loadAlone_5 : decode cX0_loadAlone 5 = .ok (.iload_n 1, 1) := by decide +kernel
theorem dX0_loadAlone_6 : decode cX0_loadAlone 6 = .ok (.iload_n 2, 1) := by decide +kernel
theorem dX0_loadAlone_7 : decode cX0_loadAlone 7 = .ok (.invokevirtual 102, 3) := by decide +kernel
theorem dX0_loadAlone_10 : decode cX0_loadAlone 10 = .ok (.return_, 1) := by decide +kernel
theorem hd_X0_loadAlone : yX0_loadAlone.cls = RX0 ∧ yX0_loadAlone.cls ≠ "java/lang/invoke/MethodHandle" ∧ yX0_loadAlone.cls ≠ "java/lang/invoke/VarHandle" ∧ (parseMethodDescriptor yX0_loadAlone.desc).map (fun d => d.parameters.length) = some 2 := by decide +kernel
abbrev rm_X0_loadAlone : Room := { frames := 3, cells := 0, slots := 0, locals := 68 }
def wp_X0_loadAlone (K : HF → Prop) (F : HF) (b : Nat) (a1 : Int32) (a2 : Int32) : Prop := wp_X0_unload (fun F1 => wp_X0_press (fun F2 => K F2) F1 b a1 a2) F b
set_option maxRecDepth 100000 in
set_option maxHeartbeats 4000000 in
theorem c_X0_loadAlone {l : Launch} {D : va_G} {dA : Nat → ClassId} {ad : Nat → Nat} {R : List Nat} {F : HF} {b : Nat} {a1 : Int32} {a2 : Int32} {K : HF → Prop} (hT : Br R b) (h : wp_X0_loadAlone K F b a1 a2) : MV l yX0_loadAlone cX0_loadAlone 3 rm_X0_loadAlone D dA ad R F [.ref (ad b), .int a1, .int a2] K := by
  refine MV.of (own := RX0) (by decide) rfl (Nat.le_of_ble_eq_true rfl) ?_
  intro p e s m args below meth c A hA X hr
  unfold wp_X0_loadAlone at h
  show J p l e rm_X0_loadAlone s m args below meth c 3 D dA ad R A (QV D dA ad R A below args s K) F 0 [(0, .ref (ad b)), (1, .int a1), (2, .int a2)] []
  refine r_aload_n (pc := 0) X 0 dX0_loadAlone_0 rfl rfl ?_
  refine r_callVV (pc := 1) (As := []) (st := []) X hA (c_X0_unload hT h) g_X0_99 cl_X0 hT.1 hd_X0_unload rfl rfl rfl ⟨Nat.le_of_ble_eq_true rfl, Nat.le_of_ble_eq_true rfl⟩ rfl (Nat.le_of_ble_eq_true rfl) dX0_loadAlone_1 (fun F1 h => ?_)
  refine r_aload_n (pc := 4) X 0 dX0_loadAlone_4 rfl rfl ?_
  refine r_iload_n (pc := 5) X 1 dX0_loadAlone_5 rfl rfl ?_
  refine r_iload_n (pc := 6) X 2 dX0_loadAlone_6 rfl rfl ?_
  refine r_callVV (pc := 7) (As := [.int a1, .int a2]) (st := []) X hA (c_X0_press hT h) g_X0_102 cl_X0 hT.1 hd_X0_press rfl rfl rfl ⟨Nat.le_of_ble_eq_true rfl, Nat.le_of_ble_eq_true rfl⟩ rfl (Nat.le_of_ble_eq_true rfl) dX0_loadAlone_7 (fun F2 h => ?_)
  exact r_vret (pc := 10) X hr dX0_loadAlone_10 h
theorem dX0_tiredBy_0 : decode cX0_tiredBy 0 = .ok (.iload_n 0, 1) := by decide +kernel
theorem dX0_tiredBy_1 : decode cX0_tiredBy 1 = .ok (.iconst 2, 1) := by decide +kernel
theorem dX0_tiredBy_2 : decode cX0_tiredBy 2 = .ok (.if_icmp .ne 12, 3) := by decide +kernel
theorem dX0_tiredBy_5 : decode cX0_tiredBy 5 = .ok (.iload_n 1, 1) := by decide +kernel
theorem dX0_tiredBy_6 : decode cX0_tiredBy 6 = .ok (.bipush 8, 2) := by decide +kernel
theorem dX0_tiredBy_8 : decode cX0_tiredBy 8 = .ok (.idiv, 1) := by decide +kernel
theorem dX0_tiredBy_9 : decode cX0_tiredBy 9 = .ok (.iconst 2, 1) := by decide +kernel
theorem dX0_tiredBy_10 : decode cX0_tiredBy 10 = .ok (.imul, 1) := by decide +kernel
theorem dX0_tiredBy_11 : decode cX0_tiredBy 11 = .ok (.goto 7, 3) := by decide +kernel
theorem dX0_tiredBy_14 : decode cX0_tiredBy 14 = .ok (.iload_n 1, 1) := by decide +kernel
theorem dX0_tiredBy_15 : decode cX0_tiredBy 15 = .ok (.bipush 8, 2) := by decide +kernel
theorem dX0_tiredBy_17 : decode cX0_tiredBy 17 = .ok (.idiv, 1) := by decide +kernel
theorem dX0_tiredBy_18 : decode cX0_tiredBy 18 = .ok (.ireturn, 1) := by decide +kernel
theorem hd_X0_tiredBy : yX0_tiredBy.cls = RX0 ∧ yX0_tiredBy.cls ≠ "java/lang/invoke/MethodHandle" ∧ yX0_tiredBy.cls ≠ "java/lang/invoke/VarHandle" ∧ (parseMethodDescriptor yX0_tiredBy.desc).map (fun d => d.parameters.length) = some 2 := by decide +kernel
abbrev rm_X0_tiredBy : Room := { frames := 0, cells := 0, slots := 0, locals := 0 }
def wp_X0_tiredBy (K : Int32 → HF → Prop) (F : HF) (a1 : Int32) (a2 : Int32) : Prop := ((¬ a1 = (nI 2)) → (K (a2 / (nI 8)) F)) ∧ ((a1 = (nI 2)) → (K ((a2 / (nI 8)) * (nI 2)) F))
set_option maxRecDepth 100000 in
set_option maxHeartbeats 4000000 in
theorem c_X0_tiredBy {l : Launch} {D : va_G} {dA : Nat → ClassId} {ad : Nat → Nat} {R : List Nat} {F : HF} {a1 : Int32} {a2 : Int32} {K : Int32 → HF → Prop} (h : wp_X0_tiredBy K F a1 a2) : MI l yX0_tiredBy cX0_tiredBy 2 .int rm_X0_tiredBy D dA ad R F [.int a1, .int a2] K := by
  refine MI.of (own := RX0) (by decide) rfl (Nat.le_of_ble_eq_true rfl) ?_
  intro p e s m args below meth c A hA X hr
  unfold wp_X0_tiredBy at h
  show J p l e rm_X0_tiredBy s m args below meth c 2 D dA ad R A (QI D dA ad R A below args s K) F 0 [(0, .int a1), (1, .int a2)] []
  refine r_iload_n (pc := 0) X 0 dX0_tiredBy_0 rfl rfl ?_
  refine r_iconst (pc := 1) (v := (nI 2)) X dX0_tiredBy_1 (by decide) ?_
  refine r_icmp_ne (pc := 2) (tgt := 14) X dX0_tiredBy_2 (by decide) (fun hc => ?_) (fun hc => ?_)
  · replace h := h.1 hc
    refine r_iload_n (pc := 14) X 1 dX0_tiredBy_14 rfl rfl ?_
    refine r_bipush (pc := 15) (v := (nI 8)) X dX0_tiredBy_15 (by decide) ?_
    refine r_idiv (pc := 17) X dX0_tiredBy_17 (by decide) ?_
    exact r_iret (pc := 18) X hr dX0_tiredBy_18 h
  · replace h := h.2 hc
    refine r_iload_n (pc := 5) X 1 dX0_tiredBy_5 rfl rfl ?_
    refine r_bipush (pc := 6) (v := (nI 8)) X dX0_tiredBy_6 (by decide) ?_
    refine r_idiv (pc := 8) X dX0_tiredBy_8 (by decide) ?_
    refine r_iconst (pc := 9) (v := (nI 2)) X dX0_tiredBy_9 (by decide) ?_
    refine r_imul (pc := 10) X dX0_tiredBy_10 ?_
    refine r_goto (pc := 11) (tgt := 18) X dX0_tiredBy_11 (by decide) ?_
    exact r_iret (pc := 18) X hr dX0_tiredBy_18 h
theorem dX0_tire_0 : decode cX0_tire 0 = .ok (.iconst 0, 1) := by decide +kernel
theorem dX0_tire_1 : decode cX0_tire 1 = .ok (.istore_n 1, 1) := by decide +kernel
theorem dX0_tire_2 : decode cX0_tire 2 = .ok (.iload_n 1, 1) := by decide +kernel
theorem dX0_tire_3 : decode cX0_tire 3 = .ok (.aload_n 0, 1) := by decide +kernel
theorem dX0_tire_4 : decode cX0_tire 4 = .ok (.getfield 21, 3) := by decide +kernel
theorem dX0_tire_7 : decode cX0_tire 7 = .ok (.if_icmp .ge 52, 3) := by decide +kernel
theorem dX0_tire_10 : decode cX0_tire 10 = .ok (.aload_n 0, 1) := by decide +kernel
theorem dX0_tire_11 : decode cX0_tire 11 = .ok (.getfield 9, 3) := by decide +kernel
theorem dX0_tire_14 : decode cX0_tire 14 = .ok (.iload_n 1, 1) := by decide +kernel
theorem dX0_tire_15 : decode cX0_tire 15 = .ok (.iaload, 1) := by decide +kernel
theorem dX0_tire_16 : decode cX0_tire 16 = .ok (.istore_n 2, 1) := by decide +kernel
theorem dX0_tire_17 : decode cX0_tire 17 = .ok (.iload_n 2, 1) := by decide +kernel
theorem dX0_tire_18 : decode cX0_tire 18 = .ok (.ifCond .lt 35, 3) := by decide +kernel
theorem dX0_tire_21 : decode cX0_tire 21 = .ok (.iload_n 2, 1) := by decide +kernel
theorem dX0_tire_22 : decode cX0_tire 22 = .ok (.bipush 8, 2) := by decide +kernel
theorem dX0_tire_24 : decode cX0_tire 24 = .ok (.if_icmp .ge 29, 3) := by decide +kernel
theorem dX0_tire_27 : decode cX0_tire 27 = .ok (.aload_n 0, 1) := by decide +kernel
theorem dX0_tire_28 : decode cX0_tire 28 = .ok (.getfield 15, 3) := by decide +kernel
theorem dX0_tire_31 : decode cX0_tire 31 = .ok (.iload_n 2, 1) := by decide +kernel
theorem dX0_tire_32 : decode cX0_tire 32 = .ok (.dup2, 1) := by decide +kernel
theorem dX0_tire_33 : decode cX0_tire 33 = .ok (.iaload, 1) := by decide +kernel
theorem dX0_tire_34 : decode cX0_tire 34 = .ok (.aload_n 0, 1) := by decide +kernel
theorem dX0_tire_35 : decode cX0_tire 35 = .ok (.getfield 25, 3) := by decide +kernel
theorem dX0_tire_38 : decode cX0_tire 38 = .ok (.iload_n 2, 1) := by decide +kernel
theorem dX0_tire_39 : decode cX0_tire 39 = .ok (.invokevirtual 42, 3) := by decide +kernel
theorem dX0_tire_42 : decode cX0_tire 42 = .ok (.aload_n 0, 1) := by decide +kernel
theorem dX0_tire_43 : decode cX0_tire 43 = .ok (.getfield 18, 3) := by decide +kernel
theorem dX0_tire_46 : decode cX0_tire 46 = .ok (.iload_n 1, 1) := by decide +kernel
theorem dX0_tire_47 : decode cX0_tire 47 = .ok (.iaload, 1) := by decide +kernel
theorem dX0_tire_48 : decode cX0_tire 48 = .ok (.invokestatic 112, 3) := by decide +kernel
theorem dX0_tire_51 : decode cX0_tire 51 = .ok (.iadd, 1) := by decide +kernel
theorem dX0_tire_52 : decode cX0_tire 52 = .ok (.iastore, 1) := by decide +kernel
theorem dX0_tire_53 : decode cX0_tire 53 = .ok (.iinc 1 1, 3) := by decide +kernel
theorem dX0_tire_56 : decode cX0_tire 56 = .ok (.goto (-54), 3) := by decide +kernel
theorem dX0_tire_59 : decode cX0_tire 59 = .ok (.return_, 1) := by decide +kernel
theorem hd_X0_tire : yX0_tire.cls = RX0 ∧ yX0_tire.cls ≠ "java/lang/invoke/MethodHandle" ∧ yX0_tire.cls ≠ "java/lang/invoke/VarHandle" ∧ (parseMethodDescriptor yX0_tire.desc).map (fun d => d.parameters.length) = some 0 := by decide +kernel
abbrev rm_X0_tire : Room := { frames := 1, cells := 0, slots := 0, locals := 21 }
def wp_X0_tire_53 (K : HF → Prop) (L2 : HF → Int32 → Prop) (b : Nat) (F : HF) (v1 : Int32) : Prop := L2 F (v1 + (nI 1))
set_option maxRecDepth 100000 in
set_option maxHeartbeats 4000000 in
theorem k_X0_tire_53 {p : Program} {l : Launch} {e : Env} {s : State} {m : MethodId} {args : Array Value} {below : List Frame} {meth : Method} {c : Code} {D : va_G} {dA : Nat → ClassId} {ad : Nat → Nat} {R : List Nat} {A : Nat → Prop} {K : HF → Prop} {L2 : HF → Int32 → Prop} {b : Nat} (X : Cx p s m args meth c cX0_tire 3 RX0 D dA) (hA : ∀ q, s.heap.size ≤ q → A q) (hr : meth.sig.returnType = none) (hT : Br R b) (hL2 : ∀ (F : HF) (v1 : Int32), L2 F v1 → J p l e rm_X0_tire s m args below meth c 3 D dA ad R A (QV D dA ad R A below args s K) F 2 [(0, .ref (ad b)), (1, .int v1)] []) : ∀ (F : HF) (v1 : Int32), wp_X0_tire_53 K L2 b F v1 → J p l e rm_X0_tire s m args below meth c 3 D dA ad R A (QV D dA ad R A below args s K) F 53 [(0, .ref (ad b)), (1, .int v1)] [] := by
  intro F v1 h
  unfold wp_X0_tire_53 at h
  refine r_iinc (pc := 53) (v := (v1 + (nI 1))) X 1 [(1, .int (v1 + (nI 1))), (0, .ref (ad b))] dX0_tire_53 rfl rfl (by decide) rfl ?_
  refine r_goto (pc := 56) (tgt := 2) X dX0_tire_56 (by decide) ?_
  refine r_sub [1, 0] rfl ?_
  exact hL2 _ _ h
def wp_X0_tire_2 (K : HF → Prop) (b : Nat) : Nat → HF → Int32 → Prop
  | 0 => fun _ _ => False
  | n2_ + 1 => fun F v1 => (((F b 4) ≤ v1) → (K F)) ∧ ((¬ (F b 4) ≤ v1) → ((vp_in v1 8) ∧ ((((F (b + 1) v1.toNatClampNeg) < (nI 0)) → (wp_X0_tire_53 K (wp_X0_tire_2 K b n2_) b  F v1)) ∧ ((¬ (F (b + 1) v1.toNatClampNeg) < (nI 0)) → ((((nI 8) ≤ (F (b + 1) v1.toNatClampNeg)) → (wp_X0_tire_53 K (wp_X0_tire_2 K b n2_) b  F v1)) ∧ ((¬ (nI 8) ≤ (F (b + 1) v1.toNatClampNeg)) → ((vp_in (F (b + 1) v1.toNatClampNeg) 8) ∧ (wp_X1_kindOf (fun x1 F201 => (vp_in v1 8) ∧ (wp_X0_tiredBy (fun x2 F202 => (vp_in (F (b + 1) v1.toNatClampNeg) 8) ∧ (∀ F203 : HF, F203 = hup F202 (b + 2) (F (b + 1) v1.toNatClampNeg).toNatClampNeg ((F (b + 2) (F (b + 1) v1.toNatClampNeg).toNatClampNeg) + x2) → (wp_X0_tire_53 K (wp_X0_tire_2 K b n2_) b  F203 v1))) F201 x1 (F201 (b + 3) v1.toNatClampNeg))) F 4 (F (b + 1) v1.toNatClampNeg)))))))))
set_option maxRecDepth 100000 in
set_option maxHeartbeats 4000000 in
theorem k_X0_tire_2 {p : Program} {l : Launch} {e : Env} {s : State} {m : MethodId} {args : Array Value} {below : List Frame} {meth : Method} {c : Code} {D : va_G} {dA : Nat → ClassId} {ad : Nat → Nat} {R : List Nat} {A : Nat → Prop} {K : HF → Prop} {b : Nat} (X : Cx p s m args meth c cX0_tire 3 RX0 D dA) (hA : ∀ q, s.heap.size ≤ q → A q) (hr : meth.sig.returnType = none) (hT : Br R b) : ∀ (n_ : Nat) (F : HF) (v1 : Int32), wp_X0_tire_2 K b n_ F v1 → J p l e rm_X0_tire s m args below meth c 3 D dA ad R A (QV D dA ad R A below args s K) F 2 [(0, .ref (ad b)), (1, .int v1)] [] := by
  intro n_
  induction n_ with
  | zero => intro F v1 h; exact h.elim
  | succ n_ ih =>
    intro F v1 h
    unfold wp_X0_tire_2 at h
    refine r_iload_n (pc := 2) X 1 dX0_tire_2 rfl rfl ?_
    refine r_aload_n (pc := 3) X 0 dX0_tire_3 rfl rfl ?_
    refine fg_X0_21 (pc := 4) X hT.1 dX0_tire_4 ?_
    refine r_icmp_ge (pc := 7) (tgt := 59) X dX0_tire_7 (by decide) (fun hc => ?_) (fun hc => ?_)
    · replace h := h.1 hc
      exact r_vret (pc := 59) X hr dX0_tire_59 h
    · replace h := h.2 hc
      refine r_aload_n (pc := 10) X 0 dX0_tire_10 rfl rfl ?_
      refine fg_X0_9 (pc := 11) X hT.1 dX0_tire_11 ?_
      refine r_iload_n (pc := 14) X 1 dX0_tire_14 rfl rfl ?_
      refine r_iald (pc := 15) X hT.2.1 h.1 dX0_tire_15 ?_
      replace h := h.2
      refine r_istore_n (pc := 16) X [(2, .int (F (b + 1) v1.toNatClampNeg)), (0, .ref (ad b)), (1, .int v1)] dX0_tire_16 rfl (by decide) rfl ?_
      refine r_iload_n (pc := 17) X 0 dX0_tire_17 rfl rfl ?_
      refine r_if_lt (pc := 18) (tgt := 53) X dX0_tire_18 (by decide) (fun hc => ?_) (fun hc => ?_)
      · replace h := h.1 hc
        refine r_sub [1, 2] rfl ?_
        exact k_X0_tire_53 X hA hr hT ih _ _ h
      · replace h := h.2 hc
        refine r_iload_n (pc := 21) X 0 dX0_tire_21 rfl rfl ?_
        refine r_bipush (pc := 22) (v := (nI 8)) X dX0_tire_22 (by decide) ?_
        refine r_icmp_ge (pc := 24) (tgt := 53) X dX0_tire_24 (by decide) (fun hc => ?_) (fun hc => ?_)
        · replace h := h.1 hc
          refine r_sub [1, 2] rfl ?_
          exact k_X0_tire_53 X hA hr hT ih _ _ h
        · replace h := h.2 hc
          refine r_aload_n (pc := 27) X 1 dX0_tire_27 rfl rfl ?_
          refine fg_X0_15 (pc := 28) X hT.1 dX0_tire_28 ?_
          refine r_iload_n (pc := 31) X 0 dX0_tire_31 rfl rfl ?_
          refine r_dup2 (pc := 32) X dX0_tire_32 rfl rfl ?_
          refine r_iald (pc := 33) X hT.2.2.1 h.1 dX0_tire_33 ?_
          replace h := h.2
          refine r_aload_n (pc := 34) X 1 dX0_tire_34 rfl rfl ?_
          refine fg_X0_25 (pc := 35) X hT.1 dX0_tire_35 ?_
          refine r_iload_n (pc := 38) X 0 dX0_tire_38 rfl rfl ?_
          refine r_callIV (pc := 39) (As := [.int (F (b + 1) v1.toNatClampNeg)]) (st := [.int (F (b + 2) (F (b + 1) v1.toNatClampNeg).toNatClampNeg), .int (F (b + 1) v1.toNatClampNeg), .ref (ad (b + 2))]) X hA (c_X1_kindOf hT.2.2.2.2 h) g_X0_42 cl_X1 hT.2.2.2.2.1 hd_X1_kindOf rfl rfl rfl ⟨Nat.le_of_ble_eq_true rfl, Nat.le_of_ble_eq_true rfl⟩ rfl (Nat.le_of_ble_eq_true rfl) dX0_tire_39 (fun x1 F201 h => ?_)
          refine r_aload_n (pc := 42) X 1 dX0_tire_42 rfl rfl ?_
          refine fg_X0_18 (pc := 43) X hT.1 dX0_tire_43 ?_
          refine r_iload_n (pc := 46) X 2 dX0_tire_46 rfl rfl ?_
          refine r_iald (pc := 47) X hT.2.2.2.1 h.1 dX0_tire_47 ?_
          replace h := h.2
          refine r_callIS (pc := 48) (As := [.int x1, .int (F201 (b + 3) v1.toNatClampNeg)]) (st := [.int (F (b + 2) (F (b + 1) v1.toNatClampNeg).toNatClampNeg), .int (F (b + 1) v1.toNatClampNeg), .ref (ad (b + 2))]) X hA (c_X0_tiredBy  h) g_X0_112 hd_X0_tiredBy rfl rfl rfl ⟨Nat.le_of_ble_eq_true rfl, Nat.le_of_ble_eq_true rfl⟩ rfl (Nat.le_of_ble_eq_true rfl) dX0_tire_48 (fun x2 F202 h => ?_)
          refine r_iadd (pc := 51) X dX0_tire_51 ?_
          refine r_iast (pc := 52) X hT.2.2.1 h.1 dX0_tire_52 (fun F203 e1 => ?_)
          replace h := h.2 F203 e1
          refine r_sub [1, 2] rfl ?_
          exact k_X0_tire_53 X hA hr hT ih _ _ h
def wp_X0_tire (K : HF → Prop) (F : HF) (b : Nat) : Prop := ∃ m_, wp_X0_tire_2 K b  m_ F (nI 0)
set_option maxRecDepth 100000 in
set_option maxHeartbeats 4000000 in
theorem c_X0_tire {l : Launch} {D : va_G} {dA : Nat → ClassId} {ad : Nat → Nat} {R : List Nat} {F : HF} {b : Nat} {K : HF → Prop} (hT : Br R b) (h : wp_X0_tire K F b) : MV l yX0_tire cX0_tire 3 rm_X0_tire D dA ad R F [.ref (ad b)] K := by
  refine MV.of (own := RX0) (by decide) rfl (Nat.le_of_ble_eq_true rfl) ?_
  intro p e s m args below meth c A hA X hr
  unfold wp_X0_tire at h
  show J p l e rm_X0_tire s m args below meth c 3 D dA ad R A (QV D dA ad R A below args s K) F 0 [(0, .ref (ad b))] []
  refine r_iconst (pc := 0) (v := (nI 0)) X dX0_tire_0 (by decide) ?_
  refine r_istore_n (pc := 1) X [(1, .int (nI 0)), (0, .ref (ad b))] dX0_tire_1 rfl (by decide) rfl ?_
  refine r_sub [1, 0] rfl ?_
  obtain ⟨n1, h⟩ := h
  exact k_X0_tire_2 X hA hr hT  n1 _ _ h
theorem dX0_settle_0 : decode cX0_settle 0 = .ok (.iconst 0, 1) := by decide +kernel
theorem dX0_settle_1 : decode cX0_settle 1 = .ok (.istore_n 1, 1) := by decide +kernel
theorem dX0_settle_2 : decode cX0_settle 2 = .ok (.iload_n 1, 1) := by decide +kernel
theorem dX0_settle_3 : decode cX0_settle 3 = .ok (.aload_n 0, 1) := by decide +kernel
theorem dX0_settle_4 : decode cX0_settle 4 = .ok (.getfield 21, 3) := by decide +kernel
theorem dX0_settle_7 : decode cX0_settle 7 = .ok (.if_icmp .ge 25, 3) := by decide +kernel
theorem dX0_settle_10 : decode cX0_settle 10 = .ok (.aload_n 0, 1) := by decide +kernel
theorem dX0_settle_11 : decode cX0_settle 11 = .ok (.getfield 18, 3) := by decide +kernel
theorem dX0_settle_14 : decode cX0_settle 14 = .ok (.iload_n 1, 1) := by decide +kernel
theorem dX0_settle_15 : decode cX0_settle 15 = .ok (.iaload, 1) := by decide +kernel
theorem dX0_settle_16 : decode cX0_settle 16 = .ok (.aload_n 0, 1) := by decide +kernel
theorem dX0_settle_17 : decode cX0_settle 17 = .ok (.iload_n 1, 1) := by decide +kernel
theorem dX0_settle_18 : decode cX0_settle 18 = .ok (.invokevirtual 106, 3) := by decide +kernel
theorem dX0_settle_21 : decode cX0_settle 21 = .ok (.if_icmp .le 5, 3) := by decide +kernel
theorem dX0_settle_24 : decode cX0_settle 24 = .ok (.iconst 0, 1) := by decide +kernel
theorem dX0_settle_25 : decode cX0_settle 25 = .ok (.ireturn, 1) := by decide +kernel
theorem dX0_settle_26 : decode cX0_settle 26 = .ok (.iinc 1 1, 3) := by decide +kernel
theorem dX0_settle_29 : decode cX0_settle 29 = .ok (.goto (-27), 3) := by decide +kernel
theorem dX0_settle_32 : decode cX0_settle 32 = .ok (.aload_n 0, 1) := by decide +kernel
theorem dX0_settle_33 : decode cX0_settle 33 = .ok (.invokevirtual 109, 3) := by decide +kernel
theorem dX0_settle_36 : decode cX0_settle 36 = .ok (.iconst 1, 1) := by decide +kernel
theorem dX0_settle_37 : decode cX0_settle 37 = .ok (.ireturn, 1) := by decide +kernel
theorem hd_X0_settle : yX0_settle.cls = RX0 ∧ yX0_settle.cls ≠ "java/lang/invoke/MethodHandle" ∧ yX0_settle.cls ≠ "java/lang/invoke/VarHandle" ∧ (parseMethodDescriptor yX0_settle.desc).map (fun d => d.parameters.length) = some 0 := by decide +kernel
abbrev rm_X0_settle : Room := { frames := 3, cells := 0, slots := 0, locals := 66 }
def wp_X0_settle_2 (K : Int32 → HF → Prop) (b : Nat) : Nat → HF → Int32 → Prop
  | 0 => fun _ _ => False
  | n2_ + 1 => fun F v1 => (((F b 4) ≤ v1) → (wp_X0_tire (fun F101 => K (nI 1) F101) F b)) ∧ ((¬ (F b 4) ≤ v1) → ((vp_in v1 8) ∧ (wp_X0_powerAt (fun x1 F102 => (((F (b + 3) v1.toNatClampNeg) ≤ x1) → (wp_X0_settle_2 K b  n2_ F102 (v1 + (nI 1)))) ∧ ((¬ (F (b + 3) v1.toNatClampNeg) ≤ x1) → (K (nI 0) F102))) F b v1)))
set_option maxRecDepth 100000 in
set_option maxHeartbeats 4000000 in
theorem k_X0_settle_2 {p : Program} {l : Launch} {e : Env} {s : State} {m : MethodId} {args : Array Value} {below : List Frame} {meth : Method} {c : Code} {D : va_G} {dA : Nat → ClassId} {ad : Nat → Nat} {R : List Nat} {A : Nat → Prop} {K : Int32 → HF → Prop} {b : Nat} (X : Cx p s m args meth c cX0_settle 2 RX0 D dA) (hA : ∀ q, s.heap.size ≤ q → A q) (hr : meth.sig.returnType = some .boolean) (hT : Br R b) : ∀ (n_ : Nat) (F : HF) (v1 : Int32), wp_X0_settle_2 K b n_ F v1 → J p l e rm_X0_settle s m args below meth c 2 D dA ad R A (QI D dA ad R A below args s K) F 2 [(0, .ref (ad b)), (1, .int v1)] [] := by
  intro n_
  induction n_ with
  | zero => intro F v1 h; exact h.elim
  | succ n_ ih =>
    intro F v1 h
    unfold wp_X0_settle_2 at h
    refine r_iload_n (pc := 2) X 1 dX0_settle_2 rfl rfl ?_
    refine r_aload_n (pc := 3) X 0 dX0_settle_3 rfl rfl ?_
    refine fg_X0_21 (pc := 4) X hT.1 dX0_settle_4 ?_
    refine r_icmp_ge (pc := 7) (tgt := 32) X dX0_settle_7 (by decide) (fun hc => ?_) (fun hc => ?_)
    · replace h := h.1 hc
      refine r_aload_n (pc := 32) X 0 dX0_settle_32 rfl rfl ?_
      refine r_callVV (pc := 33) (As := []) (st := []) X hA (c_X0_tire hT h) g_X0_109 cl_X0 hT.1 hd_X0_tire rfl rfl rfl ⟨Nat.le_of_ble_eq_true rfl, Nat.le_of_ble_eq_true rfl⟩ rfl (Nat.le_of_ble_eq_true rfl) dX0_settle_33 (fun F101 h => ?_)
      refine r_iconst (pc := 36) (v := (nI 1)) X dX0_settle_36 (by decide) ?_
      exact r_zret (pc := 37) X hr dX0_settle_37 nb1 h
    · replace h := h.2 hc
      refine r_aload_n (pc := 10) X 0 dX0_settle_10 rfl rfl ?_
      refine fg_X0_18 (pc := 11) X hT.1 dX0_settle_11 ?_
      refine r_iload_n (pc := 14) X 1 dX0_settle_14 rfl rfl ?_
      refine r_iald (pc := 15) X hT.2.2.2.1 h.1 dX0_settle_15 ?_
      replace h := h.2
      refine r_aload_n (pc := 16) X 0 dX0_settle_16 rfl rfl ?_
      refine r_iload_n (pc := 17) X 1 dX0_settle_17 rfl rfl ?_
      refine r_callIV (pc := 18) (As := [.int v1]) (st := [.int (F (b + 3) v1.toNatClampNeg)]) X hA (c_X0_powerAt hT h) g_X0_106 cl_X0 hT.1 hd_X0_powerAt rfl rfl rfl ⟨Nat.le_of_ble_eq_true rfl, Nat.le_of_ble_eq_true rfl⟩ rfl (Nat.le_of_ble_eq_true rfl) dX0_settle_18 (fun x1 F102 h => ?_)
      refine r_icmp_le (pc := 21) (tgt := 26) X dX0_settle_21 (by decide) (fun hc => ?_) (fun hc => ?_)
      · replace h := h.1 hc
        refine r_iinc (pc := 26) (v := (v1 + (nI 1))) X 1 [(1, .int (v1 + (nI 1))), (0, .ref (ad b))] dX0_settle_26 rfl rfl (by decide) rfl ?_
        refine r_goto (pc := 29) (tgt := 2) X dX0_settle_29 (by decide) ?_
        refine r_sub [1, 0] rfl ?_
        exact ih _ _ h
      · replace h := h.2 hc
        refine r_iconst (pc := 24) (v := (nI 0)) X dX0_settle_24 (by decide) ?_
        exact r_zret (pc := 25) X hr dX0_settle_25 nb0 h
def wp_X0_settle (K : Int32 → HF → Prop) (F : HF) (b : Nat) : Prop := ∃ m_, wp_X0_settle_2 K b  m_ F (nI 0)
set_option maxRecDepth 100000 in
set_option maxHeartbeats 4000000 in
theorem c_X0_settle {l : Launch} {D : va_G} {dA : Nat → ClassId} {ad : Nat → Nat} {R : List Nat} {F : HF} {b : Nat} {K : Int32 → HF → Prop} (hT : Br R b) (h : wp_X0_settle K F b) : MI l yX0_settle cX0_settle 2 .boolean rm_X0_settle D dA ad R F [.ref (ad b)] K := by
  refine MI.of (own := RX0) (by decide) rfl (Nat.le_of_ble_eq_true rfl) ?_
  intro p e s m args below meth c A hA X hr
  unfold wp_X0_settle at h
  show J p l e rm_X0_settle s m args below meth c 2 D dA ad R A (QI D dA ad R A below args s K) F 0 [(0, .ref (ad b))] []
  refine r_iconst (pc := 0) (v := (nI 0)) X dX0_settle_0 (by decide) ?_
  refine r_istore_n (pc := 1) X [(1, .int (nI 0)), (0, .ref (ad b))] dX0_settle_1 rfl (by decide) rfl ?_
  refine r_sub [1, 0] rfl ?_
  obtain ⟨n1, h⟩ := h
  exact k_X0_settle_2 X hA hr hT  n1 _ _ h
theorem dX0_walk_0 : decode cX0_walk 0 = .ok (.iload_n 1, 1) := by decide +kernel
theorem dX0_walk_1 : decode cX0_walk 1 = .ok (.istore 5, 2) := by decide +kernel
theorem dX0_walk_3 : decode cX0_walk 3 = .ok (.iload 5, 2) := by decide +kernel
theorem dX0_walk_5 : decode cX0_walk 5 = .ok (.iload_n 2, 1) := by decide +kernel
theorem dX0_walk_6 : decode cX0_walk 6 = .ok (.if_icmp .ge 41, 3) := by decide +kernel
theorem dX0_walk_9 : decode cX0_walk 9 = .ok (.aload_n 0, 1) := by decide +kernel
theorem dX0_walk_10 : decode cX0_walk 10 = .ok (.iload 5, 2) := by decide +kernel
theorem dX0_walk_12 : decode cX0_walk 12 = .ok (.iload 4, 2) := by decide +kernel
theorem dX0_walk_14 : decode cX0_walk 14 = .ok (.aload_n 0, 1) := by decide +kernel
theorem dX0_walk_15 : decode cX0_walk 15 = .ok (.getfield 25, 3) := by decide +kernel
theorem dX0_walk_18 : decode cX0_walk 18 = .ok (.iload_n 3, 1) := by decide +kernel
theorem dX0_walk_19 : decode cX0_walk 19 = .ok (.iload 5, 2) := by decide +kernel
theorem dX0_walk_21 : decode cX0_walk 21 = .ok (.iadd, 1) := by decide +kernel
theorem dX0_walk_22 : decode cX0_walk 22 = .ok (.iload_n 1, 1) := by decide +kernel
theorem dX0_walk_23 : decode cX0_walk 23 = .ok (.isub, 1) := by decide +kernel
theorem dX0_walk_24 : decode cX0_walk 24 = .ok (.invokevirtual 115, 3) := by decide +kernel
theorem dX0_walk_27 : decode cX0_walk 27 = .ok (.iadd, 1) := by decide +kernel
theorem dX0_walk_28 : decode cX0_walk 28 = .ok (.invokevirtual 118, 3) := by decide +kernel
theorem dX0_walk_31 : decode cX0_walk 31 = .ok (.aload_n 0, 1) := by decide +kernel
theorem dX0_walk_32 : decode cX0_walk 32 = .ok (.invokevirtual 121, 3) := by decide +kernel
theorem dX0_walk_35 : decode cX0_walk 35 = .ok (.ifCond .ne 6, 3) := by decide +kernel
theorem dX0_walk_38 : decode cX0_walk 38 = .ok (.iload 5, 2) := by decide +kernel
theorem dX0_walk_40 : decode cX0_walk 40 = .ok (.ireturn, 1) := by decide +kernel
theorem dX0_walk_41 : decode cX0_walk 41 = .ok (.iinc 5 1, 3) := by decide +kernel
theorem dX0_walk_44 : decode cX0_walk 44 = .ok (.goto (-41), 3) := by decide +kernel
theorem dX0_walk_47 : decode cX0_walk 47 = .ok (.iload_n 2, 1) := by decide +kernel
theorem dX0_walk_48 : decode cX0_walk 48 = .ok (.ireturn, 1) := by decide +kernel
theorem hd_X0_walk : yX0_walk.cls = RX0 ∧ yX0_walk.cls ≠ "java/lang/invoke/MethodHandle" ∧ yX0_walk.cls ≠ "java/lang/invoke/VarHandle" ∧ (parseMethodDescriptor yX0_walk.desc).map (fun d => d.parameters.length) = some 4 := by decide +kernel
abbrev rm_X0_walk : Room := { frames := 4, cells := 0, slots := 0, locals := 90 }
def wp_X0_walk_3 (K : Int32 → HF → Prop) (b : Nat) : Nat → HF → Int32 → Int32 → Int32 → Int32 → Int32 → Prop
  | 0 => fun _ _ _ _ _ _ => False
  | n3_ + 1 => fun F v1 v2 v3 v4 v5 => ((v2 ≤ v5) → (K v2 F)) ∧ ((¬ v2 ≤ v5) → (wp_X1_windIn (fun x1 F101 => wp_X0_loadAlone (fun F102 => wp_X0_settle (fun x2 F103 => ((¬ x2 = (nI 0)) → (wp_X0_walk_3 K b  n3_ F103 v1 v2 v3 v4 (v5 + (nI 1)))) ∧ ((x2 = (nI 0)) → (K v5 F103))) F102 b) F101 b v5 (v4 + x1)) F 4 ((v3 + v5) - v1)))
set_option maxRecDepth 100000 in
set_option maxHeartbeats 4000000 in
theorem k_X0_walk_3 {p : Program} {l : Launch} {e : Env} {s : State} {m : MethodId} {args : Array Value} {below : List Frame} {meth : Method} {c : Code} {D : va_G} {dA : Nat → ClassId} {ad : Nat → Nat} {R : List Nat} {A : Nat → Prop} {K : Int32 → HF → Prop} {b : Nat} (X : Cx p s m args meth c cX0_walk 6 RX0 D dA) (hA : ∀ q, s.heap.size ≤ q → A q) (hr : meth.sig.returnType = some .int) (hT : Br R b) : ∀ (n_ : Nat) (F : HF) (v1 : Int32) (v2 : Int32) (v3 : Int32) (v4 : Int32) (v5 : Int32), wp_X0_walk_3 K b n_ F v1 v2 v3 v4 v5 → J p l e rm_X0_walk s m args below meth c 6 D dA ad R A (QI D dA ad R A below args s K) F 3 [(0, .ref (ad b)), (1, .int v1), (2, .int v2), (3, .int v3), (4, .int v4), (5, .int v5)] [] := by
  intro n_
  induction n_ with
  | zero => intro F v1 v2 v3 v4 v5 h; exact h.elim
  | succ n_ ih =>
    intro F v1 v2 v3 v4 v5 h
    unfold wp_X0_walk_3 at h
    refine r_iload (pc := 3) X 5 dX0_walk_3 rfl ?_
    refine r_iload_n (pc := 5) X 2 dX0_walk_5 rfl rfl ?_
    refine r_icmp_ge (pc := 6) (tgt := 47) X dX0_walk_6 (by decide) (fun hc => ?_) (fun hc => ?_)
    · replace h := h.1 hc
      refine r_iload_n (pc := 47) X 2 dX0_walk_47 rfl rfl ?_
      exact r_iret (pc := 48) X hr dX0_walk_48 h
    · replace h := h.2 hc
      refine r_aload_n (pc := 9) X 0 dX0_walk_9 rfl rfl ?_
      refine r_iload (pc := 10) X 5 dX0_walk_10 rfl ?_
      refine r_iload (pc := 12) X 4 dX0_walk_12 rfl ?_
      refine r_aload_n (pc := 14) X 0 dX0_walk_14 rfl rfl ?_
      refine fg_X0_25 (pc := 15) X hT.1 dX0_walk_15 ?_
      refine r_iload_n (pc := 18) X 3 dX0_walk_18 rfl rfl ?_
      refine r_iload (pc := 19) X 5 dX0_walk_19 rfl ?_
      refine r_iadd (pc := 21) X dX0_walk_21 ?_
      refine r_iload_n (pc := 22) X 1 dX0_walk_22 rfl rfl ?_
      refine r_isub (pc := 23) X dX0_walk_23 ?_
      refine r_callIV (pc := 24) (As := [.int ((v3 + v5) - v1)]) (st := [.int v4, .int v5, .ref (ad b)]) X hA (c_X1_windIn hT.2.2.2.2 h) g_X0_115 cl_X1 hT.2.2.2.2.1 hd_X1_windIn rfl rfl rfl ⟨Nat.le_of_ble_eq_true rfl, Nat.le_of_ble_eq_true rfl⟩ rfl (Nat.le_of_ble_eq_true rfl) dX0_walk_24 (fun x1 F101 h => ?_)
      refine r_iadd (pc := 27) X dX0_walk_27 ?_
      refine r_callVV (pc := 28) (As := [.int v5, .int (v4 + x1)]) (st := []) X hA (c_X0_loadAlone hT h) g_X0_118 cl_X0 hT.1 hd_X0_loadAlone rfl rfl rfl ⟨Nat.le_of_ble_eq_true rfl, Nat.le_of_ble_eq_true rfl⟩ rfl (Nat.le_of_ble_eq_true rfl) dX0_walk_28 (fun F102 h => ?_)
      refine r_aload_n (pc := 31) X 0 dX0_walk_31 rfl rfl ?_
      refine r_callIV (pc := 32) (As := []) (st := []) X hA (c_X0_settle hT h) g_X0_121 cl_X0 hT.1 hd_X0_settle rfl rfl rfl ⟨Nat.le_of_ble_eq_true rfl, Nat.le_of_ble_eq_true rfl⟩ rfl (Nat.le_of_ble_eq_true rfl) dX0_walk_32 (fun x2 F103 h => ?_)
      refine r_if_ne (pc := 35) (tgt := 41) X dX0_walk_35 (by decide) (fun hc => ?_) (fun hc => ?_)
      · replace h := h.1 hc
        refine r_iinc (pc := 41) (v := (v5 + (nI 1))) X 5 [(5, .int (v5 + (nI 1))), (0, .ref (ad b)), (1, .int v1), (2, .int v2), (3, .int v3), (4, .int v4)] dX0_walk_41 rfl rfl (by decide) rfl ?_
        refine r_goto (pc := 44) (tgt := 3) X dX0_walk_44 (by decide) ?_
        refine r_sub [1, 2, 3, 4, 5, 0] rfl ?_
        exact ih _ _ _ _ _ _ h
      · replace h := h.2 hc
        refine r_iload (pc := 38) X 5 dX0_walk_38 rfl ?_
        exact r_iret (pc := 40) X hr dX0_walk_40 h
def wp_X0_walk (K : Int32 → HF → Prop) (F : HF) (b : Nat) (a1 : Int32) (a2 : Int32) (a3 : Int32) (a4 : Int32) : Prop := ∃ m_, wp_X0_walk_3 K b  m_ F a1 a2 a3 a4 a1
set_option maxRecDepth 100000 in
set_option maxHeartbeats 4000000 in
theorem c_X0_walk {l : Launch} {D : va_G} {dA : Nat → ClassId} {ad : Nat → Nat} {R : List Nat} {F : HF} {b : Nat} {a1 : Int32} {a2 : Int32} {a3 : Int32} {a4 : Int32} {K : Int32 → HF → Prop} (hT : Br R b) (h : wp_X0_walk K F b a1 a2 a3 a4) : MI l yX0_walk cX0_walk 6 .int rm_X0_walk D dA ad R F [.ref (ad b), .int a1, .int a2, .int a3, .int a4] K := by
  refine MI.of (own := RX0) (by decide) rfl (Nat.le_of_ble_eq_true rfl) ?_
  intro p e s m args below meth c A hA X hr
  unfold wp_X0_walk at h
  show J p l e rm_X0_walk s m args below meth c 6 D dA ad R A (QI D dA ad R A below args s K) F 0 [(0, .ref (ad b)), (1, .int a1), (2, .int a2), (3, .int a3), (4, .int a4)] []
  refine r_iload_n (pc := 0) X 1 dX0_walk_0 rfl rfl ?_
  refine r_istore (pc := 1) X [(5, .int a1), (0, .ref (ad b)), (1, .int a1), (2, .int a2), (3, .int a3), (4, .int a4)] dX0_walk_1 (by decide) rfl ?_
  refine r_sub [1, 2, 3, 4, 5, 0] rfl ?_
  obtain ⟨n1, h⟩ := h
  exact k_X0_walk_3 X hA hr hT  n1 _ _ _ _ _ _ h
