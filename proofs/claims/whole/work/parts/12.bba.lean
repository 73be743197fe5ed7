theorem dX6_write_0 : decode cX6_write 0 = .ok (.iload_n 1, 1) := by decide +kernel
theorem dX6_write_1 : decode cX6_write 1 = .ok (.bipush 32, 2) := by decide +kernel
theorem dX6_write_3 : decode cX6_write 3 = .ok (.if_icmp .lt 9, 3) := by decide +kernel
theorem dX6_write_6 : decode cX6_write 6 = .ok (.iload_n 1, 1) := by decide +kernel
theorem dX6_write_7 : decode cX6_write 7 = .ok (.bipush 126, 2) := by decide +kernel
theorem dX6_write_9 : decode cX6_write 9 = .ok (.if_icmp .le 5, 3) := by decide +kernel
theorem dX6_write_12 : decode cX6_write 12 = .ok (.iconst (-1), 1) := by decide +kernel
theorem dX6_write_13 : decode cX6_write 13 = .ok (.ireturn, 1) := by decide +kernel
theorem dX6_write_14 : decode cX6_write 14 = .ok (.aload_n 0, 1) := by decide +kernel
theorem dX6_write_15 : decode cX6_write 15 = .ok (.getfield 10, 3) := by decide +kernel
theorem dX6_write_18 : decode cX6_write 18 = .ok (.iload_n 1, 1) := by decide +kernel
theorem dX6_write_19 : decode cX6_write 19 = .ok (.invokevirtual 84, 3) := by decide +kernel
theorem dX6_write_22 : decode cX6_write 22 = .ok (.ifCond .eq 13, 3) := by decide +kernel
theorem dX6_write_25 : decode cX6_write 25 = .ok (.aload_n 0, 1) := by decide +kernel
theorem dX6_write_26 : decode cX6_write 26 = .ok (.getfield 10, 3) := by decide +kernel
theorem dX6_write_29 : decode cX6_write 29 = .ok (.invokevirtual 95, 3) := by decide +kernel
theorem dX6_write_32 : decode cX6_write 32 = .ok (.goto 5, 3) := by decide +kernel
theorem dX6_write_35 : decode cX6_write 35 = .ok (.bipush (-3), 2) := by decide +kernel
theorem dX6_write_37 : decode cX6_write 37 = .ok (.ireturn, 1) := by decide +kernel
theorem hd_X6_write : yX6_write.cls = RX6 ∧ yX6_write.cls ≠ "java/lang/invoke/MethodHandle" ∧ yX6_write.cls ≠ "java/lang/invoke/VarHandle" ∧ (parseMethodDescriptor yX6_write.desc).map (fun d => d.parameters.length) = some 1 := by decide +kernel
abbrev rm_X6_write : Room := { frames := 1, cells := 0, slots := 0, locals := 21 }
def wp_X6_write (K : Int32 → HF → Prop) (F : HF) (a1 : Int32) : Prop := ((a1 < (nI 32)) → (K (-1 : Int32) F)) ∧ ((¬ a1 < (nI 32)) → (((a1 ≤ (nI 126)) → (wp_X3_append (fun x1 F1 => ((x1 = (nI 0)) → (K (-3 : Int32) F1)) ∧ ((¬ x1 = (nI 0)) → (wp_X3_length (fun x2 F2 => K x2 F2) F1 ))) F a1)) ∧ ((¬ a1 ≤ (nI 126)) → (K (-1 : Int32) F))))
set_option maxRecDepth 100000 in
set_option maxHeartbeats 4000000 in
theorem c_X6_write {l : Launch} {D : va_G} {dA : Nat → ClassId} {ad : Nat → Nat} {R : List Nat} {F : HF} {a1 : Int32} {K : Int32 → HF → Prop} (hT : BBr R) (h : wp_X6_write K F a1) : MI l yX6_write cX6_write 2 .int rm_X6_write D dA ad R F [.ref (ad 0), .int a1] K := by
  refine MI.of (own := RX6) (by decide) rfl (Nat.le_of_ble_eq_true rfl) ?_
  intro p e s m args below meth c A hA X hr
  unfold wp_X6_write at h
  show J p l e rm_X6_write s m args below meth c 2 D dA ad R A (QI D dA ad R A below args s K) F 0 [(0, .ref (ad 0)), (1, .int a1)] []
  refine r_iload_n (pc := 0) X 1 dX6_write_0 rfl rfl ?_
  refine r_bipush (pc := 1) (v := (nI 32)) X dX6_write_1 (by decide) ?_
  refine r_icmp_lt (pc := 3) (tgt := 12) X dX6_write_3 (by decide) (fun hc => ?_) (fun hc => ?_)
  · replace h := h.1 hc
    refine r_iconst (pc := 12) (v := (-1 : Int32)) X dX6_write_12 (by decide) ?_
    exact r_iret (pc := 13) X hr dX6_write_13 h
  · replace h := h.2 hc
    refine r_iload_n (pc := 6) X 1 dX6_write_6 rfl rfl ?_
    refine r_bipush (pc := 7) (v := (nI 126)) X dX6_write_7 (by decide) ?_
    refine r_icmp_le (pc := 9) (tgt := 14) X dX6_write_9 (by decide) (fun hc => ?_) (fun hc => ?_)
    · replace h := h.1 hc
      refine r_aload_n (pc := 14) X 0 dX6_write_14 rfl rfl ?_
      refine fg_X6_10 (pc := 15) X hT.1 dX6_write_15 ?_
      refine r_iload_n (pc := 18) X 1 dX6_write_18 rfl rfl ?_
      refine r_callIV (pc := 19) (As := [.int a1]) (st := []) X hA (c_X3_append hT.2.1 h) g_X6_84 cl_X3 hT.2.1.1 hd_X3_append rfl rfl rfl ⟨Nat.le_of_ble_eq_true rfl, Nat.le_of_ble_eq_true rfl⟩ rfl (Nat.le_of_ble_eq_true rfl) dX6_write_19 (fun x1 F1 h => ?_)
      refine r_if_eq (pc := 22) (tgt := 35) X dX6_write_22 (by decide) (fun hc => ?_) (fun hc => ?_)
      · replace h := h.1 hc
        refine r_bipush (pc := 35) (v := (-3 : Int32)) X dX6_write_35 (by decide) ?_
        exact r_iret (pc := 37) X hr dX6_write_37 h
      · replace h := h.2 hc
        refine r_aload_n (pc := 25) X 0 dX6_write_25 rfl rfl ?_
        refine fg_X6_10 (pc := 26) X hT.1 dX6_write_26 ?_
        refine r_callIV (pc := 29) (As := []) (st := []) X hA (c_X3_length hT.2.1 h) g_X6_95 cl_X3 hT.2.1.1 hd_X3_length rfl rfl rfl ⟨Nat.le_of_ble_eq_true rfl, Nat.le_of_ble_eq_true rfl⟩ rfl (Nat.le_of_ble_eq_true rfl) dX6_write_29 (fun x2 F2 h => ?_)
        refine r_goto (pc := 32) (tgt := 37) X dX6_write_32 (by decide) ?_
        exact r_iret (pc := 37) X hr dX6_write_37 h
    · replace h := h.2 hc
      refine r_iconst (pc := 12) (v := (-1 : Int32)) X dX6_write_12 (by decide) ?_
      exact r_iret (pc := 13) X hr dX6_write_13 h
theorem dX6_wipe_0 : decode cX6_wipe 0 = .ok (.aload_n 0, 1) := by decide +kernel
theorem dX6_wipe_1 : decode cX6_wipe 1 = .ok (.getfield 10, 3) := by decide +kernel
theorem dX6_wipe_4 : decode cX6_wipe 4 = .ok (.invokevirtual 95, 3) := by decide +kernel
theorem dX6_wipe_7 : decode cX6_wipe 7 = .ok (.istore_n 1, 1) := by decide +kernel
theorem dX6_wipe_8 : decode cX6_wipe 8 = .ok (.aload_n 0, 1) := by decide +kernel
theorem dX6_wipe_9 : decode cX6_wipe 9 = .ok (.getfield 10, 3) := by decide +kernel
theorem dX6_wipe_12 : decode cX6_wipe 12 = .ok (.invokevirtual 92, 3) := by decide +kernel
theorem dX6_wipe_15 : decode cX6_wipe 15 = .ok (.iload_n 1, 1) := by decide +kernel
theorem dX6_wipe_16 : decode cX6_wipe 16 = .ok (.ireturn, 1) := by decide +kernel
theorem hd_X6_wipe : yX6_wipe.cls = RX6 ∧ yX6_wipe.cls ≠ "java/lang/invoke/MethodHandle" ∧ yX6_wipe.cls ≠ "java/lang/invoke/VarHandle" ∧ (parseMethodDescriptor yX6_wipe.desc).map (fun d => d.parameters.length) = some 0 := by decide +kernel
abbrev rm_X6_wipe : Room := { frames := 1, cells := 0, slots := 0, locals := 20 }
def wp_X6_wipe (K : Int32 → HF → Prop) (F : HF) : Prop := wp_X3_length (fun x1 F1 => wp_X3_clear (fun F2 => K x1 F2) F1 ) F 
set_option maxRecDepth 100000 in
set_option maxHeartbeats 4000000 in
theorem c_X6_wipe {l : Launch} {D : va_G} {dA : Nat → ClassId} {ad : Nat → Nat} {R : List Nat} {F : HF} {K : Int32 → HF → Prop} (hT : BBr R) (h : wp_X6_wipe K F ) : MI l yX6_wipe cX6_wipe 2 .int rm_X6_wipe D dA ad R F [.ref (ad 0)] K := by
  refine MI.of (own := RX6) (by decide) rfl (Nat.le_of_ble_eq_true rfl) ?_
  intro p e s m args below meth c A hA X hr
  unfold wp_X6_wipe at h
  show J p l e rm_X6_wipe s m args below meth c 2 D dA ad R A (QI D dA ad R A below args s K) F 0 [(0, .ref (ad 0))] []
  refine r_aload_n (pc := 0) X 0 dX6_wipe_0 rfl rfl ?_
  refine fg_X6_10 (pc := 1) X hT.1 dX6_wipe_1 ?_
  refine r_callIV (pc := 4) (As := []) (st := []) X hA (c_X3_length hT.2.1 h) g_X6_95 cl_X3 hT.2.1.1 hd_X3_length rfl rfl rfl ⟨Nat.le_of_ble_eq_true rfl, Nat.le_of_ble_eq_true rfl⟩ rfl (Nat.le_of_ble_eq_true rfl) dX6_wipe_4 (fun x1 F1 h => ?_)
  refine r_istore_n (pc := 7) X [(1, .int x1), (0, .ref (ad 0))] dX6_wipe_7 rfl (by decide) rfl ?_
  refine r_aload_n (pc := 8) X 1 dX6_wipe_8 rfl rfl ?_
  refine fg_X6_10 (pc := 9) X hT.1 dX6_wipe_9 ?_
  refine r_callVV (pc := 12) (As := []) (st := []) X hA (c_X3_clear hT.2.1 h) g_X6_92 cl_X3 hT.2.1.1 hd_X3_clear rfl rfl rfl ⟨Nat.le_of_ble_eq_true rfl, Nat.le_of_ble_eq_true rfl⟩ rfl (Nat.le_of_ble_eq_true rfl) dX6_wipe_12 (fun F2 h => ?_)
  refine r_iload_n (pc := 15) X 0 dX6_wipe_15 rfl rfl ?_
  exact r_iret (pc := 16) X hr dX6_wipe_16 h
theorem dX6_fault_0 : decode cX6_fault 0 = .ok (.aload_n 0, 1) := by decide +kernel
theorem dX6_fault_1 : decode cX6_fault 1 = .ok (.getfield 10, 3) := by decide +kernel
theorem dX6_fault_4 : decode cX6_fault 4 = .ok (.aload_n 0, 1) := by decide +kernel
theorem dX6_fault_5 : decode cX6_fault 5 = .ok (.getfield 23, 3) := by decide +kernel
theorem dX6_fault_8 : decode cX6_fault 8 = .ok (.invokevirtual 88, 3) := by decide +kernel
theorem dX6_fault_11 : decode cX6_fault 11 = .ok (.ireturn, 1) := by decide +kernel
theorem hd_X6_fault : yX6_fault.cls = RX6 ∧ yX6_fault.cls ≠ "java/lang/invoke/MethodHandle" ∧ yX6_fault.cls ≠ "java/lang/invoke/VarHandle" ∧ (parseMethodDescriptor yX6_fault.desc).map (fun d => d.parameters.length) = some 0 := by decide +kernel
abbrev rm_X6_fault : Room := { frames := 4, cells := 0, slots := 0, locals := 93 }
def wp_X6_fault (K : Int32 → HF → Prop) (F : HF) : Prop := wp_X3_readInto (fun x1 F1 => K x1 F1) F 10
set_option maxRecDepth 100000 in
set_option maxHeartbeats 4000000 in
theorem c_X6_fault {l : Launch} {D : va_G} {dA : Nat → ClassId} {ad : Nat → Nat} {R : List Nat} {F : HF} {K : Int32 → HF → Prop} (hT : BBr R) (h : wp_X6_fault K F ) : MI l yX6_fault cX6_fault 1 .int rm_X6_fault D dA ad R F [.ref (ad 0)] K := by
  refine MI.of (own := RX6) (by decide) rfl (Nat.le_of_ble_eq_true rfl) ?_
  intro p e s m args below meth c A hA X hr
  unfold wp_X6_fault at h
  show J p l e rm_X6_fault s m args below meth c 1 D dA ad R A (QI D dA ad R A below args s K) F 0 [(0, .ref (ad 0))] []
  refine r_aload_n (pc := 0) X 0 dX6_fault_0 rfl rfl ?_
  refine fg_X6_10 (pc := 1) X hT.1 dX6_fault_1 ?_
  refine r_aload_n (pc := 4) X 0 dX6_fault_4 rfl rfl ?_
  refine fg_X6_23 (pc := 5) X hT.1 dX6_fault_5 ?_
  refine r_callIV (pc := 8) (As := [.ref (ad 10)]) (st := []) X hA (c_X3_readInto hT.2.1 hT.2.2.2.1 h) g_X6_88 cl_X3 hT.2.1.1 hd_X3_readInto rfl rfl rfl ⟨Nat.le_of_ble_eq_true rfl, Nat.le_of_ble_eq_true rfl⟩ rfl (Nat.le_of_ble_eq_true rfl) dX6_fault_8 (fun x1 F1 h => ?_)
  exact r_iret (pc := 11) X hr dX6_fault_11 h
theorem dX6_lay_0 : decode cX6_lay 0 = .ok (.aload_n 0, 1) := by decide +kernel
theorem dX6_lay_1 : decode cX6_lay 1 = .ok (.getfield 10, 3) := by decide +kernel
theorem dX6_lay_4 : decode cX6_lay 4 = .ok (.aload_n 0, 1) := by decide +kernel
theorem dX6_lay_5 : decode cX6_lay 5 = .ok (.getfield 23, 3) := by decide +kernel
theorem dX6_lay_8 : decode cX6_lay 8 = .ok (.invokevirtual 88, 3) := by decide +kernel
theorem dX6_lay_11 : decode cX6_lay 11 = .ok (.bipush (-4), 2) := by decide +kernel
theorem dX6_lay_13 : decode cX6_lay 13 = .ok (.if_icmp .ne 13, 3) := by decide +kernel
theorem dX6_lay_16 : decode cX6_lay 16 = .ok (.aload_n 0, 1) := by decide +kernel
theorem dX6_lay_17 : decode cX6_lay 17 = .ok (.getfield 23, 3) := by decide +kernel
theorem dX6_lay_20 : decode cX6_lay 20 = .ok (.invokevirtual 96, 3) := by decide +kernel
theorem dX6_lay_23 : decode cX6_lay 23 = .ok (.ifCond .ne 6, 3) := by decide +kernel
theorem dX6_lay_26 : decode cX6_lay 26 = .ok (.bipush (-2), 2) := by decide +kernel
theorem dX6_lay_28 : decode cX6_lay 28 = .ok (.ireturn, 1) := by decide +kernel
theorem dX6_lay_29 : decode cX6_lay 29 = .ok (.aload_n 0, 1) := by decide +kernel
theorem dX6_lay_30 : decode cX6_lay 30 = .ok (.getfield 19, 3) := by decide +kernel
theorem dX6_lay_33 : decode cX6_lay 33 = .ok (.aload_n 0, 1) := by decide +kernel
theorem dX6_lay_34 : decode cX6_lay 34 = .ok (.getfield 23, 3) := by decide +kernel
theorem dX6_lay_37 : decode cX6_lay 37 = .ok (.invokevirtual 99, 3) := by decide +kernel
theorem dX6_lay_40 : decode cX6_lay 40 = .ok (.aload_n 0, 1) := by decide +kernel
theorem dX6_lay_41 : decode cX6_lay 41 = .ok (.getfield 31, 3) := by decide +kernel
theorem dX6_lay_44 : decode cX6_lay 44 = .ok (.invokevirtual 102, 3) := by decide +kernel
theorem dX6_lay_47 : decode cX6_lay 47 = .ok (.aload_n 0, 1) := by decide +kernel
theorem dX6_lay_48 : decode cX6_lay 48 = .ok (.getfield 47, 3) := by decide +kernel
theorem dX6_lay_51 : decode cX6_lay 51 = .ok (.invokevirtual 105, 3) := by decide +kernel
theorem dX6_lay_54 : decode cX6_lay 54 = .ok (.aload_n 0, 1) := by decide +kernel
theorem dX6_lay_55 : decode cX6_lay 55 = .ok (.getfield 51, 3) := by decide +kernel
theorem dX6_lay_58 : decode cX6_lay 58 = .ok (.invokevirtual 105, 3) := by decide +kernel
theorem dX6_lay_61 : decode cX6_lay 61 = .ok (.aload_n 0, 1) := by decide +kernel
theorem dX6_lay_62 : decode cX6_lay 62 = .ok (.getfield 57, 3) := by decide +kernel
theorem dX6_lay_65 : decode cX6_lay 65 = .ok (.invokevirtual 106, 3) := by decide +kernel
theorem dX6_lay_68 : decode cX6_lay 68 = .ok (.aload_n 0, 1) := by decide +kernel
theorem dX6_lay_69 : decode cX6_lay 69 = .ok (.iconst 0, 1) := by decide +kernel
theorem dX6_lay_70 : decode cX6_lay 70 = .ok (.putfield 68, 3) := by decide +kernel
theorem dX6_lay_73 : decode cX6_lay 73 = .ok (.aload_n 0, 1) := by decide +kernel
theorem dX6_lay_74 : decode cX6_lay 74 = .ok (.getfield 19, 3) := by decide +kernel
theorem dX6_lay_77 : decode cX6_lay 77 = .ok (.invokevirtual 96, 3) := by decide +kernel
theorem dX6_lay_80 : decode cX6_lay 80 = .ok (.ireturn, 1) := by decide +kernel
theorem hd_X6_lay : yX6_lay.cls = RX6 ∧ yX6_lay.cls ≠ "java/lang/invoke/MethodHandle" ∧ yX6_lay.cls ≠ "java/lang/invoke/VarHandle" ∧ (parseMethodDescriptor yX6_lay.desc).map (fun d => d.parameters.length) = some 0 := by decide +kernel
abbrev rm_X6_lay : Room := { frames := 4, cells := 0, slots := 0, locals := 93 }
def wp_X6_lay (K : Int32 → HF → Prop) (F : HF) : Prop := wp_X3_readInto (fun x1 F1 => ((¬ x1 = (-4 : Int32)) → (K (-2 : Int32) F1)) ∧ ((x1 = (-4 : Int32)) → (wp_X1_birds (fun x2 F2 => ((¬ x2 = (nI 0)) → (wp_X1_copyFrom (fun F3 => wp_X2_begin (fun F4 => wp_X5_clear (fun F5 => wp_X5_clear (fun F6 => wp_X4_begin (fun F7 => ∀ F8 : HF, F8 = hup F7 0 10 (nI 0) → (wp_X1_birds (fun x3 F9 => K x3 F9) F8 4)) F6 ) F5 67 2) F4 25 8) F3 16) F2 4 10)) ∧ ((x2 = (nI 0)) → (K (-2 : Int32) F2))) F1 10))) F 10
set_option maxRecDepth 100000 in
set_option maxHeartbeats 4000000 in
theorem c_X6_lay {l : Launch} {D : va_G} {dA : Nat → ClassId} {ad : Nat → Nat} {R : List Nat} {F : HF} {K : Int32 → HF → Prop} (hT : BBr R) (h : wp_X6_lay K F ) : MI l yX6_lay cX6_lay 1 .int rm_X6_lay D dA ad R F [.ref (ad 0)] K := by
  refine MI.of (own := RX6) (by decide) rfl (Nat.le_of_ble_eq_true rfl) ?_
  intro p e s m args below meth c A hA X hr
  unfold wp_X6_lay at h
  show J p l e rm_X6_lay s m args below meth c 1 D dA ad R A (QI D dA ad R A below args s K) F 0 [(0, .ref (ad 0))] []
  refine r_aload_n (pc := 0) X 0 dX6_lay_0 rfl rfl ?_
  refine fg_X6_10 (pc := 1) X hT.1 dX6_lay_1 ?_
  refine r_aload_n (pc := 4) X 0 dX6_lay_4 rfl rfl ?_
  refine fg_X6_23 (pc := 5) X hT.1 dX6_lay_5 ?_
  refine r_callIV (pc := 8) (As := [.ref (ad 10)]) (st := []) X hA (c_X3_readInto hT.2.1 hT.2.2.2.1 h) g_X6_88 cl_X3 hT.2.1.1 hd_X3_readInto rfl rfl rfl ⟨Nat.le_of_ble_eq_true rfl, Nat.le_of_ble_eq_true rfl⟩ rfl (Nat.le_of_ble_eq_true rfl) dX6_lay_8 (fun x1 F1 h => ?_)
  refine r_bipush (pc := 11) (v := (-4 : Int32)) X dX6_lay_11 (by decide) ?_
  refine r_icmp_ne (pc := 13) (tgt := 26) X dX6_lay_13 (by decide) (fun hc => ?_) (fun hc => ?_)
  · replace h := h.1 hc
    refine r_bipush (pc := 26) (v := (-2 : Int32)) X dX6_lay_26 (by decide) ?_
    exact r_iret (pc := 28) X hr dX6_lay_28 h
  · replace h := h.2 hc
    refine r_aload_n (pc := 16) X 0 dX6_lay_16 rfl rfl ?_
    refine fg_X6_23 (pc := 17) X hT.1 dX6_lay_17 ?_
    refine r_callIV (pc := 20) (As := []) (st := []) X hA (c_X1_birds hT.2.2.2.1 h) g_X6_96 cl_X1 hT.2.2.2.1.1 hd_X1_birds rfl rfl rfl ⟨Nat.le_of_ble_eq_true rfl, Nat.le_of_ble_eq_true rfl⟩ rfl (Nat.le_of_ble_eq_true rfl) dX6_lay_20 (fun x2 F2 h => ?_)
    refine r_if_ne (pc := 23) (tgt := 29) X dX6_lay_23 (by decide) (fun hc => ?_) (fun hc => ?_)
    · replace h := h.1 hc
      refine r_aload_n (pc := 29) X 0 dX6_lay_29 rfl rfl ?_
      refine fg_X6_19 (pc := 30) X hT.1 dX6_lay_30 ?_
      refine r_aload_n (pc := 33) X 0 dX6_lay_33 rfl rfl ?_
      refine fg_X6_23 (pc := 34) X hT.1 dX6_lay_34 ?_
      refine r_callVV (pc := 37) (As := [.ref (ad 10)]) (st := []) X hA (c_X1_copyFrom hT.2.2.1 hT.2.2.2.1 h) g_X6_99 cl_X1 hT.2.2.1.1 hd_X1_copyFrom rfl rfl rfl ⟨Nat.le_of_ble_eq_true rfl, Nat.le_of_ble_eq_true rfl⟩ rfl (Nat.le_of_ble_eq_true rfl) dX6_lay_37 (fun F3 h => ?_)
      refine r_aload_n (pc := 40) X 0 dX6_lay_40 rfl rfl ?_
      refine fg_X6_31 (pc := 41) X hT.1 dX6_lay_41 ?_
      refine r_callVV (pc := 44) (As := []) (st := []) X hA (c_X2_begin hT.2.2.2.2.1 h) g_X6_102 cl_X2 hT.2.2.2.2.1.1 hd_X2_begin rfl rfl rfl ⟨Nat.le_of_ble_eq_true rfl, Nat.le_of_ble_eq_true rfl⟩ rfl (Nat.le_of_ble_eq_true rfl) dX6_lay_44 (fun F4 h => ?_)
      refine r_aload_n (pc := 47) X 0 dX6_lay_47 rfl rfl ?_
      refine fg_X6_47 (pc := 48) X hT.1 dX6_lay_48 ?_
      refine r_callVV (pc := 51) (As := []) (st := []) X hA (c_X5_clear hT.2.2.2.2.2.2.1 h) g_X6_105 cl_X5 hT.2.2.2.2.2.2.1.1 hd_X5_clear rfl rfl rfl ⟨Nat.le_of_ble_eq_true rfl, Nat.le_of_ble_eq_true rfl⟩ rfl (Nat.le_of_ble_eq_true rfl) dX6_lay_51 (fun F5 h => ?_)
      refine r_aload_n (pc := 54) X 0 dX6_lay_54 rfl rfl ?_
      refine fg_X6_51 (pc := 55) X hT.1 dX6_lay_55 ?_
      refine r_callVV (pc := 58) (As := []) (st := []) X hA (c_X5_clear hT.2.2.2.2.2.2.2.1 h) g_X6_105 cl_X5 hT.2.2.2.2.2.2.2.1.1 hd_X5_clear rfl rfl rfl ⟨Nat.le_of_ble_eq_true rfl, Nat.le_of_ble_eq_true rfl⟩ rfl (Nat.le_of_ble_eq_true rfl) dX6_lay_58 (fun F6 h => ?_)
      refine r_aload_n (pc := 61) X 0 dX6_lay_61 rfl rfl ?_
      refine fg_X6_57 (pc := 62) X hT.1 dX6_lay_62 ?_
      refine r_callVV (pc := 65) (As := []) (st := []) X hA (c_X4_begin hT.2.2.2.2.2.2.2.2.1 h) g_X6_106 cl_X4 hT.2.2.2.2.2.2.2.2.1.1 hd_X4_begin rfl rfl rfl ⟨Nat.le_of_ble_eq_true rfl, Nat.le_of_ble_eq_true rfl⟩ rfl (Nat.le_of_ble_eq_true rfl) dX6_lay_65 (fun F7 h => ?_)
      refine r_aload_n (pc := 68) X 0 dX6_lay_68 rfl rfl ?_
      refine r_iconst (pc := 69) (v := (nI 0)) X dX6_lay_69 (by decide) ?_
      refine fp_X6_68 (pc := 70) X hT.1 dX6_lay_70 (fun F8 e1 => ?_)
      replace h := h F8 e1
      refine r_aload_n (pc := 73) X 0 dX6_lay_73 rfl rfl ?_
      refine fg_X6_19 (pc := 74) X hT.1 dX6_lay_74 ?_
      refine r_callIV (pc := 77) (As := []) (st := []) X hA (c_X1_birds hT.2.2.1 h) g_X6_96 cl_X1 hT.2.2.1.1 hd_X1_birds rfl rfl rfl ⟨Nat.le_of_ble_eq_true rfl, Nat.le_of_ble_eq_true rfl⟩ rfl (Nat.le_of_ble_eq_true rfl) dX6_lay_77 (fun x3 F9 h => ?_)
      exact r_iret (pc := 80) X hr dX6_lay_80 h
    · replace h := h.2 hc
      refine r_bipush (pc := 26) (v := (-2 : Int32)) X dX6_lay_26 (by decide) ?_
      exact r_iret (pc := 28) X hr dX6_lay_28 h
theorem dX6_isBird_0 : decode cX6_isBird 0 = .ok (.iload_n 1, 1) := by decide +kernel
theorem dX6_isBird_1 : decode cX6_isBird 1 = .ok (.ifCond .lt 18, 3) := by decide +kernel
theorem dX6_isBird_4 : decode cX6_isBird 4 = .ok (.iload_n 1, 1) := by decide +kernel
theorem dX6_isBird_5 : decode cX6_isBird 5 = .ok (.aload_n 0, 1) := by decide +kernel
theorem dX6_isBird_6 : decode cX6_isBird 6 = .ok (.getfield 19, 3) := by decide +kernel
theorem dX6_isBird_9 : decode cX6_isBird 9 = .ok (.invokevirtual 96, 3) := by decide +kernel
theorem dX6_isBird_12 : decode cX6_isBird 12 = .ok (.if_icmp .ge 7, 3) := by decide +kernel
theorem dX6_isBird_15 : decode cX6_isBird 15 = .ok (.iconst 1, 1) := by decide +kernel
theorem dX6_isBird_16 : decode cX6_isBird 16 = .ok (.goto 4, 3) := by decide +kernel
theorem dX6_isBird_19 : decode cX6_isBird 19 = .ok (.iconst 0, 1) := by decide +kernel
theorem dX6_isBird_20 : decode cX6_isBird 20 = .ok (.ireturn, 1) := by decide +kernel
theorem hd_X6_isBird : yX6_isBird.cls = RX6 ∧ yX6_isBird.cls ≠ "java/lang/invoke/MethodHandle" ∧ yX6_isBird.cls ≠ "java/lang/invoke/VarHandle" ∧ (parseMethodDescriptor yX6_isBird.desc).map (fun d => d.parameters.length) = some 1 := by decide +kernel
abbrev rm_X6_isBird : Room := { frames := 1, cells := 0, slots := 0, locals := 20 }
def wp_X6_isBird (K : Int32 → HF → Prop) (F : HF) (a1 : Int32) : Prop := ((a1 < (nI 0)) → (K (nI 0) F)) ∧ ((¬ a1 < (nI 0)) → (wp_X1_birds (fun x1 F1 => ((x1 ≤ a1) → (K (nI 0) F1)) ∧ ((¬ x1 ≤ a1) → (K (nI 1) F1))) F 4))
set_option maxRecDepth 100000 in
set_option maxHeartbeats 4000000 in
theorem c_X6_isBird {l : Launch} {D : va_G} {dA : Nat → ClassId} {ad : Nat → Nat} {R : List Nat} {F : HF} {a1 : Int32} {K : Int32 → HF → Prop} (hT : BBr R) (h : wp_X6_isBird K F a1) : MI l yX6_isBird cX6_isBird 2 .boolean rm_X6_isBird D dA ad R F [.ref (ad 0), .int a1] K := by
  refine MI.of (own := RX6) (by decide) rfl (Nat.le_of_ble_eq_true rfl) ?_
  intro p e s m args below meth c A hA X hr
  unfold wp_X6_isBird at h
  show J p l e rm_X6_isBird s m args below meth c 2 D dA ad R A (QI D dA ad R A below args s K) F 0 [(0, .ref (ad 0)), (1, .int a1)] []
  refine r_iload_n (pc := 0) X 1 dX6_isBird_0 rfl rfl ?_
  refine r_if_lt (pc := 1) (tgt := 19) X dX6_isBird_1 (by decide) (fun hc => ?_) (fun hc => ?_)
  · replace h := h.1 hc
    refine r_iconst (pc := 19) (v := (nI 0)) X dX6_isBird_19 (by decide) ?_
    exact r_zret (pc := 20) X hr dX6_isBird_20 nb0 h
  · replace h := h.2 hc
    refine r_iload_n (pc := 4) X 1 dX6_isBird_4 rfl rfl ?_
    refine r_aload_n (pc := 5) X 0 dX6_isBird_5 rfl rfl ?_
    refine fg_X6_19 (pc := 6) X hT.1 dX6_isBird_6 ?_
    refine r_callIV (pc := 9) (As := []) (st := [.int a1]) X hA (c_X1_birds hT.2.2.1 h) g_X6_96 cl_X1 hT.2.2.1.1 hd_X1_birds rfl rfl rfl ⟨Nat.le_of_ble_eq_true rfl, Nat.le_of_ble_eq_true rfl⟩ rfl (Nat.le_of_ble_eq_true rfl) dX6_isBird_9 (fun x1 F1 h => ?_)
    refine r_icmp_ge (pc := 12) (tgt := 19) X dX6_isBird_12 (by decide) (fun hc => ?_) (fun hc => ?_)
    · replace h := h.1 hc
      refine r_iconst (pc := 19) (v := (nI 0)) X dX6_isBird_19 (by decide) ?_
      exact r_zret (pc := 20) X hr dX6_isBird_20 nb0 h
    · replace h := h.2 hc
      refine r_iconst (pc := 15) (v := (nI 1)) X dX6_isBird_15 (by decide) ?_
      refine r_goto (pc := 16) (tgt := 20) X dX6_isBird_16 (by decide) ?_
      exact r_zret (pc := 20) X hr dX6_isBird_20 nb1 h
theorem dX6_bird_0 : decode cX6_bird 0 = .ok (.aload_n 0, 1) := by decide +kernel
theorem dX6_bird_1 : decode cX6_bird 1 = .ok (.iload_n 1, 1) := by decide +kernel
theorem dX6_bird_2 : decode cX6_bird 2 = .ok (.invokevirtual 107, 3) := by decide +kernel
theorem dX6_bird_5 : decode cX6_bird 5 = .ok (.ifCond .ne 5, 3) := by decide +kernel
theorem dX6_bird_8 : decode cX6_bird 8 = .ok (.iconst (-1), 1) := by decide +kernel
theorem dX6_bird_9 : decode cX6_bird 9 = .ok (.ireturn, 1) := by decide +kernel
theorem dX6_bird_10 : decode cX6_bird 10 = .ok (.iload_n 2, 1) := by decide +kernel
theorem dX6_bird_11 : decode cX6_bird 11 = .ok (.tableswitch 97 0 5 #[37, 46, 55, 64, 73, 85], 37) := by decide +kernel
theorem dX6_bird_48 : decode cX6_bird 48 = .ok (.aload_n 0, 1) := by decide +kernel
theorem dX6_bird_49 : decode cX6_bird 49 = .ok (.getfield 19, 3) := by decide +kernel
theorem dX6_bird_52 : decode cX6_bird 52 = .ok (.iload_n 1, 1) := by decide +kernel
theorem dX6_bird_53 : decode cX6_bird 53 = .ok (.invokevirtual 110, 3) := by decide +kernel
theorem dX6_bird_56 : decode cX6_bird 56 = .ok (.ireturn, 1) := by decide +kernel
theorem dX6_bird_57 : decode cX6_bird 57 = .ok (.aload_n 0, 1) := by decide +kernel
theorem dX6_bird_58 : decode cX6_bird 58 = .ok (.getfield 19, 3) := by decide +kernel
theorem dX6_bird_61 : decode cX6_bird 61 = .ok (.iload_n 1, 1) := by decide +kernel
theorem dX6_bird_62 : decode cX6_bird 62 = .ok (.invokevirtual 114, 3) := by decide +kernel
theorem dX6_bird_65 : decode cX6_bird 65 = .ok (.ireturn, 1) := by decide +kernel
theorem dX6_bird_66 : decode cX6_bird 66 = .ok (.aload_n 0, 1) := by decide +kernel
theorem dX6_bird_67 : decode cX6_bird 67 = .ok (.getfield 19, 3) := by decide +kernel
theorem dX6_bird_70 : decode cX6_bird 70 = .ok (.iload_n 1, 1) := by decide +kernel
theorem dX6_bird_71 : decode cX6_bird 71 = .ok (.invokevirtual 117, 3) := by decide +kernel
theorem dX6_bird_74 : decode cX6_bird 74 = .ok (.ireturn, 1) := by decide +kernel
theorem dX6_bird_75 : decode cX6_bird 75 = .ok (.aload_n 0, 1) := by decide +kernel
theorem dX6_bird_76 : decode cX6_bird 76 = .ok (.getfield 19, 3) := by decide +kernel
theorem dX6_bird_79 : decode cX6_bird 79 = .ok (.iload_n 1, 1) := by decide +kernel
theorem dX6_bird_80 : decode cX6_bird 80 = .ok (.invokevirtual 120, 3) := by decide +kernel
theorem dX6_bird_83 : decode cX6_bird 83 = .ok (.ireturn, 1) := by decide +kernel
theorem dX6_bird_84 : decode cX6_bird 84 = .ok (.aload_n 0, 1) := by decide +kernel
theorem dX6_bird_85 : decode cX6_bird 85 = .ok (.getfield 31, 3) := by decide +kernel
theorem dX6_bird_88 : decode cX6_bird 88 = .ok (.invokevirtual 123, 3) := by decide +kernel
theorem dX6_bird_91 : decode cX6_bird 91 = .ok (.iload_n 1, 1) := by decide +kernel
theorem dX6_bird_92 : decode cX6_bird 92 = .ok (.invokevirtual 127, 3) := by decide +kernel
theorem dX6_bird_95 : decode cX6_bird 95 = .ok (.ireturn, 1) := by decide +kernel
theorem dX6_bird_96 : decode cX6_bird 96 = .ok (.aload_n 0, 1) := by decide +kernel
theorem dX6_bird_97 : decode cX6_bird 97 = .ok (.getfield 31, 3) := by decide +kernel
theorem dX6_bird_100 : decode cX6_bird 100 = .ok (.invokevirtual 123, 3) := by decide +kernel
theorem dX6_bird_103 : decode cX6_bird 103 = .ok (.iload_n 1, 1) := by decide +kernel
theorem dX6_bird_104 : decode cX6_bird 104 = .ok (.invokevirtual 130, 3) := by decide +kernel
theorem dX6_bird_107 : decode cX6_bird 107 = .ok (.ireturn, 1) := by decide +kernel
theorem dX6_bird_108 : decode cX6_bird 108 = .ok (.iconst (-1), 1) := by decide +kernel
theorem dX6_bird_109 : decode cX6_bird 109 = .ok (.ireturn, 1) := by decide +kernel
theorem hd_X6_bird : yX6_bird.cls = RX6 ∧ yX6_bird.cls ≠ "java/lang/invoke/MethodHandle" ∧ yX6_bird.cls ≠ "java/lang/invoke/VarHandle" ∧ (parseMethodDescriptor yX6_bird.desc).map (fun d => d.parameters.length) = some 2 := by decide +kernel
abbrev rm_X6_bird : Room := { frames := 2, cells := 0, slots := 0, locals := 41 }
def wp_X6_bird (K : Int32 → HF → Prop) (F : HF) (a1 : Int32) (a2 : Int32) : Prop := wp_X6_isBird (fun x1 F1 => ((¬ x1 = (nI 0)) → ((((a2 = (nI 0)) → (wp_X1_strengthOf (fun x2 F2 => K x2 F2) F1 4 a1))) ∧ (((a2 = (nI 1)) → (wp_X1_lengthOf (fun x3 F3 => K x3 F3) F1 4 a1))) ∧ (((a2 = (nI 2)) → (wp_X1_kindOf (fun x4 F4 => K x4 F4) F1 4 a1))) ∧ (((a2 = (nI 3)) → (wp_X1_woodOf (fun x5 F5 => K x5 F5) F1 4 a1))) ∧ (((a2 = (nI 4)) → (wp_X0_tiredOf (fun x6 F6 => K x6 F6) F1 17 a1))) ∧ (((a2 = (nI 5)) → (wp_X0_positionOf (fun x7 F7 => K x7 F7) F1 17 a1))) ∧ ((¬ a2 = (nI 0)) → (¬ a2 = (nI 1)) → (¬ a2 = (nI 2)) → (¬ a2 = (nI 3)) → (¬ a2 = (nI 4)) → (¬ a2 = (nI 5)) → (K (-1 : Int32) F1)))) ∧ ((x1 = (nI 0)) → (K (-1 : Int32) F1))) F a1
set_option maxRecDepth 100000 in
set_option maxHeartbeats 4000000 in
theorem c_X6_bird {l : Launch} {D : va_G} {dA : Nat → ClassId} {ad : Nat → Nat} {R : List Nat} {F : HF} {a1 : Int32} {a2 : Int32} {K : Int32 → HF → Prop} (hT : BBr R) (h : wp_X6_bird K F a1 a2) : MI l yX6_bird cX6_bird 3 .int rm_X6_bird D dA ad R F [.ref (ad 0), .int a1, .int a2] K := by
  refine MI.of (own := RX6) (by decide) rfl (Nat.le_of_ble_eq_true rfl) ?_
  intro p e s m args below meth c A hA X hr
  unfold wp_X6_bird at h
  show J p l e rm_X6_bird s m args below meth c 3 D dA ad R A (QI D dA ad R A below args s K) F 0 [(0, .ref (ad 0)), (1, .int a1), (2, .int a2)] []
  refine r_aload_n (pc := 0) X 0 dX6_bird_0 rfl rfl ?_
  refine r_iload_n (pc := 1) X 1 dX6_bird_1 rfl rfl ?_
  refine r_callIV (pc := 2) (As := [.int a1]) (st := []) X hA (c_X6_isBird hT h) g_X6_107 cl_X6 hT.1 hd_X6_isBird rfl rfl rfl ⟨Nat.le_of_ble_eq_true rfl, Nat.le_of_ble_eq_true rfl⟩ rfl (Nat.le_of_ble_eq_true rfl) dX6_bird_2 (fun x1 F1 h => ?_)
  refine r_if_ne (pc := 5) (tgt := 10) X dX6_bird_5 (by decide) (fun hc => ?_) (fun hc => ?_)
  · replace h := h.1 hc
    refine r_iload_n (pc := 10) X 2 dX6_bird_10 rfl rfl ?_
    by_cases hc0 : a2 = (nI 0)
    · replace h := h.1 hc0
      refine r_tableIn (pc := 11) (off := 37) (tgt := 48) X dX6_bird_11 (by rw [hc0]; decide) (by rw [hc0]; decide) (by rw [hc0]; decide) (by decide) ?_
      refine r_aload_n (pc := 48) X 0 dX6_bird_48 rfl rfl ?_
      refine fg_X6_19 (pc := 49) X hT.1 dX6_bird_49 ?_
      refine r_iload_n (pc := 52) X 1 dX6_bird_52 rfl rfl ?_
      refine r_callIV (pc := 53) (As := [.int a1]) (st := []) X hA (c_X1_strengthOf hT.2.2.1 h) g_X6_110 cl_X1 hT.2.2.1.1 hd_X1_strengthOf rfl rfl rfl ⟨Nat.le_of_ble_eq_true rfl, Nat.le_of_ble_eq_true rfl⟩ rfl (Nat.le_of_ble_eq_true rfl) dX6_bird_53 (fun x2 F2 h => ?_)
      exact r_iret (pc := 56) X hr dX6_bird_56 h
    · replace h := h.2
      by_cases hc1 : a2 = (nI 1)
      · replace h := h.1 hc1
        refine r_tableIn (pc := 11) (off := 46) (tgt := 57) X dX6_bird_11 (by rw [hc1]; decide) (by rw [hc1]; decide) (by rw [hc1]; decide) (by decide) ?_
        refine r_aload_n (pc := 57) X 0 dX6_bird_57 rfl rfl ?_
        refine fg_X6_19 (pc := 58) X hT.1 dX6_bird_58 ?_
        refine r_iload_n (pc := 61) X 1 dX6_bird_61 rfl rfl ?_
        refine r_callIV (pc := 62) (As := [.int a1]) (st := []) X hA (c_X1_lengthOf hT.2.2.1 h) g_X6_114 cl_X1 hT.2.2.1.1 hd_X1_lengthOf rfl rfl rfl ⟨Nat.le_of_ble_eq_true rfl, Nat.le_of_ble_eq_true rfl⟩ rfl (Nat.le_of_ble_eq_true rfl) dX6_bird_62 (fun x3 F3 h => ?_)
        exact r_iret (pc := 65) X hr dX6_bird_65 h
      · replace h := h.2
        by_cases hc2 : a2 = (nI 2)
        · replace h := h.1 hc2
          refine r_tableIn (pc := 11) (off := 55) (tgt := 66) X dX6_bird_11 (by rw [hc2]; decide) (by rw [hc2]; decide) (by rw [hc2]; decide) (by decide) ?_
          refine r_aload_n (pc := 66) X 0 dX6_bird_66 rfl rfl ?_
          refine fg_X6_19 (pc := 67) X hT.1 dX6_bird_67 ?_
          refine r_iload_n (pc := 70) X 1 dX6_bird_70 rfl rfl ?_
          refine r_callIV (pc := 71) (As := [.int a1]) (st := []) X hA (c_X1_kindOf hT.2.2.1 h) g_X6_117 cl_X1 hT.2.2.1.1 hd_X1_kindOf rfl rfl rfl ⟨Nat.le_of_ble_eq_true rfl, Nat.le_of_ble_eq_true rfl⟩ rfl (Nat.le_of_ble_eq_true rfl) dX6_bird_71 (fun x4 F4 h => ?_)
          exact r_iret (pc := 74) X hr dX6_bird_74 h
        · replace h := h.2
          by_cases hc3 : a2 = (nI 3)
          · replace h := h.1 hc3
            refine r_tableIn (pc := 11) (off := 64) (tgt := 75) X dX6_bird_11 (by rw [hc3]; decide) (by rw [hc3]; decide) (by rw [hc3]; decide) (by decide) ?_
            refine r_aload_n (pc := 75) X 0 dX6_bird_75 rfl rfl ?_
            refine fg_X6_19 (pc := 76) X hT.1 dX6_bird_76 ?_
            refine r_iload_n (pc := 79) X 1 dX6_bird_79 rfl rfl ?_
            refine r_callIV (pc := 80) (As := [.int a1]) (st := []) X hA (c_X1_woodOf hT.2.2.1 h) g_X6_120 cl_X1 hT.2.2.1.1 hd_X1_woodOf rfl rfl rfl ⟨Nat.le_of_ble_eq_true rfl, Nat.le_of_ble_eq_true rfl⟩ rfl (Nat.le_of_ble_eq_true rfl) dX6_bird_80 (fun x5 F5 h => ?_)
            exact r_iret (pc := 83) X hr dX6_bird_83 h
          · replace h := h.2
            by_cases hc4 : a2 = (nI 4)
            · replace h := h.1 hc4
              refine r_tableIn (pc := 11) (off := 73) (tgt := 84) X dX6_bird_11 (by rw [hc4]; decide) (by rw [hc4]; decide) (by rw [hc4]; decide) (by decide) ?_
              refine r_aload_n (pc := 84) X 0 dX6_bird_84 rfl rfl ?_
              refine fg_X6_31 (pc := 85) X hT.1 dX6_bird_85 ?_
              refine r_bridge_X6 (pc := 88) (t1 := 17) X hA rfl hT.2.2.2.2.1 (Nat.le_of_ble_eq_true rfl) (Nat.le_of_ble_eq_true rfl) (Nat.le_of_ble_eq_true rfl) dX6_bird_88 ?_
              refine r_iload_n (pc := 91) X 1 dX6_bird_91 rfl rfl ?_
              refine r_callIV (pc := 92) (As := [.int a1]) (st := []) X hA (c_X0_tiredOf hT.2.2.2.2.1.2 h) g_X6_127 cl_X0 hT.2.2.2.2.1.2.1 hd_X0_tiredOf rfl rfl rfl ⟨Nat.le_of_ble_eq_true rfl, Nat.le_of_ble_eq_true rfl⟩ rfl (Nat.le_of_ble_eq_true rfl) dX6_bird_92 (fun x6 F6 h => ?_)
              exact r_iret (pc := 95) X hr dX6_bird_95 h
            · replace h := h.2
              by_cases hc5 : a2 = (nI 5)
              · replace h := h.1 hc5
                refine r_tableIn (pc := 11) (off := 85) (tgt := 96) X dX6_bird_11 (by rw [hc5]; decide) (by rw [hc5]; decide) (by rw [hc5]; decide) (by decide) ?_
                refine r_aload_n (pc := 96) X 0 dX6_bird_96 rfl rfl ?_
                refine fg_X6_31 (pc := 97) X hT.1 dX6_bird_97 ?_
                refine r_bridge_X6 (pc := 100) (t1 := 17) X hA rfl hT.2.2.2.2.1 (Nat.le_of_ble_eq_true rfl) (Nat.le_of_ble_eq_true rfl) (Nat.le_of_ble_eq_true rfl) dX6_bird_100 ?_
                refine r_iload_n (pc := 103) X 1 dX6_bird_103 rfl rfl ?_
                refine r_callIV (pc := 104) (As := [.int a1]) (st := []) X hA (c_X0_positionOf hT.2.2.2.2.1.2 h) g_X6_130 cl_X0 hT.2.2.2.2.1.2.1 hd_X0_positionOf rfl rfl rfl ⟨Nat.le_of_ble_eq_true rfl, Nat.le_of_ble_eq_true rfl⟩ rfl (Nat.le_of_ble_eq_true rfl) dX6_bird_104 (fun x7 F7 h => ?_)
                exact r_iret (pc := 107) X hr dX6_bird_107 h
              · replace h := h.2
                replace h := h hc0 hc1 hc2 hc3 hc4 hc5
                refine r_tableOut (pc := 11) (tgt := 108) X dX6_bird_11 (sw_out (x := a2) 5 (by decide) (fun k hk => by rcases (show k = 0 ∨ k = 1 ∨ k = 2 ∨ k = 3 ∨ k = 4 ∨ k = 5 by omega) with rfl | rfl | rfl | rfl | rfl | rfl <;> first | exact hc0 | exact hc1 | exact hc2 | exact hc3 | exact hc4 | exact hc5)) (by decide) ?_
                refine r_iconst (pc := 108) (v := (-1 : Int32)) X dX6_bird_108 (by decide) ?_
                exact r_iret (pc := 109) X hr dX6_bird_109 h
  · replace h := h.2 hc
    refine r_iconst (pc := 8) (v := (-1 : Int32)) X dX6_bird_8 (by decide) ?_
    exact r_iret (pc := 9) X hr dX6_bird_9 h
theorem dX6_wind_0 : decode cX6_wind 0 = .ok (.iload_n 1, 1) := by decide +kernel
theorem dX6_wind_1 : decode cX6_wind 1 = .ok (.ifCond .lt 9, 3) := by decide +kernel
theorem dX6_wind_4 : decode cX6_wind 4 = .ok (.iload_n 1, 1) := by decide +kernel
theorem dX6_wind_5 : decode cX6_wind 5 = .ok (.bipush 99, 2) := by decide +kernel
theorem dX6_wind_7 : decode cX6_wind 7 = .ok (.if_icmp .le 7, 3) := by decide +kernel
theorem dX6_wind_10 : decode cX6_wind 10 = .ok (.iconst (-1), 1) := by decide +kernel
theorem dX6_wind_11 : decode cX6_wind 11 = .ok (.goto 11, 3) := by decide +kernel
theorem dX6_wind_14 : decode cX6_wind 14 = .ok (.aload_n 0, 1) := by decide +kernel
theorem dX6_wind_15 : decode cX6_wind 15 = .ok (.getfield 19, 3) := by decide +kernel
theorem dX6_wind_18 : decode cX6_wind 18 = .ok (.iload_n 1, 1) := by decide +kernel
theorem dX6_wind_19 : decode cX6_wind 19 = .ok (.invokevirtual 133, 3) := by decide +kernel
theorem dX6_wind_22 : decode cX6_wind 22 = .ok (.ireturn, 1) := by decide +kernel
theorem hd_X6_wind : yX6_wind.cls = RX6 ∧ yX6_wind.cls ≠ "java/lang/invoke/MethodHandle" ∧ yX6_wind.cls ≠ "java/lang/invoke/VarHandle" ∧ (parseMethodDescriptor yX6_wind.desc).map (fun d => d.parameters.length) = some 1 := by decide +kernel
abbrev rm_X6_wind : Room := { frames := 1, cells := 0, slots := 0, locals := 21 }
def wp_X6_wind (K : Int32 → HF → Prop) (F : HF) (a1 : Int32) : Prop := ((a1 < (nI 0)) → (K (-1 : Int32) F)) ∧ ((¬ a1 < (nI 0)) → (((a1 ≤ (nI 99)) → (wp_X1_windIn (fun x1 F1 => K x1 F1) F 4 a1)) ∧ ((¬ a1 ≤ (nI 99)) → (K (-1 : Int32) F))))
set_option maxRecDepth 100000 in
set_option maxHeartbeats 4000000 in
theorem c_X6_wind {l : Launch} {D : va_G} {dA : Nat → ClassId} {ad : Nat → Nat} {R : List Nat} {F : HF} {a1 : Int32} {K : Int32 → HF → Prop} (hT : BBr R) (h : wp_X6_wind K F a1) : MI l yX6_wind cX6_wind 2 .int rm_X6_wind D dA ad R F [.ref (ad 0), .int a1] K := by
  refine MI.of (own := RX6) (by decide) rfl (Nat.le_of_ble_eq_true rfl) ?_
  intro p e s m args below meth c A hA X hr
  unfold wp_X6_wind at h
  show J p l e rm_X6_wind s m args below meth c 2 D dA ad R A (QI D dA ad R A below args s K) F 0 [(0, .ref (ad 0)), (1, .int a1)] []
  refine r_iload_n (pc := 0) X 1 dX6_wind_0 rfl rfl ?_
  refine r_if_lt (pc := 1) (tgt := 10) X dX6_wind_1 (by decide) (fun hc => ?_) (fun hc => ?_)
  · replace h := h.1 hc
    refine r_iconst (pc := 10) (v := (-1 : Int32)) X dX6_wind_10 (by decide) ?_
    refine r_goto (pc := 11) (tgt := 22) X dX6_wind_11 (by decide) ?_
    exact r_iret (pc := 22) X hr dX6_wind_22 h
  · replace h := h.2 hc
    refine r_iload_n (pc := 4) X 1 dX6_wind_4 rfl rfl ?_
    refine r_bipush (pc := 5) (v := (nI 99)) X dX6_wind_5 (by decide) ?_
    refine r_icmp_le (pc := 7) (tgt := 14) X dX6_wind_7 (by decide) (fun hc => ?_) (fun hc => ?_)
    · replace h := h.1 hc
      refine r_aload_n (pc := 14) X 0 dX6_wind_14 rfl rfl ?_
      refine fg_X6_19 (pc := 15) X hT.1 dX6_wind_15 ?_
      refine r_iload_n (pc := 18) X 1 dX6_wind_18 rfl rfl ?_
      refine r_callIV (pc := 19) (As := [.int a1]) (st := []) X hA (c_X1_windIn hT.2.2.1 h) g_X6_133 cl_X1 hT.2.2.1.1 hd_X1_windIn rfl rfl rfl ⟨Nat.le_of_ble_eq_true rfl, Nat.le_of_ble_eq_true rfl⟩ rfl (Nat.le_of_ble_eq_true rfl) dX6_wind_19 (fun x1 F1 h => ?_)
      exact r_iret (pc := 22) X hr dX6_wind_22 h
    · replace h := h.2 hc
      refine r_iconst (pc := 10) (v := (-1 : Int32)) X dX6_wind_10 (by decide) ?_
      refine r_goto (pc := 11) (tgt := 22) X dX6_wind_11 (by decide) ?_
      exact r_iret (pc := 22) X hr dX6_wind_22 h
theorem dX6_loadNow_0 : decode cX6_loadNow 0 = .ok (.aload_n 0, 1) := by decide +kernel
theorem dX6_loadNow_1 : decode cX6_loadNow 1 = .ok (.getfield 38, 3) := by decide +kernel
theorem dX6_loadNow_4 : decode cX6_loadNow 4 = .ok (.aload_n 0, 1) := by decide +kernel
theorem dX6_loadNow_5 : decode cX6_loadNow 5 = .ok (.getfield 31, 3) := by decide +kernel
theorem dX6_loadNow_8 : decode cX6_loadNow 8 = .ok (.invokevirtual 123, 3) := by decide +kernel
theorem dX6_loadNow_11 : decode cX6_loadNow 11 = .ok (.invokevirtual 197, 3) := by decide +kernel
theorem dX6_loadNow_14 : decode cX6_loadNow 14 = .ok (.aload_n 0, 1) := by decide +kernel
theorem dX6_loadNow_15 : decode cX6_loadNow 15 = .ok (.getfield 38, 3) := by decide +kernel
theorem dX6_loadNow_18 : decode cX6_loadNow 18 = .ok (.invokevirtual 257, 3) := by decide +kernel
theorem dX6_loadNow_21 : decode cX6_loadNow 21 = .ok (.aload_n 0, 1) := by decide +kernel
theorem dX6_loadNow_22 : decode cX6_loadNow 22 = .ok (.getfield 31, 3) := by decide +kernel
theorem dX6_loadNow_25 : decode cX6_loadNow 25 = .ok (.invokevirtual 183, 3) := by decide +kernel
theorem dX6_loadNow_28 : decode cX6_loadNow 28 = .ok (.ifCond .eq 39, 3) := by decide +kernel
theorem dX6_loadNow_31 : decode cX6_loadNow 31 = .ok (.aload_n 0, 1) := by decide +kernel
theorem dX6_loadNow_32 : decode cX6_loadNow 32 = .ok (.getfield 38, 3) := by decide +kernel
theorem dX6_loadNow_35 : decode cX6_loadNow 35 = .ok (.aload_n 0, 1) := by decide +kernel
theorem dX6_loadNow_36 : decode cX6_loadNow 36 = .ok (.getfield 31, 3) := by decide +kernel
theorem dX6_loadNow_39 : decode cX6_loadNow 39 = .ok (.invokevirtual 174, 3) := by decide +kernel
theorem dX6_loadNow_42 : decode cX6_loadNow 42 = .ok (.aload_n 0, 1) := by decide +kernel
theorem dX6_loadNow_43 : decode cX6_loadNow 43 = .ok (.getfield 31, 3) := by decide +kernel
theorem dX6_loadNow_46 : decode cX6_loadNow 46 = .ok (.invokevirtual 189, 3) := by decide +kernel
theorem dX6_loadNow_49 : decode cX6_loadNow 49 = .ok (.aload_n 0, 1) := by decide +kernel
theorem dX6_loadNow_50 : decode cX6_loadNow 50 = .ok (.getfield 19, 3) := by decide +kernel
theorem dX6_loadNow_53 : decode cX6_loadNow 53 = .ok (.aload_n 0, 1) := by decide +kernel
theorem dX6_loadNow_54 : decode cX6_loadNow 54 = .ok (.getfield 31, 3) := by decide +kernel
theorem dX6_loadNow_57 : decode cX6_loadNow 57 = .ok (.invokevirtual 200, 3) := by decide +kernel
theorem dX6_loadNow_60 : decode cX6_loadNow 60 = .ok (.invokevirtual 133, 3) := by decide +kernel
theorem dX6_loadNow_63 : decode cX6_loadNow 63 = .ok (.iadd, 1) := by decide +kernel
theorem dX6_loadNow_64 : decode cX6_loadNow 64 = .ok (.invokevirtual 260, 3) := by decide +kernel
theorem dX6_loadNow_67 : decode cX6_loadNow 67 = .ok (.aload_n 0, 1) := by decide +kernel
theorem dX6_loadNow_68 : decode cX6_loadNow 68 = .ok (.getfield 38, 3) := by decide +kernel
theorem dX6_loadNow_71 : decode cX6_loadNow 71 = .ok (.iload_n 1, 1) := by decide +kernel
theorem dX6_loadNow_72 : decode cX6_loadNow 72 = .ok (.invokevirtual 264, 3) := by decide +kernel
theorem dX6_loadNow_75 : decode cX6_loadNow 75 = .ok (.ireturn, 1) := by decide +kernel
theorem hd_X6_loadNow : yX6_loadNow.cls = RX6 ∧ yX6_loadNow.cls ≠ "java/lang/invoke/MethodHandle" ∧ yX6_loadNow.cls ≠ "java/lang/invoke/VarHandle" ∧ (parseMethodDescriptor yX6_loadNow.desc).map (fun d => d.parameters.length) = some 1 := by decide +kernel
abbrev rm_X6_loadNow : Room := { frames := 3, cells := 0, slots := 0, locals := 69 }
def wp_X6_loadNow_67 (K : Int32 → HF → Prop) (F : HF) (v1 : Int32) : Prop := wp_X0_borneAt (fun x2 F104 => K x2 F104) F 21 v1
set_option maxRecDepth 100000 in
set_option maxHeartbeats 4000000 in
theorem k_X6_loadNow_67 {p : Program} {l : Launch} {e : Env} {s : State} {m : MethodId} {args : Array Value} {below : List Frame} {meth : Method} {c : Code} {D : va_G} {dA : Nat → ClassId} {ad : Nat → Nat} {R : List Nat} {A : Nat → Prop} {K : Int32 → HF → Prop} (X : Cx p s m args meth c cX6_loadNow 2 RX6 D dA) (hA : ∀ q, s.heap.size ≤ q → A q) (hr : meth.sig.returnType = some .int) (hT : BBr R) : ∀ (F : HF) (v1 : Int32), wp_X6_loadNow_67 K  F v1 → J p l e rm_X6_loadNow s m args below meth c 2 D dA ad R A (QI D dA ad R A below args s K) F 67 [(0, .ref (ad 0)), (1, .int v1)] [] := by
  intro F v1 h
  unfold wp_X6_loadNow_67 at h
  refine r_aload_n (pc := 67) X 0 dX6_loadNow_67 rfl rfl ?_
  refine fg_X6_38 (pc := 68) X hT.1 dX6_loadNow_68 ?_
  refine r_iload_n (pc := 71) X 1 dX6_loadNow_71 rfl rfl ?_
  refine r_callIV (pc := 72) (As := [.int v1]) (st := []) X hA (c_X0_borneAt hT.2.2.2.2.2.1 h) g_X6_264 cl_X0 hT.2.2.2.2.2.1.1 hd_X0_borneAt rfl rfl rfl ⟨Nat.le_of_ble_eq_true rfl, Nat.le_of_ble_eq_true rfl⟩ rfl (Nat.le_of_ble_eq_true rfl) dX6_loadNow_72 (fun x2 F104 h => ?_)
  exact r_iret (pc := 75) X hr dX6_loadNow_75 h
def wp_X6_loadNow (K : Int32 → HF → Prop) (F : HF) (a1 : Int32) : Prop := wp_X0_copyFrom (fun F1 => wp_X0_unload (fun F2 => wp_X2_isOnBridge (fun x1 F3 => ((x1 = (nI 0)) → (wp_X6_loadNow_67 K  F3 a1)) ∧ ((¬ x1 = (nI 0)) → (wp_X2_place (fun x3 F105 => wp_X2_weight (fun x4 F106 => wp_X2_minute (fun x5 F107 => wp_X1_windIn (fun x6 F108 => wp_X0_press (fun F109 => wp_X6_loadNow_67 K  F109 a1) F108 21 x3 (x4 + x6)) F107 4 x5) F106 16) F105 16) F3 16))) F2 16) F1 21) F 21 17
set_option maxRecDepth 100000 in
set_option maxHeartbeats 4000000 in
theorem c_X6_loadNow {l : Launch} {D : va_G} {dA : Nat → ClassId} {ad : Nat → Nat} {R : List Nat} {F : HF} {a1 : Int32} {K : Int32 → HF → Prop} (hT : BBr R) (h : wp_X6_loadNow K F a1) : MI l yX6_loadNow cX6_loadNow 2 .int rm_X6_loadNow D dA ad R F [.ref (ad 0), .int a1] K := by
  refine MI.of (own := RX6) (by decide) rfl (Nat.le_of_ble_eq_true rfl) ?_
  intro p e s m args below meth c A hA X hr
  unfold wp_X6_loadNow at h
  show J p l e rm_X6_loadNow s m args below meth c 2 D dA ad R A (QI D dA ad R A below args s K) F 0 [(0, .ref (ad 0)), (1, .int a1)] []
  refine r_aload_n (pc := 0) X 0 dX6_loadNow_0 rfl rfl ?_
  refine fg_X6_38 (pc := 1) X hT.1 dX6_loadNow_1 ?_
  refine r_aload_n (pc := 4) X 0 dX6_loadNow_4 rfl rfl ?_
  refine fg_X6_31 (pc := 5) X hT.1 dX6_loadNow_5 ?_
  refine r_bridge_X6 (pc := 8) (t1 := 17) X hA rfl hT.2.2.2.2.1 (Nat.le_of_ble_eq_true rfl) (Nat.le_of_ble_eq_true rfl) (Nat.le_of_ble_eq_true rfl) dX6_loadNow_8 ?_
  refine r_callVV (pc := 11) (As := [.ref (ad 17)]) (st := []) X hA (c_X0_copyFrom hT.2.2.2.2.2.1 hT.2.2.2.2.1.2 h) g_X6_197 cl_X0 hT.2.2.2.2.2.1.1 hd_X0_copyFrom rfl rfl rfl ⟨Nat.le_of_ble_eq_true rfl, Nat.le_of_ble_eq_true rfl⟩ rfl (Nat.le_of_ble_eq_true rfl) dX6_loadNow_11 (fun F1 h => ?_)
  refine r_aload_n (pc := 14) X 0 dX6_loadNow_14 rfl rfl ?_
  refine fg_X6_38 (pc := 15) X hT.1 dX6_loadNow_15 ?_
  refine r_callVV (pc := 18) (As := []) (st := []) X hA (c_X0_unload hT.2.2.2.2.2.1 h) g_X6_257 cl_X0 hT.2.2.2.2.2.1.1 hd_X0_unload rfl rfl rfl ⟨Nat.le_of_ble_eq_true rfl, Nat.le_of_ble_eq_true rfl⟩ rfl (Nat.le_of_ble_eq_true rfl) dX6_loadNow_18 (fun F2 h => ?_)
  refine r_aload_n (pc := 21) X 0 dX6_loadNow_21 rfl rfl ?_
  refine fg_X6_31 (pc := 22) X hT.1 dX6_loadNow_22 ?_
  refine r_callIV (pc := 25) (As := []) (st := []) X hA (c_X2_isOnBridge hT.2.2.2.2.1 h) g_X6_183 cl_X2 hT.2.2.2.2.1.1 hd_X2_isOnBridge rfl rfl rfl ⟨Nat.le_of_ble_eq_true rfl, Nat.le_of_ble_eq_true rfl⟩ rfl (Nat.le_of_ble_eq_true rfl) dX6_loadNow_25 (fun x1 F3 h => ?_)
  refine r_if_eq (pc := 28) (tgt := 67) X dX6_loadNow_28 (by decide) (fun hc => ?_) (fun hc => ?_)
  · replace h := h.1 hc
    exact k_X6_loadNow_67 X hA hr hT  _ _ h
  · replace h := h.2 hc
    refine r_aload_n (pc := 31) X 0 dX6_loadNow_31 rfl rfl ?_
    refine fg_X6_38 (pc := 32) X hT.1 dX6_loadNow_32 ?_
    refine r_aload_n (pc := 35) X 0 dX6_loadNow_35 rfl rfl ?_
    refine fg_X6_31 (pc := 36) X hT.1 dX6_loadNow_36 ?_
    refine r_callIV (pc := 39) (As := []) (st := [.ref (ad 21)]) X hA (c_X2_place hT.2.2.2.2.1 h) g_X6_174 cl_X2 hT.2.2.2.2.1.1 hd_X2_place rfl rfl rfl ⟨Nat.le_of_ble_eq_true rfl, Nat.le_of_ble_eq_true rfl⟩ rfl (Nat.le_of_ble_eq_true rfl) dX6_loadNow_39 (fun x3 F105 h => ?_)
    refine r_aload_n (pc := 42) X 0 dX6_loadNow_42 rfl rfl ?_
    refine fg_X6_31 (pc := 43) X hT.1 dX6_loadNow_43 ?_
    refine r_callIV (pc := 46) (As := []) (st := [.int x3, .ref (ad 21)]) X hA (c_X2_weight hT.2.2.2.2.1 h) g_X6_189 cl_X2 hT.2.2.2.2.1.1 hd_X2_weight rfl rfl rfl ⟨Nat.le_of_ble_eq_true rfl, Nat.le_of_ble_eq_true rfl⟩ rfl (Nat.le_of_ble_eq_true rfl) dX6_loadNow_46 (fun x4 F106 h => ?_)
    refine r_aload_n (pc := 49) X 0 dX6_loadNow_49 rfl rfl ?_
    refine fg_X6_19 (pc := 50) X hT.1 dX6_loadNow_50 ?_
    refine r_aload_n (pc := 53) X 0 dX6_loadNow_53 rfl rfl ?_
    refine fg_X6_31 (pc := 54) X hT.1 dX6_loadNow_54 ?_
    refine r_callIV (pc := 57) (As := []) (st := [.ref (ad 4), .int x4, .int x3, .ref (ad 21)]) X hA (c_X2_minute hT.2.2.2.2.1 h) g_X6_200 cl_X2 hT.2.2.2.2.1.1 hd_X2_minute rfl rfl rfl ⟨Nat.le_of_ble_eq_true rfl, Nat.le_of_ble_eq_true rfl⟩ rfl (Nat.le_of_ble_eq_true rfl) dX6_loadNow_57 (fun x5 F107 h => ?_)
    refine r_callIV (pc := 60) (As := [.int x5]) (st := [.int x4, .int x3, .ref (ad 21)]) X hA (c_X1_windIn hT.2.2.1 h) g_X6_133 cl_X1 hT.2.2.1.1 hd_X1_windIn rfl rfl rfl ⟨Nat.le_of_ble_eq_true rfl, Nat.le_of_ble_eq_true rfl⟩ rfl (Nat.le_of_ble_eq_true rfl) dX6_loadNow_60 (fun x6 F108 h => ?_)
    refine r_iadd (pc := 63) X dX6_loadNow_63 ?_
    refine r_callVV (pc := 64) (As := [.int x3, .int (x4 + x6)]) (st := []) X hA (c_X0_press hT.2.2.2.2.2.1 h) g_X6_260 cl_X0 hT.2.2.2.2.2.1.1 hd_X0_press rfl rfl rfl ⟨Nat.le_of_ble_eq_true rfl, Nat.le_of_ble_eq_true rfl⟩ rfl (Nat.le_of_ble_eq_true rfl) dX6_loadNow_64 (fun F109 h => ?_)
    exact k_X6_loadNow_67 X hA hr hT  _ _ h
theorem dX6_span_0 : decode cX6_span 0 = .ok (.aload_n 0, 1) := by decide +kernel
theorem dX6_span_1 : decode cX6_span 1 = .ok (.getfield 31, 3) := by decide +kernel
theorem dX6_span_4 : decode cX6_span 4 = .ok (.invokevirtual 123, 3) := by decide +kernel
theorem dX6_span_7 : decode cX6_span 7 = .ok (.astore_n 3, 1) := by decide +kernel
theorem dX6_span_8 : decode cX6_span 8 = .ok (.iload_n 1, 1) := by decide +kernel
theorem dX6_span_9 : decode cX6_span 9 = .ok (.ifCond .lt 11, 3) := by decide +kernel
theorem dX6_span_12 : decode cX6_span 12 = .ok (.iload_n 1, 1) := by decide +kernel
theorem dX6_span_13 : decode cX6_span 13 = .ok (.aload_n 3, 1) := by decide +kernel
theorem dX6_span_14 : decode cX6_span 14 = .ok (.invokevirtual 136, 3) := by decide +kernel
theorem dX6_span_17 : decode cX6_span 17 = .ok (.if_icmp .lt 5, 3) := by decide +kernel
theorem dX6_span_20 : decode cX6_span 20 = .ok (.iconst (-1), 1) := by decide +kernel
theorem dX6_span_21 : decode cX6_span 21 = .ok (.ireturn, 1) := by decide +kernel
theorem dX6_span_22 : decode cX6_span 22 = .ok (.iload_n 2, 1) := by decide +kernel
theorem dX6_span_23 : decode cX6_span 23 = .ok (.tableswitch 53 0 3 #[29, 35, 41, 47], 29) := by decide +kernel
theorem dX6_span_52 : decode cX6_span 52 = .ok (.aload_n 3, 1) := by decide +kernel
theorem dX6_span_53 : decode cX6_span 53 = .ok (.iload_n 1, 1) := by decide +kernel
theorem dX6_span_54 : decode cX6_span 54 = .ok (.invokevirtual 139, 3) := by decide +kernel
theorem dX6_span_57 : decode cX6_span 57 = .ok (.ireturn, 1) := by decide +kernel
theorem dX6_span_58 : decode cX6_span 58 = .ok (.aload_n 3, 1) := by decide +kernel
theorem dX6_span_59 : decode cX6_span 59 = .ok (.iload_n 1, 1) := by decide +kernel
theorem dX6_span_60 : decode cX6_span 60 = .ok (.invokevirtual 142, 3) := by decide +kernel
theorem dX6_span_63 : decode cX6_span 63 = .ok (.ireturn, 1) := by decide +kernel
theorem dX6_span_64 : decode cX6_span 64 = .ok (.aload_n 3, 1) := by decide +kernel
theorem dX6_span_65 : decode cX6_span 65 = .ok (.iload_n 1, 1) := by decide +kernel
theorem dX6_span_66 : decode cX6_span 66 = .ok (.invokevirtual 145, 3) := by decide +kernel
theorem dX6_span_69 : decode cX6_span 69 = .ok (.ireturn, 1) := by decide +kernel
theorem dX6_span_70 : decode cX6_span 70 = .ok (.aload_n 0, 1) := by decide +kernel
theorem dX6_span_71 : decode cX6_span 71 = .ok (.iload_n 1, 1) := by decide +kernel
theorem dX6_span_72 : decode cX6_span 72 = .ok (.invokevirtual 148, 3) := by decide +kernel
theorem dX6_span_75 : decode cX6_span 75 = .ok (.ireturn, 1) := by decide +kernel
theorem dX6_span_76 : decode cX6_span 76 = .ok (.iconst (-1), 1) := by decide +kernel
theorem dX6_span_77 : decode cX6_span 77 = .ok (.ireturn, 1) := by decide +kernel
theorem hd_X6_span : yX6_span.cls = RX6 ∧ yX6_span.cls ≠ "java/lang/invoke/MethodHandle" ∧ yX6_span.cls ≠ "java/lang/invoke/VarHandle" ∧ (parseMethodDescriptor yX6_span.desc).map (fun d => d.parameters.length) = some 2 := by decide +kernel
abbrev rm_X6_span : Room := { frames := 4, cells := 0, slots := 0, locals := 90 }
def wp_X6_span (K : Int32 → HF → Prop) (F : HF) (a1 : Int32) (a2 : Int32) : Prop := ((a1 < (nI 0)) → (K (-1 : Int32) F)) ∧ ((¬ a1 < (nI 0)) → (wp_X0_size (fun x1 F1 => ((a1 < x1) → ((((a2 = (nI 0)) → (wp_X0_birdAt (fun x2 F2 => K x2 F2) F1 17 a1))) ∧ (((a2 = (nI 1)) → (wp_X0_firstPlaceOf (fun x3 F3 => K x3 F3) F1 17 a1))) ∧ (((a2 = (nI 2)) → (wp_X0_powerAt (fun x4 F4 => K x4 F4) F1 17 a1))) ∧ (((a2 = (nI 3)) → (wp_X6_loadNow (fun x5 F5 => K x5 F5) F1 a1))) ∧ ((¬ a2 = (nI 0)) → (¬ a2 = (nI 1)) → (¬ a2 = (nI 2)) → (¬ a2 = (nI 3)) → (K (-1 : Int32) F1)))) ∧ ((¬ a1 < x1) → (K (-1 : Int32) F1))) F 17))
set_option maxRecDepth 100000 in
set_option maxHeartbeats 4000000 in
theorem c_X6_span {l : Launch} {D : va_G} {dA : Nat → ClassId} {ad : Nat → Nat} {R : List Nat} {F : HF} {a1 : Int32} {a2 : Int32} {K : Int32 → HF → Prop} (hT : BBr R) (h : wp_X6_span K F a1 a2) : MI l yX6_span cX6_span 4 .int rm_X6_span D dA ad R F [.ref (ad 0), .int a1, .int a2] K := by
  refine MI.of (own := RX6) (by decide) rfl (Nat.le_of_ble_eq_true rfl) ?_
  intro p e s m args below meth c A hA X hr
  unfold wp_X6_span at h
  show J p l e rm_X6_span s m args below meth c 4 D dA ad R A (QI D dA ad R A below args s K) F 0 [(0, .ref (ad 0)), (1, .int a1), (2, .int a2)] []
  refine r_aload_n (pc := 0) X 0 dX6_span_0 rfl rfl ?_
  refine fg_X6_31 (pc := 1) X hT.1 dX6_span_1 ?_
  refine r_bridge_X6 (pc := 4) (t1 := 17) X hA rfl hT.2.2.2.2.1 (Nat.le_of_ble_eq_true rfl) (Nat.le_of_ble_eq_true rfl) (Nat.le_of_ble_eq_true rfl) dX6_span_4 ?_
  refine r_astore_n (pc := 7) X [(3, .ref (ad 17)), (0, .ref (ad 0)), (1, .int a1), (2, .int a2)] dX6_span_7 rfl (by decide) rfl ?_
  refine r_iload_n (pc := 8) X 2 dX6_span_8 rfl rfl ?_
  refine r_if_lt (pc := 9) (tgt := 20) X dX6_span_9 (by decide) (fun hc => ?_) (fun hc => ?_)
  · replace h := h.1 hc
    refine r_iconst (pc := 20) (v := (-1 : Int32)) X dX6_span_20 (by decide) ?_
    exact r_iret (pc := 21) X hr dX6_span_21 h
  · replace h := h.2 hc
    refine r_iload_n (pc := 12) X 2 dX6_span_12 rfl rfl ?_
    refine r_aload_n (pc := 13) X 0 dX6_span_13 rfl rfl ?_
    refine r_callIV (pc := 14) (As := []) (st := [.int a1]) X hA (c_X0_size hT.2.2.2.2.1.2 h) g_X6_136 cl_X0 hT.2.2.2.2.1.2.1 hd_X0_size rfl rfl rfl ⟨Nat.le_of_ble_eq_true rfl, Nat.le_of_ble_eq_true rfl⟩ rfl (Nat.le_of_ble_eq_true rfl) dX6_span_14 (fun x1 F1 h => ?_)
    refine r_icmp_lt (pc := 17) (tgt := 22) X dX6_span_17 (by decide) (fun hc => ?_) (fun hc => ?_)
    · replace h := h.1 hc
      refine r_iload_n (pc := 22) X 3 dX6_span_22 rfl rfl ?_
      by_cases hc0 : a2 = (nI 0)
      · replace h := h.1 hc0
        refine r_tableIn (pc := 23) (off := 29) (tgt := 52) X dX6_span_23 (by rw [hc0]; decide) (by rw [hc0]; decide) (by rw [hc0]; decide) (by decide) ?_
        refine r_aload_n (pc := 52) X 0 dX6_span_52 rfl rfl ?_
        refine r_iload_n (pc := 53) X 2 dX6_span_53 rfl rfl ?_
        refine r_callIV (pc := 54) (As := [.int a1]) (st := []) X hA (c_X0_birdAt hT.2.2.2.2.1.2 h) g_X6_139 cl_X0 hT.2.2.2.2.1.2.1 hd_X0_birdAt rfl rfl rfl ⟨Nat.le_of_ble_eq_true rfl, Nat.le_of_ble_eq_true rfl⟩ rfl (Nat.le_of_ble_eq_true rfl) dX6_span_54 (fun x2 F2 h => ?_)
        exact r_iret (pc := 57) X hr dX6_span_57 h
      · replace h := h.2
        by_cases hc1 : a2 = (nI 1)
        · replace h := h.1 hc1
          refine r_tableIn (pc := 23) (off := 35) (tgt := 58) X dX6_span_23 (by rw [hc1]; decide) (by rw [hc1]; decide) (by rw [hc1]; decide) (by decide) ?_
          refine r_aload_n (pc := 58) X 0 dX6_span_58 rfl rfl ?_
          refine r_iload_n (pc := 59) X 2 dX6_span_59 rfl rfl ?_
          refine r_callIV (pc := 60) (As := [.int a1]) (st := []) X hA (c_X0_firstPlaceOf hT.2.2.2.2.1.2 h) g_X6_142 cl_X0 hT.2.2.2.2.1.2.1 hd_X0_firstPlaceOf rfl rfl rfl ⟨Nat.le_of_ble_eq_true rfl, Nat.le_of_ble_eq_true rfl⟩ rfl (Nat.le_of_ble_eq_true rfl) dX6_span_60 (fun x3 F3 h => ?_)
          exact r_iret (pc := 63) X hr dX6_span_63 h
        · replace h := h.2
          by_cases hc2 : a2 = (nI 2)
          · replace h := h.1 hc2
            refine r_tableIn (pc := 23) (off := 41) (tgt := 64) X dX6_span_23 (by rw [hc2]; decide) (by rw [hc2]; decide) (by rw [hc2]; decide) (by decide) ?_
            refine r_aload_n (pc := 64) X 0 dX6_span_64 rfl rfl ?_
            refine r_iload_n (pc := 65) X 2 dX6_span_65 rfl rfl ?_
            refine r_callIV (pc := 66) (As := [.int a1]) (st := []) X hA (c_X0_powerAt hT.2.2.2.2.1.2 h) g_X6_145 cl_X0 hT.2.2.2.2.1.2.1 hd_X0_powerAt rfl rfl rfl ⟨Nat.le_of_ble_eq_true rfl, Nat.le_of_ble_eq_true rfl⟩ rfl (Nat.le_of_ble_eq_true rfl) dX6_span_66 (fun x4 F4 h => ?_)
            exact r_iret (pc := 69) X hr dX6_span_69 h
          · replace h := h.2
            by_cases hc3 : a2 = (nI 3)
            · replace h := h.1 hc3
              refine r_tableIn (pc := 23) (off := 47) (tgt := 70) X dX6_span_23 (by rw [hc3]; decide) (by rw [hc3]; decide) (by rw [hc3]; decide) (by decide) ?_
              refine r_aload_n (pc := 70) X 1 dX6_span_70 rfl rfl ?_
              refine r_iload_n (pc := 71) X 2 dX6_span_71 rfl rfl ?_
              refine r_callIV (pc := 72) (As := [.int a1]) (st := []) X hA (c_X6_loadNow hT h) g_X6_148 cl_X6 hT.1 hd_X6_loadNow rfl rfl rfl ⟨Nat.le_of_ble_eq_true rfl, Nat.le_of_ble_eq_true rfl⟩ rfl (Nat.le_of_ble_eq_true rfl) dX6_span_72 (fun x5 F5 h => ?_)
              exact r_iret (pc := 75) X hr dX6_span_75 h
            · replace h := h.2
              replace h := h hc0 hc1 hc2 hc3
              refine r_tableOut (pc := 23) (tgt := 76) X dX6_span_23 (sw_out (x := a2) 3 (by decide) (fun k hk => by rcases (show k = 0 ∨ k = 1 ∨ k = 2 ∨ k = 3 by omega) with rfl | rfl | rfl | rfl <;> first | exact hc0 | exact hc1 | exact hc2 | exact hc3)) (by decide) ?_
              refine r_iconst (pc := 76) (v := (-1 : Int32)) X dX6_span_76 (by decide) ?_
              exact r_iret (pc := 77) X hr dX6_span_77 h
    · replace h := h.2 hc
      refine r_iconst (pc := 20) (v := (-1 : Int32)) X dX6_span_20 (by decide) ?_
      exact r_iret (pc := 21) X hr dX6_span_21 h
theorem dX6_join_0 : decode cX6_join 0 = .ok (.aload_n 0, 1) := by decide +kernel
theorem dX6_join_1 : decode cX6_join 1 = .ok (.iload_n 1, 1) := by decide +kernel
theorem dX6_join_2 : decode cX6_join 2 = .ok (.invokevirtual 107, 3) := by decide +kernel
theorem dX6_join_5 : decode cX6_join 5 = .ok (.ifCond .ne 5, 3) := by decide +kernel
theorem dX6_join_8 : decode cX6_join 8 = .ok (.iconst (-1), 1) := by decide +kernel
theorem dX6_join_9 : decode cX6_join 9 = .ok (.ireturn, 1) := by decide +kernel
theorem dX6_join_10 : decode cX6_join 10 = .ok (.aload_n 0, 1) := by decide +kernel
theorem dX6_join_11 : decode cX6_join 11 = .ok (.getfield 31, 3) := by decide +kernel
theorem dX6_join_14 : decode cX6_join 14 = .ok (.invokevirtual 151, 3) := by decide +kernel
theorem dX6_join_17 : decode cX6_join 17 = .ok (.ifCond .ne 17, 3) := by decide +kernel
theorem dX6_join_20 : decode cX6_join 20 = .ok (.aload_n 0, 1) := by decide +kernel
theorem dX6_join_21 : decode cX6_join 21 = .ok (.getfield 31, 3) := by decide +kernel
theorem dX6_join_24 : decode cX6_join 24 = .ok (.invokevirtual 123, 3) := by decide +kernel
theorem dX6_join_27 : decode cX6_join 27 = .ok (.iload_n 1, 1) := by decide +kernel
theorem dX6_join_28 : decode cX6_join 28 = .ok (.invokevirtual 155, 3) := by decide +kernel
theorem dX6_join_31 : decode cX6_join 31 = .ok (.ifCond .ne 6, 3) := by decide +kernel
theorem dX6_join_34 : decode cX6_join 34 = .ok (.bipush (-2), 2) := by decide +kernel
theorem dX6_join_36 : decode cX6_join 36 = .ok (.ireturn, 1) := by decide +kernel
theorem dX6_join_37 : decode cX6_join 37 = .ok (.aload_n 0, 1) := by decide +kernel
theorem dX6_join_38 : decode cX6_join 38 = .ok (.getfield 47, 3) := by decide +kernel
theorem dX6_join_41 : decode cX6_join 41 = .ok (.aload_n 0, 1) := by decide +kernel
theorem dX6_join_42 : decode cX6_join 42 = .ok (.getfield 31, 3) := by decide +kernel
theorem dX6_join_45 : decode cX6_join 45 = .ok (.invokevirtual 158, 3) := by decide +kernel
theorem dX6_join_48 : decode cX6_join 48 = .ok (.aload_n 0, 1) := by decide +kernel
theorem dX6_join_49 : decode cX6_join 49 = .ok (.getfield 31, 3) := by decide +kernel
theorem dX6_join_52 : decode cX6_join 52 = .ok (.invokevirtual 123, 3) := by decide +kernel
theorem dX6_join_55 : decode cX6_join 55 = .ok (.iload_n 1, 1) := by decide +kernel
theorem dX6_join_56 : decode cX6_join 56 = .ok (.invokevirtual 162, 3) := by decide +kernel
theorem dX6_join_59 : decode cX6_join 59 = .ok (.aload_n 0, 1) := by decide +kernel
theorem dX6_join_60 : decode cX6_join 60 = .ok (.getfield 31, 3) := by decide +kernel
theorem dX6_join_63 : decode cX6_join 63 = .ok (.invokevirtual 123, 3) := by decide +kernel
theorem dX6_join_66 : decode cX6_join 66 = .ok (.invokevirtual 136, 3) := by decide +kernel
theorem dX6_join_69 : decode cX6_join 69 = .ok (.ireturn, 1) := by decide +kernel
theorem hd_X6_join : yX6_join.cls = RX6 ∧ yX6_join.cls ≠ "java/lang/invoke/MethodHandle" ∧ yX6_join.cls ≠ "java/lang/invoke/VarHandle" ∧ (parseMethodDescriptor yX6_join.desc).map (fun d => d.parameters.length) = some 1 := by decide +kernel
abbrev rm_X6_join : Room := { frames := 4, cells := 0, slots := 0, locals := 111 }
def wp_X6_join (K : Int32 → HF → Prop) (F : HF) (a1 : Int32) : Prop := wp_X6_isBird (fun x1 F1 => ((¬ x1 = (nI 0)) → (wp_X2_isFixed (fun x2 F2 => ((¬ x2 = (nI 0)) → (K (-2 : Int32) F2)) ∧ ((x2 = (nI 0)) → (wp_X0_mayJoin (fun x3 F3 => ((¬ x3 = (nI 0)) → (wp_X5_put (fun F4 => wp_X0_append (fun F5 => wp_X0_size (fun x4 F6 => K x4 F6) F5 17) F4 17 a1) F3 25 8 16)) ∧ ((x3 = (nI 0)) → (K (-2 : Int32) F3))) F2 17 a1))) F1 16)) ∧ ((x1 = (nI 0)) → (K (-1 : Int32) F1))) F a1
set_option maxRecDepth 100000 in
set_option maxHeartbeats 4000000 in
theorem c_X6_join {l : Launch} {D : va_G} {dA : Nat → ClassId} {ad : Nat → Nat} {R : List Nat} {F : HF} {a1 : Int32} {K : Int32 → HF → Prop} (hT : BBr R) (h : wp_X6_join K F a1) : MI l yX6_join cX6_join 2 .int rm_X6_join D dA ad R F [.ref (ad 0), .int a1] K := by
  refine MI.of (own := RX6) (by decide) rfl (Nat.le_of_ble_eq_true rfl) ?_
  intro p e s m args below meth c A hA X hr
  unfold wp_X6_join at h
  show J p l e rm_X6_join s m args below meth c 2 D dA ad R A (QI D dA ad R A below args s K) F 0 [(0, .ref (ad 0)), (1, .int a1)] []
  refine r_aload_n (pc := 0) X 0 dX6_join_0 rfl rfl ?_
  refine r_iload_n (pc := 1) X 1 dX6_join_1 rfl rfl ?_
  refine r_callIV (pc := 2) (As := [.int a1]) (st := []) X hA (c_X6_isBird hT h) g_X6_107 cl_X6 hT.1 hd_X6_isBird rfl rfl rfl ⟨Nat.le_of_ble_eq_true rfl, Nat.le_of_ble_eq_true rfl⟩ rfl (Nat.le_of_ble_eq_true rfl) dX6_join_2 (fun x1 F1 h => ?_)
  refine r_if_ne (pc := 5) (tgt := 10) X dX6_join_5 (by decide) (fun hc => ?_) (fun hc => ?_)
  · replace h := h.1 hc
    refine r_aload_n (pc := 10) X 0 dX6_join_10 rfl rfl ?_
    refine fg_X6_31 (pc := 11) X hT.1 dX6_join_11 ?_
    refine r_callIV (pc := 14) (As := []) (st := []) X hA (c_X2_isFixed hT.2.2.2.2.1 h) g_X6_151 cl_X2 hT.2.2.2.2.1.1 hd_X2_isFixed rfl rfl rfl ⟨Nat.le_of_ble_eq_true rfl, Nat.le_of_ble_eq_true rfl⟩ rfl (Nat.le_of_ble_eq_true rfl) dX6_join_14 (fun x2 F2 h => ?_)
    refine r_if_ne (pc := 17) (tgt := 34) X dX6_join_17 (by decide) (fun hc => ?_) (fun hc => ?_)
    · replace h := h.1 hc
      refine r_bipush (pc := 34) (v := (-2 : Int32)) X dX6_join_34 (by decide) ?_
      exact r_iret (pc := 36) X hr dX6_join_36 h
    · replace h := h.2 hc
      refine r_aload_n (pc := 20) X 0 dX6_join_20 rfl rfl ?_
      refine fg_X6_31 (pc := 21) X hT.1 dX6_join_21 ?_
      refine r_bridge_X6 (pc := 24) (t1 := 17) X hA rfl hT.2.2.2.2.1 (Nat.le_of_ble_eq_true rfl) (Nat.le_of_ble_eq_true rfl) (Nat.le_of_ble_eq_true rfl) dX6_join_24 ?_
      refine r_iload_n (pc := 27) X 1 dX6_join_27 rfl rfl ?_
      refine r_callIV (pc := 28) (As := [.int a1]) (st := []) X hA (c_X0_mayJoin hT.2.2.2.2.1.2 h) g_X6_155 cl_X0 hT.2.2.2.2.1.2.1 hd_X0_mayJoin rfl rfl rfl ⟨Nat.le_of_ble_eq_true rfl, Nat.le_of_ble_eq_true rfl⟩ rfl (Nat.le_of_ble_eq_true rfl) dX6_join_28 (fun x3 F3 h => ?_)
      refine r_if_ne (pc := 31) (tgt := 37) X dX6_join_31 (by decide) (fun hc => ?_) (fun hc => ?_)
      · replace h := h.1 hc
        refine r_aload_n (pc := 37) X 0 dX6_join_37 rfl rfl ?_
        refine fg_X6_47 (pc := 38) X hT.1 dX6_join_38 ?_
        refine r_aload_n (pc := 41) X 0 dX6_join_41 rfl rfl ?_
        refine fg_X6_31 (pc := 42) X hT.1 dX6_join_42 ?_
        refine r_callVV (pc := 45) (As := [.ref (ad 16)]) (st := []) X hA (c_X5_put hT.2.2.2.2.2.2.1 hT.2.2.2.2.1 h) g_X6_158 cl_X5 hT.2.2.2.2.2.2.1.1 hd_X5_put rfl rfl rfl ⟨Nat.le_of_ble_eq_true rfl, Nat.le_of_ble_eq_true rfl⟩ rfl (Nat.le_of_ble_eq_true rfl) dX6_join_45 (fun F4 h => ?_)
        refine r_aload_n (pc := 48) X 0 dX6_join_48 rfl rfl ?_
        refine fg_X6_31 (pc := 49) X hT.1 dX6_join_49 ?_
        refine r_bridge_X6 (pc := 52) (t1 := 17) X hA rfl hT.2.2.2.2.1 (Nat.le_of_ble_eq_true rfl) (Nat.le_of_ble_eq_true rfl) (Nat.le_of_ble_eq_true rfl) dX6_join_52 ?_
        refine r_iload_n (pc := 55) X 1 dX6_join_55 rfl rfl ?_
        refine r_callVV (pc := 56) (As := [.int a1]) (st := []) X hA (c_X0_append hT.2.2.2.2.1.2 h) g_X6_162 cl_X0 hT.2.2.2.2.1.2.1 hd_X0_append rfl rfl rfl ⟨Nat.le_of_ble_eq_true rfl, Nat.le_of_ble_eq_true rfl⟩ rfl (Nat.le_of_ble_eq_true rfl) dX6_join_56 (fun F5 h => ?_)
        refine r_aload_n (pc := 59) X 0 dX6_join_59 rfl rfl ?_
        refine fg_X6_31 (pc := 60) X hT.1 dX6_join_60 ?_
        refine r_bridge_X6 (pc := 63) (t1 := 17) X hA rfl hT.2.2.2.2.1 (Nat.le_of_ble_eq_true rfl) (Nat.le_of_ble_eq_true rfl) (Nat.le_of_ble_eq_true rfl) dX6_join_63 ?_
        refine r_callIV (pc := 66) (As := []) (st := []) X hA (c_X0_size hT.2.2.2.2.1.2 h) g_X6_136 cl_X0 hT.2.2.2.2.1.2.1 hd_X0_size rfl rfl rfl ⟨Nat.le_of_ble_eq_true rfl, Nat.le_of_ble_eq_true rfl⟩ rfl (Nat.le_of_ble_eq_true rfl) dX6_join_66 (fun x4 F6 h => ?_)
        exact r_iret (pc := 69) X hr dX6_join_69 h
      · replace h := h.2 hc
        refine r_bipush (pc := 34) (v := (-2 : Int32)) X dX6_join_34 (by decide) ?_
        exact r_iret (pc := 36) X hr dX6_join_36 h
  · replace h := h.2 hc
    refine r_iconst (pc := 8) (v := (-1 : Int32)) X dX6_join_8 (by decide) ?_
    exact r_iret (pc := 9) X hr dX6_join_9 h
theorem dX6_leave_0 : decode cX6_leave 0 = .ok (.aload_n 0, 1) := by decide +kernel
theorem dX6_leave_1 : decode cX6_leave 1 = .ok (.getfield 31, 3) := by decide +kernel
theorem dX6_leave_4 : decode cX6_leave 4 = .ok (.invokevirtual 123, 3) := by decide +kernel
theorem dX6_leave_7 : decode cX6_leave 7 = .ok (.astore_n 1, 1) := by decide +kernel
theorem dX6_leave_8 : decode cX6_leave 8 = .ok (.aload_n 0, 1) := by decide +kernel
theorem dX6_leave_9 : decode cX6_leave 9 = .ok (.getfield 31, 3) := by decide +kernel
theorem dX6_leave_12 : decode cX6_leave 12 = .ok (.invokevirtual 151, 3) := by decide +kernel
theorem dX6_leave_15 : decode cX6_leave 15 = .ok (.ifCond .ne 10, 3) := by decide +kernel
theorem dX6_leave_18 : decode cX6_leave 18 = .ok (.aload_n 1, 1) := by decide +kernel
theorem dX6_leave_19 : decode cX6_leave 19 = .ok (.invokevirtual 136, 3) := by decide +kernel
theorem dX6_leave_22 : decode cX6_leave 22 = .ok (.ifCond .ne 6, 3) := by decide +kernel
theorem dX6_leave_25 : decode cX6_leave 25 = .ok (.bipush (-2), 2) := by decide +kernel
theorem dX6_leave_27 : decode cX6_leave 27 = .ok (.ireturn, 1) := by decide +kernel
theorem dX6_leave_28 : decode cX6_leave 28 = .ok (.aload_n 0, 1) := by decide +kernel
theorem dX6_leave_29 : decode cX6_leave 29 = .ok (.getfield 47, 3) := by decide +kernel
theorem dX6_leave_32 : decode cX6_leave 32 = .ok (.aload_n 0, 1) := by decide +kernel
theorem dX6_leave_33 : decode cX6_leave 33 = .ok (.getfield 31, 3) := by decide +kernel
theorem dX6_leave_36 : decode cX6_leave 36 = .ok (.invokevirtual 158, 3) := by decide +kernel
theorem dX6_leave_39 : decode cX6_leave 39 = .ok (.aload_n 1, 1) := by decide +kernel
theorem dX6_leave_40 : decode cX6_leave 40 = .ok (.aload_n 1, 1) := by decide +kernel
theorem dX6_leave_41 : decode cX6_leave 41 = .ok (.invokevirtual 136, 3) := by decide +kernel
theorem dX6_leave_44 : decode cX6_leave 44 = .ok (.iconst 1, 1) := by decide +kernel
theorem dX6_leave_45 : decode cX6_leave 45 = .ok (.isub, 1) := by decide +kernel
theorem dX6_leave_46 : decode cX6_leave 46 = .ok (.invokevirtual 139, 3) := by decide +kernel
theorem dX6_leave_49 : decode cX6_leave 49 = .ok (.istore_n 2, 1) := by decide +kernel
theorem dX6_leave_50 : decode cX6_leave 50 = .ok (.aload_n 1, 1) := by decide +kernel
theorem dX6_leave_51 : decode cX6_leave 51 = .ok (.invokevirtual 165, 3) := by decide +kernel
theorem dX6_leave_54 : decode cX6_leave 54 = .ok (.iload_n 2, 1) := by decide +kernel
theorem dX6_leave_55 : decode cX6_leave 55 = .ok (.ireturn, 1) := by decide +kernel
theorem hd_X6_leave : yX6_leave.cls = RX6 ∧ yX6_leave.cls ≠ "java/lang/invoke/MethodHandle" ∧ yX6_leave.cls ≠ "java/lang/invoke/VarHandle" ∧ (parseMethodDescriptor yX6_leave.desc).map (fun d => d.parameters.length) = some 0 := by decide +kernel
abbrev rm_X6_leave : Room := { frames := 4, cells := 0, slots := 0, locals := 111 }
def wp_X6_leave (K : Int32 → HF → Prop) (F : HF) : Prop := wp_X2_isFixed (fun x1 F1 => ((¬ x1 = (nI 0)) → (K (-2 : Int32) F1)) ∧ ((x1 = (nI 0)) → (wp_X0_size (fun x2 F2 => ((¬ x2 = (nI 0)) → (wp_X5_put (fun F3 => wp_X0_size (fun x3 F4 => wp_X0_birdAt (fun x4 F5 => wp_X0_dropLast (fun F6 => K x4 F6) F5 17) F4 17 (x3 - (nI 1))) F3 17) F2 25 8 16)) ∧ ((x2 = (nI 0)) → (K (-2 : Int32) F2))) F1 17))) F 16
set_option maxRecDepth 100000 in
set_option maxHeartbeats 4000000 in
theorem c_X6_leave {l : Launch} {D : va_G} {dA : Nat → ClassId} {ad : Nat → Nat} {R : List Nat} {F : HF} {K : Int32 → HF → Prop} (hT : BBr R) (h : wp_X6_leave K F ) : MI l yX6_leave cX6_leave 3 .int rm_X6_leave D dA ad R F [.ref (ad 0)] K := by
  refine MI.of (own := RX6) (by decide) rfl (Nat.le_of_ble_eq_true rfl) ?_
  intro p e s m args below meth c A hA X hr
  unfold wp_X6_leave at h
  show J p l e rm_X6_leave s m args below meth c 3 D dA ad R A (QI D dA ad R A below args s K) F 0 [(0, .ref (ad 0))] []
  refine r_aload_n (pc := 0) X 0 dX6_leave_0 rfl rfl ?_
  refine fg_X6_31 (pc := 1) X hT.1 dX6_leave_1 ?_
  refine r_bridge_X6 (pc := 4) (t1 := 17) X hA rfl hT.2.2.2.2.1 (Nat.le_of_ble_eq_true rfl) (Nat.le_of_ble_eq_true rfl) (Nat.le_of_ble_eq_true rfl) dX6_leave_4 ?_
  refine r_astore_n (pc := 7) X [(1, .ref (ad 17)), (0, .ref (ad 0))] dX6_leave_7 rfl (by decide) rfl ?_
  refine r_aload_n (pc := 8) X 1 dX6_leave_8 rfl rfl ?_
  refine fg_X6_31 (pc := 9) X hT.1 dX6_leave_9 ?_
  refine r_callIV (pc := 12) (As := []) (st := []) X hA (c_X2_isFixed hT.2.2.2.2.1 h) g_X6_151 cl_X2 hT.2.2.2.2.1.1 hd_X2_isFixed rfl rfl rfl ⟨Nat.le_of_ble_eq_true rfl, Nat.le_of_ble_eq_true rfl⟩ rfl (Nat.le_of_ble_eq_true rfl) dX6_leave_12 (fun x1 F1 h => ?_)
  refine r_if_ne (pc := 15) (tgt := 25) X dX6_leave_15 (by decide) (fun hc => ?_) (fun hc => ?_)
  · replace h := h.1 hc
    refine r_bipush (pc := 25) (v := (-2 : Int32)) X dX6_leave_25 (by decide) ?_
    exact r_iret (pc := 27) X hr dX6_leave_27 h
  · replace h := h.2 hc
    refine r_aload_n (pc := 18) X 0 dX6_leave_18 rfl rfl ?_
    refine r_callIV (pc := 19) (As := []) (st := []) X hA (c_X0_size hT.2.2.2.2.1.2 h) g_X6_136 cl_X0 hT.2.2.2.2.1.2.1 hd_X0_size rfl rfl rfl ⟨Nat.le_of_ble_eq_true rfl, Nat.le_of_ble_eq_true rfl⟩ rfl (Nat.le_of_ble_eq_true rfl) dX6_leave_19 (fun x2 F2 h => ?_)
    refine r_if_ne (pc := 22) (tgt := 28) X dX6_leave_22 (by decide) (fun hc => ?_) (fun hc => ?_)
    · replace h := h.1 hc
      refine r_aload_n (pc := 28) X 1 dX6_leave_28 rfl rfl ?_
      refine fg_X6_47 (pc := 29) X hT.1 dX6_leave_29 ?_
      refine r_aload_n (pc := 32) X 1 dX6_leave_32 rfl rfl ?_
      refine fg_X6_31 (pc := 33) X hT.1 dX6_leave_33 ?_
      refine r_callVV (pc := 36) (As := [.ref (ad 16)]) (st := []) X hA (c_X5_put hT.2.2.2.2.2.2.1 hT.2.2.2.2.1 h) g_X6_158 cl_X5 hT.2.2.2.2.2.2.1.1 hd_X5_put rfl rfl rfl ⟨Nat.le_of_ble_eq_true rfl, Nat.le_of_ble_eq_true rfl⟩ rfl (Nat.le_of_ble_eq_true rfl) dX6_leave_36 (fun F3 h => ?_)
      refine r_aload_n (pc := 39) X 0 dX6_leave_39 rfl rfl ?_
      refine r_aload_n (pc := 40) X 0 dX6_leave_40 rfl rfl ?_
      refine r_callIV (pc := 41) (As := []) (st := [.ref (ad 17)]) X hA (c_X0_size hT.2.2.2.2.1.2 h) g_X6_136 cl_X0 hT.2.2.2.2.1.2.1 hd_X0_size rfl rfl rfl ⟨Nat.le_of_ble_eq_true rfl, Nat.le_of_ble_eq_true rfl⟩ rfl (Nat.le_of_ble_eq_true rfl) dX6_leave_41 (fun x3 F4 h => ?_)
      refine r_iconst (pc := 44) (v := (nI 1)) X dX6_leave_44 (by decide) ?_
      refine r_isub (pc := 45) X dX6_leave_45 ?_
      refine r_callIV (pc := 46) (As := [.int (x3 - (nI 1))]) (st := []) X hA (c_X0_birdAt hT.2.2.2.2.1.2 h) g_X6_139 cl_X0 hT.2.2.2.2.1.2.1 hd_X0_birdAt rfl rfl rfl ⟨Nat.le_of_ble_eq_true rfl, Nat.le_of_ble_eq_true rfl⟩ rfl (Nat.le_of_ble_eq_true rfl) dX6_leave_46 (fun x4 F5 h => ?_)
      refine r_istore_n (pc := 49) X [(2, .int x4), (1, .ref (ad 17)), (0, .ref (ad 0))] dX6_leave_49 rfl (by decide) rfl ?_
      refine r_aload_n (pc := 50) X 1 dX6_leave_50 rfl rfl ?_
      refine r_callVV (pc := 51) (As := []) (st := []) X hA (c_X0_dropLast hT.2.2.2.2.1.2 h) g_X6_165 cl_X0 hT.2.2.2.2.1.2.1 hd_X0_dropLast rfl rfl rfl ⟨Nat.le_of_ble_eq_true rfl, Nat.le_of_ble_eq_true rfl⟩ rfl (Nat.le_of_ble_eq_true rfl) dX6_leave_51 (fun F6 h => ?_)
      refine r_iload_n (pc := 54) X 0 dX6_leave_54 rfl rfl ?_
      exact r_iret (pc := 55) X hr dX6_leave_55 h
    · replace h := h.2 hc
      refine r_bipush (pc := 25) (v := (-2 : Int32)) X dX6_leave_25 (by decide) ?_
      exact r_iret (pc := 27) X hr dX6_leave_27 h
theorem dX6_step_0 : decode cX6_step 0 = .ok (.aload_n 0, 1) := by decide +kernel
theorem dX6_step_1 : decode cX6_step 1 = .ok (.getfield 31, 3) := by decide +kernel
theorem dX6_step_4 : decode cX6_step 4 = .ok (.invokevirtual 168, 3) := by decide +kernel
theorem dX6_step_7 : decode cX6_step 7 = .ok (.ifCond .ne 33, 3) := by decide +kernel
theorem dX6_step_10 : decode cX6_step 10 = .ok (.aload_n 0, 1) := by decide +kernel
theorem dX6_step_11 : decode cX6_step 11 = .ok (.getfield 31, 3) := by decide +kernel
theorem dX6_step_14 : decode cX6_step 14 = .ok (.invokevirtual 123, 3) := by decide +kernel
theorem dX6_step_17 : decode cX6_step 17 = .ok (.invokevirtual 171, 3) := by decide +kernel
theorem dX6_step_20 : decode cX6_step 20 = .ok (.ifCond .eq 20, 3) := by decide +kernel
theorem dX6_step_23 : decode cX6_step 23 = .ok (.aload_n 0, 1) := by decide +kernel
theorem dX6_step_24 : decode cX6_step 24 = .ok (.getfield 31, 3) := by decide +kernel
theorem dX6_step_27 : decode cX6_step 27 = .ok (.invokevirtual 174, 3) := by decide +kernel
theorem dX6_step_30 : decode cX6_step 30 = .ok (.aload_n 0, 1) := by decide +kernel
theorem dX6_step_31 : decode cX6_step 31 = .ok (.getfield 19, 3) := by decide +kernel
theorem dX6_step_34 : decode cX6_step 34 = .ok (.invokevirtual 177, 3) := by decide +kernel
theorem dX6_step_37 : decode cX6_step 37 = .ok (.if_icmp .lt 6, 3) := by decide +kernel
theorem dX6_step_40 : decode cX6_step 40 = .ok (.bipush (-2), 2) := by decide +kernel
theorem dX6_step_42 : decode cX6_step 42 = .ok (.ireturn, 1) := by decide +kernel
theorem dX6_step_43 : decode cX6_step 43 = .ok (.aload_n 0, 1) := by decide +kernel
theorem dX6_step_44 : decode cX6_step 44 = .ok (.getfield 47, 3) := by decide +kernel
theorem dX6_step_47 : decode cX6_step 47 = .ok (.aload_n 0, 1) := by decide +kernel
theorem dX6_step_48 : decode cX6_step 48 = .ok (.getfield 31, 3) := by decide +kernel
theorem dX6_step_51 : decode cX6_step 51 = .ok (.invokevirtual 158, 3) := by decide +kernel
theorem dX6_step_54 : decode cX6_step 54 = .ok (.aload_n 0, 1) := by decide +kernel
theorem dX6_step_55 : decode cX6_step 55 = .ok (.getfield 31, 3) := by decide +kernel
theorem dX6_step_58 : decode cX6_step 58 = .ok (.aload_n 0, 1) := by decide +kernel
theorem dX6_step_59 : decode cX6_step 59 = .ok (.getfield 31, 3) := by decide +kernel
theorem dX6_step_62 : decode cX6_step 62 = .ok (.invokevirtual 174, 3) := by decide +kernel
theorem dX6_step_65 : decode cX6_step 65 = .ok (.iconst 1, 1) := by decide +kernel
theorem dX6_step_66 : decode cX6_step 66 = .ok (.iadd, 1) := by decide +kernel
theorem dX6_step_67 : decode cX6_step 67 = .ok (.invokevirtual 180, 3) := by decide +kernel
theorem dX6_step_70 : decode cX6_step 70 = .ok (.ifCond .eq 13, 3) := by decide +kernel
theorem dX6_step_73 : decode cX6_step 73 = .ok (.aload_n 0, 1) := by decide +kernel
theorem dX6_step_74 : decode cX6_step 74 = .ok (.getfield 31, 3) := by decide +kernel
theorem dX6_step_77 : decode cX6_step 77 = .ok (.invokevirtual 174, 3) := by decide +kernel
theorem dX6_step_80 : decode cX6_step 80 = .ok (.goto 5, 3) := by decide +kernel
theorem dX6_step_83 : decode cX6_step 83 = .ok (.bipush (-4), 2) := by decide +kernel
theorem dX6_step_85 : decode cX6_step 85 = .ok (.ireturn, 1) := by decide +kernel
theorem hd_X6_step : yX6_step.cls = RX6 ∧ yX6_step.cls ≠ "java/lang/invoke/MethodHandle" ∧ yX6_step.cls ≠ "java/lang/invoke/VarHandle" ∧ (parseMethodDescriptor yX6_step.desc).map (fun d => d.parameters.length) = some 0 := by decide +kernel
abbrev rm_X6_step : Room := { frames := 5, cells := 0, slots := 0, locals := 111 }
def wp_X6_step (K : Int32 → HF → Prop) (F : HF) : Prop := wp_X2_isBroken (fun x1 F1 => ((¬ x1 = (nI 0)) → (K (-2 : Int32) F1)) ∧ ((x1 = (nI 0)) → (wp_X0_isWhole (fun x2 F2 => ((x2 = (nI 0)) → (K (-2 : Int32) F2)) ∧ ((¬ x2 = (nI 0)) → (wp_X2_place (fun x3 F3 => wp_X1_width (fun x4 F4 => ((x3 < x4) → (wp_X5_put (fun F5 => wp_X2_place (fun x5 F6 => wp_X2_passMinuteAt (fun x6 F7 => ((x6 = (nI 0)) → (K (-4 : Int32) F7)) ∧ ((¬ x6 = (nI 0)) → (wp_X2_place (fun x7 F8 => K x7 F8) F7 16))) F6 16 (x5 + (nI 1))) F5 16) F4 25 8 16)) ∧ ((¬ x3 < x4) → (K (-2 : Int32) F4))) F3 4) F2 16))) F1 17))) F 16
set_option maxRecDepth 100000 in
set_option maxHeartbeats 4000000 in
theorem c_X6_step {l : Launch} {D : va_G} {dA : Nat → ClassId} {ad : Nat → Nat} {R : List Nat} {F : HF} {K : Int32 → HF → Prop} (hT : BBr R) (h : wp_X6_step K F ) : MI l yX6_step cX6_step 1 .int rm_X6_step D dA ad R F [.ref (ad 0)] K := by
  refine MI.of (own := RX6) (by decide) rfl (Nat.le_of_ble_eq_true rfl) ?_
  intro p e s m args below meth c A hA X hr
  unfold wp_X6_step at h
  show J p l e rm_X6_step s m args below meth c 1 D dA ad R A (QI D dA ad R A below args s K) F 0 [(0, .ref (ad 0))] []
  refine r_aload_n (pc := 0) X 0 dX6_step_0 rfl rfl ?_
  refine fg_X6_31 (pc := 1) X hT.1 dX6_step_1 ?_
  refine r_callIV (pc := 4) (As := []) (st := []) X hA (c_X2_isBroken hT.2.2.2.2.1 h) g_X6_168 cl_X2 hT.2.2.2.2.1.1 hd_X2_isBroken rfl rfl rfl ⟨Nat.le_of_ble_eq_true rfl, Nat.le_of_ble_eq_true rfl⟩ rfl (Nat.le_of_ble_eq_true rfl) dX6_step_4 (fun x1 F1 h => ?_)
  refine r_if_ne (pc := 7) (tgt := 40) X dX6_step_7 (by decide) (fun hc => ?_) (fun hc => ?_)
  · replace h := h.1 hc
    refine r_bipush (pc := 40) (v := (-2 : Int32)) X dX6_step_40 (by decide) ?_
    exact r_iret (pc := 42) X hr dX6_step_42 h
  · replace h := h.2 hc
    refine r_aload_n (pc := 10) X 0 dX6_step_10 rfl rfl ?_
    refine fg_X6_31 (pc := 11) X hT.1 dX6_step_11 ?_
    refine r_bridge_X6 (pc := 14) (t1 := 17) X hA rfl hT.2.2.2.2.1 (Nat.le_of_ble_eq_true rfl) (Nat.le_of_ble_eq_true rfl) (Nat.le_of_ble_eq_true rfl) dX6_step_14 ?_
    refine r_callIV (pc := 17) (As := []) (st := []) X hA (c_X0_isWhole hT.2.2.2.2.1.2 h) g_X6_171 cl_X0 hT.2.2.2.2.1.2.1 hd_X0_isWhole rfl rfl rfl ⟨Nat.le_of_ble_eq_true rfl, Nat.le_of_ble_eq_true rfl⟩ rfl (Nat.le_of_ble_eq_true rfl) dX6_step_17 (fun x2 F2 h => ?_)
    refine r_if_eq (pc := 20) (tgt := 40) X dX6_step_20 (by decide) (fun hc => ?_) (fun hc => ?_)
    · replace h := h.1 hc
      refine r_bipush (pc := 40) (v := (-2 : Int32)) X dX6_step_40 (by decide) ?_
      exact r_iret (pc := 42) X hr dX6_step_42 h
    · replace h := h.2 hc
      refine r_aload_n (pc := 23) X 0 dX6_step_23 rfl rfl ?_
      refine fg_X6_31 (pc := 24) X hT.1 dX6_step_24 ?_
      refine r_callIV (pc := 27) (As := []) (st := []) X hA (c_X2_place hT.2.2.2.2.1 h) g_X6_174 cl_X2 hT.2.2.2.2.1.1 hd_X2_place rfl rfl rfl ⟨Nat.le_of_ble_eq_true rfl, Nat.le_of_ble_eq_true rfl⟩ rfl (Nat.le_of_ble_eq_true rfl) dX6_step_27 (fun x3 F3 h => ?_)
      refine r_aload_n (pc := 30) X 0 dX6_step_30 rfl rfl ?_
      refine fg_X6_19 (pc := 31) X hT.1 dX6_step_31 ?_
      refine r_callIV (pc := 34) (As := []) (st := [.int x3]) X hA (c_X1_width hT.2.2.1 h) g_X6_177 cl_X1 hT.2.2.1.1 hd_X1_width rfl rfl rfl ⟨Nat.le_of_ble_eq_true rfl, Nat.le_of_ble_eq_true rfl⟩ rfl (Nat.le_of_ble_eq_true rfl) dX6_step_34 (fun x4 F4 h => ?_)
      refine r_icmp_lt (pc := 37) (tgt := 43) X dX6_step_37 (by decide) (fun hc => ?_) (fun hc => ?_)
      · replace h := h.1 hc
        refine r_aload_n (pc := 43) X 0 dX6_step_43 rfl rfl ?_
        refine fg_X6_47 (pc := 44) X hT.1 dX6_step_44 ?_
        refine r_aload_n (pc := 47) X 0 dX6_step_47 rfl rfl ?_
        refine fg_X6_31 (pc := 48) X hT.1 dX6_step_48 ?_
        refine r_callVV (pc := 51) (As := [.ref (ad 16)]) (st := []) X hA (c_X5_put hT.2.2.2.2.2.2.1 hT.2.2.2.2.1 h) g_X6_158 cl_X5 hT.2.2.2.2.2.2.1.1 hd_X5_put rfl rfl rfl ⟨Nat.le_of_ble_eq_true rfl, Nat.le_of_ble_eq_true rfl⟩ rfl (Nat.le_of_ble_eq_true rfl) dX6_step_51 (fun F5 h => ?_)
        refine r_aload_n (pc := 54) X 0 dX6_step_54 rfl rfl ?_
        refine fg_X6_31 (pc := 55) X hT.1 dX6_step_55 ?_
        refine r_aload_n (pc := 58) X 0 dX6_step_58 rfl rfl ?_
        refine fg_X6_31 (pc := 59) X hT.1 dX6_step_59 ?_
        refine r_callIV (pc := 62) (As := []) (st := [.ref (ad 16)]) X hA (c_X2_place hT.2.2.2.2.1 h) g_X6_174 cl_X2 hT.2.2.2.2.1.1 hd_X2_place rfl rfl rfl ⟨Nat.le_of_ble_eq_true rfl, Nat.le_of_ble_eq_true rfl⟩ rfl (Nat.le_of_ble_eq_true rfl) dX6_step_62 (fun x5 F6 h => ?_)
        refine r_iconst (pc := 65) (v := (nI 1)) X dX6_step_65 (by decide) ?_
        refine r_iadd (pc := 66) X dX6_step_66 ?_
        refine r_callIV (pc := 67) (As := [.int (x5 + (nI 1))]) (st := []) X hA (c_X2_passMinuteAt hT.2.2.2.2.1 h) g_X6_180 cl_X2 hT.2.2.2.2.1.1 hd_X2_passMinuteAt rfl rfl rfl ⟨Nat.le_of_ble_eq_true rfl, Nat.le_of_ble_eq_true rfl⟩ rfl (Nat.le_of_ble_eq_true rfl) dX6_step_67 (fun x6 F7 h => ?_)
        refine r_if_eq (pc := 70) (tgt := 83) X dX6_step_70 (by decide) (fun hc => ?_) (fun hc => ?_)
        · replace h := h.1 hc
          refine r_bipush (pc := 83) (v := (-4 : Int32)) X dX6_step_83 (by decide) ?_
          exact r_iret (pc := 85) X hr dX6_step_85 h
        · replace h := h.2 hc
          refine r_aload_n (pc := 73) X 0 dX6_step_73 rfl rfl ?_
          refine fg_X6_31 (pc := 74) X hT.1 dX6_step_74 ?_
          refine r_callIV (pc := 77) (As := []) (st := []) X hA (c_X2_place hT.2.2.2.2.1 h) g_X6_174 cl_X2 hT.2.2.2.2.1.1 hd_X2_place rfl rfl rfl ⟨Nat.le_of_ble_eq_true rfl, Nat.le_of_ble_eq_true rfl⟩ rfl (Nat.le_of_ble_eq_true rfl) dX6_step_77 (fun x7 F8 h => ?_)
          refine r_goto (pc := 80) (tgt := 85) X dX6_step_80 (by decide) ?_
          exact r_iret (pc := 85) X hr dX6_step_85 h
      · replace h := h.2 hc
        refine r_bipush (pc := 40) (v := (-2 : Int32)) X dX6_step_40 (by decide) ?_
        exact r_iret (pc := 42) X hr dX6_step_42 h
theorem dX6_stand_0 : decode cX6_stand 0 = .ok (.aload_n 0, 1) := by decide +kernel
theorem dX6_stand_1 : decode cX6_stand 1 = .ok (.getfield 31, 3) := by decide +kernel
theorem dX6_stand_4 : decode cX6_stand 4 = .ok (.invokevirtual 168, 3) := by decide +kernel
theorem dX6_stand_7 : decode cX6_stand 7 = .ok (.ifCond .ne 13, 3) := by decide +kernel
theorem dX6_stand_10 : decode cX6_stand 10 = .ok (.aload_n 0, 1) := by decide +kernel
theorem dX6_stand_11 : decode cX6_stand 11 = .ok (.getfield 31, 3) := by decide +kernel
theorem dX6_stand_14 : decode cX6_stand 14 = .ok (.invokevirtual 183, 3) := by decide +kernel
theorem dX6_stand_17 : decode cX6_stand 17 = .ok (.ifCond .ne 6, 3) := by decide +kernel
theorem dX6_stand_20 : decode cX6_stand 20 = .ok (.bipush (-2), 2) := by decide +kernel
theorem dX6_stand_22 : decode cX6_stand 22 = .ok (.ireturn, 1) := by decide +kernel
theorem dX6_stand_23 : decode cX6_stand 23 = .ok (.aload_n 0, 1) := by decide +kernel
theorem dX6_stand_24 : decode cX6_stand 24 = .ok (.getfield 47, 3) := by decide +kernel
theorem dX6_stand_27 : decode cX6_stand 27 = .ok (.aload_n 0, 1) := by decide +kernel
theorem dX6_stand_28 : decode cX6_stand 28 = .ok (.getfield 31, 3) := by decide +kernel
theorem dX6_stand_31 : decode cX6_stand 31 = .ok (.invokevirtual 158, 3) := by decide +kernel
theorem dX6_stand_34 : decode cX6_stand 34 = .ok (.aload_n 0, 1) := by decide +kernel
theorem dX6_stand_35 : decode cX6_stand 35 = .ok (.getfield 31, 3) := by decide +kernel
theorem dX6_stand_38 : decode cX6_stand 38 = .ok (.aload_n 0, 1) := by decide +kernel
theorem dX6_stand_39 : decode cX6_stand 39 = .ok (.getfield 31, 3) := by decide +kernel
theorem dX6_stand_42 : decode cX6_stand 42 = .ok (.invokevirtual 174, 3) := by decide +kernel
theorem dX6_stand_45 : decode cX6_stand 45 = .ok (.invokevirtual 180, 3) := by decide +kernel
theorem dX6_stand_48 : decode cX6_stand 48 = .ok (.ifCond .eq 13, 3) := by decide +kernel
theorem dX6_stand_51 : decode cX6_stand 51 = .ok (.aload_n 0, 1) := by decide +kernel
theorem dX6_stand_52 : decode cX6_stand 52 = .ok (.getfield 31, 3) := by decide +kernel
theorem dX6_stand_55 : decode cX6_stand 55 = .ok (.invokevirtual 174, 3) := by decide +kernel
theorem dX6_stand_58 : decode cX6_stand 58 = .ok (.goto 5, 3) := by decide +kernel
theorem dX6_stand_61 : decode cX6_stand 61 = .ok (.bipush (-4), 2) := by decide +kernel
theorem dX6_stand_63 : decode cX6_stand 63 = .ok (.ireturn, 1) := by decide +kernel
theorem hd_X6_stand : yX6_stand.cls = RX6 ∧ yX6_stand.cls ≠ "java/lang/invoke/MethodHandle" ∧ yX6_stand.cls ≠ "java/lang/invoke/VarHandle" ∧ (parseMethodDescriptor yX6_stand.desc).map (fun d => d.parameters.length) = some 0 := by decide +kernel
abbrev rm_X6_stand : Room := { frames := 5, cells := 0, slots := 0, locals := 111 }
def wp_X6_stand (K : Int32 → HF → Prop) (F : HF) : Prop := wp_X2_isBroken (fun x1 F1 => ((¬ x1 = (nI 0)) → (K (-2 : Int32) F1)) ∧ ((x1 = (nI 0)) → (wp_X2_isOnBridge (fun x2 F2 => ((¬ x2 = (nI 0)) → (wp_X5_put (fun F3 => wp_X2_place (fun x3 F4 => wp_X2_passMinuteAt (fun x4 F5 => ((x4 = (nI 0)) → (K (-4 : Int32) F5)) ∧ ((¬ x4 = (nI 0)) → (wp_X2_place (fun x5 F6 => K x5 F6) F5 16))) F4 16 x3) F3 16) F2 25 8 16)) ∧ ((x2 = (nI 0)) → (K (-2 : Int32) F2))) F1 16))) F 16
set_option maxRecDepth 100000 in
set_option maxHeartbeats 4000000 in
theorem c_X6_stand {l : Launch} {D : va_G} {dA : Nat → ClassId} {ad : Nat → Nat} {R : List Nat} {F : HF} {K : Int32 → HF → Prop} (hT : BBr R) (h : wp_X6_stand K F ) : MI l yX6_stand cX6_stand 1 .int rm_X6_stand D dA ad R F [.ref (ad 0)] K := by
  refine MI.of (own := RX6) (by decide) rfl (Nat.le_of_ble_eq_true rfl) ?_
  intro p e s m args below meth c A hA X hr
  unfold wp_X6_stand at h
  show J p l e rm_X6_stand s m args below meth c 1 D dA ad R A (QI D dA ad R A below args s K) F 0 [(0, .ref (ad 0))] []
  refine r_aload_n (pc := 0) X 0 dX6_stand_0 rfl rfl ?_
  refine fg_X6_31 (pc := 1) X hT.1 dX6_stand_1 ?_
  refine r_callIV (pc := 4) (As := []) (st := []) X hA (c_X2_isBroken hT.2.2.2.2.1 h) g_X6_168 cl_X2 hT.2.2.2.2.1.1 hd_X2_isBroken rfl rfl rfl ⟨Nat.le_of_ble_eq_true rfl, Nat.le_of_ble_eq_true rfl⟩ rfl (Nat.le_of_ble_eq_true rfl) dX6_stand_4 (fun x1 F1 h => ?_)
  refine r_if_ne (pc := 7) (tgt := 20) X dX6_stand_7 (by decide) (fun hc => ?_) (fun hc => ?_)
  · replace h := h.1 hc
    refine r_bipush (pc := 20) (v := (-2 : Int32)) X dX6_stand_20 (by decide) ?_
    exact r_iret (pc := 22) X hr dX6_stand_22 h
  · replace h := h.2 hc
    refine r_aload_n (pc := 10) X 0 dX6_stand_10 rfl rfl ?_
    refine fg_X6_31 (pc := 11) X hT.1 dX6_stand_11 ?_
    refine r_callIV (pc := 14) (As := []) (st := []) X hA (c_X2_isOnBridge hT.2.2.2.2.1 h) g_X6_183 cl_X2 hT.2.2.2.2.1.1 hd_X2_isOnBridge rfl rfl rfl ⟨Nat.le_of_ble_eq_true rfl, Nat.le_of_ble_eq_true rfl⟩ rfl (Nat.le_of_ble_eq_true rfl) dX6_stand_14 (fun x2 F2 h => ?_)
    refine r_if_ne (pc := 17) (tgt := 23) X dX6_stand_17 (by decide) (fun hc => ?_) (fun hc => ?_)
    · replace h := h.1 hc
      refine r_aload_n (pc := 23) X 0 dX6_stand_23 rfl rfl ?_
      refine fg_X6_47 (pc := 24) X hT.1 dX6_stand_24 ?_
      refine r_aload_n (pc := 27) X 0 dX6_stand_27 rfl rfl ?_
      refine fg_X6_31 (pc := 28) X hT.1 dX6_stand_28 ?_
      refine r_callVV (pc := 31) (As := [.ref (ad 16)]) (st := []) X hA (c_X5_put hT.2.2.2.2.2.2.1 hT.2.2.2.2.1 h) g_X6_158 cl_X5 hT.2.2.2.2.2.2.1.1 hd_X5_put rfl rfl rfl ⟨Nat.le_of_ble_eq_true rfl, Nat.le_of_ble_eq_true rfl⟩ rfl (Nat.le_of_ble_eq_true rfl) dX6_stand_31 (fun F3 h => ?_)
      refine r_aload_n (pc := 34) X 0 dX6_stand_34 rfl rfl ?_
      refine fg_X6_31 (pc := 35) X hT.1 dX6_stand_35 ?_
      refine r_aload_n (pc := 38) X 0 dX6_stand_38 rfl rfl ?_
      refine fg_X6_31 (pc := 39) X hT.1 dX6_stand_39 ?_
      refine r_callIV (pc := 42) (As := []) (st := [.ref (ad 16)]) X hA (c_X2_place hT.2.2.2.2.1 h) g_X6_174 cl_X2 hT.2.2.2.2.1.1 hd_X2_place rfl rfl rfl ⟨Nat.le_of_ble_eq_true rfl, Nat.le_of_ble_eq_true rfl⟩ rfl (Nat.le_of_ble_eq_true rfl) dX6_stand_42 (fun x3 F4 h => ?_)
      refine r_callIV (pc := 45) (As := [.int x3]) (st := []) X hA (c_X2_passMinuteAt hT.2.2.2.2.1 h) g_X6_180 cl_X2 hT.2.2.2.2.1.1 hd_X2_passMinuteAt rfl rfl rfl ⟨Nat.le_of_ble_eq_true rfl, Nat.le_of_ble_eq_true rfl⟩ rfl (Nat.le_of_ble_eq_true rfl) dX6_stand_45 (fun x4 F5 h => ?_)
      refine r_if_eq (pc := 48) (tgt := 61) X dX6_stand_48 (by decide) (fun hc => ?_) (fun hc => ?_)
      · replace h := h.1 hc
        refine r_bipush (pc := 61) (v := (-4 : Int32)) X dX6_stand_61 (by decide) ?_
        exact r_iret (pc := 63) X hr dX6_stand_63 h
      · replace h := h.2 hc
        refine r_aload_n (pc := 51) X 0 dX6_stand_51 rfl rfl ?_
        refine fg_X6_31 (pc := 52) X hT.1 dX6_stand_52 ?_
        refine r_callIV (pc := 55) (As := []) (st := []) X hA (c_X2_place hT.2.2.2.2.1 h) g_X6_174 cl_X2 hT.2.2.2.2.1.1 hd_X2_place rfl rfl rfl ⟨Nat.le_of_ble_eq_true rfl, Nat.le_of_ble_eq_true rfl⟩ rfl (Nat.le_of_ble_eq_true rfl) dX6_stand_55 (fun x5 F6 h => ?_)
        refine r_goto (pc := 58) (tgt := 63) X dX6_stand_58 (by decide) ?_
        exact r_iret (pc := 63) X hr dX6_stand_63 h
    · replace h := h.2 hc
      refine r_bipush (pc := 20) (v := (-2 : Int32)) X dX6_stand_20 (by decide) ?_
      exact r_iret (pc := 22) X hr dX6_stand_22 h
theorem dX6_year_0 : decode cX6_year 0 = .ok (.iload_n 1, 1) := by decide +kernel
theorem dX6_year_1 : decode cX6_year 1 = .ok (.ifCond .lt 9, 3) := by decide +kernel
theorem dX6_year_4 : decode cX6_year 4 = .ok (.iload_n 1, 1) := by decide +kernel
theorem dX6_year_5 : decode cX6_year 5 = .ok (.bipush 20, 2) := by decide +kernel
theorem dX6_year_7 : decode cX6_year 7 = .ok (.if_icmp .le 5, 3) := by decide +kernel
theorem dX6_year_10 : decode cX6_year 10 = .ok (.iconst (-1), 1) := by decide +kernel
theorem dX6_year_11 : decode cX6_year 11 = .ok (.ireturn, 1) := by decide +kernel
theorem dX6_year_12 : decode cX6_year 12 = .ok (.aload_n 0, 1) := by decide +kernel
theorem dX6_year_13 : decode cX6_year 13 = .ok (.getfield 31, 3) := by decide +kernel
theorem dX6_year_16 : decode cX6_year 16 = .ok (.invokevirtual 151, 3) := by decide +kernel
theorem dX6_year_19 : decode cX6_year 19 = .ok (.ifCond .eq 6, 3) := by decide +kernel
theorem dX6_year_22 : decode cX6_year 22 = .ok (.bipush (-2), 2) := by decide +kernel
theorem dX6_year_24 : decode cX6_year 24 = .ok (.ireturn, 1) := by decide +kernel
theorem dX6_year_25 : decode cX6_year 25 = .ok (.aload_n 0, 1) := by decide +kernel
theorem dX6_year_26 : decode cX6_year 26 = .ok (.getfield 47, 3) := by decide +kernel
theorem dX6_year_29 : decode cX6_year 29 = .ok (.aload_n 0, 1) := by decide +kernel
theorem dX6_year_30 : decode cX6_year 30 = .ok (.getfield 31, 3) := by decide +kernel
theorem dX6_year_33 : decode cX6_year 33 = .ok (.invokevirtual 158, 3) := by decide +kernel
theorem dX6_year_36 : decode cX6_year 36 = .ok (.aload_n 0, 1) := by decide +kernel
theorem dX6_year_37 : decode cX6_year 37 = .ok (.getfield 31, 3) := by decide +kernel
theorem dX6_year_40 : decode cX6_year 40 = .ok (.iload_n 1, 1) := by decide +kernel
theorem dX6_year_41 : decode cX6_year 41 = .ok (.invokevirtual 186, 3) := by decide +kernel
theorem dX6_year_44 : decode cX6_year 44 = .ok (.aload_n 0, 1) := by decide +kernel
theorem dX6_year_45 : decode cX6_year 45 = .ok (.getfield 31, 3) := by decide +kernel
theorem dX6_year_48 : decode cX6_year 48 = .ok (.invokevirtual 189, 3) := by decide +kernel
theorem dX6_year_51 : decode cX6_year 51 = .ok (.ireturn, 1) := by decide +kernel
theorem hd_X6_year : yX6_year.cls = RX6 ∧ yX6_year.cls ≠ "java/lang/invoke/MethodHandle" ∧ yX6_year.cls ≠ "java/lang/invoke/VarHandle" ∧ (parseMethodDescriptor yX6_year.desc).map (fun d => d.parameters.length) = some 1 := by decide +kernel
abbrev rm_X6_year : Room := { frames := 4, cells := 0, slots := 0, locals := 111 }
def wp_X6_year (K : Int32 → HF → Prop) (F : HF) (a1 : Int32) : Prop := ((a1 < (nI 0)) → (K (-1 : Int32) F)) ∧ ((¬ a1 < (nI 0)) → (((a1 ≤ (nI 20)) → (wp_X2_isFixed (fun x1 F1 => ((x1 = (nI 0)) → (wp_X5_put (fun F2 => wp_X2_setYear (fun F3 => wp_X2_weight (fun x2 F4 => K x2 F4) F3 16) F2 16 a1) F1 25 8 16)) ∧ ((¬ x1 = (nI 0)) → (K (-2 : Int32) F1))) F 16)) ∧ ((¬ a1 ≤ (nI 20)) → (K (-1 : Int32) F))))
set_option maxRecDepth 100000 in
set_option maxHeartbeats 4000000 in
theorem c_X6_year {l : Launch} {D : va_G} {dA : Nat → ClassId} {ad : Nat → Nat} {R : List Nat} {F : HF} {a1 : Int32} {K : Int32 → HF → Prop} (hT : BBr R) (h : wp_X6_year K F a1) : MI l yX6_year cX6_year 2 .int rm_X6_year D dA ad R F [.ref (ad 0), .int a1] K := by
  refine MI.of (own := RX6) (by decide) rfl (Nat.le_of_ble_eq_true rfl) ?_
  intro p e s m args below meth c A hA X hr
  unfold wp_X6_year at h
  show J p l e rm_X6_year s m args below meth c 2 D dA ad R A (QI D dA ad R A below args s K) F 0 [(0, .ref (ad 0)), (1, .int a1)] []
  refine r_iload_n (pc := 0) X 1 dX6_year_0 rfl rfl ?_
  refine r_if_lt (pc := 1) (tgt := 10) X dX6_year_1 (by decide) (fun hc => ?_) (fun hc => ?_)
  · replace h := h.1 hc
    refine r_iconst (pc := 10) (v := (-1 : Int32)) X dX6_year_10 (by decide) ?_
    exact r_iret (pc := 11) X hr dX6_year_11 h
  · replace h := h.2 hc
    refine r_iload_n (pc := 4) X 1 dX6_year_4 rfl rfl ?_
    refine r_bipush (pc := 5) (v := (nI 20)) X dX6_year_5 (by decide) ?_
    refine r_icmp_le (pc := 7) (tgt := 12) X dX6_year_7 (by decide) (fun hc => ?_) (fun hc => ?_)
    · replace h := h.1 hc
      refine r_aload_n (pc := 12) X 0 dX6_year_12 rfl rfl ?_
      refine fg_X6_31 (pc := 13) X hT.1 dX6_year_13 ?_
      refine r_callIV (pc := 16) (As := []) (st := []) X hA (c_X2_isFixed hT.2.2.2.2.1 h) g_X6_151 cl_X2 hT.2.2.2.2.1.1 hd_X2_isFixed rfl rfl rfl ⟨Nat.le_of_ble_eq_true rfl, Nat.le_of_ble_eq_true rfl⟩ rfl (Nat.le_of_ble_eq_true rfl) dX6_year_16 (fun x1 F1 h => ?_)
      refine r_if_eq (pc := 19) (tgt := 25) X dX6_year_19 (by decide) (fun hc => ?_) (fun hc => ?_)
      · replace h := h.1 hc
        refine r_aload_n (pc := 25) X 0 dX6_year_25 rfl rfl ?_
        refine fg_X6_47 (pc := 26) X hT.1 dX6_year_26 ?_
        refine r_aload_n (pc := 29) X 0 dX6_year_29 rfl rfl ?_
        refine fg_X6_31 (pc := 30) X hT.1 dX6_year_30 ?_
        refine r_callVV (pc := 33) (As := [.ref (ad 16)]) (st := []) X hA (c_X5_put hT.2.2.2.2.2.2.1 hT.2.2.2.2.1 h) g_X6_158 cl_X5 hT.2.2.2.2.2.2.1.1 hd_X5_put rfl rfl rfl ⟨Nat.le_of_ble_eq_true rfl, Nat.le_of_ble_eq_true rfl⟩ rfl (Nat.le_of_ble_eq_true rfl) dX6_year_33 (fun F2 h => ?_)
        refine r_aload_n (pc := 36) X 0 dX6_year_36 rfl rfl ?_
        refine fg_X6_31 (pc := 37) X hT.1 dX6_year_37 ?_
        refine r_iload_n (pc := 40) X 1 dX6_year_40 rfl rfl ?_
        refine r_callVV (pc := 41) (As := [.int a1]) (st := []) X hA (c_X2_setYear hT.2.2.2.2.1 h) g_X6_186 cl_X2 hT.2.2.2.2.1.1 hd_X2_setYear rfl rfl rfl ⟨Nat.le_of_ble_eq_true rfl, Nat.le_of_ble_eq_true rfl⟩ rfl (Nat.le_of_ble_eq_true rfl) dX6_year_41 (fun F3 h => ?_)
        refine r_aload_n (pc := 44) X 0 dX6_year_44 rfl rfl ?_
        refine fg_X6_31 (pc := 45) X hT.1 dX6_year_45 ?_
        refine r_callIV (pc := 48) (As := []) (st := []) X hA (c_X2_weight hT.2.2.2.2.1 h) g_X6_189 cl_X2 hT.2.2.2.2.1.1 hd_X2_weight rfl rfl rfl ⟨Nat.le_of_ble_eq_true rfl, Nat.le_of_ble_eq_true rfl⟩ rfl (Nat.le_of_ble_eq_true rfl) dX6_year_48 (fun x2 F4 h => ?_)
        exact r_iret (pc := 51) X hr dX6_year_51 h
      · replace h := h.2 hc
        refine r_bipush (pc := 22) (v := (-2 : Int32)) X dX6_year_22 (by decide) ?_
        exact r_iret (pc := 24) X hr dX6_year_24 h
    · replace h := h.2 hc
      refine r_iconst (pc := 10) (v := (-1 : Int32)) X dX6_year_10 (by decide) ?_
      exact r_iret (pc := 11) X hr dX6_year_11 h
theorem dX6_undo_0 : decode cX6_undo 0 = .ok (.aload_n 0, 1) := by decide +kernel
theorem dX6_undo_1 : decode cX6_undo 1 = .ok (.getfield 47, 3) := by decide +kernel
theorem dX6_undo_4 : decode cX6_undo 4 = .ok (.aload_n 0, 1) := by decide +kernel
theorem dX6_undo_5 : decode cX6_undo 5 = .ok (.getfield 31, 3) := by decide +kernel
theorem dX6_undo_8 : decode cX6_undo 8 = .ok (.invokevirtual 192, 3) := by decide +kernel
theorem dX6_undo_11 : decode cX6_undo 11 = .ok (.ifCond .eq 13, 3) := by decide +kernel
theorem dX6_undo_14 : decode cX6_undo 14 = .ok (.aload_n 0, 1) := by decide +kernel
theorem dX6_undo_15 : decode cX6_undo 15 = .ok (.getfield 47, 3) := by decide +kernel
theorem dX6_undo_18 : decode cX6_undo 18 = .ok (.invokevirtual 196, 3) := by decide +kernel
theorem dX6_undo_21 : decode cX6_undo 21 = .ok (.goto 5, 3) := by decide +kernel
theorem dX6_undo_24 : decode cX6_undo 24 = .ok (.bipush (-2), 2) := by decide +kernel
theorem dX6_undo_26 : decode cX6_undo 26 = .ok (.ireturn, 1) := by decide +kernel
theorem hd_X6_undo : yX6_undo.cls = RX6 ∧ yX6_undo.cls ≠ "java/lang/invoke/MethodHandle" ∧ yX6_undo.cls ≠ "java/lang/invoke/VarHandle" ∧ (parseMethodDescriptor yX6_undo.desc).map (fun d => d.parameters.length) = some 0 := by decide +kernel
abbrev rm_X6_undo : Room := { frames := 4, cells := 0, slots := 0, locals := 111 }
def wp_X6_undo (K : Int32 → HF → Prop) (F : HF) : Prop := wp_X5_takeInto (fun x1 F1 => ((x1 = (nI 0)) → (K (-2 : Int32) F1)) ∧ ((¬ x1 = (nI 0)) → (wp_X5_size (fun x2 F2 => K x2 F2) F1 25 8))) F 25 8 16
set_option maxRecDepth 100000 in
set_option maxHeartbeats 4000000 in
theorem c_X6_undo {l : Launch} {D : va_G} {dA : Nat → ClassId} {ad : Nat → Nat} {R : List Nat} {F : HF} {K : Int32 → HF → Prop} (hT : BBr R) (h : wp_X6_undo K F ) : MI l yX6_undo cX6_undo 1 .int rm_X6_undo D dA ad R F [.ref (ad 0)] K := by
  refine MI.of (own := RX6) (by decide) rfl (Nat.le_of_ble_eq_true rfl) ?_
  intro p e s m args below meth c A hA X hr
  unfold wp_X6_undo at h
  show J p l e rm_X6_undo s m args below meth c 1 D dA ad R A (QI D dA ad R A below args s K) F 0 [(0, .ref (ad 0))] []
  refine r_aload_n (pc := 0) X 0 dX6_undo_0 rfl rfl ?_
  refine fg_X6_47 (pc := 1) X hT.1 dX6_undo_1 ?_
  refine r_aload_n (pc := 4) X 0 dX6_undo_4 rfl rfl ?_
  refine fg_X6_31 (pc := 5) X hT.1 dX6_undo_5 ?_
  refine r_callIV (pc := 8) (As := [.ref (ad 16)]) (st := []) X hA (c_X5_takeInto hT.2.2.2.2.2.2.1 hT.2.2.2.2.1 h) g_X6_192 cl_X5 hT.2.2.2.2.2.2.1.1 hd_X5_takeInto rfl rfl rfl ⟨Nat.le_of_ble_eq_true rfl, Nat.le_of_ble_eq_true rfl⟩ rfl (Nat.le_of_ble_eq_true rfl) dX6_undo_8 (fun x1 F1 h => ?_)
  refine r_if_eq (pc := 11) (tgt := 24) X dX6_undo_11 (by decide) (fun hc => ?_) (fun hc => ?_)
  · replace h := h.1 hc
    refine r_bipush (pc := 24) (v := (-2 : Int32)) X dX6_undo_24 (by decide) ?_
    exact r_iret (pc := 26) X hr dX6_undo_26 h
  · replace h := h.2 hc
    refine r_aload_n (pc := 14) X 0 dX6_undo_14 rfl rfl ?_
    refine fg_X6_47 (pc := 15) X hT.1 dX6_undo_15 ?_
    refine r_callIV (pc := 18) (As := []) (st := []) X hA (c_X5_size hT.2.2.2.2.2.2.1 h) g_X6_196 cl_X5 hT.2.2.2.2.2.2.1.1 hd_X5_size rfl rfl rfl ⟨Nat.le_of_ble_eq_true rfl, Nat.le_of_ble_eq_true rfl⟩ rfl (Nat.le_of_ble_eq_true rfl) dX6_undo_18 (fun x2 F2 h => ?_)
    refine r_goto (pc := 21) (tgt := 26) X dX6_undo_21 (by decide) ?_
    exact r_iret (pc := 26) X hr dX6_undo_26 h
theorem dX6_over_0 : decode cX6_over 0 = .ok (.iload_n 1, 1) := by decide +kernel
theorem dX6_over_1 : decode cX6_over 1 = .ok (.ifCond .lt 8, 3) := by decide +kernel
theorem dX6_over_4 : decode cX6_over 4 = .ok (.iload_n 1, 1) := by decide +kernel
theorem dX6_over_5 : decode cX6_over 5 = .ok (.iconst 1, 1) := by decide +kernel
theorem dX6_over_6 : decode cX6_over 6 = .ok (.if_icmp .le 5, 3) := by decide +kernel
theorem dX6_over_9 : decode cX6_over 9 = .ok (.iconst (-1), 1) := by decide +kernel
theorem dX6_over_10 : decode cX6_over 10 = .ok (.ireturn, 1) := by decide +kernel
theorem dX6_over_11 : decode cX6_over 11 = .ok (.aload_n 0, 1) := by decide +kernel
theorem dX6_over_12 : decode cX6_over 12 = .ok (.getfield 31, 3) := by decide +kernel
theorem dX6_over_15 : decode cX6_over 15 = .ok (.invokevirtual 168, 3) := by decide +kernel
theorem dX6_over_18 : decode cX6_over 18 = .ok (.ifCond .ne 16, 3) := by decide +kernel
theorem dX6_over_21 : decode cX6_over 21 = .ok (.aload_n 0, 1) := by decide +kernel
theorem dX6_over_22 : decode cX6_over 22 = .ok (.getfield 31, 3) := by decide +kernel
theorem dX6_over_25 : decode cX6_over 25 = .ok (.invokevirtual 123, 3) := by decide +kernel
theorem dX6_over_28 : decode cX6_over 28 = .ok (.invokevirtual 171, 3) := by decide +kernel
theorem dX6_over_31 : decode cX6_over 31 = .ok (.ifCond .ne 6, 3) := by decide +kernel
theorem dX6_over_34 : decode cX6_over 34 = .ok (.bipush (-2), 2) := by decide +kernel
theorem dX6_over_36 : decode cX6_over 36 = .ok (.ireturn, 1) := by decide +kernel
theorem dX6_over_37 : decode cX6_over 37 = .ok (.aload_n 0, 1) := by decide +kernel
theorem dX6_over_38 : decode cX6_over 38 = .ok (.getfield 38, 3) := by decide +kernel
theorem dX6_over_41 : decode cX6_over 41 = .ok (.aload_n 0, 1) := by decide +kernel
theorem dX6_over_42 : decode cX6_over 42 = .ok (.getfield 31, 3) := by decide +kernel
theorem dX6_over_45 : decode cX6_over 45 = .ok (.invokevirtual 123, 3) := by decide +kernel
theorem dX6_over_48 : decode cX6_over 48 = .ok (.invokevirtual 197, 3) := by decide +kernel
theorem dX6_over_51 : decode cX6_over 51 = .ok (.aload_n 0, 1) := by decide +kernel
theorem dX6_over_52 : decode cX6_over 52 = .ok (.getfield 31, 3) := by decide +kernel
theorem dX6_over_55 : decode cX6_over 55 = .ok (.invokevirtual 174, 3) := by decide +kernel
theorem dX6_over_58 : decode cX6_over 58 = .ok (.iconst 1, 1) := by decide +kernel
theorem dX6_over_59 : decode cX6_over 59 = .ok (.iadd, 1) := by decide +kernel
theorem dX6_over_60 : decode cX6_over 60 = .ok (.istore_n 2, 1) := by decide +kernel
theorem dX6_over_61 : decode cX6_over 61 = .ok (.aload_n 0, 1) := by decide +kernel
theorem dX6_over_62 : decode cX6_over 62 = .ok (.getfield 19, 3) := by decide +kernel
theorem dX6_over_65 : decode cX6_over 65 = .ok (.invokevirtual 177, 3) := by decide +kernel
theorem dX6_over_68 : decode cX6_over 68 = .ok (.istore_n 3, 1) := by decide +kernel
theorem dX6_over_69 : decode cX6_over 69 = .ok (.aload_n 0, 1) := by decide +kernel
theorem dX6_over_70 : decode cX6_over 70 = .ok (.getfield 38, 3) := by decide +kernel
theorem dX6_over_73 : decode cX6_over 73 = .ok (.iload_n 2, 1) := by decide +kernel
theorem dX6_over_74 : decode cX6_over 74 = .ok (.iload_n 3, 1) := by decide +kernel
theorem dX6_over_75 : decode cX6_over 75 = .ok (.aload_n 0, 1) := by decide +kernel
theorem dX6_over_76 : decode cX6_over 76 = .ok (.getfield 31, 3) := by decide +kernel
theorem dX6_over_79 : decode cX6_over 79 = .ok (.invokevirtual 200, 3) := by decide +kernel
theorem dX6_over_82 : decode cX6_over 82 = .ok (.aload_n 0, 1) := by decide +kernel
theorem dX6_over_83 : decode cX6_over 83 = .ok (.getfield 31, 3) := by decide +kernel
theorem dX6_over_86 : decode cX6_over 86 = .ok (.invokevirtual 189, 3) := by decide +kernel
theorem dX6_over_89 : decode cX6_over 89 = .ok (.invokevirtual 203, 3) := by decide +kernel
theorem dX6_over_92 : decode cX6_over 92 = .ok (.istore 4, 2) := by decide +kernel
theorem dX6_over_94 : decode cX6_over 94 = .ok (.iload 4, 2) := by decide +kernel
theorem dX6_over_96 : decode cX6_over 96 = .ok (.iload_n 3, 1) := by decide +kernel
theorem dX6_over_97 : decode cX6_over 97 = .ok (.if_icmp .lt 6, 3) := by decide +kernel
theorem dX6_over_100 : decode cX6_over 100 = .ok (.bipush (-4), 2) := by decide +kernel
theorem dX6_over_102 : decode cX6_over 102 = .ok (.ireturn, 1) := by decide +kernel
theorem dX6_over_103 : decode cX6_over 103 = .ok (.iload_n 1, 1) := by decide +kernel
theorem dX6_over_104 : decode cX6_over 104 = .ok (.ifCond .ne 18, 3) := by decide +kernel
theorem dX6_over_107 : decode cX6_over 107 = .ok (.aload_n 0, 1) := by decide +kernel
theorem dX6_over_108 : decode cX6_over 108 = .ok (.getfield 31, 3) := by decide +kernel
theorem dX6_over_111 : decode cX6_over 111 = .ok (.invokevirtual 200, 3) := by decide +kernel
theorem dX6_over_114 : decode cX6_over 114 = .ok (.iload 4, 2) := by decide +kernel
theorem dX6_over_116 : decode cX6_over 116 = .ok (.iadd, 1) := by decide +kernel
theorem dX6_over_117 : decode cX6_over 117 = .ok (.iload_n 2, 1) := by decide +kernel
theorem dX6_over_118 : decode cX6_over 118 = .ok (.isub, 1) := by decide +kernel
theorem dX6_over_119 : decode cX6_over 119 = .ok (.goto 5, 3) := by decide +kernel
theorem dX6_over_122 : decode cX6_over 122 = .ok (.iload 4, 2) := by decide +kernel
theorem dX6_over_124 : decode cX6_over 124 = .ok (.ireturn, 1) := by decide +kernel
theorem hd_X6_over : yX6_over.cls = RX6 ∧ yX6_over.cls ≠ "java/lang/invoke/MethodHandle" ∧ yX6_over.cls ≠ "java/lang/invoke/VarHandle" ∧ (parseMethodDescriptor yX6_over.desc).map (fun d => d.parameters.length) = some 1 := by decide +kernel
abbrev rm_X6_over : Room := { frames := 5, cells := 0, slots := 0, locals := 115 }
def wp_X6_over (K : Int32 → HF → Prop) (F : HF) (a1 : Int32) : Prop := ((a1 < (nI 0)) → (K (-1 : Int32) F)) ∧ ((¬ a1 < (nI 0)) → (((a1 ≤ (nI 1)) → (wp_X2_isBroken (fun x1 F1 => ((¬ x1 = (nI 0)) → (K (-2 : Int32) F1)) ∧ ((x1 = (nI 0)) → (wp_X0_isWhole (fun x2 F2 => ((¬ x2 = (nI 0)) → (wp_X0_copyFrom (fun F3 => wp_X2_place (fun x3 F4 => wp_X1_width (fun x4 F5 => wp_X2_minute (fun x5 F6 => wp_X2_weight (fun x6 F7 => wp_X0_walk (fun x7 F8 => ((x7 < x4) → (((¬ a1 = (nI 0)) → (K x7 F8)) ∧ ((a1 = (nI 0)) → (wp_X2_minute (fun x8 F9 => K ((x8 + x7) - (x3 + (nI 1))) F9) F8 16)))) ∧ ((¬ x7 < x4) → (K (-4 : Int32) F8))) F7 21 (x3 + (nI 1)) x4 x5 x6) F6 16) F5 16) F4 4) F3 16) F2 21 17)) ∧ ((x2 = (nI 0)) → (K (-2 : Int32) F2))) F1 17))) F 16)) ∧ ((¬ a1 ≤ (nI 1)) → (K (-1 : Int32) F))))
set_option maxRecDepth 100000 in
set_option maxHeartbeats 4000000 in
theorem c_X6_over {l : Launch} {D : va_G} {dA : Nat → ClassId} {ad : Nat → Nat} {R : List Nat} {F : HF} {a1 : Int32} {K : Int32 → HF → Prop} (hT : BBr R) (h : wp_X6_over K F a1) : MI l yX6_over cX6_over 5 .int rm_X6_over D dA ad R F [.ref (ad 0), .int a1] K := by
  refine MI.of (own := RX6) (by decide) rfl (Nat.le_of_ble_eq_true rfl) ?_
  intro p e s m args below meth c A hA X hr
  unfold wp_X6_over at h
  show J p l e rm_X6_over s m args below meth c 5 D dA ad R A (QI D dA ad R A below args s K) F 0 [(0, .ref (ad 0)), (1, .int a1)] []
  refine r_iload_n (pc := 0) X 1 dX6_over_0 rfl rfl ?_
  refine r_if_lt (pc := 1) (tgt := 9) X dX6_over_1 (by decide) (fun hc => ?_) (fun hc => ?_)
  · replace h := h.1 hc
    refine r_iconst (pc := 9) (v := (-1 : Int32)) X dX6_over_9 (by decide) ?_
    exact r_iret (pc := 10) X hr dX6_over_10 h
  · replace h := h.2 hc
    refine r_iload_n (pc := 4) X 1 dX6_over_4 rfl rfl ?_
    refine r_iconst (pc := 5) (v := (nI 1)) X dX6_over_5 (by decide) ?_
    refine r_icmp_le (pc := 6) (tgt := 11) X dX6_over_6 (by decide) (fun hc => ?_) (fun hc => ?_)
    · replace h := h.1 hc
      refine r_aload_n (pc := 11) X 0 dX6_over_11 rfl rfl ?_
      refine fg_X6_31 (pc := 12) X hT.1 dX6_over_12 ?_
      refine r_callIV (pc := 15) (As := []) (st := []) X hA (c_X2_isBroken hT.2.2.2.2.1 h) g_X6_168 cl_X2 hT.2.2.2.2.1.1 hd_X2_isBroken rfl rfl rfl ⟨Nat.le_of_ble_eq_true rfl, Nat.le_of_ble_eq_true rfl⟩ rfl (Nat.le_of_ble_eq_true rfl) dX6_over_15 (fun x1 F1 h => ?_)
      refine r_if_ne (pc := 18) (tgt := 34) X dX6_over_18 (by decide) (fun hc => ?_) (fun hc => ?_)
      · replace h := h.1 hc
        refine r_bipush (pc := 34) (v := (-2 : Int32)) X dX6_over_34 (by decide) ?_
        exact r_iret (pc := 36) X hr dX6_over_36 h
      · replace h := h.2 hc
        refine r_aload_n (pc := 21) X 0 dX6_over_21 rfl rfl ?_
        refine fg_X6_31 (pc := 22) X hT.1 dX6_over_22 ?_
        refine r_bridge_X6 (pc := 25) (t1 := 17) X hA rfl hT.2.2.2.2.1 (Nat.le_of_ble_eq_true rfl) (Nat.le_of_ble_eq_true rfl) (Nat.le_of_ble_eq_true rfl) dX6_over_25 ?_
        refine r_callIV (pc := 28) (As := []) (st := []) X hA (c_X0_isWhole hT.2.2.2.2.1.2 h) g_X6_171 cl_X0 hT.2.2.2.2.1.2.1 hd_X0_isWhole rfl rfl rfl ⟨Nat.le_of_ble_eq_true rfl, Nat.le_of_ble_eq_true rfl⟩ rfl (Nat.le_of_ble_eq_true rfl) dX6_over_28 (fun x2 F2 h => ?_)
        refine r_if_ne (pc := 31) (tgt := 37) X dX6_over_31 (by decide) (fun hc => ?_) (fun hc => ?_)
        · replace h := h.1 hc
          refine r_aload_n (pc := 37) X 0 dX6_over_37 rfl rfl ?_
          refine fg_X6_38 (pc := 38) X hT.1 dX6_over_38 ?_
          refine r_aload_n (pc := 41) X 0 dX6_over_41 rfl rfl ?_
          refine fg_X6_31 (pc := 42) X hT.1 dX6_over_42 ?_
          refine r_bridge_X6 (pc := 45) (t1 := 17) X hA rfl hT.2.2.2.2.1 (Nat.le_of_ble_eq_true rfl) (Nat.le_of_ble_eq_true rfl) (Nat.le_of_ble_eq_true rfl) dX6_over_45 ?_
          refine r_callVV (pc := 48) (As := [.ref (ad 17)]) (st := []) X hA (c_X0_copyFrom hT.2.2.2.2.2.1 hT.2.2.2.2.1.2 h) g_X6_197 cl_X0 hT.2.2.2.2.2.1.1 hd_X0_copyFrom rfl rfl rfl ⟨Nat.le_of_ble_eq_true rfl, Nat.le_of_ble_eq_true rfl⟩ rfl (Nat.le_of_ble_eq_true rfl) dX6_over_48 (fun F3 h => ?_)
          refine r_aload_n (pc := 51) X 0 dX6_over_51 rfl rfl ?_
          refine fg_X6_31 (pc := 52) X hT.1 dX6_over_52 ?_
          refine r_callIV (pc := 55) (As := []) (st := []) X hA (c_X2_place hT.2.2.2.2.1 h) g_X6_174 cl_X2 hT.2.2.2.2.1.1 hd_X2_place rfl rfl rfl ⟨Nat.le_of_ble_eq_true rfl, Nat.le_of_ble_eq_true rfl⟩ rfl (Nat.le_of_ble_eq_true rfl) dX6_over_55 (fun x3 F4 h => ?_)
          refine r_iconst (pc := 58) (v := (nI 1)) X dX6_over_58 (by decide) ?_
          refine r_iadd (pc := 59) X dX6_over_59 ?_
          refine r_istore_n (pc := 60) X [(2, .int (x3 + (nI 1))), (0, .ref (ad 0)), (1, .int a1)] dX6_over_60 rfl (by decide) rfl ?_
          refine r_aload_n (pc := 61) X 1 dX6_over_61 rfl rfl ?_
          refine fg_X6_19 (pc := 62) X hT.1 dX6_over_62 ?_
          refine r_callIV (pc := 65) (As := []) (st := []) X hA (c_X1_width hT.2.2.1 h) g_X6_177 cl_X1 hT.2.2.1.1 hd_X1_width rfl rfl rfl ⟨Nat.le_of_ble_eq_true rfl, Nat.le_of_ble_eq_true rfl⟩ rfl (Nat.le_of_ble_eq_true rfl) dX6_over_65 (fun x4 F5 h => ?_)
          refine r_istore_n (pc := 68) X [(3, .int x4), (2, .int (x3 + (nI 1))), (0, .ref (ad 0)), (1, .int a1)] dX6_over_68 rfl (by decide) rfl ?_
          refine r_aload_n (pc := 69) X 2 dX6_over_69 rfl rfl ?_
          refine fg_X6_38 (pc := 70) X hT.1 dX6_over_70 ?_
          refine r_iload_n (pc := 73) X 1 dX6_over_73 rfl rfl ?_
          refine r_iload_n (pc := 74) X 0 dX6_over_74 rfl rfl ?_
          refine r_aload_n (pc := 75) X 2 dX6_over_75 rfl rfl ?_
          refine fg_X6_31 (pc := 76) X hT.1 dX6_over_76 ?_
          refine r_callIV (pc := 79) (As := []) (st := [.int x4, .int (x3 + (nI 1)), .ref (ad 21)]) X hA (c_X2_minute hT.2.2.2.2.1 h) g_X6_200 cl_X2 hT.2.2.2.2.1.1 hd_X2_minute rfl rfl rfl ⟨Nat.le_of_ble_eq_true rfl, Nat.le_of_ble_eq_true rfl⟩ rfl (Nat.le_of_ble_eq_true rfl) dX6_over_79 (fun x5 F6 h => ?_)
          refine r_aload_n (pc := 82) X 2 dX6_over_82 rfl rfl ?_
          refine fg_X6_31 (pc := 83) X hT.1 dX6_over_83 ?_
          refine r_callIV (pc := 86) (As := []) (st := [.int x5, .int x4, .int (x3 + (nI 1)), .ref (ad 21)]) X hA (c_X2_weight hT.2.2.2.2.1 h) g_X6_189 cl_X2 hT.2.2.2.2.1.1 hd_X2_weight rfl rfl rfl ⟨Nat.le_of_ble_eq_true rfl, Nat.le_of_ble_eq_true rfl⟩ rfl (Nat.le_of_ble_eq_true rfl) dX6_over_86 (fun x6 F7 h => ?_)
          refine r_callIV (pc := 89) (As := [.int (x3 + (nI 1)), .int x4, .int x5, .int x6]) (st := []) X hA (c_X0_walk hT.2.2.2.2.2.1 h) g_X6_203 cl_X0 hT.2.2.2.2.2.1.1 hd_X0_walk rfl rfl rfl ⟨Nat.le_of_ble_eq_true rfl, Nat.le_of_ble_eq_true rfl⟩ rfl (Nat.le_of_ble_eq_true rfl) dX6_over_89 (fun x7 F8 h => ?_)
          refine r_istore (pc := 92) X [(4, .int x7), (3, .int x4), (2, .int (x3 + (nI 1))), (0, .ref (ad 0)), (1, .int a1)] dX6_over_92 (by decide) rfl ?_
          refine r_iload (pc := 94) X 0 dX6_over_94 rfl ?_
          refine r_iload_n (pc := 96) X 1 dX6_over_96 rfl rfl ?_
          refine r_icmp_lt (pc := 97) (tgt := 103) X dX6_over_97 (by decide) (fun hc => ?_) (fun hc => ?_)
          · replace h := h.1 hc
            refine r_iload_n (pc := 103) X 4 dX6_over_103 rfl rfl ?_
            refine r_if_ne (pc := 104) (tgt := 122) X dX6_over_104 (by decide) (fun hc => ?_) (fun hc => ?_)
            · replace h := h.1 hc
              refine r_iload (pc := 122) X 0 dX6_over_122 rfl ?_
              exact r_iret (pc := 124) X hr dX6_over_124 h
            · replace h := h.2 hc
              refine r_aload_n (pc := 107) X 3 dX6_over_107 rfl rfl ?_
              refine fg_X6_31 (pc := 108) X hT.1 dX6_over_108 ?_
              refine r_callIV (pc := 111) (As := []) (st := []) X hA (c_X2_minute hT.2.2.2.2.1 h) g_X6_200 cl_X2 hT.2.2.2.2.1.1 hd_X2_minute rfl rfl rfl ⟨Nat.le_of_ble_eq_true rfl, Nat.le_of_ble_eq_true rfl⟩ rfl (Nat.le_of_ble_eq_true rfl) dX6_over_111 (fun x8 F9 h => ?_)
              refine r_iload (pc := 114) X 0 dX6_over_114 rfl ?_
              refine r_iadd (pc := 116) X dX6_over_116 ?_
              refine r_iload_n (pc := 117) X 2 dX6_over_117 rfl rfl ?_
              refine r_isub (pc := 118) X dX6_over_118 ?_
              refine r_goto (pc := 119) (tgt := 124) X dX6_over_119 (by decide) ?_
              exact r_iret (pc := 124) X hr dX6_over_124 h
          · replace h := h.2 hc
            refine r_bipush (pc := 100) (v := (-4 : Int32)) X dX6_over_100 (by decide) ?_
            exact r_iret (pc := 102) X hr dX6_over_102 h
        · replace h := h.2 hc
          refine r_bipush (pc := 34) (v := (-2 : Int32)) X dX6_over_34 (by decide) ?_
          exact r_iret (pc := 36) X hr dX6_over_36 h
    · replace h := h.2 hc
      refine r_iconst (pc := 9) (v := (-1 : Int32)) X dX6_over_9 (by decide) ?_
      exact r_iret (pc := 10) X hr dX6_over_10 h
theorem dX6_fewest_0 : decode cX6_fewest 0 = .ok (.iload_n 1, 1) := by decide +kernel
theorem dX6_fewest_1 : decode cX6_fewest 1 = .ok (.iconst (-1), 1) := by decide +kernel
theorem dX6_fewest_2 : decode cX6_fewest 2 = .ok (.if_icmp .lt 9, 3) := by decide +kernel
theorem dX6_fewest_5 : decode cX6_fewest 5 = .ok (.iload_n 1, 1) := by decide +kernel
theorem dX6_fewest_6 : decode cX6_fewest 6 = .ok (.bipush 8, 2) := by decide +kernel
theorem dX6_fewest_8 : decode cX6_fewest 8 = .ok (.if_icmp .lt 5, 3) := by decide +kernel
theorem dX6_fewest_11 : decode cX6_fewest 11 = .ok (.iconst (-1), 1) := by decide +kernel
theorem dX6_fewest_12 : decode cX6_fewest 12 = .ok (.ireturn, 1) := by decide +kernel
theorem dX6_fewest_13 : decode cX6_fewest 13 = .ok (.aload_n 0, 1) := by decide +kernel
theorem dX6_fewest_14 : decode cX6_fewest 14 = .ok (.getfield 57, 3) := by decide +kernel
theorem dX6_fewest_17 : decode cX6_fewest 17 = .ok (.aload_n 0, 1) := by decide +kernel
theorem dX6_fewest_18 : decode cX6_fewest 18 = .ok (.getfield 31, 3) := by decide +kernel
theorem dX6_fewest_21 : decode cX6_fewest 21 = .ok (.invokevirtual 189, 3) := by decide +kernel
theorem dX6_fewest_24 : decode cX6_fewest 24 = .ok (.invokevirtual 207, 3) := by decide +kernel
theorem dX6_fewest_27 : decode cX6_fewest 27 = .ok (.iload_n 1, 1) := by decide +kernel
theorem dX6_fewest_28 : decode cX6_fewest 28 = .ok (.iconst (-1), 1) := by decide +kernel
theorem dX6_fewest_29 : decode cX6_fewest 29 = .ok (.if_icmp .ne 13, 3) := by decide +kernel
theorem dX6_fewest_32 : decode cX6_fewest 32 = .ok (.aload_n 0, 1) := by decide +kernel
theorem dX6_fewest_33 : decode cX6_fewest 33 = .ok (.getfield 57, 3) := by decide +kernel
theorem dX6_fewest_36 : decode cX6_fewest 36 = .ok (.invokevirtual 210, 3) := by decide +kernel
theorem dX6_fewest_39 : decode cX6_fewest 39 = .ok (.goto 11, 3) := by decide +kernel
theorem dX6_fewest_42 : decode cX6_fewest 42 = .ok (.aload_n 0, 1) := by decide +kernel
theorem dX6_fewest_43 : decode cX6_fewest 43 = .ok (.getfield 57, 3) := by decide +kernel
theorem dX6_fewest_46 : decode cX6_fewest 46 = .ok (.iload_n 1, 1) := by decide +kernel
theorem dX6_fewest_47 : decode cX6_fewest 47 = .ok (.invokevirtual 213, 3) := by decide +kernel
theorem dX6_fewest_50 : decode cX6_fewest 50 = .ok (.ireturn, 1) := by decide +kernel
theorem hd_X6_fewest : yX6_fewest.cls = RX6 ∧ yX6_fewest.cls ≠ "java/lang/invoke/MethodHandle" ∧ yX6_fewest.cls ≠ "java/lang/invoke/VarHandle" ∧ (parseMethodDescriptor yX6_fewest.desc).map (fun d => d.parameters.length) = some 1 := by decide +kernel
abbrev rm_X6_fewest : Room := { frames := 17, cells := 0, slots := 0, locals := 433 }
def wp_X6_fewest (K : Int32 → HF → Prop) (F : HF) (a1 : Int32) : Prop := ((a1 < (-1 : Int32)) → (K (-1 : Int32) F)) ∧ ((¬ a1 < (-1 : Int32)) → (((a1 < (nI 8)) → (wp_X2_weight (fun x1 F1 => wp_X4_find (fun F2 => ((¬ a1 = (-1 : Int32)) → (wp_X4_foundAt (fun x2 F3 => K x2 F3) F2 a1)) ∧ ((a1 = (-1 : Int32)) → (wp_X4_foundSize (fun x3 F4 => K x3 F4) F2 ))) F1 x1) F 16)) ∧ ((¬ a1 < (nI 8)) → (K (-1 : Int32) F))))
set_option maxRecDepth 100000 in
set_option maxHeartbeats 4000000 in
theorem c_X6_fewest {l : Launch} {D : va_G} {dA : Nat → ClassId} {ad : Nat → Nat} {R : List Nat} {F : HF} {a1 : Int32} {K : Int32 → HF → Prop} (hT : BBr R) (h : wp_X6_fewest K F a1) : MI l yX6_fewest cX6_fewest 2 .int rm_X6_fewest D dA ad R F [.ref (ad 0), .int a1] K := by
  refine MI.of (own := RX6) (by decide) rfl (Nat.le_of_ble_eq_true rfl) ?_
  intro p e s m args below meth c A hA X hr
  unfold wp_X6_fewest at h
  show J p l e rm_X6_fewest s m args below meth c 2 D dA ad R A (QI D dA ad R A below args s K) F 0 [(0, .ref (ad 0)), (1, .int a1)] []
  refine r_iload_n (pc := 0) X 1 dX6_fewest_0 rfl rfl ?_
  refine r_iconst (pc := 1) (v := (-1 : Int32)) X dX6_fewest_1 (by decide) ?_
  refine r_icmp_lt (pc := 2) (tgt := 11) X dX6_fewest_2 (by decide) (fun hc => ?_) (fun hc => ?_)
  · replace h := h.1 hc
    refine r_iconst (pc := 11) (v := (-1 : Int32)) X dX6_fewest_11 (by decide) ?_
    exact r_iret (pc := 12) X hr dX6_fewest_12 h
  · replace h := h.2 hc
    refine r_iload_n (pc := 5) X 1 dX6_fewest_5 rfl rfl ?_
    refine r_bipush (pc := 6) (v := (nI 8)) X dX6_fewest_6 (by decide) ?_
    refine r_icmp_lt (pc := 8) (tgt := 13) X dX6_fewest_8 (by decide) (fun hc => ?_) (fun hc => ?_)
    · replace h := h.1 hc
      refine r_aload_n (pc := 13) X 0 dX6_fewest_13 rfl rfl ?_
      refine fg_X6_57 (pc := 14) X hT.1 dX6_fewest_14 ?_
      refine r_aload_n (pc := 17) X 0 dX6_fewest_17 rfl rfl ?_
      refine fg_X6_31 (pc := 18) X hT.1 dX6_fewest_18 ?_
      refine r_callIV (pc := 21) (As := []) (st := [.ref (ad 79)]) X hA (c_X2_weight hT.2.2.2.2.1 h) g_X6_189 cl_X2 hT.2.2.2.2.1.1 hd_X2_weight rfl rfl rfl ⟨Nat.le_of_ble_eq_true rfl, Nat.le_of_ble_eq_true rfl⟩ rfl (Nat.le_of_ble_eq_true rfl) dX6_fewest_21 (fun x1 F1 h => ?_)
      refine r_callVV (pc := 24) (As := [.int x1]) (st := []) X hA (c_X4_find hT.2.2.2.2.2.2.2.2.1 h) g_X6_207 cl_X4 hT.2.2.2.2.2.2.2.2.1.1 hd_X4_find rfl rfl rfl ⟨Nat.le_of_ble_eq_true rfl, Nat.le_of_ble_eq_true rfl⟩ rfl (Nat.le_of_ble_eq_true rfl) dX6_fewest_24 (fun F2 h => ?_)
      refine r_iload_n (pc := 27) X 1 dX6_fewest_27 rfl rfl ?_
      refine r_iconst (pc := 28) (v := (-1 : Int32)) X dX6_fewest_28 (by decide) ?_
      refine r_icmp_ne (pc := 29) (tgt := 42) X dX6_fewest_29 (by decide) (fun hc => ?_) (fun hc => ?_)
      · replace h := h.1 hc
        refine r_aload_n (pc := 42) X 0 dX6_fewest_42 rfl rfl ?_
        refine fg_X6_57 (pc := 43) X hT.1 dX6_fewest_43 ?_
        refine r_iload_n (pc := 46) X 1 dX6_fewest_46 rfl rfl ?_
        refine r_callIV (pc := 47) (As := [.int a1]) (st := []) X hA (c_X4_foundAt hT.2.2.2.2.2.2.2.2.1 h) g_X6_213 cl_X4 hT.2.2.2.2.2.2.2.2.1.1 hd_X4_foundAt rfl rfl rfl ⟨Nat.le_of_ble_eq_true rfl, Nat.le_of_ble_eq_true rfl⟩ rfl (Nat.le_of_ble_eq_true rfl) dX6_fewest_47 (fun x2 F3 h => ?_)
        exact r_iret (pc := 50) X hr dX6_fewest_50 h
      · replace h := h.2 hc
        refine r_aload_n (pc := 32) X 0 dX6_fewest_32 rfl rfl ?_
        refine fg_X6_57 (pc := 33) X hT.1 dX6_fewest_33 ?_
        refine r_callIV (pc := 36) (As := []) (st := []) X hA (c_X4_foundSize hT.2.2.2.2.2.2.2.2.1 h) g_X6_210 cl_X4 hT.2.2.2.2.2.2.2.2.1.1 hd_X4_foundSize rfl rfl rfl ⟨Nat.le_of_ble_eq_true rfl, Nat.le_of_ble_eq_true rfl⟩ rfl (Nat.le_of_ble_eq_true rfl) dX6_fewest_36 (fun x3 F4 h => ?_)
        refine r_goto (pc := 39) (tgt := 50) X dX6_fewest_39 (by decide) ?_
        exact r_iret (pc := 50) X hr dX6_fewest_50 h
    · replace h := h.2 hc
      refine r_iconst (pc := 11) (v := (-1 : Int32)) X dX6_fewest_11 (by decide) ?_
      exact r_iret (pc := 12) X hr dX6_fewest_12 h
