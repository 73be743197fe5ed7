theorem dX6_mends_0 : decode cX6_mends 0 = .ok (.aload_n 0, 1) := by decide +kernel
theorem dX6_mends_1 : decode cX6_mends 1 = .ok (.getfield 31, 3) := by decide +kernel
theorem dX6_mends_4 : decode cX6_mends 4 = .ok (.invokevirtual 123, 3) := by decide +kernel
theorem dX6_mends_7 : decode cX6_mends 7 = .ok (.astore_n 3, 1) := by decide +kernel
theorem dX6_mends_8 : decode cX6_mends 8 = .ok (.aload_n 3, 1) := by decide +kernel
theorem dX6_mends_9 : decode cX6_mends 9 = .ok (.iload_n 2, 1) := by decide +kernel
theorem dX6_mends_10 : decode cX6_mends 10 = .ok (.invokevirtual 130, 3) := by decide +kernel
theorem dX6_mends_13 : decode cX6_mends 13 = .ok (.bipush (-4), 2) := by decide +kernel
theorem dX6_mends_15 : decode cX6_mends 15 = .ok (.if_icmp .ne 26, 3) := by decide +kernel
theorem dX6_mends_18 : decode cX6_mends 18 = .ok (.aload_n 0, 1) := by decide +kernel
theorem dX6_mends_19 : decode cX6_mends 19 = .ok (.getfield 19, 3) := by decide +kernel
theorem dX6_mends_22 : decode cX6_mends 22 = .ok (.iload_n 2, 1) := by decide +kernel
theorem dX6_mends_23 : decode cX6_mends 23 = .ok (.invokevirtual 114, 3) := by decide +kernel
theorem dX6_mends_26 : decode cX6_mends 26 = .ok (.aload_n 0, 1) := by decide +kernel
theorem dX6_mends_27 : decode cX6_mends 27 = .ok (.getfield 19, 3) := by decide +kernel
theorem dX6_mends_30 : decode cX6_mends 30 = .ok (.aload_n 3, 1) := by decide +kernel
theorem dX6_mends_31 : decode cX6_mends 31 = .ok (.iload_n 1, 1) := by decide +kernel
theorem dX6_mends_32 : decode cX6_mends 32 = .ok (.invokevirtual 139, 3) := by decide +kernel
theorem dX6_mends_35 : decode cX6_mends 35 = .ok (.invokevirtual 114, 3) := by decide +kernel
theorem dX6_mends_38 : decode cX6_mends 38 = .ok (.if_icmp .eq 5, 3) := by decide +kernel
theorem dX6_mends_41 : decode cX6_mends 41 = .ok (.iconst 0, 1) := by decide +kernel
theorem dX6_mends_42 : decode cX6_mends 42 = .ok (.ireturn, 1) := by decide +kernel
theorem dX6_mends_43 : decode cX6_mends 43 = .ok (.aload_n 0, 1) := by decide +kernel
theorem dX6_mends_44 : decode cX6_mends 44 = .ok (.getfield 38, 3) := by decide +kernel
theorem dX6_mends_47 : decode cX6_mends 47 = .ok (.aload_n 3, 1) := by decide +kernel
theorem dX6_mends_48 : decode cX6_mends 48 = .ok (.invokevirtual 197, 3) := by decide +kernel
theorem dX6_mends_51 : decode cX6_mends 51 = .ok (.aload_n 0, 1) := by decide +kernel
theorem dX6_mends_52 : decode cX6_mends 52 = .ok (.getfield 38, 3) := by decide +kernel
theorem dX6_mends_55 : decode cX6_mends 55 = .ok (.iload_n 1, 1) := by decide +kernel
theorem dX6_mends_56 : decode cX6_mends 56 = .ok (.iload_n 2, 1) := by decide +kernel
theorem dX6_mends_57 : decode cX6_mends 57 = .ok (.invokevirtual 267, 3) := by decide +kernel
theorem dX6_mends_60 : decode cX6_mends 60 = .ok (.aload_n 0, 1) := by decide +kernel
theorem dX6_mends_61 : decode cX6_mends 61 = .ok (.getfield 38, 3) := by decide +kernel
theorem dX6_mends_64 : decode cX6_mends 64 = .ok (.iconst 0, 1) := by decide +kernel
theorem dX6_mends_65 : decode cX6_mends 65 = .ok (.aload_n 0, 1) := by decide +kernel
theorem dX6_mends_66 : decode cX6_mends 66 = .ok (.getfield 19, 3) := by decide +kernel
theorem dX6_mends_69 : decode cX6_mends 69 = .ok (.invokevirtual 177, 3) := by decide +kernel
theorem dX6_mends_72 : decode cX6_mends 72 = .ok (.aload_n 0, 1) := by decide +kernel
theorem dX6_mends_73 : decode cX6_mends 73 = .ok (.getfield 31, 3) := by decide +kernel
theorem dX6_mends_76 : decode cX6_mends 76 = .ok (.invokevirtual 200, 3) := by decide +kernel
theorem dX6_mends_79 : decode cX6_mends 79 = .ok (.aload_n 0, 1) := by decide +kernel
theorem dX6_mends_80 : decode cX6_mends 80 = .ok (.getfield 31, 3) := by decide +kernel
theorem dX6_mends_83 : decode cX6_mends 83 = .ok (.invokevirtual 189, 3) := by decide +kernel
theorem dX6_mends_86 : decode cX6_mends 86 = .ok (.invokevirtual 203, 3) := by decide +kernel
theorem dX6_mends_89 : decode cX6_mends 89 = .ok (.aload_n 0, 1) := by decide +kernel
theorem dX6_mends_90 : decode cX6_mends 90 = .ok (.getfield 19, 3) := by decide +kernel
theorem dX6_mends_93 : decode cX6_mends 93 = .ok (.invokevirtual 177, 3) := by decide +kernel
theorem dX6_mends_96 : decode cX6_mends 96 = .ok (.if_icmp .lt 7, 3) := by decide +kernel
theorem dX6_mends_99 : decode cX6_mends 99 = .ok (.iconst 1, 1) := by decide +kernel
theorem dX6_mends_100 : decode cX6_mends 100 = .ok (.goto 4, 3) := by decide +kernel
theorem dX6_mends_103 : decode cX6_mends 103 = .ok (.iconst 0, 1) := by decide +kernel
theorem dX6_mends_104 : decode cX6_mends 104 = .ok (.ireturn, 1) := by decide +kernel
theorem hd_X6_mends : yX6_mends.cls = RX6 ∧ yX6_mends.cls ≠ "java/lang/invoke/MethodHandle" ∧ yX6_mends.cls ≠ "java/lang/invoke/VarHandle" ∧ (parseMethodDescriptor yX6_mends.desc).map (fun d => d.parameters.length) = some 2 := by decide +kernel
abbrev rm_X6_mends : Room := { frames := 5, cells := 0, slots := 0, locals := 115 }
def wp_X6_mends (K : Int32 → HF → Prop) (F : HF) (a1 : Int32) (a2 : Int32) : Prop := wp_X0_positionOf (fun x1 F1 => ((¬ x1 = (-4 : Int32)) → (K (nI 0) F1)) ∧ ((x1 = (-4 : Int32)) → (wp_X1_lengthOf (fun x2 F2 => wp_X0_birdAt (fun x3 F3 => wp_X1_lengthOf (fun x4 F4 => ((x2 = x4) → (wp_X0_copyFrom (fun F5 => wp_X0_replace (fun F6 => wp_X1_width (fun x5 F7 => wp_X2_minute (fun x6 F8 => wp_X2_weight (fun x7 F9 => wp_X0_walk (fun x8 F10 => wp_X1_width (fun x9 F11 => ((x8 < x9) → (K (nI 0) F11)) ∧ ((¬ x8 < x9) → (K (nI 1) F11))) F10 4) F9 21 (nI 0) x5 x6 x7) F8 16) F7 16) F6 4) F5 21 a1 a2) F4 21 17)) ∧ ((¬ x2 = x4) → (K (nI 0) F4))) F3 4 x3) F2 17 a1) F1 4 a2))) F 17 a2
set_option maxRecDepth 100000 in
set_option maxHeartbeats 4000000 in
theorem c_X6_mends {l : Launch} {D : va_G} {dA : Nat → ClassId} {ad : Nat → Nat} {R : List Nat} {F : HF} {a1 : Int32} {a2 : Int32} {K : Int32 → HF → Prop} (hT : BBr R) (h : wp_X6_mends K F a1 a2) : MI l yX6_mends cX6_mends 4 .boolean rm_X6_mends D dA ad R F [.ref (ad 0), .int a1, .int a2] K := by
  refine MI.of (own := RX6) (by decide) rfl (Nat.le_of_ble_eq_true rfl) ?_
  intro p e s m args below meth c A hA X hr
  unfold wp_X6_mends at h
  show J p l e rm_X6_mends s m args below meth c 4 D dA ad R A (QI D dA ad R A below args s K) F 0 [(0, .ref (ad 0)), (1, .int a1), (2, .int a2)] []
  refine r_aload_n (pc := 0) X 0 dX6_mends_0 rfl rfl ?_
  refine fg_X6_31 (pc := 1) X hT.1 dX6_mends_1 ?_
  refine r_bridge_X6 (pc := 4) (t1 := 17) X hA rfl hT.2.2.2.2.1 (Nat.le_of_ble_eq_true rfl) (Nat.le_of_ble_eq_true rfl) (Nat.le_of_ble_eq_true rfl) dX6_mends_4 ?_
  refine r_astore_n (pc := 7) X [(3, .ref (ad 17)), (0, .ref (ad 0)), (1, .int a1), (2, .int a2)] dX6_mends_7 rfl (by decide) rfl ?_
  refine r_aload_n (pc := 8) X 0 dX6_mends_8 rfl rfl ?_
  refine r_iload_n (pc := 9) X 3 dX6_mends_9 rfl rfl ?_
  refine r_callIV (pc := 10) (As := [.int a2]) (st := []) X hA (c_X0_positionOf hT.2.2.2.2.1.2 h) g_X6_130 cl_X0 hT.2.2.2.2.1.2.1 hd_X0_positionOf rfl rfl rfl ⟨Nat.le_of_ble_eq_true rfl, Nat.le_of_ble_eq_true rfl⟩ rfl (Nat.le_of_ble_eq_true rfl) dX6_mends_10 (fun x1 F1 h => ?_)
  refine r_bipush (pc := 13) (v := (-4 : Int32)) X dX6_mends_13 (by decide) ?_
  refine r_icmp_ne (pc := 15) (tgt := 41) X dX6_mends_15 (by decide) (fun hc => ?_) (fun hc => ?_)
  · replace h := h.1 hc
    refine r_iconst (pc := 41) (v := (nI 0)) X dX6_mends_41 (by decide) ?_
    exact r_zret (pc := 42) X hr dX6_mends_42 nb0 h
  · replace h := h.2 hc
    refine r_aload_n (pc := 18) X 1 dX6_mends_18 rfl rfl ?_
    refine fg_X6_19 (pc := 19) X hT.1 dX6_mends_19 ?_
    refine r_iload_n (pc := 22) X 3 dX6_mends_22 rfl rfl ?_
    refine r_callIV (pc := 23) (As := [.int a2]) (st := []) X hA (c_X1_lengthOf hT.2.2.1 h) g_X6_114 cl_X1 hT.2.2.1.1 hd_X1_lengthOf rfl rfl rfl ⟨Nat.le_of_ble_eq_true rfl, Nat.le_of_ble_eq_true rfl⟩ rfl (Nat.le_of_ble_eq_true rfl) dX6_mends_23 (fun x2 F2 h => ?_)
    refine r_aload_n (pc := 26) X 1 dX6_mends_26 rfl rfl ?_
    refine fg_X6_19 (pc := 27) X hT.1 dX6_mends_27 ?_
    refine r_aload_n (pc := 30) X 0 dX6_mends_30 rfl rfl ?_
    refine r_iload_n (pc := 31) X 2 dX6_mends_31 rfl rfl ?_
    refine r_callIV (pc := 32) (As := [.int a1]) (st := [.ref (ad 4), .int x2]) X hA (c_X0_birdAt hT.2.2.2.2.1.2 h) g_X6_139 cl_X0 hT.2.2.2.2.1.2.1 hd_X0_birdAt rfl rfl rfl ⟨Nat.le_of_ble_eq_true rfl, Nat.le_of_ble_eq_true rfl⟩ rfl (Nat.le_of_ble_eq_true rfl) dX6_mends_32 (fun x3 F3 h => ?_)
    refine r_callIV (pc := 35) (As := [.int x3]) (st := [.int x2]) X hA (c_X1_lengthOf hT.2.2.1 h) g_X6_114 cl_X1 hT.2.2.1.1 hd_X1_lengthOf rfl rfl rfl ⟨Nat.le_of_ble_eq_true rfl, Nat.le_of_ble_eq_true rfl⟩ rfl (Nat.le_of_ble_eq_true rfl) dX6_mends_35 (fun x4 F4 h => ?_)
    refine r_icmp_eq (pc := 38) (tgt := 43) X dX6_mends_38 (by decide) (fun hc => ?_) (fun hc => ?_)
    · replace h := h.1 hc
      refine r_aload_n (pc := 43) X 1 dX6_mends_43 rfl rfl ?_
      refine fg_X6_38 (pc := 44) X hT.1 dX6_mends_44 ?_
      refine r_aload_n (pc := 47) X 0 dX6_mends_47 rfl rfl ?_
      refine r_callVV (pc := 48) (As := [.ref (ad 17)]) (st := []) X hA (c_X0_copyFrom hT.2.2.2.2.2.1 hT.2.2.2.2.1.2 h) g_X6_197 cl_X0 hT.2.2.2.2.2.1.1 hd_X0_copyFrom rfl rfl rfl ⟨Nat.le_of_ble_eq_true rfl, Nat.le_of_ble_eq_true rfl⟩ rfl (Nat.le_of_ble_eq_true rfl) dX6_mends_48 (fun F5 h => ?_)
      refine r_aload_n (pc := 51) X 1 dX6_mends_51 rfl rfl ?_
      refine fg_X6_38 (pc := 52) X hT.1 dX6_mends_52 ?_
      refine r_iload_n (pc := 55) X 2 dX6_mends_55 rfl rfl ?_
      refine r_iload_n (pc := 56) X 3 dX6_mends_56 rfl rfl ?_
      refine r_callVV (pc := 57) (As := [.int a1, .int a2]) (st := []) X hA (c_X0_replace hT.2.2.2.2.2.1 h) g_X6_267 cl_X0 hT.2.2.2.2.2.1.1 hd_X0_replace rfl rfl rfl ⟨Nat.le_of_ble_eq_true rfl, Nat.le_of_ble_eq_true rfl⟩ rfl (Nat.le_of_ble_eq_true rfl) dX6_mends_57 (fun F6 h => ?_)
      refine r_aload_n (pc := 60) X 1 dX6_mends_60 rfl rfl ?_
      refine fg_X6_38 (pc := 61) X hT.1 dX6_mends_61 ?_
      refine r_iconst (pc := 64) (v := (nI 0)) X dX6_mends_64 (by decide) ?_
      refine r_aload_n (pc := 65) X 1 dX6_mends_65 rfl rfl ?_
      refine fg_X6_19 (pc := 66) X hT.1 dX6_mends_66 ?_
      refine r_callIV (pc := 69) (As := []) (st := [.int (nI 0), .ref (ad 21)]) X hA (c_X1_width hT.2.2.1 h) g_X6_177 cl_X1 hT.2.2.1.1 hd_X1_width rfl rfl rfl ⟨Nat.le_of_ble_eq_true rfl, Nat.le_of_ble_eq_true rfl⟩ rfl (Nat.le_of_ble_eq_true rfl) dX6_mends_69 (fun x5 F7 h => ?_)
      refine r_aload_n (pc := 72) X 1 dX6_mends_72 rfl rfl ?_
      refine fg_X6_31 (pc := 73) X hT.1 dX6_mends_73 ?_
      refine r_callIV (pc := 76) (As := []) (st := [.int x5, .int (nI 0), .ref (ad 21)]) X hA (c_X2_minute hT.2.2.2.2.1 h) g_X6_200 cl_X2 hT.2.2.2.2.1.1 hd_X2_minute rfl rfl rfl ⟨Nat.le_of_ble_eq_true rfl, Nat.le_of_ble_eq_true rfl⟩ rfl (Nat.le_of_ble_eq_true rfl) dX6_mends_76 (fun x6 F8 h => ?_)
      refine r_aload_n (pc := 79) X 1 dX6_mends_79 rfl rfl ?_
      refine fg_X6_31 (pc := 80) X hT.1 dX6_mends_80 ?_
      refine r_callIV (pc := 83) (As := []) (st := [.int x6, .int x5, .int (nI 0), .ref (ad 21)]) X hA (c_X2_weight hT.2.2.2.2.1 h) g_X6_189 cl_X2 hT.2.2.2.2.1.1 hd_X2_weight rfl rfl rfl ⟨Nat.le_of_ble_eq_true rfl, Nat.le_of_ble_eq_true rfl⟩ rfl (Nat.le_of_ble_eq_true rfl) dX6_mends_83 (fun x7 F9 h => ?_)
      refine r_callIV (pc := 86) (As := [.int (nI 0), .int x5, .int x6, .int x7]) (st := []) X hA (c_X0_walk hT.2.2.2.2.2.1 h) g_X6_203 cl_X0 hT.2.2.2.2.2.1.1 hd_X0_walk rfl rfl rfl ⟨Nat.le_of_ble_eq_true rfl, Nat.le_of_ble_eq_true rfl⟩ rfl (Nat.le_of_ble_eq_true rfl) dX6_mends_86 (fun x8 F10 h => ?_)
      refine r_aload_n (pc := 89) X 1 dX6_mends_89 rfl rfl ?_
      refine fg_X6_19 (pc := 90) X hT.1 dX6_mends_90 ?_
      refine r_callIV (pc := 93) (As := []) (st := [.int x8]) X hA (c_X1_width hT.2.2.1 h) g_X6_177 cl_X1 hT.2.2.1.1 hd_X1_width rfl rfl rfl ⟨Nat.le_of_ble_eq_true rfl, Nat.le_of_ble_eq_true rfl⟩ rfl (Nat.le_of_ble_eq_true rfl) dX6_mends_93 (fun x9 F11 h => ?_)
      refine r_icmp_lt (pc := 96) (tgt := 103) X dX6_mends_96 (by decide) (fun hc => ?_) (fun hc => ?_)
      · replace h := h.1 hc
        refine r_iconst (pc := 103) (v := (nI 0)) X dX6_mends_103 (by decide) ?_
        exact r_zret (pc := 104) X hr dX6_mends_104 nb0 h
      · replace h := h.2 hc
        refine r_iconst (pc := 99) (v := (nI 1)) X dX6_mends_99 (by decide) ?_
        refine r_goto (pc := 100) (tgt := 104) X dX6_mends_100 (by decide) ?_
        exact r_zret (pc := 104) X hr dX6_mends_104 nb1 h
    · replace h := h.2 hc
      refine r_iconst (pc := 41) (v := (nI 0)) X dX6_mends_41 (by decide) ?_
      exact r_zret (pc := 42) X hr dX6_mends_42 nb0 h
theorem dX6_mend_0 : decode cX6_mend 0 = .ok (.aload_n 0, 1) := by decide +kernel
theorem dX6_mend_1 : decode cX6_mend 1 = .ok (.getfield 31, 3) := by decide +kernel
theorem dX6_mend_4 : decode cX6_mend 4 = .ok (.invokevirtual 123, 3) := by decide +kernel
theorem dX6_mend_7 : decode cX6_mend 7 = .ok (.astore_n 2, 1) := by decide +kernel
theorem dX6_mend_8 : decode cX6_mend 8 = .ok (.iload_n 1, 1) := by decide +kernel
theorem dX6_mend_9 : decode cX6_mend 9 = .ok (.ifCond .lt 11, 3) := by decide +kernel
theorem dX6_mend_12 : decode cX6_mend 12 = .ok (.iload_n 1, 1) := by decide +kernel
theorem dX6_mend_13 : decode cX6_mend 13 = .ok (.aload_n 2, 1) := by decide +kernel
theorem dX6_mend_14 : decode cX6_mend 14 = .ok (.invokevirtual 136, 3) := by decide +kernel
theorem dX6_mend_17 : decode cX6_mend 17 = .ok (.if_icmp .lt 5, 3) := by decide +kernel
theorem dX6_mend_20 : decode cX6_mend 20 = .ok (.iconst (-1), 1) := by decide +kernel
theorem dX6_mend_21 : decode cX6_mend 21 = .ok (.ireturn, 1) := by decide +kernel
theorem dX6_mend_22 : decode cX6_mend 22 = .ok (.aload_n 2, 1) := by decide +kernel
theorem dX6_mend_23 : decode cX6_mend 23 = .ok (.invokevirtual 171, 3) := by decide +kernel
theorem dX6_mend_26 : decode cX6_mend 26 = .ok (.ifCond .ne 6, 3) := by decide +kernel
theorem dX6_mend_29 : decode cX6_mend 29 = .ok (.bipush (-2), 2) := by decide +kernel
theorem dX6_mend_31 : decode cX6_mend 31 = .ok (.ireturn, 1) := by decide +kernel
theorem dX6_mend_32 : decode cX6_mend 32 = .ok (.iconst 0, 1) := by decide +kernel
theorem dX6_mend_33 : decode cX6_mend 33 = .ok (.istore_n 3, 1) := by decide +kernel
theorem dX6_mend_34 : decode cX6_mend 34 = .ok (.iload_n 3, 1) := by decide +kernel
theorem dX6_mend_35 : decode cX6_mend 35 = .ok (.aload_n 0, 1) := by decide +kernel
theorem dX6_mend_36 : decode cX6_mend 36 = .ok (.getfield 19, 3) := by decide +kernel
theorem dX6_mend_39 : decode cX6_mend 39 = .ok (.invokevirtual 96, 3) := by decide +kernel
theorem dX6_mend_42 : decode cX6_mend 42 = .ok (.if_icmp .ge 20, 3) := by decide +kernel
theorem dX6_mend_45 : decode cX6_mend 45 = .ok (.aload_n 0, 1) := by decide +kernel
theorem dX6_mend_46 : decode cX6_mend 46 = .ok (.iload_n 1, 1) := by decide +kernel
theorem dX6_mend_47 : decode cX6_mend 47 = .ok (.iload_n 3, 1) := by decide +kernel
theorem dX6_mend_48 : decode cX6_mend 48 = .ok (.invokevirtual 216, 3) := by decide +kernel
theorem dX6_mend_51 : decode cX6_mend 51 = .ok (.ifCond .eq 5, 3) := by decide +kernel
theorem dX6_mend_54 : decode cX6_mend 54 = .ok (.iload_n 3, 1) := by decide +kernel
theorem dX6_mend_55 : decode cX6_mend 55 = .ok (.ireturn, 1) := by decide +kernel
theorem dX6_mend_56 : decode cX6_mend 56 = .ok (.iinc 3 1, 3) := by decide +kernel
theorem dX6_mend_59 : decode cX6_mend 59 = .ok (.goto (-25), 3) := by decide +kernel
theorem dX6_mend_62 : decode cX6_mend 62 = .ok (.bipush (-4), 2) := by decide +kernel
theorem dX6_mend_64 : decode cX6_mend 64 = .ok (.ireturn, 1) := by decide +kernel
theorem hd_X6_mend : yX6_mend.cls = RX6 ∧ yX6_mend.cls ≠ "java/lang/invoke/MethodHandle" ∧ yX6_mend.cls ≠ "java/lang/invoke/VarHandle" ∧ (parseMethodDescriptor yX6_mend.desc).map (fun d => d.parameters.length) = some 1 := by decide +kernel
abbrev rm_X6_mend : Room := { frames := 6, cells := 0, slots := 0, locals := 138 }
def wp_X6_mend_34 (K : Int32 → HF → Prop) : Nat → HF → Int32 → Int32 → Prop
  | 0 => fun _ _ _ => False
  | n34_ + 1 => fun F v1 v3 => wp_X1_birds (fun x3 F103 => ((x3 ≤ v3) → (K (-4 : Int32) F103)) ∧ ((¬ x3 ≤ v3) → (wp_X6_mends (fun x4 F104 => ((x4 = (nI 0)) → (wp_X6_mend_34 K  n34_ F104 v1 (v3 + (nI 1)))) ∧ ((¬ x4 = (nI 0)) → (K v3 F104))) F103 v1 v3))) F 4
set_option maxRecDepth 100000 in
set_option maxHeartbeats 4000000 in
theorem k_X6_mend_34 {p : Program} {l : Launch} {e : Env} {s : State} {m : MethodId} {args : Array Value} {below : List Frame} {meth : Method} {c : Code} {D : va_G} {dA : Nat → ClassId} {ad : Nat → Nat} {R : List Nat} {A : Nat → Prop} {K : Int32 → HF → Prop} (X : Cx p s m args meth c cX6_mend 4 RX6 D dA) (hA : ∀ q, s.heap.size ≤ q → A q) (hr : meth.sig.returnType = some .int) (hT : BBr R) : ∀ (n_ : Nat) (F : HF) (v1 : Int32) (v3 : Int32), wp_X6_mend_34 K  n_ F v1 v3 → J p l e rm_X6_mend s m args below meth c 4 D dA ad R A (QI D dA ad R A below args s K) F 34 [(0, .ref (ad 0)), (1, .int v1), (3, .int v3)] [] := by
  intro n_
  induction n_ with
  | zero => intro F v1 v3 h; exact h.elim
  | succ n_ ih =>
    intro F v1 v3 h
    unfold wp_X6_mend_34 at h
    refine r_iload_n (pc := 34) X 2 dX6_mend_34 rfl rfl ?_
    refine r_aload_n (pc := 35) X 0 dX6_mend_35 rfl rfl ?_
    refine fg_X6_19 (pc := 36) X hT.1 dX6_mend_36 ?_
    refine r_callIV (pc := 39) (As := []) (st := [.int v3]) X hA (c_X1_birds hT.2.2.1 h) g_X6_96 cl_X1 hT.2.2.1.1 hd_X1_birds rfl rfl rfl ⟨Nat.le_of_ble_eq_true rfl, Nat.le_of_ble_eq_true rfl⟩ rfl (Nat.le_of_ble_eq_true rfl) dX6_mend_39 (fun x3 F103 h => ?_)
    refine r_icmp_ge (pc := 42) (tgt := 62) X dX6_mend_42 (by decide) (fun hc => ?_) (fun hc => ?_)
    · replace h := h.1 hc
      refine r_bipush (pc := 62) (v := (-4 : Int32)) X dX6_mend_62 (by decide) ?_
      exact r_iret (pc := 64) X hr dX6_mend_64 h
    · replace h := h.2 hc
      refine r_aload_n (pc := 45) X 0 dX6_mend_45 rfl rfl ?_
      refine r_iload_n (pc := 46) X 1 dX6_mend_46 rfl rfl ?_
      refine r_iload_n (pc := 47) X 2 dX6_mend_47 rfl rfl ?_
      refine r_callIV (pc := 48) (As := [.int v1, .int v3]) (st := []) X hA (c_X6_mends hT h) g_X6_216 cl_X6 hT.1 hd_X6_mends rfl rfl rfl ⟨Nat.le_of_ble_eq_true rfl, Nat.le_of_ble_eq_true rfl⟩ rfl (Nat.le_of_ble_eq_true rfl) dX6_mend_48 (fun x4 F104 h => ?_)
      refine r_if_eq (pc := 51) (tgt := 56) X dX6_mend_51 (by decide) (fun hc => ?_) (fun hc => ?_)
      · replace h := h.1 hc
        refine r_iinc (pc := 56) (v := (v3 + (nI 1))) X 2 [(3, .int (v3 + (nI 1))), (0, .ref (ad 0)), (1, .int v1)] dX6_mend_56 rfl rfl (by decide) rfl ?_
        refine r_goto (pc := 59) (tgt := 34) X dX6_mend_59 (by decide) ?_
        refine r_sub [1, 2, 0] rfl ?_
        exact ih _ _ _ h
      · replace h := h.2 hc
        refine r_iload_n (pc := 54) X 2 dX6_mend_54 rfl rfl ?_
        exact r_iret (pc := 55) X hr dX6_mend_55 h
def wp_X6_mend (K : Int32 → HF → Prop) (F : HF) (a1 : Int32) : Prop := ((a1 < (nI 0)) → (K (-1 : Int32) F)) ∧ ((¬ a1 < (nI 0)) → (wp_X0_size (fun x1 F1 => ((a1 < x1) → (wp_X0_isWhole (fun x2 F2 => ((¬ x2 = (nI 0)) → (∃ m_, wp_X6_mend_34 K  m_ F2 a1 (nI 0))) ∧ ((x2 = (nI 0)) → (K (-2 : Int32) F2))) F1 17)) ∧ ((¬ a1 < x1) → (K (-1 : Int32) F1))) F 17))
set_option maxRecDepth 100000 in
set_option maxHeartbeats 4000000 in
theorem c_X6_mend {l : Launch} {D : va_G} {dA : Nat → ClassId} {ad : Nat → Nat} {R : List Nat} {F : HF} {a1 : Int32} {K : Int32 → HF → Prop} (hT : BBr R) (h : wp_X6_mend K F a1) : MI l yX6_mend cX6_mend 4 .int rm_X6_mend D dA ad R F [.ref (ad 0), .int a1] K := by
  refine MI.of (own := RX6) (by decide) rfl (Nat.le_of_ble_eq_true rfl) ?_
  intro p e s m args below meth c A hA X hr
  unfold wp_X6_mend at h
  show J p l e rm_X6_mend s m args below meth c 4 D dA ad R A (QI D dA ad R A below args s K) F 0 [(0, .ref (ad 0)), (1, .int a1)] []
  refine r_aload_n (pc := 0) X 0 dX6_mend_0 rfl rfl ?_
  refine fg_X6_31 (pc := 1) X hT.1 dX6_mend_1 ?_
  refine r_bridge_X6 (pc := 4) (t1 := 17) X hA rfl hT.2.2.2.2.1 (Nat.le_of_ble_eq_true rfl) (Nat.le_of_ble_eq_true rfl) (Nat.le_of_ble_eq_true rfl) dX6_mend_4 ?_
  refine r_astore_n (pc := 7) X [(2, .ref (ad 17)), (0, .ref (ad 0)), (1, .int a1)] dX6_mend_7 rfl (by decide) rfl ?_
  refine r_iload_n (pc := 8) X 2 dX6_mend_8 rfl rfl ?_
  refine r_if_lt (pc := 9) (tgt := 20) X dX6_mend_9 (by decide) (fun hc => ?_) (fun hc => ?_)
  · replace h := h.1 hc
    refine r_iconst (pc := 20) (v := (-1 : Int32)) X dX6_mend_20 (by decide) ?_
    exact r_iret (pc := 21) X hr dX6_mend_21 h
  · replace h := h.2 hc
    refine r_iload_n (pc := 12) X 2 dX6_mend_12 rfl rfl ?_
    refine r_aload_n (pc := 13) X 0 dX6_mend_13 rfl rfl ?_
    refine r_callIV (pc := 14) (As := []) (st := [.int a1]) X hA (c_X0_size hT.2.2.2.2.1.2 h) g_X6_136 cl_X0 hT.2.2.2.2.1.2.1 hd_X0_size rfl rfl rfl ⟨Nat.le_of_ble_eq_true rfl, Nat.le_of_ble_eq_true rfl⟩ rfl (Nat.le_of_ble_eq_true rfl) dX6_mend_14 (fun x1 F1 h => ?_)
    refine r_icmp_lt (pc := 17) (tgt := 22) X dX6_mend_17 (by decide) (fun hc => ?_) (fun hc => ?_)
    · replace h := h.1 hc
      refine r_aload_n (pc := 22) X 0 dX6_mend_22 rfl rfl ?_
      refine r_callIV (pc := 23) (As := []) (st := []) X hA (c_X0_isWhole hT.2.2.2.2.1.2 h) g_X6_171 cl_X0 hT.2.2.2.2.1.2.1 hd_X0_isWhole rfl rfl rfl ⟨Nat.le_of_ble_eq_true rfl, Nat.le_of_ble_eq_true rfl⟩ rfl (Nat.le_of_ble_eq_true rfl) dX6_mend_23 (fun x2 F2 h => ?_)
      refine r_if_ne (pc := 26) (tgt := 32) X dX6_mend_26 (by decide) (fun hc => ?_) (fun hc => ?_)
      · replace h := h.1 hc
        refine r_iconst (pc := 32) (v := (nI 0)) X dX6_mend_32 (by decide) ?_
        refine r_istore_n (pc := 33) X [(3, .int (nI 0)), (2, .ref (ad 17)), (0, .ref (ad 0)), (1, .int a1)] dX6_mend_33 rfl (by decide) rfl ?_
        refine r_sub [2, 3, 0] rfl ?_
        obtain ⟨n1, h⟩ := h
        exact k_X6_mend_34 X hA hr hT  n1 _ _ _ h
      · replace h := h.2 hc
        refine r_bipush (pc := 29) (v := (-2 : Int32)) X dX6_mend_29 (by decide) ?_
        exact r_iret (pc := 31) X hr dX6_mend_31 h
    · replace h := h.2 hc
      refine r_iconst (pc := 20) (v := (-1 : Int32)) X dX6_mend_20 (by decide) ?_
      exact r_iret (pc := 21) X hr dX6_mend_21 h
theorem dX6_callMinute_0 : decode cX6_callMinute 0 = .ok (.aload_n 0, 1) := by decide +kernel
theorem dX6_callMinute_1 : decode cX6_callMinute 1 = .ok (.getfield 31, 3) := by decide +kernel
theorem dX6_callMinute_4 : decode cX6_callMinute 4 = .ok (.invokevirtual 123, 3) := by decide +kernel
theorem dX6_callMinute_7 : decode cX6_callMinute 7 = .ok (.astore_n 2, 1) := by decide +kernel
theorem dX6_callMinute_8 : decode cX6_callMinute 8 = .ok (.aload_n 2, 1) := by decide +kernel
theorem dX6_callMinute_9 : decode cX6_callMinute 9 = .ok (.iload_n 1, 1) := by decide +kernel
theorem dX6_callMinute_10 : decode cX6_callMinute 10 = .ok (.invokevirtual 139, 3) := by decide +kernel
theorem dX6_callMinute_13 : decode cX6_callMinute 13 = .ok (.istore_n 3, 1) := by decide +kernel
theorem dX6_callMinute_14 : decode cX6_callMinute 14 = .ok (.iconst 0, 1) := by decide +kernel
theorem dX6_callMinute_15 : decode cX6_callMinute 15 = .ok (.istore 4, 2) := by decide +kernel
theorem dX6_callMinute_17 : decode cX6_callMinute 17 = .ok (.iconst 0, 1) := by decide +kernel
theorem dX6_callMinute_18 : decode cX6_callMinute 18 = .ok (.istore 5, 2) := by decide +kernel
theorem dX6_callMinute_20 : decode cX6_callMinute 20 = .ok (.iload 5, 2) := by decide +kernel
theorem dX6_callMinute_22 : decode cX6_callMinute 22 = .ok (.aload_n 2, 1) := by decide +kernel
theorem dX6_callMinute_23 : decode cX6_callMinute 23 = .ok (.invokevirtual 136, 3) := by decide +kernel
theorem dX6_callMinute_26 : decode cX6_callMinute 26 = .ok (.if_icmp .ge 56, 3) := by decide +kernel
theorem dX6_callMinute_29 : decode cX6_callMinute 29 = .ok (.aload_n 2, 1) := by decide +kernel
theorem dX6_callMinute_30 : decode cX6_callMinute 30 = .ok (.iload 5, 2) := by decide +kernel
theorem dX6_callMinute_32 : decode cX6_callMinute 32 = .ok (.invokevirtual 139, 3) := by decide +kernel
theorem dX6_callMinute_35 : decode cX6_callMinute 35 = .ok (.istore 6, 2) := by decide +kernel
theorem dX6_callMinute_37 : decode cX6_callMinute 37 = .ok (.aload_n 0, 1) := by decide +kernel
theorem dX6_callMinute_38 : decode cX6_callMinute 38 = .ok (.getfield 19, 3) := by decide +kernel
theorem dX6_callMinute_41 : decode cX6_callMinute 41 = .ok (.iload 6, 2) := by decide +kernel
theorem dX6_callMinute_43 : decode cX6_callMinute 43 = .ok (.invokevirtual 120, 3) := by decide +kernel
theorem dX6_callMinute_46 : decode cX6_callMinute 46 = .ok (.aload_n 0, 1) := by decide +kernel
theorem dX6_callMinute_47 : decode cX6_callMinute 47 = .ok (.getfield 19, 3) := by decide +kernel
theorem dX6_callMinute_50 : decode cX6_callMinute 50 = .ok (.iload_n 3, 1) := by decide +kernel
theorem dX6_callMinute_51 : decode cX6_callMinute 51 = .ok (.invokevirtual 120, 3) := by decide +kernel
theorem dX6_callMinute_54 : decode cX6_callMinute 54 = .ok (.isub, 1) := by decide +kernel
theorem dX6_callMinute_55 : decode cX6_callMinute 55 = .ok (.istore 7, 2) := by decide +kernel
theorem dX6_callMinute_57 : decode cX6_callMinute 57 = .ok (.iload 7, 2) := by decide +kernel
theorem dX6_callMinute_59 : decode cX6_callMinute 59 = .ok (.ifCond .gt 14, 3) := by decide +kernel
theorem dX6_callMinute_62 : decode cX6_callMinute 62 = .ok (.iload 7, 2) := by decide +kernel
theorem dX6_callMinute_64 : decode cX6_callMinute 64 = .ok (.ifCond .ne 12, 3) := by decide +kernel
theorem dX6_callMinute_67 : decode cX6_callMinute 67 = .ok (.iload 6, 2) := by decide +kernel
theorem dX6_callMinute_69 : decode cX6_callMinute 69 = .ok (.iload_n 3, 1) := by decide +kernel
theorem dX6_callMinute_70 : decode cX6_callMinute 70 = .ok (.if_icmp .ge 6, 3) := by decide +kernel
theorem dX6_callMinute_73 : decode cX6_callMinute 73 = .ok (.iinc 4 1, 3) := by decide +kernel
theorem dX6_callMinute_76 : decode cX6_callMinute 76 = .ok (.iinc 5 1, 3) := by decide +kernel
theorem dX6_callMinute_79 : decode cX6_callMinute 79 = .ok (.goto (-59), 3) := by decide +kernel
theorem dX6_callMinute_82 : decode cX6_callMinute 82 = .ok (.iload 4, 2) := by decide +kernel
theorem dX6_callMinute_84 : decode cX6_callMinute 84 = .ok (.ireturn, 1) := by decide +kernel
theorem hd_X6_callMinute : yX6_callMinute.cls = RX6 ∧ yX6_callMinute.cls ≠ "java/lang/invoke/MethodHandle" ∧ yX6_callMinute.cls ≠ "java/lang/invoke/VarHandle" ∧ (parseMethodDescriptor yX6_callMinute.desc).map (fun d => d.parameters.length) = some 1 := by decide +kernel
abbrev rm_X6_callMinute : Room := { frames := 1, cells := 0, slots := 0, locals := 21 }
def wp_X6_callMinute_76 (K : Int32 → HF → Prop) (L20 : HF → Int32 → Int32 → Int32 → Prop) (F : HF) (v3 : Int32) (v4 : Int32) (v5 : Int32) : Prop := L20 F v3 v4 (v5 + (nI 1))
set_option maxRecDepth 100000 in
set_option maxHeartbeats 4000000 in
theorem k_X6_callMinute_76 {p : Program} {l : Launch} {e : Env} {s : State} {m : MethodId} {args : Array Value} {below : List Frame} {meth : Method} {c : Code} {D : va_G} {dA : Nat → ClassId} {ad : Nat → Nat} {R : List Nat} {A : Nat → Prop} {K : Int32 → HF → Prop} {L20 : HF → Int32 → Int32 → Int32 → Prop} (X : Cx p s m args meth c cX6_callMinute 8 RX6 D dA) (hA : ∀ q, s.heap.size ≤ q → A q) (hr : meth.sig.returnType = some .int) (hT : BBr R) (hL20 : ∀ (F : HF) (v3 : Int32) (v4 : Int32) (v5 : Int32), L20 F v3 v4 v5 → J p l e rm_X6_callMinute s m args below meth c 8 D dA ad R A (QI D dA ad R A below args s K) F 20 [(0, .ref (ad 0)), (2, .ref (ad 17)), (3, .int v3), (4, .int v4), (5, .int v5)] []) : ∀ (F : HF) (v3 : Int32) (v4 : Int32) (v5 : Int32), wp_X6_callMinute_76 K L20  F v3 v4 v5 → J p l e rm_X6_callMinute s m args below meth c 8 D dA ad R A (QI D dA ad R A below args s K) F 76 [(0, .ref (ad 0)), (2, .ref (ad 17)), (3, .int v3), (4, .int v4), (5, .int v5)] [] := by
  intro F v3 v4 v5 h
  unfold wp_X6_callMinute_76 at h
  refine r_iinc (pc := 76) (v := (v5 + (nI 1))) X 4 [(5, .int (v5 + (nI 1))), (0, .ref (ad 0)), (2, .ref (ad 17)), (3, .int v3), (4, .int v4)] dX6_callMinute_76 rfl rfl (by decide) rfl ?_
  refine r_goto (pc := 79) (tgt := 20) X dX6_callMinute_79 (by decide) ?_
  refine r_sub [1, 2, 3, 4, 0] rfl ?_
  exact hL20 _ _ _ _ h
def wp_X6_callMinute_73 (K : Int32 → HF → Prop) (L20 : HF → Int32 → Int32 → Int32 → Prop) (F : HF) (v3 : Int32) (v4 : Int32) (v5 : Int32) : Prop := wp_X6_callMinute_76 K L20  F v3 (v4 + (nI 1)) v5
set_option maxRecDepth 100000 in
set_option maxHeartbeats 4000000 in
theorem k_X6_callMinute_73 {p : Program} {l : Launch} {e : Env} {s : State} {m : MethodId} {args : Array Value} {below : List Frame} {meth : Method} {c : Code} {D : va_G} {dA : Nat → ClassId} {ad : Nat → Nat} {R : List Nat} {A : Nat → Prop} {K : Int32 → HF → Prop} {L20 : HF → Int32 → Int32 → Int32 → Prop} (X : Cx p s m args meth c cX6_callMinute 8 RX6 D dA) (hA : ∀ q, s.heap.size ≤ q → A q) (hr : meth.sig.returnType = some .int) (hT : BBr R) (hL20 : ∀ (F : HF) (v3 : Int32) (v4 : Int32) (v5 : Int32), L20 F v3 v4 v5 → J p l e rm_X6_callMinute s m args below meth c 8 D dA ad R A (QI D dA ad R A below args s K) F 20 [(0, .ref (ad 0)), (2, .ref (ad 17)), (3, .int v3), (4, .int v4), (5, .int v5)] []) : ∀ (F : HF) (v3 : Int32) (v4 : Int32) (v5 : Int32), wp_X6_callMinute_73 K L20  F v3 v4 v5 → J p l e rm_X6_callMinute s m args below meth c 8 D dA ad R A (QI D dA ad R A below args s K) F 73 [(0, .ref (ad 0)), (2, .ref (ad 17)), (3, .int v3), (4, .int v4), (5, .int v5)] [] := by
  intro F v3 v4 v5 h
  unfold wp_X6_callMinute_73 at h
  refine r_iinc (pc := 73) (v := (v4 + (nI 1))) X 3 [(4, .int (v4 + (nI 1))), (0, .ref (ad 0)), (2, .ref (ad 17)), (3, .int v3), (5, .int v5)] dX6_callMinute_73 rfl rfl (by decide) rfl ?_
  refine r_sub [1, 2, 3, 0, 4] rfl ?_
  exact k_X6_callMinute_76 X hA hr hT hL20 _ _ _ _ h
def wp_X6_callMinute_20 (K : Int32 → HF → Prop) : Nat → HF → Int32 → Int32 → Int32 → Prop
  | 0 => fun _ _ _ _ => False
  | n20_ + 1 => fun F v3 v4 v5 => wp_X0_size (fun x2 F102 => ((x2 ≤ v5) → (K v4 F102)) ∧ ((¬ x2 ≤ v5) → (wp_X0_birdAt (fun x3 F103 => wp_X1_woodOf (fun x4 F104 => wp_X1_woodOf (fun x5 F105 => (((nI 0) < (x4 - x5)) → (wp_X6_callMinute_73 K (wp_X6_callMinute_20 K n20_)  F105 v3 v4 v5)) ∧ ((¬ (nI 0) < (x4 - x5)) → (((¬ (x4 - x5) = (nI 0)) → (wp_X6_callMinute_76 K (wp_X6_callMinute_20 K n20_)  F105 v3 v4 v5)) ∧ (((x4 - x5) = (nI 0)) → (((v3 ≤ x3) → (wp_X6_callMinute_76 K (wp_X6_callMinute_20 K n20_)  F105 v3 v4 v5)) ∧ ((¬ v3 ≤ x3) → (wp_X6_callMinute_73 K (wp_X6_callMinute_20 K n20_)  F105 v3 v4 v5))))))) F104 4 v3) F103 4 x3) F102 17 v5))) F 17
set_option maxRecDepth 100000 in
set_option maxHeartbeats 4000000 in
theorem k_X6_callMinute_20 {p : Program} {l : Launch} {e : Env} {s : State} {m : MethodId} {args : Array Value} {below : List Frame} {meth : Method} {c : Code} {D : va_G} {dA : Nat → ClassId} {ad : Nat → Nat} {R : List Nat} {A : Nat → Prop} {K : Int32 → HF → Prop} (X : Cx p s m args meth c cX6_callMinute 8 RX6 D dA) (hA : ∀ q, s.heap.size ≤ q → A q) (hr : meth.sig.returnType = some .int) (hT : BBr R) : ∀ (n_ : Nat) (F : HF) (v3 : Int32) (v4 : Int32) (v5 : Int32), wp_X6_callMinute_20 K  n_ F v3 v4 v5 → J p l e rm_X6_callMinute s m args below meth c 8 D dA ad R A (QI D dA ad R A below args s K) F 20 [(0, .ref (ad 0)), (2, .ref (ad 17)), (3, .int v3), (4, .int v4), (5, .int v5)] [] := by
  intro n_
  induction n_ with
  | zero => intro F v3 v4 v5 h; exact h.elim
  | succ n_ ih =>
    intro F v3 v4 v5 h
    unfold wp_X6_callMinute_20 at h
    refine r_iload (pc := 20) X 4 dX6_callMinute_20 rfl ?_
    refine r_aload_n (pc := 22) X 1 dX6_callMinute_22 rfl rfl ?_
    refine r_callIV (pc := 23) (As := []) (st := [.int v5]) X hA (c_X0_size hT.2.2.2.2.1.2 h) g_X6_136 cl_X0 hT.2.2.2.2.1.2.1 hd_X0_size rfl rfl rfl ⟨Nat.le_of_ble_eq_true rfl, Nat.le_of_ble_eq_true rfl⟩ rfl (Nat.le_of_ble_eq_true rfl) dX6_callMinute_23 (fun x2 F102 h => ?_)
    refine r_icmp_ge (pc := 26) (tgt := 82) X dX6_callMinute_26 (by decide) (fun hc => ?_) (fun hc => ?_)
    · replace h := h.1 hc
      refine r_iload (pc := 82) X 3 dX6_callMinute_82 rfl ?_
      exact r_iret (pc := 84) X hr dX6_callMinute_84 h
    · replace h := h.2 hc
      refine r_aload_n (pc := 29) X 1 dX6_callMinute_29 rfl rfl ?_
      refine r_iload (pc := 30) X 4 dX6_callMinute_30 rfl ?_
      refine r_callIV (pc := 32) (As := [.int v5]) (st := []) X hA (c_X0_birdAt hT.2.2.2.2.1.2 h) g_X6_139 cl_X0 hT.2.2.2.2.1.2.1 hd_X0_birdAt rfl rfl rfl ⟨Nat.le_of_ble_eq_true rfl, Nat.le_of_ble_eq_true rfl⟩ rfl (Nat.le_of_ble_eq_true rfl) dX6_callMinute_32 (fun x3 F103 h => ?_)
      refine r_istore (pc := 35) X [(6, .int x3), (0, .ref (ad 0)), (2, .ref (ad 17)), (3, .int v3), (4, .int v4), (5, .int v5)] dX6_callMinute_35 (by decide) rfl ?_
      refine r_aload_n (pc := 37) X 1 dX6_callMinute_37 rfl rfl ?_
      refine fg_X6_19 (pc := 38) X hT.1 dX6_callMinute_38 ?_
      refine r_iload (pc := 41) X 0 dX6_callMinute_41 rfl ?_
      refine r_callIV (pc := 43) (As := [.int x3]) (st := []) X hA (c_X1_woodOf hT.2.2.1 h) g_X6_120 cl_X1 hT.2.2.1.1 hd_X1_woodOf rfl rfl rfl ⟨Nat.le_of_ble_eq_true rfl, Nat.le_of_ble_eq_true rfl⟩ rfl (Nat.le_of_ble_eq_true rfl) dX6_callMinute_43 (fun x4 F104 h => ?_)
      refine r_aload_n (pc := 46) X 1 dX6_callMinute_46 rfl rfl ?_
      refine fg_X6_19 (pc := 47) X hT.1 dX6_callMinute_47 ?_
      refine r_iload_n (pc := 50) X 3 dX6_callMinute_50 rfl rfl ?_
      refine r_callIV (pc := 51) (As := [.int v3]) (st := [.int x4]) X hA (c_X1_woodOf hT.2.2.1 h) g_X6_120 cl_X1 hT.2.2.1.1 hd_X1_woodOf rfl rfl rfl ⟨Nat.le_of_ble_eq_true rfl, Nat.le_of_ble_eq_true rfl⟩ rfl (Nat.le_of_ble_eq_true rfl) dX6_callMinute_51 (fun x5 F105 h => ?_)
      refine r_isub (pc := 54) X dX6_callMinute_54 ?_
      refine r_istore (pc := 55) X [(7, .int (x4 - x5)), (6, .int x3), (0, .ref (ad 0)), (2, .ref (ad 17)), (3, .int v3), (4, .int v4), (5, .int v5)] dX6_callMinute_55 (by decide) rfl ?_
      refine r_iload (pc := 57) X 0 dX6_callMinute_57 rfl ?_
      refine r_if_gt (pc := 59) (tgt := 73) X dX6_callMinute_59 (by decide) (fun hc => ?_) (fun hc => ?_)
      · replace h := h.1 hc
        refine r_sub [2, 3, 4, 5, 6] rfl ?_
        exact k_X6_callMinute_73 X hA hr hT ih _ _ _ _ h
      · replace h := h.2 hc
        refine r_iload (pc := 62) X 0 dX6_callMinute_62 rfl ?_
        refine r_if_ne (pc := 64) (tgt := 76) X dX6_callMinute_64 (by decide) (fun hc => ?_) (fun hc => ?_)
        · replace h := h.1 hc
          refine r_sub [2, 3, 4, 5, 6] rfl ?_
          exact k_X6_callMinute_76 X hA hr hT ih _ _ _ _ h
        · replace h := h.2 hc
          refine r_iload (pc := 67) X 1 dX6_callMinute_67 rfl ?_
          refine r_iload_n (pc := 69) X 4 dX6_callMinute_69 rfl rfl ?_
          refine r_icmp_ge (pc := 70) (tgt := 76) X dX6_callMinute_70 (by decide) (fun hc => ?_) (fun hc => ?_)
          · replace h := h.1 hc
            refine r_sub [2, 3, 4, 5, 6] rfl ?_
            exact k_X6_callMinute_76 X hA hr hT ih _ _ _ _ h
          · replace h := h.2 hc
            refine r_sub [2, 3, 4, 5, 6] rfl ?_
            exact k_X6_callMinute_73 X hA hr hT ih _ _ _ _ h
def wp_X6_callMinute (K : Int32 → HF → Prop) (F : HF) (a1 : Int32) : Prop := wp_X0_birdAt (fun x1 F1 => ∃ m_, wp_X6_callMinute_20 K  m_ F1 x1 (nI 0) (nI 0)) F 17 a1
set_option maxRecDepth 100000 in
set_option maxHeartbeats 4000000 in
theorem c_X6_callMinute {l : Launch} {D : va_G} {dA : Nat → ClassId} {ad : Nat → Nat} {R : List Nat} {F : HF} {a1 : Int32} {K : Int32 → HF → Prop} (hT : BBr R) (h : wp_X6_callMinute K F a1) : MI l yX6_callMinute cX6_callMinute 8 .int rm_X6_callMinute D dA ad R F [.ref (ad 0), .int a1] K := by
  refine MI.of (own := RX6) (by decide) rfl (Nat.le_of_ble_eq_true rfl) ?_
  intro p e s m args below meth c A hA X hr
  unfold wp_X6_callMinute at h
  show J p l e rm_X6_callMinute s m args below meth c 8 D dA ad R A (QI D dA ad R A below args s K) F 0 [(0, .ref (ad 0)), (1, .int a1)] []
  refine r_aload_n (pc := 0) X 0 dX6_callMinute_0 rfl rfl ?_
  refine fg_X6_31 (pc := 1) X hT.1 dX6_callMinute_1 ?_
  refine r_bridge_X6 (pc := 4) (t1 := 17) X hA rfl hT.2.2.2.2.1 (Nat.le_of_ble_eq_true rfl) (Nat.le_of_ble_eq_true rfl) (Nat.le_of_ble_eq_true rfl) dX6_callMinute_4 ?_
  refine r_astore_n (pc := 7) X [(2, .ref (ad 17)), (0, .ref (ad 0)), (1, .int a1)] dX6_callMinute_7 rfl (by decide) rfl ?_
  refine r_aload_n (pc := 8) X 0 dX6_callMinute_8 rfl rfl ?_
  refine r_iload_n (pc := 9) X 2 dX6_callMinute_9 rfl rfl ?_
  refine r_callIV (pc := 10) (As := [.int a1]) (st := []) X hA (c_X0_birdAt hT.2.2.2.2.1.2 h) g_X6_139 cl_X0 hT.2.2.2.2.1.2.1 hd_X0_birdAt rfl rfl rfl ⟨Nat.le_of_ble_eq_true rfl, Nat.le_of_ble_eq_true rfl⟩ rfl (Nat.le_of_ble_eq_true rfl) dX6_callMinute_10 (fun x1 F1 h => ?_)
  refine r_istore_n (pc := 13) X [(3, .int x1), (2, .ref (ad 17)), (0, .ref (ad 0)), (1, .int a1)] dX6_callMinute_13 rfl (by decide) rfl ?_
  refine r_iconst (pc := 14) (v := (nI 0)) X dX6_callMinute_14 (by decide) ?_
  refine r_istore (pc := 15) X [(4, .int (nI 0)), (3, .int x1), (2, .ref (ad 17)), (0, .ref (ad 0)), (1, .int a1)] dX6_callMinute_15 (by decide) rfl ?_
  refine r_iconst (pc := 17) (v := (nI 0)) X dX6_callMinute_17 (by decide) ?_
  refine r_istore (pc := 18) X [(5, .int (nI 0)), (4, .int (nI 0)), (3, .int x1), (2, .ref (ad 17)), (0, .ref (ad 0)), (1, .int a1)] dX6_callMinute_18 (by decide) rfl ?_
  refine r_sub [4, 3, 2, 1, 0] rfl ?_
  obtain ⟨n1, h⟩ := h
  exact k_X6_callMinute_20 X hA hr hT  n1 _ _ _ _ h
theorem dX6_calls_0 : decode cX6_calls 0 = .ok (.aload_n 0, 1) := by decide +kernel
theorem dX6_calls_1 : decode cX6_calls 1 = .ok (.getfield 31, 3) := by decide +kernel
theorem dX6_calls_4 : decode cX6_calls 4 = .ok (.invokevirtual 123, 3) := by decide +kernel
theorem dX6_calls_7 : decode cX6_calls 7 = .ok (.astore_n 2, 1) := by decide +kernel
theorem dX6_calls_8 : decode cX6_calls 8 = .ok (.iload_n 1, 1) := by decide +kernel
theorem dX6_calls_9 : decode cX6_calls 9 = .ok (.iconst (-1), 1) := by decide +kernel
theorem dX6_calls_10 : decode cX6_calls 10 = .ok (.if_icmp .lt 11, 3) := by decide +kernel
theorem dX6_calls_13 : decode cX6_calls 13 = .ok (.iload_n 1, 1) := by decide +kernel
theorem dX6_calls_14 : decode cX6_calls 14 = .ok (.aload_n 2, 1) := by decide +kernel
theorem dX6_calls_15 : decode cX6_calls 15 = .ok (.invokevirtual 136, 3) := by decide +kernel
theorem dX6_calls_18 : decode cX6_calls 18 = .ok (.if_icmp .lt 5, 3) := by decide +kernel
theorem dX6_calls_21 : decode cX6_calls 21 = .ok (.iconst (-1), 1) := by decide +kernel
theorem dX6_calls_22 : decode cX6_calls 22 = .ok (.ireturn, 1) := by decide +kernel
theorem dX6_calls_23 : decode cX6_calls 23 = .ok (.iconst 0, 1) := by decide +kernel
theorem dX6_calls_24 : decode cX6_calls 24 = .ok (.istore_n 3, 1) := by decide +kernel
theorem dX6_calls_25 : decode cX6_calls 25 = .ok (.iconst 0, 1) := by decide +kernel
theorem dX6_calls_26 : decode cX6_calls 26 = .ok (.istore 4, 2) := by decide +kernel
theorem dX6_calls_28 : decode cX6_calls 28 = .ok (.iload 4, 2) := by decide +kernel
theorem dX6_calls_30 : decode cX6_calls 30 = .ok (.aload_n 2, 1) := by decide +kernel
theorem dX6_calls_31 : decode cX6_calls 31 = .ok (.invokevirtual 136, 3) := by decide +kernel
theorem dX6_calls_34 : decode cX6_calls 34 = .ok (.if_icmp .ge 51, 3) := by decide +kernel
theorem dX6_calls_37 : decode cX6_calls 37 = .ok (.aload_n 0, 1) := by decide +kernel
theorem dX6_calls_38 : decode cX6_calls 38 = .ok (.iload 4, 2) := by decide +kernel
theorem dX6_calls_40 : decode cX6_calls 40 = .ok (.invokevirtual 220, 3) := by decide +kernel
theorem dX6_calls_43 : decode cX6_calls 43 = .ok (.istore 5, 2) := by decide +kernel
theorem dX6_calls_45 : decode cX6_calls 45 = .ok (.iload 5, 2) := by decide +kernel
theorem dX6_calls_47 : decode cX6_calls 47 = .ok (.iload_n 1, 1) := by decide +kernel
theorem dX6_calls_48 : decode cX6_calls 48 = .ok (.if_icmp .ne 10, 3) := by decide +kernel
theorem dX6_calls_51 : decode cX6_calls 51 = .ok (.aload_n 2, 1) := by decide +kernel
theorem dX6_calls_52 : decode cX6_calls 52 = .ok (.iload 4, 2) := by decide +kernel
theorem dX6_calls_54 : decode cX6_calls 54 = .ok (.invokevirtual 139, 3) := by decide +kernel
theorem dX6_calls_57 : decode cX6_calls 57 = .ok (.ireturn, 1) := by decide +kernel
theorem dX6_calls_58 : decode cX6_calls 58 = .ok (.iload_n 3, 1) := by decide +kernel
theorem dX6_calls_59 : decode cX6_calls 59 = .ok (.iload 5, 2) := by decide +kernel
theorem dX6_calls_61 : decode cX6_calls 61 = .ok (.aload_n 0, 1) := by decide +kernel
theorem dX6_calls_62 : decode cX6_calls 62 = .ok (.getfield 19, 3) := by decide +kernel
theorem dX6_calls_65 : decode cX6_calls 65 = .ok (.aload_n 2, 1) := by decide +kernel
theorem dX6_calls_66 : decode cX6_calls 66 = .ok (.iload 4, 2) := by decide +kernel
theorem dX6_calls_68 : decode cX6_calls 68 = .ok (.invokevirtual 139, 3) := by decide +kernel
theorem dX6_calls_71 : decode cX6_calls 71 = .ok (.invokevirtual 120, 3) := by decide +kernel
theorem dX6_calls_74 : decode cX6_calls 74 = .ok (.iadd, 1) := by decide +kernel
theorem dX6_calls_75 : decode cX6_calls 75 = .ok (.invokestatic 223, 3) := by decide +kernel
theorem dX6_calls_78 : decode cX6_calls 78 = .ok (.istore_n 3, 1) := by decide +kernel
theorem dX6_calls_79 : decode cX6_calls 79 = .ok (.iinc 4 1, 3) := by decide +kernel
theorem dX6_calls_82 : decode cX6_calls 82 = .ok (.goto (-54), 3) := by decide +kernel
theorem dX6_calls_85 : decode cX6_calls 85 = .ok (.iload_n 3, 1) := by decide +kernel
theorem dX6_calls_86 : decode cX6_calls 86 = .ok (.ireturn, 1) := by decide +kernel
theorem hd_X6_calls : yX6_calls.cls = RX6 ∧ yX6_calls.cls ≠ "java/lang/invoke/MethodHandle" ∧ yX6_calls.cls ≠ "java/lang/invoke/VarHandle" ∧ (parseMethodDescriptor yX6_calls.desc).map (fun d => d.parameters.length) = some 1 := by decide +kernel
abbrev rm_X6_calls : Room := { frames := 2, cells := 0, slots := 0, locals := 48 }
def wp_X6_calls_28 (K : Int32 → HF → Prop) : Nat → HF → Int32 → Int32 → Int32 → Prop
  | 0 => fun _ _ _ _ => False
  | n28_ + 1 => fun F v1 v3 v4 => wp_X0_size (fun x2 F102 => ((x2 ≤ v4) → (K v3 F102)) ∧ ((¬ x2 ≤ v4) → (wp_X6_callMinute (fun x3 F103 => ((¬ x3 = v1) → (wp_X0_birdAt (fun x4 F104 => wp_X1_woodOf (fun x5 F105 => wp_X6_calls_28 K  n28_ F105 v1 (if v3 < (x3 + x5) then (x3 + x5) else v3) (v4 + (nI 1))) F104 4 x4) F103 17 v4)) ∧ ((x3 = v1) → (wp_X0_birdAt (fun x6 F106 => K x6 F106) F103 17 v4))) F102 v4))) F 17
set_option maxRecDepth 100000 in
set_option maxHeartbeats 4000000 in
theorem k_X6_calls_28 {p : Program} {l : Launch} {e : Env} {s : State} {m : MethodId} {args : Array Value} {below : List Frame} {meth : Method} {c : Code} {D : va_G} {dA : Nat → ClassId} {ad : Nat → Nat} {R : List Nat} {A : Nat → Prop} {K : Int32 → HF → Prop} (X : Cx p s m args meth c cX6_calls 6 RX6 D dA) (hA : ∀ q, s.heap.size ≤ q → A q) (hr : meth.sig.returnType = some .int) (hT : BBr R) : ∀ (n_ : Nat) (F : HF) (v1 : Int32) (v3 : Int32) (v4 : Int32), wp_X6_calls_28 K  n_ F v1 v3 v4 → J p l e rm_X6_calls s m args below meth c 6 D dA ad R A (QI D dA ad R A below args s K) F 28 [(0, .ref (ad 0)), (1, .int v1), (2, .ref (ad 17)), (3, .int v3), (4, .int v4)] [] := by
  intro n_
  induction n_ with
  | zero => intro F v1 v3 v4 h; exact h.elim
  | succ n_ ih =>
    intro F v1 v3 v4 h
    unfold wp_X6_calls_28 at h
    refine r_iload (pc := 28) X 4 dX6_calls_28 rfl ?_
    refine r_aload_n (pc := 30) X 2 dX6_calls_30 rfl rfl ?_
    refine r_callIV (pc := 31) (As := []) (st := [.int v4]) X hA (c_X0_size hT.2.2.2.2.1.2 h) g_X6_136 cl_X0 hT.2.2.2.2.1.2.1 hd_X0_size rfl rfl rfl ⟨Nat.le_of_ble_eq_true rfl, Nat.le_of_ble_eq_true rfl⟩ rfl (Nat.le_of_ble_eq_true rfl) dX6_calls_31 (fun x2 F102 h => ?_)
    refine r_icmp_ge (pc := 34) (tgt := 85) X dX6_calls_34 (by decide) (fun hc => ?_) (fun hc => ?_)
    · replace h := h.1 hc
      refine r_iload_n (pc := 85) X 3 dX6_calls_85 rfl rfl ?_
      exact r_iret (pc := 86) X hr dX6_calls_86 h
    · replace h := h.2 hc
      refine r_aload_n (pc := 37) X 0 dX6_calls_37 rfl rfl ?_
      refine r_iload (pc := 38) X 4 dX6_calls_38 rfl ?_
      refine r_callIV (pc := 40) (As := [.int v4]) (st := []) X hA (c_X6_callMinute hT h) g_X6_220 cl_X6 hT.1 hd_X6_callMinute rfl rfl rfl ⟨Nat.le_of_ble_eq_true rfl, Nat.le_of_ble_eq_true rfl⟩ rfl (Nat.le_of_ble_eq_true rfl) dX6_calls_40 (fun x3 F103 h => ?_)
      refine r_istore (pc := 43) X [(5, .int x3), (0, .ref (ad 0)), (1, .int v1), (2, .ref (ad 17)), (3, .int v3), (4, .int v4)] dX6_calls_43 (by decide) rfl ?_
      refine r_iload (pc := 45) X 0 dX6_calls_45 rfl ?_
      refine r_iload_n (pc := 47) X 2 dX6_calls_47 rfl rfl ?_
      refine r_icmp_ne (pc := 48) (tgt := 58) X dX6_calls_48 (by decide) (fun hc => ?_) (fun hc => ?_)
      · replace h := h.1 hc
        refine r_iload_n (pc := 58) X 4 dX6_calls_58 rfl rfl ?_
        refine r_iload (pc := 59) X 0 dX6_calls_59 rfl ?_
        refine r_aload_n (pc := 61) X 1 dX6_calls_61 rfl rfl ?_
        refine fg_X6_19 (pc := 62) X hT.1 dX6_calls_62 ?_
        refine r_aload_n (pc := 65) X 3 dX6_calls_65 rfl rfl ?_
        refine r_iload (pc := 66) X 5 dX6_calls_66 rfl ?_
        refine r_callIV (pc := 68) (As := [.int v4]) (st := [.ref (ad 4), .int x3, .int v3]) X hA (c_X0_birdAt hT.2.2.2.2.1.2 h) g_X6_139 cl_X0 hT.2.2.2.2.1.2.1 hd_X0_birdAt rfl rfl rfl ⟨Nat.le_of_ble_eq_true rfl, Nat.le_of_ble_eq_true rfl⟩ rfl (Nat.le_of_ble_eq_true rfl) dX6_calls_68 (fun x4 F104 h => ?_)
        refine r_callIV (pc := 71) (As := [.int x4]) (st := [.int x3, .int v3]) X hA (c_X1_woodOf hT.2.2.1 h) g_X6_120 cl_X1 hT.2.2.1.1 hd_X1_woodOf rfl rfl rfl ⟨Nat.le_of_ble_eq_true rfl, Nat.le_of_ble_eq_true rfl⟩ rfl (Nat.le_of_ble_eq_true rfl) dX6_calls_71 (fun x5 F105 h => ?_)
        refine r_iadd (pc := 74) X dX6_calls_74 ?_
        refine r_mmax (pc := 75) X w_762 w_193 w_62 w_194 (Nat.le_of_ble_eq_true rfl) (Nat.le_of_ble_eq_true rfl) dX6_calls_75 ?_
        refine r_istore_n (pc := 78) X [(3, .int (if v3 < (x3 + x5) then (x3 + x5) else v3)), (5, .int x3), (0, .ref (ad 0)), (1, .int v1), (2, .ref (ad 17)), (4, .int v4)] dX6_calls_78 rfl (by decide) rfl ?_
        refine r_iinc (pc := 79) (v := (v4 + (nI 1))) X 5 [(4, .int (v4 + (nI 1))), (3, .int (if v3 < (x3 + x5) then (x3 + x5) else v3)), (5, .int x3), (0, .ref (ad 0)), (1, .int v1), (2, .ref (ad 17))] dX6_calls_79 rfl rfl (by decide) rfl ?_
        refine r_goto (pc := 82) (tgt := 28) X dX6_calls_82 (by decide) ?_
        refine r_sub [3, 4, 5, 1, 0] rfl ?_
        exact ih _ _ _ _ h
      · replace h := h.2 hc
        refine r_aload_n (pc := 51) X 3 dX6_calls_51 rfl rfl ?_
        refine r_iload (pc := 52) X 5 dX6_calls_52 rfl ?_
        refine r_callIV (pc := 54) (As := [.int v4]) (st := []) X hA (c_X0_birdAt hT.2.2.2.2.1.2 h) g_X6_139 cl_X0 hT.2.2.2.2.1.2.1 hd_X0_birdAt rfl rfl rfl ⟨Nat.le_of_ble_eq_true rfl, Nat.le_of_ble_eq_true rfl⟩ rfl (Nat.le_of_ble_eq_true rfl) dX6_calls_54 (fun x6 F106 h => ?_)
        exact r_iret (pc := 57) X hr dX6_calls_57 h
def wp_X6_calls (K : Int32 → HF → Prop) (F : HF) (a1 : Int32) : Prop := ((a1 < (-1 : Int32)) → (K (-1 : Int32) F)) ∧ ((¬ a1 < (-1 : Int32)) → (wp_X0_size (fun x1 F1 => ((a1 < x1) → (∃ m_, wp_X6_calls_28 K  m_ F1 a1 (nI 0) (nI 0))) ∧ ((¬ a1 < x1) → (K (-1 : Int32) F1))) F 17))
set_option maxRecDepth 100000 in
set_option maxHeartbeats 4000000 in
theorem c_X6_calls {l : Launch} {D : va_G} {dA : Nat → ClassId} {ad : Nat → Nat} {R : List Nat} {F : HF} {a1 : Int32} {K : Int32 → HF → Prop} (hT : BBr R) (h : wp_X6_calls K F a1) : MI l yX6_calls cX6_calls 6 .int rm_X6_calls D dA ad R F [.ref (ad 0), .int a1] K := by
  refine MI.of (own := RX6) (by decide) rfl (Nat.le_of_ble_eq_true rfl) ?_
  intro p e s m args below meth c A hA X hr
  unfold wp_X6_calls at h
  show J p l e rm_X6_calls s m args below meth c 6 D dA ad R A (QI D dA ad R A below args s K) F 0 [(0, .ref (ad 0)), (1, .int a1)] []
  refine r_aload_n (pc := 0) X 0 dX6_calls_0 rfl rfl ?_
  refine fg_X6_31 (pc := 1) X hT.1 dX6_calls_1 ?_
  refine r_bridge_X6 (pc := 4) (t1 := 17) X hA rfl hT.2.2.2.2.1 (Nat.le_of_ble_eq_true rfl) (Nat.le_of_ble_eq_true rfl) (Nat.le_of_ble_eq_true rfl) dX6_calls_4 ?_
  refine r_astore_n (pc := 7) X [(2, .ref (ad 17)), (0, .ref (ad 0)), (1, .int a1)] dX6_calls_7 rfl (by decide) rfl ?_
  refine r_iload_n (pc := 8) X 2 dX6_calls_8 rfl rfl ?_
  refine r_iconst (pc := 9) (v := (-1 : Int32)) X dX6_calls_9 (by decide) ?_
  refine r_icmp_lt (pc := 10) (tgt := 21) X dX6_calls_10 (by decide) (fun hc => ?_) (fun hc => ?_)
  · replace h := h.1 hc
    refine r_iconst (pc := 21) (v := (-1 : Int32)) X dX6_calls_21 (by decide) ?_
    exact r_iret (pc := 22) X hr dX6_calls_22 h
  · replace h := h.2 hc
    refine r_iload_n (pc := 13) X 2 dX6_calls_13 rfl rfl ?_
    refine r_aload_n (pc := 14) X 0 dX6_calls_14 rfl rfl ?_
    refine r_callIV (pc := 15) (As := []) (st := [.int a1]) X hA (c_X0_size hT.2.2.2.2.1.2 h) g_X6_136 cl_X0 hT.2.2.2.2.1.2.1 hd_X0_size rfl rfl rfl ⟨Nat.le_of_ble_eq_true rfl, Nat.le_of_ble_eq_true rfl⟩ rfl (Nat.le_of_ble_eq_true rfl) dX6_calls_15 (fun x1 F1 h => ?_)
    refine r_icmp_lt (pc := 18) (tgt := 23) X dX6_calls_18 (by decide) (fun hc => ?_) (fun hc => ?_)
    · replace h := h.1 hc
      refine r_iconst (pc := 23) (v := (nI 0)) X dX6_calls_23 (by decide) ?_
      refine r_istore_n (pc := 24) X [(3, .int (nI 0)), (2, .ref (ad 17)), (0, .ref (ad 0)), (1, .int a1)] dX6_calls_24 rfl (by decide) rfl ?_
      refine r_iconst (pc := 25) (v := (nI 0)) X dX6_calls_25 (by decide) ?_
      refine r_istore (pc := 26) X [(4, .int (nI 0)), (3, .int (nI 0)), (2, .ref (ad 17)), (0, .ref (ad 0)), (1, .int a1)] dX6_calls_26 (by decide) rfl ?_
      refine r_sub [3, 4, 2, 1, 0] rfl ?_
      obtain ⟨n1, h⟩ := h
      exact k_X6_calls_28 X hA hr hT  n1 _ _ _ _ h
    · replace h := h.2 hc
      refine r_iconst (pc := 21) (v := (-1 : Int32)) X dX6_calls_21 (by decide) ?_
      exact r_iret (pc := 22) X hr dX6_calls_22 h
theorem dX6_bothComeOver_0 : decode cX6_bothComeOver 0 = .ok (.aload_n 0, 1) := by decide +kernel
theorem dX6_bothComeOver_1 : decode cX6_bothComeOver 1 = .ok (.getfield 38, 3) := by decide +kernel
theorem dX6_bothComeOver_4 : decode cX6_bothComeOver 4 = .ok (.aload_n 0, 1) := by decide +kernel
theorem dX6_bothComeOver_5 : decode cX6_bothComeOver 5 = .ok (.getfield 31, 3) := by decide +kernel
theorem dX6_bothComeOver_8 : decode cX6_bothComeOver 8 = .ok (.invokevirtual 123, 3) := by decide +kernel
theorem dX6_bothComeOver_11 : decode cX6_bothComeOver 11 = .ok (.invokevirtual 232, 3) := by decide +kernel
theorem dX6_bothComeOver_14 : decode cX6_bothComeOver 14 = .ok (.aload_n 0, 1) := by decide +kernel
theorem dX6_bothComeOver_15 : decode cX6_bothComeOver 15 = .ok (.getfield 19, 3) := by decide +kernel
theorem dX6_bothComeOver_18 : decode cX6_bothComeOver 18 = .ok (.invokevirtual 177, 3) := by decide +kernel
theorem dX6_bothComeOver_21 : decode cX6_bothComeOver 21 = .ok (.istore_n 3, 1) := by decide +kernel
theorem dX6_bothComeOver_22 : decode cX6_bothComeOver 22 = .ok (.iconst 0, 1) := by decide +kernel
theorem dX6_bothComeOver_23 : decode cX6_bothComeOver 23 = .ok (.istore 4, 2) := by decide +kernel
theorem dX6_bothComeOver_25 : decode cX6_bothComeOver 25 = .ok (.iload 4, 2) := by decide +kernel
theorem dX6_bothComeOver_27 : decode cX6_bothComeOver 27 = .ok (.iload_n 2, 1) := by decide +kernel
theorem dX6_bothComeOver_28 : decode cX6_bothComeOver 28 = .ok (.iload_n 3, 1) := by decide +kernel
theorem dX6_bothComeOver_29 : decode cX6_bothComeOver 29 = .ok (.iadd, 1) := by decide +kernel
theorem dX6_bothComeOver_30 : decode cX6_bothComeOver 30 = .ok (.if_icmp .ge 110, 3) := by decide +kernel
theorem dX6_bothComeOver_33 : decode cX6_bothComeOver 33 = .ok (.aload_n 0, 1) := by decide +kernel
theorem dX6_bothComeOver_34 : decode cX6_bothComeOver 34 = .ok (.getfield 19, 3) := by decide +kernel
theorem dX6_bothComeOver_37 : decode cX6_bothComeOver 37 = .ok (.iload 4, 2) := by decide +kernel
theorem dX6_bothComeOver_39 : decode cX6_bothComeOver 39 = .ok (.invokevirtual 133, 3) := by decide +kernel
theorem dX6_bothComeOver_42 : decode cX6_bothComeOver 42 = .ok (.istore 5, 2) := by decide +kernel
theorem dX6_bothComeOver_44 : decode cX6_bothComeOver 44 = .ok (.iload 4, 2) := by decide +kernel
theorem dX6_bothComeOver_46 : decode cX6_bothComeOver 46 = .ok (.iload_n 3, 1) := by decide +kernel
theorem dX6_bothComeOver_47 : decode cX6_bothComeOver 47 = .ok (.if_icmp .ge 7, 3) := by decide +kernel
theorem dX6_bothComeOver_50 : decode cX6_bothComeOver 50 = .ok (.iconst 1, 1) := by decide +kernel
theorem dX6_bothComeOver_51 : decode cX6_bothComeOver 51 = .ok (.goto 4, 3) := by decide +kernel
theorem dX6_bothComeOver_54 : decode cX6_bothComeOver 54 = .ok (.iconst 0, 1) := by decide +kernel
theorem dX6_bothComeOver_55 : decode cX6_bothComeOver 55 = .ok (.istore 6, 2) := by decide +kernel
theorem dX6_bothComeOver_57 : decode cX6_bothComeOver 57 = .ok (.aload_n 0, 1) := by decide +kernel
theorem dX6_bothComeOver_58 : decode cX6_bothComeOver 58 = .ok (.getfield 38, 3) := by decide +kernel
theorem dX6_bothComeOver_61 : decode cX6_bothComeOver 61 = .ok (.invokevirtual 257, 3) := by decide +kernel
theorem dX6_bothComeOver_64 : decode cX6_bothComeOver 64 = .ok (.iload 6, 2) := by decide +kernel
theorem dX6_bothComeOver_66 : decode cX6_bothComeOver 66 = .ok (.ifCond .eq 22, 3) := by decide +kernel
theorem dX6_bothComeOver_69 : decode cX6_bothComeOver 69 = .ok (.aload_n 0, 1) := by decide +kernel
theorem dX6_bothComeOver_70 : decode cX6_bothComeOver 70 = .ok (.getfield 38, 3) := by decide +kernel
theorem dX6_bothComeOver_73 : decode cX6_bothComeOver 73 = .ok (.iload 4, 2) := by decide +kernel
theorem dX6_bothComeOver_75 : decode cX6_bothComeOver 75 = .ok (.aload_n 0, 1) := by decide +kernel
theorem dX6_bothComeOver_76 : decode cX6_bothComeOver 76 = .ok (.getfield 31, 3) := by decide +kernel
theorem dX6_bothComeOver_79 : decode cX6_bothComeOver 79 = .ok (.invokevirtual 189, 3) := by decide +kernel
theorem dX6_bothComeOver_82 : decode cX6_bothComeOver 82 = .ok (.iload 5, 2) := by decide +kernel
theorem dX6_bothComeOver_84 : decode cX6_bothComeOver 84 = .ok (.iadd, 1) := by decide +kernel
theorem dX6_bothComeOver_85 : decode cX6_bothComeOver 85 = .ok (.invokevirtual 260, 3) := by decide +kernel
theorem dX6_bothComeOver_88 : decode cX6_bothComeOver 88 = .ok (.iload 4, 2) := by decide +kernel
theorem dX6_bothComeOver_90 : decode cX6_bothComeOver 90 = .ok (.iload_n 2, 1) := by decide +kernel
theorem dX6_bothComeOver_91 : decode cX6_bothComeOver 91 = .ok (.if_icmp .lt 31, 3) := by decide +kernel
theorem dX6_bothComeOver_94 : decode cX6_bothComeOver 94 = .ok (.aload_n 0, 1) := by decide +kernel
theorem dX6_bothComeOver_95 : decode cX6_bothComeOver 95 = .ok (.getfield 38, 3) := by decide +kernel
theorem dX6_bothComeOver_98 : decode cX6_bothComeOver 98 = .ok (.iload_n 3, 1) := by decide +kernel
theorem dX6_bothComeOver_99 : decode cX6_bothComeOver 99 = .ok (.iconst 1, 1) := by decide +kernel
theorem dX6_bothComeOver_100 : decode cX6_bothComeOver 100 = .ok (.isub, 1) := by decide +kernel
theorem dX6_bothComeOver_101 : decode cX6_bothComeOver 101 = .ok (.iload 4, 2) := by decide +kernel
theorem dX6_bothComeOver_103 : decode cX6_bothComeOver 103 = .ok (.iload_n 2, 1) := by decide +kernel
theorem dX6_bothComeOver_104 : decode cX6_bothComeOver 104 = .ok (.isub, 1) := by decide +kernel
theorem dX6_bothComeOver_105 : decode cX6_bothComeOver 105 = .ok (.isub, 1) := by decide +kernel
theorem dX6_bothComeOver_106 : decode cX6_bothComeOver 106 = .ok (.iload 6, 2) := by decide +kernel
theorem dX6_bothComeOver_108 : decode cX6_bothComeOver 108 = .ok (.ifCond .eq 7, 3) := by decide +kernel
theorem dX6_bothComeOver_111 : decode cX6_bothComeOver 111 = .ok (.iload_n 1, 1) := by decide +kernel
theorem dX6_bothComeOver_112 : decode cX6_bothComeOver 112 = .ok (.goto 7, 3) := by decide +kernel
theorem dX6_bothComeOver_115 : decode cX6_bothComeOver 115 = .ok (.iload_n 1, 1) := by decide +kernel
theorem dX6_bothComeOver_116 : decode cX6_bothComeOver 116 = .ok (.iload 5, 2) := by decide +kernel
theorem dX6_bothComeOver_118 : decode cX6_bothComeOver 118 = .ok (.iadd, 1) := by decide +kernel
theorem dX6_bothComeOver_119 : decode cX6_bothComeOver 119 = .ok (.invokevirtual 260, 3) := by decide +kernel
theorem dX6_bothComeOver_122 : decode cX6_bothComeOver 122 = .ok (.aload_n 0, 1) := by decide +kernel
theorem dX6_bothComeOver_123 : decode cX6_bothComeOver 123 = .ok (.getfield 38, 3) := by decide +kernel
theorem dX6_bothComeOver_126 : decode cX6_bothComeOver 126 = .ok (.invokevirtual 270, 3) := by decide +kernel
theorem dX6_bothComeOver_129 : decode cX6_bothComeOver 129 = .ok (.ifCond .ne 5, 3) := by decide +kernel
theorem dX6_bothComeOver_132 : decode cX6_bothComeOver 132 = .ok (.iconst 0, 1) := by decide +kernel
theorem dX6_bothComeOver_133 : decode cX6_bothComeOver 133 = .ok (.ireturn, 1) := by decide +kernel
theorem dX6_bothComeOver_134 : decode cX6_bothComeOver 134 = .ok (.iinc 4 1, 3) := by decide +kernel
theorem dX6_bothComeOver_137 : decode cX6_bothComeOver 137 = .ok (.goto (-112), 3) := by decide +kernel
theorem dX6_bothComeOver_140 : decode cX6_bothComeOver 140 = .ok (.iconst 1, 1) := by decide +kernel
theorem dX6_bothComeOver_141 : decode cX6_bothComeOver 141 = .ok (.ireturn, 1) := by decide +kernel
theorem hd_X6_bothComeOver : yX6_bothComeOver.cls = RX6 ∧ yX6_bothComeOver.cls ≠ "java/lang/invoke/MethodHandle" ∧ yX6_bothComeOver.cls ≠ "java/lang/invoke/VarHandle" ∧ (parseMethodDescriptor yX6_bothComeOver.desc).map (fun d => d.parameters.length) = some 2 := by decide +kernel
abbrev rm_X6_bothComeOver : Room := { frames := 4, cells := 0, slots := 0, locals := 90 }
def wp_X6_bothComeOver_122 (K : Int32 → HF → Prop) (L25 : HF → Int32 → Int32 → Int32 → Int32 → Prop) (F : HF) (v1 : Int32) (v2 : Int32) (v3 : Int32) (v4 : Int32) : Prop := wp_X0_settle (fun x3 F405 => ((¬ x3 = (nI 0)) → (L25 F405 v1 v2 v3 (v4 + (nI 1)))) ∧ ((x3 = (nI 0)) → (K (nI 0) F405))) F 21
set_option maxRecDepth 100000 in
set_option maxHeartbeats 4000000 in
theorem k_X6_bothComeOver_122 {p : Program} {l : Launch} {e : Env} {s : State} {m : MethodId} {args : Array Value} {below : List Frame} {meth : Method} {c : Code} {D : va_G} {dA : Nat → ClassId} {ad : Nat → Nat} {R : List Nat} {A : Nat → Prop} {K : Int32 → HF → Prop} {L25 : HF → Int32 → Int32 → Int32 → Int32 → Prop} (X : Cx p s m args meth c cX6_bothComeOver 7 RX6 D dA) (hA : ∀ q, s.heap.size ≤ q → A q) (hr : meth.sig.returnType = some .boolean) (hT : BBr R) (hL25 : ∀ (F : HF) (v1 : Int32) (v2 : Int32) (v3 : Int32) (v4 : Int32), L25 F v1 v2 v3 v4 → J p l e rm_X6_bothComeOver s m args below meth c 7 D dA ad R A (QI D dA ad R A below args s K) F 25 [(0, .ref (ad 0)), (1, .int v1), (2, .int v2), (3, .int v3), (4, .int v4)] []) : ∀ (F : HF) (v1 : Int32) (v2 : Int32) (v3 : Int32) (v4 : Int32), wp_X6_bothComeOver_122 K L25  F v1 v2 v3 v4 → J p l e rm_X6_bothComeOver s m args below meth c 7 D dA ad R A (QI D dA ad R A below args s K) F 122 [(0, .ref (ad 0)), (1, .int v1), (2, .int v2), (3, .int v3), (4, .int v4)] [] := by
  intro F v1 v2 v3 v4 h
  unfold wp_X6_bothComeOver_122 at h
  refine r_aload_n (pc := 122) X 0 dX6_bothComeOver_122 rfl rfl ?_
  refine fg_X6_38 (pc := 123) X hT.1 dX6_bothComeOver_123 ?_
  refine r_callIV (pc := 126) (As := []) (st := []) X hA (c_X0_settle hT.2.2.2.2.2.1 h) g_X6_270 cl_X0 hT.2.2.2.2.2.1.1 hd_X0_settle rfl rfl rfl ⟨Nat.le_of_ble_eq_true rfl, Nat.le_of_ble_eq_true rfl⟩ rfl (Nat.le_of_ble_eq_true rfl) dX6_bothComeOver_126 (fun x3 F405 h => ?_)
  refine r_if_ne (pc := 129) (tgt := 134) X dX6_bothComeOver_129 (by decide) (fun hc => ?_) (fun hc => ?_)
  · replace h := h.1 hc
    refine r_iinc (pc := 134) (v := (v4 + (nI 1))) X 4 [(4, .int (v4 + (nI 1))), (0, .ref (ad 0)), (1, .int v1), (2, .int v2), (3, .int v3)] dX6_bothComeOver_134 rfl rfl (by decide) rfl ?_
    refine r_goto (pc := 137) (tgt := 25) X dX6_bothComeOver_137 (by decide) ?_
    refine r_sub [1, 2, 3, 4, 0] rfl ?_
    exact hL25 _ _ _ _ _ h
  · replace h := h.2 hc
    refine r_iconst (pc := 132) (v := (nI 0)) X dX6_bothComeOver_132 (by decide) ?_
    exact r_zret (pc := 133) X hr dX6_bothComeOver_133 nb0 h
def wp_X6_bothComeOver_119 (K : Int32 → HF → Prop) (L25 : HF → Int32 → Int32 → Int32 → Int32 → Prop) (F : HF) (v1 : Int32) (v2 : Int32) (v3 : Int32) (v4 : Int32) (s1 : Int32) (s2 : Int32) : Prop := wp_X0_press (fun F506 => wp_X6_bothComeOver_122 K L25  F506 v1 v2 v3 v4) F 21 s1 s2
set_option maxRecDepth 100000 in
set_option maxHeartbeats 4000000 in
theorem k_X6_bothComeOver_119 {p : Program} {l : Launch} {e : Env} {s : State} {m : MethodId} {args : Array Value} {below : List Frame} {meth : Method} {c : Code} {D : va_G} {dA : Nat → ClassId} {ad : Nat → Nat} {R : List Nat} {A : Nat → Prop} {K : Int32 → HF → Prop} {L25 : HF → Int32 → Int32 → Int32 → Int32 → Prop} (X : Cx p s m args meth c cX6_bothComeOver 7 RX6 D dA) (hA : ∀ q, s.heap.size ≤ q → A q) (hr : meth.sig.returnType = some .boolean) (hT : BBr R) (hL25 : ∀ (F : HF) (v1 : Int32) (v2 : Int32) (v3 : Int32) (v4 : Int32), L25 F v1 v2 v3 v4 → J p l e rm_X6_bothComeOver s m args below meth c 7 D dA ad R A (QI D dA ad R A below args s K) F 25 [(0, .ref (ad 0)), (1, .int v1), (2, .int v2), (3, .int v3), (4, .int v4)] []) : ∀ (F : HF) (v1 : Int32) (v2 : Int32) (v3 : Int32) (v4 : Int32) (s1 : Int32) (s2 : Int32), wp_X6_bothComeOver_119 K L25  F v1 v2 v3 v4 s1 s2 → J p l e rm_X6_bothComeOver s m args below meth c 7 D dA ad R A (QI D dA ad R A below args s K) F 119 [(0, .ref (ad 0)), (1, .int v1), (2, .int v2), (3, .int v3), (4, .int v4)] [.int s2, .int s1, .ref (ad 21)] := by
  intro F v1 v2 v3 v4 s1 s2 h
  unfold wp_X6_bothComeOver_119 at h
  refine r_callVV (pc := 119) (As := [.int s1, .int s2]) (st := []) X hA (c_X0_press hT.2.2.2.2.2.1 h) g_X6_260 cl_X0 hT.2.2.2.2.2.1.1 hd_X0_press rfl rfl rfl ⟨Nat.le_of_ble_eq_true rfl, Nat.le_of_ble_eq_true rfl⟩ rfl (Nat.le_of_ble_eq_true rfl) dX6_bothComeOver_119 (fun F506 h => ?_)
  exact k_X6_bothComeOver_122 X hA hr hT hL25 _ _ _ _ _ h
def wp_X6_bothComeOver_88 (K : Int32 → HF → Prop) (L25 : HF → Int32 → Int32 → Int32 → Int32 → Prop) (F : HF) (v1 : Int32) (v2 : Int32) (v3 : Int32) (v4 : Int32) (v5 : Int32) (v6 : Int32) : Prop := ((v4 < v2) → (wp_X6_bothComeOver_122 K L25  F v1 v2 v3 v4)) ∧ ((¬ v4 < v2) → (((v6 = (nI 0)) → (wp_X6_bothComeOver_119 K L25  F v1 v2 v3 v4 ((v3 - (nI 1)) - (v4 - v2)) (v1 + v5))) ∧ ((¬ v6 = (nI 0)) → (wp_X6_bothComeOver_119 K L25  F v1 v2 v3 v4 ((v3 - (nI 1)) - (v4 - v2)) v1))))
set_option maxRecDepth 100000 in
set_option maxHeartbeats 4000000 in
theorem k_X6_bothComeOver_88 {p : Program} {l : Launch} {e : Env} {s : State} {m : MethodId} {args : Array Value} {below : List Frame} {meth : Method} {c : Code} {D : va_G} {dA : Nat → ClassId} {ad : Nat → Nat} {R : List Nat} {A : Nat → Prop} {K : Int32 → HF → Prop} {L25 : HF → Int32 → Int32 → Int32 → Int32 → Prop} (X : Cx p s m args meth c cX6_bothComeOver 7 RX6 D dA) (hA : ∀ q, s.heap.size ≤ q → A q) (hr : meth.sig.returnType = some .boolean) (hT : BBr R) (hL25 : ∀ (F : HF) (v1 : Int32) (v2 : Int32) (v3 : Int32) (v4 : Int32), L25 F v1 v2 v3 v4 → J p l e rm_X6_bothComeOver s m args below meth c 7 D dA ad R A (QI D dA ad R A below args s K) F 25 [(0, .ref (ad 0)), (1, .int v1), (2, .int v2), (3, .int v3), (4, .int v4)] []) : ∀ (F : HF) (v1 : Int32) (v2 : Int32) (v3 : Int32) (v4 : Int32) (v5 : Int32) (v6 : Int32), wp_X6_bothComeOver_88 K L25  F v1 v2 v3 v4 v5 v6 → J p l e rm_X6_bothComeOver s m args below meth c 7 D dA ad R A (QI D dA ad R A below args s K) F 88 [(0, .ref (ad 0)), (1, .int v1), (2, .int v2), (3, .int v3), (4, .int v4), (5, .int v5), (6, .int v6)] [] := by
  intro F v1 v2 v3 v4 v5 v6 h
  unfold wp_X6_bothComeOver_88 at h
  refine r_iload (pc := 88) X 4 dX6_bothComeOver_88 rfl ?_
  refine r_iload_n (pc := 90) X 2 dX6_bothComeOver_90 rfl rfl ?_
  refine r_icmp_lt (pc := 91) (tgt := 122) X dX6_bothComeOver_91 (by decide) (fun hc => ?_) (fun hc => ?_)
  · replace h := h.1 hc
    refine r_sub [0, 1, 2, 3, 4] rfl ?_
    exact k_X6_bothComeOver_122 X hA hr hT hL25 _ _ _ _ _ h
  · replace h := h.2 hc
    refine r_aload_n (pc := 94) X 0 dX6_bothComeOver_94 rfl rfl ?_
    refine fg_X6_38 (pc := 95) X hT.1 dX6_bothComeOver_95 ?_
    refine r_iload_n (pc := 98) X 3 dX6_bothComeOver_98 rfl rfl ?_
    refine r_iconst (pc := 99) (v := (nI 1)) X dX6_bothComeOver_99 (by decide) ?_
    refine r_isub (pc := 100) X dX6_bothComeOver_100 ?_
    refine r_iload (pc := 101) X 4 dX6_bothComeOver_101 rfl ?_
    refine r_iload_n (pc := 103) X 2 dX6_bothComeOver_103 rfl rfl ?_
    refine r_isub (pc := 104) X dX6_bothComeOver_104 ?_
    refine r_isub (pc := 105) X dX6_bothComeOver_105 ?_
    refine r_iload (pc := 106) X 6 dX6_bothComeOver_106 rfl ?_
    refine r_if_eq (pc := 108) (tgt := 115) X dX6_bothComeOver_108 (by decide) (fun hc => ?_) (fun hc => ?_)
    · replace h := h.1 hc
      refine r_iload_n (pc := 115) X 1 dX6_bothComeOver_115 rfl rfl ?_
      refine r_iload (pc := 116) X 5 dX6_bothComeOver_116 rfl ?_
      refine r_iadd (pc := 118) X dX6_bothComeOver_118 ?_
      refine r_sub [0, 1, 2, 3, 4] rfl ?_
      exact k_X6_bothComeOver_119 X hA hr hT hL25 _ _ _ _ _ _ _ h
    · replace h := h.2 hc
      refine r_iload_n (pc := 111) X 1 dX6_bothComeOver_111 rfl rfl ?_
      refine r_goto (pc := 112) (tgt := 119) X dX6_bothComeOver_112 (by decide) ?_
      refine r_sub [0, 1, 2, 3, 4] rfl ?_
      exact k_X6_bothComeOver_119 X hA hr hT hL25 _ _ _ _ _ _ _ h
def wp_X6_bothComeOver_55 (K : Int32 → HF → Prop) (L25 : HF → Int32 → Int32 → Int32 → Int32 → Prop) (F : HF) (v1 : Int32) (v2 : Int32) (v3 : Int32) (v4 : Int32) (v5 : Int32) (s0 : Int32) : Prop := wp_X0_unload (fun F204 => ((s0 = (nI 0)) → (wp_X6_bothComeOver_88 K L25  F204 v1 v2 v3 v4 v5 s0)) ∧ ((¬ s0 = (nI 0)) → (wp_X2_weight (fun x4 F507 => wp_X0_press (fun F508 => wp_X6_bothComeOver_88 K L25  F508 v1 v2 v3 v4 v5 s0) F507 21 v4 (x4 + v5)) F204 16))) F 21
set_option maxRecDepth 100000 in
set_option maxHeartbeats 4000000 in
theorem k_X6_bothComeOver_55 {p : Program} {l : Launch} {e : Env} {s : State} {m : MethodId} {args : Array Value} {below : List Frame} {meth : Method} {c : Code} {D : va_G} {dA : Nat → ClassId} {ad : Nat → Nat} {R : List Nat} {A : Nat → Prop} {K : Int32 → HF → Prop} {L25 : HF → Int32 → Int32 → Int32 → Int32 → Prop} (X : Cx p s m args meth c cX6_bothComeOver 7 RX6 D dA) (hA : ∀ q, s.heap.size ≤ q → A q) (hr : meth.sig.returnType = some .boolean) (hT : BBr R) (hL25 : ∀ (F : HF) (v1 : Int32) (v2 : Int32) (v3 : Int32) (v4 : Int32), L25 F v1 v2 v3 v4 → J p l e rm_X6_bothComeOver s m args below meth c 7 D dA ad R A (QI D dA ad R A below args s K) F 25 [(0, .ref (ad 0)), (1, .int v1), (2, .int v2), (3, .int v3), (4, .int v4)] []) : ∀ (F : HF) (v1 : Int32) (v2 : Int32) (v3 : Int32) (v4 : Int32) (v5 : Int32) (s0 : Int32), wp_X6_bothComeOver_55 K L25  F v1 v2 v3 v4 v5 s0 → J p l e rm_X6_bothComeOver s m args below meth c 7 D dA ad R A (QI D dA ad R A below args s K) F 55 [(0, .ref (ad 0)), (1, .int v1), (2, .int v2), (3, .int v3), (4, .int v4), (5, .int v5)] [.int s0] := by
  intro F v1 v2 v3 v4 v5 s0 h
  unfold wp_X6_bothComeOver_55 at h
  refine r_istore (pc := 55) X [(6, .int s0), (0, .ref (ad 0)), (1, .int v1), (2, .int v2), (3, .int v3), (4, .int v4), (5, .int v5)] dX6_bothComeOver_55 (by decide) rfl ?_
  refine r_aload_n (pc := 57) X 1 dX6_bothComeOver_57 rfl rfl ?_
  refine fg_X6_38 (pc := 58) X hT.1 dX6_bothComeOver_58 ?_
  refine r_callVV (pc := 61) (As := []) (st := []) X hA (c_X0_unload hT.2.2.2.2.2.1 h) g_X6_257 cl_X0 hT.2.2.2.2.2.1.1 hd_X0_unload rfl rfl rfl ⟨Nat.le_of_ble_eq_true rfl, Nat.le_of_ble_eq_true rfl⟩ rfl (Nat.le_of_ble_eq_true rfl) dX6_bothComeOver_61 (fun F204 h => ?_)
  refine r_iload (pc := 64) X 0 dX6_bothComeOver_64 rfl ?_
  refine r_if_eq (pc := 66) (tgt := 88) X dX6_bothComeOver_66 (by decide) (fun hc => ?_) (fun hc => ?_)
  · replace h := h.1 hc
    refine r_sub [1, 2, 3, 4, 5, 6, 0] rfl ?_
    exact k_X6_bothComeOver_88 X hA hr hT hL25 _ _ _ _ _ _ _ h
  · replace h := h.2 hc
    refine r_aload_n (pc := 69) X 1 dX6_bothComeOver_69 rfl rfl ?_
    refine fg_X6_38 (pc := 70) X hT.1 dX6_bothComeOver_70 ?_
    refine r_iload (pc := 73) X 5 dX6_bothComeOver_73 rfl ?_
    refine r_aload_n (pc := 75) X 1 dX6_bothComeOver_75 rfl rfl ?_
    refine fg_X6_31 (pc := 76) X hT.1 dX6_bothComeOver_76 ?_
    refine r_callIV (pc := 79) (As := []) (st := [.int v4, .ref (ad 21)]) X hA (c_X2_weight hT.2.2.2.2.1 h) g_X6_189 cl_X2 hT.2.2.2.2.1.1 hd_X2_weight rfl rfl rfl ⟨Nat.le_of_ble_eq_true rfl, Nat.le_of_ble_eq_true rfl⟩ rfl (Nat.le_of_ble_eq_true rfl) dX6_bothComeOver_79 (fun x4 F507 h => ?_)
    refine r_iload (pc := 82) X 6 dX6_bothComeOver_82 rfl ?_
    refine r_iadd (pc := 84) X dX6_bothComeOver_84 ?_
    refine r_callVV (pc := 85) (As := [.int v4, .int (x4 + v5)]) (st := []) X hA (c_X0_press hT.2.2.2.2.2.1 h) g_X6_260 cl_X0 hT.2.2.2.2.2.1.1 hd_X0_press rfl rfl rfl ⟨Nat.le_of_ble_eq_true rfl, Nat.le_of_ble_eq_true rfl⟩ rfl (Nat.le_of_ble_eq_true rfl) dX6_bothComeOver_85 (fun F508 h => ?_)
    refine r_sub [1, 2, 3, 4, 5, 6, 0] rfl ?_
    exact k_X6_bothComeOver_88 X hA hr hT hL25 _ _ _ _ _ _ _ h
def wp_X6_bothComeOver_25 (K : Int32 → HF → Prop) : Nat → HF → Int32 → Int32 → Int32 → Int32 → Prop
  | 0 => fun _ _ _ _ _ => False
  | n25_ + 1 => fun F v1 v2 v3 v4 => (((v2 + v3) ≤ v4) → (K (nI 1) F)) ∧ ((¬ (v2 + v3) ≤ v4) → (wp_X1_windIn (fun x2 F103 => ((v3 ≤ v4) → (wp_X6_bothComeOver_55 K (wp_X6_bothComeOver_25 K n25_)  F103 v1 v2 v3 v4 x2 (nI 0))) ∧ ((¬ v3 ≤ v4) → (wp_X6_bothComeOver_55 K (wp_X6_bothComeOver_25 K n25_)  F103 v1 v2 v3 v4 x2 (nI 1)))) F 4 v4))
set_option maxRecDepth 100000 in
set_option maxHeartbeats 4000000 in
theorem k_X6_bothComeOver_25 {p : Program} {l : Launch} {e : Env} {s : State} {m : MethodId} {args : Array Value} {below : List Frame} {meth : Method} {c : Code} {D : va_G} {dA : Nat → ClassId} {ad : Nat → Nat} {R : List Nat} {A : Nat → Prop} {K : Int32 → HF → Prop} (X : Cx p s m args meth c cX6_bothComeOver 7 RX6 D dA) (hA : ∀ q, s.heap.size ≤ q → A q) (hr : meth.sig.returnType = some .boolean) (hT : BBr R) : ∀ (n_ : Nat) (F : HF) (v1 : Int32) (v2 : Int32) (v3 : Int32) (v4 : Int32), wp_X6_bothComeOver_25 K  n_ F v1 v2 v3 v4 → J p l e rm_X6_bothComeOver s m args below meth c 7 D dA ad R A (QI D dA ad R A below args s K) F 25 [(0, .ref (ad 0)), (1, .int v1), (2, .int v2), (3, .int v3), (4, .int v4)] [] := by
  intro n_
  induction n_ with
  | zero => intro F v1 v2 v3 v4 h; exact h.elim
  | succ n_ ih =>
    intro F v1 v2 v3 v4 h
    unfold wp_X6_bothComeOver_25 at h
    refine r_iload (pc := 25) X 4 dX6_bothComeOver_25 rfl ?_
    refine r_iload_n (pc := 27) X 2 dX6_bothComeOver_27 rfl rfl ?_
    refine r_iload_n (pc := 28) X 3 dX6_bothComeOver_28 rfl rfl ?_
    refine r_iadd (pc := 29) X dX6_bothComeOver_29 ?_
    refine r_icmp_ge (pc := 30) (tgt := 140) X dX6_bothComeOver_30 (by decide) (fun hc => ?_) (fun hc => ?_)
    · replace h := h.1 hc
      refine r_iconst (pc := 140) (v := (nI 1)) X dX6_bothComeOver_140 (by decide) ?_
      exact r_zret (pc := 141) X hr dX6_bothComeOver_141 nb1 h
    · replace h := h.2 hc
      refine r_aload_n (pc := 33) X 0 dX6_bothComeOver_33 rfl rfl ?_
      refine fg_X6_19 (pc := 34) X hT.1 dX6_bothComeOver_34 ?_
      refine r_iload (pc := 37) X 4 dX6_bothComeOver_37 rfl ?_
      refine r_callIV (pc := 39) (As := [.int v4]) (st := []) X hA (c_X1_windIn hT.2.2.1 h) g_X6_133 cl_X1 hT.2.2.1.1 hd_X1_windIn rfl rfl rfl ⟨Nat.le_of_ble_eq_true rfl, Nat.le_of_ble_eq_true rfl⟩ rfl (Nat.le_of_ble_eq_true rfl) dX6_bothComeOver_39 (fun x2 F103 h => ?_)
      refine r_istore (pc := 42) X [(5, .int x2), (0, .ref (ad 0)), (1, .int v1), (2, .int v2), (3, .int v3), (4, .int v4)] dX6_bothComeOver_42 (by decide) rfl ?_
      refine r_iload (pc := 44) X 5 dX6_bothComeOver_44 rfl ?_
      refine r_iload_n (pc := 46) X 4 dX6_bothComeOver_46 rfl rfl ?_
      refine r_icmp_ge (pc := 47) (tgt := 54) X dX6_bothComeOver_47 (by decide) (fun hc => ?_) (fun hc => ?_)
      · replace h := h.1 hc
        refine r_iconst (pc := 54) (v := (nI 0)) X dX6_bothComeOver_54 (by decide) ?_
        refine r_sub [1, 2, 3, 4, 5, 0] rfl ?_
        exact k_X6_bothComeOver_55 X hA hr hT ih _ _ _ _ _ _ _ h
      · replace h := h.2 hc
        refine r_iconst (pc := 50) (v := (nI 1)) X dX6_bothComeOver_50 (by decide) ?_
        refine r_goto (pc := 51) (tgt := 55) X dX6_bothComeOver_51 (by decide) ?_
        refine r_sub [1, 2, 3, 4, 5, 0] rfl ?_
        exact k_X6_bothComeOver_55 X hA hr hT ih _ _ _ _ _ _ _ h
def wp_X6_bothComeOver (K : Int32 → HF → Prop) (F : HF) (a1 : Int32) (a2 : Int32) : Prop := wp_X0_copyRested (fun F1 => wp_X1_width (fun x1 F2 => ∃ m_, wp_X6_bothComeOver_25 K  m_ F2 a1 a2 x1 (nI 0)) F1 4) F 21 17
set_option maxRecDepth 100000 in
set_option maxHeartbeats 4000000 in
theorem c_X6_bothComeOver {l : Launch} {D : va_G} {dA : Nat → ClassId} {ad : Nat → Nat} {R : List Nat} {F : HF} {a1 : Int32} {a2 : Int32} {K : Int32 → HF → Prop} (hT : BBr R) (h : wp_X6_bothComeOver K F a1 a2) : MI l yX6_bothComeOver cX6_bothComeOver 7 .boolean rm_X6_bothComeOver D dA ad R F [.ref (ad 0), .int a1, .int a2] K := by
  refine MI.of (own := RX6) (by decide) rfl (Nat.le_of_ble_eq_true rfl) ?_
  intro p e s m args below meth c A hA X hr
  unfold wp_X6_bothComeOver at h
  show J p l e rm_X6_bothComeOver s m args below meth c 7 D dA ad R A (QI D dA ad R A below args s K) F 0 [(0, .ref (ad 0)), (1, .int a1), (2, .int a2)] []
  refine r_aload_n (pc := 0) X 0 dX6_bothComeOver_0 rfl rfl ?_
  refine fg_X6_38 (pc := 1) X hT.1 dX6_bothComeOver_1 ?_
  refine r_aload_n (pc := 4) X 0 dX6_bothComeOver_4 rfl rfl ?_
  refine fg_X6_31 (pc := 5) X hT.1 dX6_bothComeOver_5 ?_
  refine r_bridge_X6 (pc := 8) (t1 := 17) X hA rfl hT.2.2.2.2.1 (Nat.le_of_ble_eq_true rfl) (Nat.le_of_ble_eq_true rfl) (Nat.le_of_ble_eq_true rfl) dX6_bothComeOver_8 ?_
  refine r_callVV (pc := 11) (As := [.ref (ad 17)]) (st := []) X hA (c_X0_copyRested hT.2.2.2.2.2.1 hT.2.2.2.2.1.2 h) g_X6_232 cl_X0 hT.2.2.2.2.2.1.1 hd_X0_copyRested rfl rfl rfl ⟨Nat.le_of_ble_eq_true rfl, Nat.le_of_ble_eq_true rfl⟩ rfl (Nat.le_of_ble_eq_true rfl) dX6_bothComeOver_11 (fun F1 h => ?_)
  refine r_aload_n (pc := 14) X 0 dX6_bothComeOver_14 rfl rfl ?_
  refine fg_X6_19 (pc := 15) X hT.1 dX6_bothComeOver_15 ?_
  refine r_callIV (pc := 18) (As := []) (st := []) X hA (c_X1_width hT.2.2.1 h) g_X6_177 cl_X1 hT.2.2.1.1 hd_X1_width rfl rfl rfl ⟨Nat.le_of_ble_eq_true rfl, Nat.le_of_ble_eq_true rfl⟩ rfl (Nat.le_of_ble_eq_true rfl) dX6_bothComeOver_18 (fun x1 F2 h => ?_)
  refine r_istore_n (pc := 21) X [(3, .int x1), (0, .ref (ad 0)), (1, .int a1), (2, .int a2)] dX6_bothComeOver_21 rfl (by decide) rfl ?_
  refine r_iconst (pc := 22) (v := (nI 0)) X dX6_bothComeOver_22 (by decide) ?_
  refine r_istore (pc := 23) X [(4, .int (nI 0)), (3, .int x1), (0, .ref (ad 0)), (1, .int a1), (2, .int a2)] dX6_bothComeOver_23 (by decide) rfl ?_
  refine r_sub [2, 3, 4, 1, 0] rfl ?_
  obtain ⟨n1, h⟩ := h
  exact k_X6_bothComeOver_25 X hA hr hT  n1 _ _ _ _ _ h
theorem dX6_second_0 : decode cX6_second 0 = .ok (.iload_n 1, 1) := by decide +kernel
theorem dX6_second_1 : decode cX6_second 1 = .ok (.iconst 1, 1) := by decide +kernel
theorem dX6_second_2 : decode cX6_second 2 = .ok (.if_icmp .lt 9, 3) := by decide +kernel
theorem dX6_second_5 : decode cX6_second 5 = .ok (.iload_n 1, 1) := by decide +kernel
theorem dX6_second_6 : decode cX6_second 6 = .ok (.bipush 40, 2) := by decide +kernel
theorem dX6_second_8 : decode cX6_second 8 = .ok (.if_icmp .le 5, 3) := by decide +kernel
theorem dX6_second_11 : decode cX6_second 11 = .ok (.iconst (-1), 1) := by decide +kernel
theorem dX6_second_12 : decode cX6_second 12 = .ok (.ireturn, 1) := by decide +kernel
theorem dX6_second_13 : decode cX6_second 13 = .ok (.aload_n 0, 1) := by decide +kernel
theorem dX6_second_14 : decode cX6_second 14 = .ok (.getfield 31, 3) := by decide +kernel
theorem dX6_second_17 : decode cX6_second 17 = .ok (.invokevirtual 123, 3) := by decide +kernel
theorem dX6_second_20 : decode cX6_second 20 = .ok (.invokevirtual 171, 3) := by decide +kernel
theorem dX6_second_23 : decode cX6_second 23 = .ok (.ifCond .ne 6, 3) := by decide +kernel
theorem dX6_second_26 : decode cX6_second 26 = .ok (.bipush (-2), 2) := by decide +kernel
theorem dX6_second_28 : decode cX6_second 28 = .ok (.ireturn, 1) := by decide +kernel
theorem dX6_second_29 : decode cX6_second 29 = .ok (.iconst 0, 1) := by decide +kernel
theorem dX6_second_30 : decode cX6_second 30 = .ok (.istore_n 2, 1) := by decide +kernel
theorem dX6_second_31 : decode cX6_second 31 = .ok (.iload_n 2, 1) := by decide +kernel
theorem dX6_second_32 : decode cX6_second 32 = .ok (.bipush 20, 2) := by decide +kernel
theorem dX6_second_34 : decode cX6_second 34 = .ok (.if_icmp .gt 20, 3) := by decide +kernel
theorem dX6_second_37 : decode cX6_second 37 = .ok (.aload_n 0, 1) := by decide +kernel
theorem dX6_second_38 : decode cX6_second 38 = .ok (.iload_n 1, 1) := by decide +kernel
theorem dX6_second_39 : decode cX6_second 39 = .ok (.iload_n 2, 1) := by decide +kernel
theorem dX6_second_40 : decode cX6_second 40 = .ok (.invokevirtual 229, 3) := by decide +kernel
theorem dX6_second_43 : decode cX6_second 43 = .ok (.ifCond .eq 5, 3) := by decide +kernel
theorem dX6_second_46 : decode cX6_second 46 = .ok (.iload_n 2, 1) := by decide +kernel
theorem dX6_second_47 : decode cX6_second 47 = .ok (.ireturn, 1) := by decide +kernel
theorem dX6_second_48 : decode cX6_second 48 = .ok (.iinc 2 1, 3) := by decide +kernel
theorem dX6_second_51 : decode cX6_second 51 = .ok (.goto (-20), 3) := by decide +kernel
theorem dX6_second_54 : decode cX6_second 54 = .ok (.bipush (-4), 2) := by decide +kernel
theorem dX6_second_56 : decode cX6_second 56 = .ok (.ireturn, 1) := by decide +kernel
theorem hd_X6_second : yX6_second.cls = RX6 ∧ yX6_second.cls ≠ "java/lang/invoke/MethodHandle" ∧ yX6_second.cls ≠ "java/lang/invoke/VarHandle" ∧ (parseMethodDescriptor yX6_second.desc).map (fun d => d.parameters.length) = some 1 := by decide +kernel
abbrev rm_X6_second : Room := { frames := 5, cells := 0, slots := 0, locals := 116 }
def wp_X6_second_31 (K : Int32 → HF → Prop) : Nat → HF → Int32 → Int32 → Prop
  | 0 => fun _ _ _ => False
  | n31_ + 1 => fun F v1 v2 => (((nI 20) < v2) → (K (-4 : Int32) F)) ∧ ((¬ (nI 20) < v2) → (wp_X6_bothComeOver (fun x2 F102 => ((x2 = (nI 0)) → (wp_X6_second_31 K  n31_ F102 v1 (v2 + (nI 1)))) ∧ ((¬ x2 = (nI 0)) → (K v2 F102))) F v1 v2))
set_option maxRecDepth 100000 in
set_option maxHeartbeats 4000000 in
theorem k_X6_second_31 {p : Program} {l : Launch} {e : Env} {s : State} {m : MethodId} {args : Array Value} {below : List Frame} {meth : Method} {c : Code} {D : va_G} {dA : Nat → ClassId} {ad : Nat → Nat} {R : List Nat} {A : Nat → Prop} {K : Int32 → HF → Prop} (X : Cx p s m args meth c cX6_second 3 RX6 D dA) (hA : ∀ q, s.heap.size ≤ q → A q) (hr : meth.sig.returnType = some .int) (hT : BBr R) : ∀ (n_ : Nat) (F : HF) (v1 : Int32) (v2 : Int32), wp_X6_second_31 K  n_ F v1 v2 → J p l e rm_X6_second s m args below meth c 3 D dA ad R A (QI D dA ad R A below args s K) F 31 [(0, .ref (ad 0)), (1, .int v1), (2, .int v2)] [] := by
  intro n_
  induction n_ with
  | zero => intro F v1 v2 h; exact h.elim
  | succ n_ ih =>
    intro F v1 v2 h
    unfold wp_X6_second_31 at h
    refine r_iload_n (pc := 31) X 2 dX6_second_31 rfl rfl ?_
    refine r_bipush (pc := 32) (v := (nI 20)) X dX6_second_32 (by decide) ?_
    refine r_icmp_gt (pc := 34) (tgt := 54) X dX6_second_34 (by decide) (fun hc => ?_) (fun hc => ?_)
    · replace h := h.1 hc
      refine r_bipush (pc := 54) (v := (-4 : Int32)) X dX6_second_54 (by decide) ?_
      exact r_iret (pc := 56) X hr dX6_second_56 h
    · replace h := h.2 hc
      refine r_aload_n (pc := 37) X 0 dX6_second_37 rfl rfl ?_
      refine r_iload_n (pc := 38) X 1 dX6_second_38 rfl rfl ?_
      refine r_iload_n (pc := 39) X 2 dX6_second_39 rfl rfl ?_
      refine r_callIV (pc := 40) (As := [.int v1, .int v2]) (st := []) X hA (c_X6_bothComeOver hT h) g_X6_229 cl_X6 hT.1 hd_X6_bothComeOver rfl rfl rfl ⟨Nat.le_of_ble_eq_true rfl, Nat.le_of_ble_eq_true rfl⟩ rfl (Nat.le_of_ble_eq_true rfl) dX6_second_40 (fun x2 F102 h => ?_)
      refine r_if_eq (pc := 43) (tgt := 48) X dX6_second_43 (by decide) (fun hc => ?_) (fun hc => ?_)
      · replace h := h.1 hc
        refine r_iinc (pc := 48) (v := (v2 + (nI 1))) X 2 [(2, .int (v2 + (nI 1))), (0, .ref (ad 0)), (1, .int v1)] dX6_second_48 rfl rfl (by decide) rfl ?_
        refine r_goto (pc := 51) (tgt := 31) X dX6_second_51 (by decide) ?_
        refine r_sub [1, 2, 0] rfl ?_
        exact ih _ _ _ h
      · replace h := h.2 hc
        refine r_iload_n (pc := 46) X 2 dX6_second_46 rfl rfl ?_
        exact r_iret (pc := 47) X hr dX6_second_47 h
def wp_X6_second (K : Int32 → HF → Prop) (F : HF) (a1 : Int32) : Prop := ((a1 < (nI 1)) → (K (-1 : Int32) F)) ∧ ((¬ a1 < (nI 1)) → (((a1 ≤ (nI 40)) → (wp_X0_isWhole (fun x1 F1 => ((¬ x1 = (nI 0)) → (∃ m_, wp_X6_second_31 K  m_ F1 a1 (nI 0))) ∧ ((x1 = (nI 0)) → (K (-2 : Int32) F1))) F 17)) ∧ ((¬ a1 ≤ (nI 40)) → (K (-1 : Int32) F))))
set_option maxRecDepth 100000 in
set_option maxHeartbeats 4000000 in
theorem c_X6_second {l : Launch} {D : va_G} {dA : Nat → ClassId} {ad : Nat → Nat} {R : List Nat} {F : HF} {a1 : Int32} {K : Int32 → HF → Prop} (hT : BBr R) (h : wp_X6_second K F a1) : MI l yX6_second cX6_second 3 .int rm_X6_second D dA ad R F [.ref (ad 0), .int a1] K := by
  refine MI.of (own := RX6) (by decide) rfl (Nat.le_of_ble_eq_true rfl) ?_
  intro p e s m args below meth c A hA X hr
  unfold wp_X6_second at h
  show J p l e rm_X6_second s m args below meth c 3 D dA ad R A (QI D dA ad R A below args s K) F 0 [(0, .ref (ad 0)), (1, .int a1)] []
  refine r_iload_n (pc := 0) X 1 dX6_second_0 rfl rfl ?_
  refine r_iconst (pc := 1) (v := (nI 1)) X dX6_second_1 (by decide) ?_
  refine r_icmp_lt (pc := 2) (tgt := 11) X dX6_second_2 (by decide) (fun hc => ?_) (fun hc => ?_)
  · replace h := h.1 hc
    refine r_iconst (pc := 11) (v := (-1 : Int32)) X dX6_second_11 (by decide) ?_
    exact r_iret (pc := 12) X hr dX6_second_12 h
  · replace h := h.2 hc
    refine r_iload_n (pc := 5) X 1 dX6_second_5 rfl rfl ?_
    refine r_bipush (pc := 6) (v := (nI 40)) X dX6_second_6 (by decide) ?_
    refine r_icmp_le (pc := 8) (tgt := 13) X dX6_second_8 (by decide) (fun hc => ?_) (fun hc => ?_)
    · replace h := h.1 hc
      refine r_aload_n (pc := 13) X 0 dX6_second_13 rfl rfl ?_
      refine fg_X6_31 (pc := 14) X hT.1 dX6_second_14 ?_
      refine r_bridge_X6 (pc := 17) (t1 := 17) X hA rfl hT.2.2.2.2.1 (Nat.le_of_ble_eq_true rfl) (Nat.le_of_ble_eq_true rfl) (Nat.le_of_ble_eq_true rfl) dX6_second_17 ?_
      refine r_callIV (pc := 20) (As := []) (st := []) X hA (c_X0_isWhole hT.2.2.2.2.1.2 h) g_X6_171 cl_X0 hT.2.2.2.2.1.2.1 hd_X0_isWhole rfl rfl rfl ⟨Nat.le_of_ble_eq_true rfl, Nat.le_of_ble_eq_true rfl⟩ rfl (Nat.le_of_ble_eq_true rfl) dX6_second_20 (fun x1 F1 h => ?_)
      refine r_if_ne (pc := 23) (tgt := 29) X dX6_second_23 (by decide) (fun hc => ?_) (fun hc => ?_)
      · replace h := h.1 hc
        refine r_iconst (pc := 29) (v := (nI 0)) X dX6_second_29 (by decide) ?_
        refine r_istore_n (pc := 30) X [(2, .int (nI 0)), (0, .ref (ad 0)), (1, .int a1)] dX6_second_30 rfl (by decide) rfl ?_
        refine r_sub [1, 2, 0] rfl ?_
        obtain ⟨n1, h⟩ := h
        exact k_X6_second_31 X hA hr hT  n1 _ _ _ h
      · replace h := h.2 hc
        refine r_bipush (pc := 26) (v := (-2 : Int32)) X dX6_second_26 (by decide) ?_
        exact r_iret (pc := 28) X hr dX6_second_28 h
    · replace h := h.2 hc
      refine r_iconst (pc := 11) (v := (-1 : Int32)) X dX6_second_11 (by decide) ?_
      exact r_iret (pc := 12) X hr dX6_second_12 h
theorem dX6_years_0 : decode cX6_years 0 = .ok (.aload_n 0, 1) := by decide +kernel
theorem dX6_years_1 : decode cX6_years 1 = .ok (.getfield 31, 3) := by decide +kernel
theorem dX6_years_4 : decode cX6_years 4 = .ok (.invokevirtual 123, 3) := by decide +kernel
theorem dX6_years_7 : decode cX6_years 7 = .ok (.invokevirtual 171, 3) := by decide +kernel
theorem dX6_years_10 : decode cX6_years 10 = .ok (.ifCond .ne 6, 3) := by decide +kernel
theorem dX6_years_13 : decode cX6_years 13 = .ok (.bipush (-2), 2) := by decide +kernel
theorem dX6_years_15 : decode cX6_years 15 = .ok (.ireturn, 1) := by decide +kernel
theorem dX6_years_16 : decode cX6_years 16 = .ok (.iconst 0, 1) := by decide +kernel
theorem dX6_years_17 : decode cX6_years 17 = .ok (.istore_n 1, 1) := by decide +kernel
theorem dX6_years_18 : decode cX6_years 18 = .ok (.iload_n 1, 1) := by decide +kernel
theorem dX6_years_19 : decode cX6_years 19 = .ok (.bipush 20, 2) := by decide +kernel
theorem dX6_years_21 : decode cX6_years 21 = .ok (.if_icmp .gt 59, 3) := by decide +kernel
theorem dX6_years_24 : decode cX6_years 24 = .ok (.aload_n 0, 1) := by decide +kernel
theorem dX6_years_25 : decode cX6_years 25 = .ok (.getfield 38, 3) := by decide +kernel
theorem dX6_years_28 : decode cX6_years 28 = .ok (.aload_n 0, 1) := by decide +kernel
theorem dX6_years_29 : decode cX6_years 29 = .ok (.getfield 31, 3) := by decide +kernel
theorem dX6_years_32 : decode cX6_years 32 = .ok (.invokevirtual 123, 3) := by decide +kernel
theorem dX6_years_35 : decode cX6_years 35 = .ok (.invokevirtual 232, 3) := by decide +kernel
theorem dX6_years_38 : decode cX6_years 38 = .ok (.aload_n 0, 1) := by decide +kernel
theorem dX6_years_39 : decode cX6_years 39 = .ok (.getfield 38, 3) := by decide +kernel
theorem dX6_years_42 : decode cX6_years 42 = .ok (.iconst 0, 1) := by decide +kernel
theorem dX6_years_43 : decode cX6_years 43 = .ok (.aload_n 0, 1) := by decide +kernel
theorem dX6_years_44 : decode cX6_years 44 = .ok (.getfield 19, 3) := by decide +kernel
theorem dX6_years_47 : decode cX6_years 47 = .ok (.invokevirtual 177, 3) := by decide +kernel
theorem dX6_years_50 : decode cX6_years 50 = .ok (.iconst 0, 1) := by decide +kernel
theorem dX6_years_51 : decode cX6_years 51 = .ok (.aload_n 0, 1) := by decide +kernel
theorem dX6_years_52 : decode cX6_years 52 = .ok (.getfield 19, 3) := by decide +kernel
theorem dX6_years_55 : decode cX6_years 55 = .ok (.iload_n 1, 1) := by decide +kernel
theorem dX6_years_56 : decode cX6_years 56 = .ok (.invokevirtual 235, 3) := by decide +kernel
theorem dX6_years_59 : decode cX6_years 59 = .ok (.invokevirtual 203, 3) := by decide +kernel
theorem dX6_years_62 : decode cX6_years 62 = .ok (.aload_n 0, 1) := by decide +kernel
theorem dX6_years_63 : decode cX6_years 63 = .ok (.getfield 19, 3) := by decide +kernel
theorem dX6_years_66 : decode cX6_years 66 = .ok (.invokevirtual 177, 3) := by decide +kernel
theorem dX6_years_69 : decode cX6_years 69 = .ok (.if_icmp .ge 5, 3) := by decide +kernel
theorem dX6_years_72 : decode cX6_years 72 = .ok (.iload_n 1, 1) := by decide +kernel
theorem dX6_years_73 : decode cX6_years 73 = .ok (.ireturn, 1) := by decide +kernel
theorem dX6_years_74 : decode cX6_years 74 = .ok (.iinc 1 1, 3) := by decide +kernel
theorem dX6_years_77 : decode cX6_years 77 = .ok (.goto (-59), 3) := by decide +kernel
theorem dX6_years_80 : decode cX6_years 80 = .ok (.bipush (-4), 2) := by decide +kernel
theorem dX6_years_82 : decode cX6_years 82 = .ok (.ireturn, 1) := by decide +kernel
theorem hd_X6_years : yX6_years.cls = RX6 ∧ yX6_years.cls ≠ "java/lang/invoke/MethodHandle" ∧ yX6_years.cls ≠ "java/lang/invoke/VarHandle" ∧ (parseMethodDescriptor yX6_years.desc).map (fun d => d.parameters.length) = some 0 := by decide +kernel
abbrev rm_X6_years : Room := { frames := 5, cells := 0, slots := 0, locals := 115 }
def wp_X6_years_18 (K : Int32 → HF → Prop) : Nat → HF → Int32 → Prop
  | 0 => fun _ _ => False
  | n18_ + 1 => fun F v1 => (((nI 20) < v1) → (K (-4 : Int32) F)) ∧ ((¬ (nI 20) < v1) → (wp_X0_copyRested (fun F102 => wp_X1_width (fun x2 F103 => wp_X1_weightIn (fun x3 F104 => wp_X0_walk (fun x4 F105 => wp_X1_width (fun x5 F106 => ((x5 ≤ x4) → (wp_X6_years_18 K  n18_ F106 (v1 + (nI 1)))) ∧ ((¬ x5 ≤ x4) → (K v1 F106))) F105 4) F104 21 (nI 0) x2 (nI 0) x3) F103 4 v1) F102 4) F 21 17))
set_option maxRecDepth 100000 in
set_option maxHeartbeats 4000000 in
theorem k_X6_years_18 {p : Program} {l : Launch} {e : Env} {s : State} {m : MethodId} {args : Array Value} {below : List Frame} {meth : Method} {c : Code} {D : va_G} {dA : Nat → ClassId} {ad : Nat → Nat} {R : List Nat} {A : Nat → Prop} {K : Int32 → HF → Prop} (X : Cx p s m args meth c cX6_years 2 RX6 D dA) (hA : ∀ q, s.heap.size ≤ q → A q) (hr : meth.sig.returnType = some .int) (hT : BBr R) : ∀ (n_ : Nat) (F : HF) (v1 : Int32), wp_X6_years_18 K  n_ F v1 → J p l e rm_X6_years s m args below meth c 2 D dA ad R A (QI D dA ad R A below args s K) F 18 [(0, .ref (ad 0)), (1, .int v1)] [] := by
  intro n_
  induction n_ with
  | zero => intro F v1 h; exact h.elim
  | succ n_ ih =>
    intro F v1 h
    unfold wp_X6_years_18 at h
    refine r_iload_n (pc := 18) X 1 dX6_years_18 rfl rfl ?_
    refine r_bipush (pc := 19) (v := (nI 20)) X dX6_years_19 (by decide) ?_
    refine r_icmp_gt (pc := 21) (tgt := 80) X dX6_years_21 (by decide) (fun hc => ?_) (fun hc => ?_)
    · replace h := h.1 hc
      refine r_bipush (pc := 80) (v := (-4 : Int32)) X dX6_years_80 (by decide) ?_
      exact r_iret (pc := 82) X hr dX6_years_82 h
    · replace h := h.2 hc
      refine r_aload_n (pc := 24) X 0 dX6_years_24 rfl rfl ?_
      refine fg_X6_38 (pc := 25) X hT.1 dX6_years_25 ?_
      refine r_aload_n (pc := 28) X 0 dX6_years_28 rfl rfl ?_
      refine fg_X6_31 (pc := 29) X hT.1 dX6_years_29 ?_
      refine r_bridge_X6 (pc := 32) (t1 := 17) X hA rfl hT.2.2.2.2.1 (Nat.le_of_ble_eq_true rfl) (Nat.le_of_ble_eq_true rfl) (Nat.le_of_ble_eq_true rfl) dX6_years_32 ?_
      refine r_callVV (pc := 35) (As := [.ref (ad 17)]) (st := []) X hA (c_X0_copyRested hT.2.2.2.2.2.1 hT.2.2.2.2.1.2 h) g_X6_232 cl_X0 hT.2.2.2.2.2.1.1 hd_X0_copyRested rfl rfl rfl ⟨Nat.le_of_ble_eq_true rfl, Nat.le_of_ble_eq_true rfl⟩ rfl (Nat.le_of_ble_eq_true rfl) dX6_years_35 (fun F102 h => ?_)
      refine r_aload_n (pc := 38) X 0 dX6_years_38 rfl rfl ?_
      refine fg_X6_38 (pc := 39) X hT.1 dX6_years_39 ?_
      refine r_iconst (pc := 42) (v := (nI 0)) X dX6_years_42 (by decide) ?_
      refine r_aload_n (pc := 43) X 0 dX6_years_43 rfl rfl ?_
      refine fg_X6_19 (pc := 44) X hT.1 dX6_years_44 ?_
      refine r_callIV (pc := 47) (As := []) (st := [.int (nI 0), .ref (ad 21)]) X hA (c_X1_width hT.2.2.1 h) g_X6_177 cl_X1 hT.2.2.1.1 hd_X1_width rfl rfl rfl ⟨Nat.le_of_ble_eq_true rfl, Nat.le_of_ble_eq_true rfl⟩ rfl (Nat.le_of_ble_eq_true rfl) dX6_years_47 (fun x2 F103 h => ?_)
      refine r_iconst (pc := 50) (v := (nI 0)) X dX6_years_50 (by decide) ?_
      refine r_aload_n (pc := 51) X 0 dX6_years_51 rfl rfl ?_
      refine fg_X6_19 (pc := 52) X hT.1 dX6_years_52 ?_
      refine r_iload_n (pc := 55) X 1 dX6_years_55 rfl rfl ?_
      refine r_callIV (pc := 56) (As := [.int v1]) (st := [.int (nI 0), .int x2, .int (nI 0), .ref (ad 21)]) X hA (c_X1_weightIn hT.2.2.1 h) g_X6_235 cl_X1 hT.2.2.1.1 hd_X1_weightIn rfl rfl rfl ⟨Nat.le_of_ble_eq_true rfl, Nat.le_of_ble_eq_true rfl⟩ rfl (Nat.le_of_ble_eq_true rfl) dX6_years_56 (fun x3 F104 h => ?_)
      refine r_callIV (pc := 59) (As := [.int (nI 0), .int x2, .int (nI 0), .int x3]) (st := []) X hA (c_X0_walk hT.2.2.2.2.2.1 h) g_X6_203 cl_X0 hT.2.2.2.2.2.1.1 hd_X0_walk rfl rfl rfl ⟨Nat.le_of_ble_eq_true rfl, Nat.le_of_ble_eq_true rfl⟩ rfl (Nat.le_of_ble_eq_true rfl) dX6_years_59 (fun x4 F105 h => ?_)
      refine r_aload_n (pc := 62) X 0 dX6_years_62 rfl rfl ?_
      refine fg_X6_19 (pc := 63) X hT.1 dX6_years_63 ?_
      refine r_callIV (pc := 66) (As := []) (st := [.int x4]) X hA (c_X1_width hT.2.2.1 h) g_X6_177 cl_X1 hT.2.2.1.1 hd_X1_width rfl rfl rfl ⟨Nat.le_of_ble_eq_true rfl, Nat.le_of_ble_eq_true rfl⟩ rfl (Nat.le_of_ble_eq_true rfl) dX6_years_66 (fun x5 F106 h => ?_)
      refine r_icmp_ge (pc := 69) (tgt := 74) X dX6_years_69 (by decide) (fun hc => ?_) (fun hc => ?_)
      · replace h := h.1 hc
        refine r_iinc (pc := 74) (v := (v1 + (nI 1))) X 1 [(1, .int (v1 + (nI 1))), (0, .ref (ad 0))] dX6_years_74 rfl rfl (by decide) rfl ?_
        refine r_goto (pc := 77) (tgt := 18) X dX6_years_77 (by decide) ?_
        refine r_sub [1, 0] rfl ?_
        exact ih _ _ h
      · replace h := h.2 hc
        refine r_iload_n (pc := 72) X 1 dX6_years_72 rfl rfl ?_
        exact r_iret (pc := 73) X hr dX6_years_73 h
def wp_X6_years (K : Int32 → HF → Prop) (F : HF) : Prop := wp_X0_isWhole (fun x1 F1 => ((¬ x1 = (nI 0)) → (∃ m_, wp_X6_years_18 K  m_ F1 (nI 0))) ∧ ((x1 = (nI 0)) → (K (-2 : Int32) F1))) F 17
set_option maxRecDepth 100000 in
set_option maxHeartbeats 4000000 in
theorem c_X6_years {l : Launch} {D : va_G} {dA : Nat → ClassId} {ad : Nat → Nat} {R : List Nat} {F : HF} {K : Int32 → HF → Prop} (hT : BBr R) (h : wp_X6_years K F ) : MI l yX6_years cX6_years 2 .int rm_X6_years D dA ad R F [.ref (ad 0)] K := by
  refine MI.of (own := RX6) (by decide) rfl (Nat.le_of_ble_eq_true rfl) ?_
  intro p e s m args below meth c A hA X hr
  unfold wp_X6_years at h
  show J p l e rm_X6_years s m args below meth c 2 D dA ad R A (QI D dA ad R A below args s K) F 0 [(0, .ref (ad 0))] []
  refine r_aload_n (pc := 0) X 0 dX6_years_0 rfl rfl ?_
  refine fg_X6_31 (pc := 1) X hT.1 dX6_years_1 ?_
  refine r_bridge_X6 (pc := 4) (t1 := 17) X hA rfl hT.2.2.2.2.1 (Nat.le_of_ble_eq_true rfl) (Nat.le_of_ble_eq_true rfl) (Nat.le_of_ble_eq_true rfl) dX6_years_4 ?_
  refine r_callIV (pc := 7) (As := []) (st := []) X hA (c_X0_isWhole hT.2.2.2.2.1.2 h) g_X6_171 cl_X0 hT.2.2.2.2.1.2.1 hd_X0_isWhole rfl rfl rfl ⟨Nat.le_of_ble_eq_true rfl, Nat.le_of_ble_eq_true rfl⟩ rfl (Nat.le_of_ble_eq_true rfl) dX6_years_7 (fun x1 F1 h => ?_)
  refine r_if_ne (pc := 10) (tgt := 16) X dX6_years_10 (by decide) (fun hc => ?_) (fun hc => ?_)
  · replace h := h.1 hc
    refine r_iconst (pc := 16) (v := (nI 0)) X dX6_years_16 (by decide) ?_
    refine r_istore_n (pc := 17) X [(1, .int (nI 0)), (0, .ref (ad 0))] dX6_years_17 rfl (by decide) rfl ?_
    refine r_sub [1, 0] rfl ?_
    obtain ⟨n1, h⟩ := h
    exact k_X6_years_18 X hA hr hT  n1 _ _ h
  · replace h := h.2 hc
    refine r_bipush (pc := 13) (v := (-2 : Int32)) X dX6_years_13 (by decide) ?_
    exact r_iret (pc := 15) X hr dX6_years_15 h
theorem dX6_seen_0 : decode cX6_seen 0 = .ok (.iload_n 1, 1) := by decide +kernel
theorem dX6_seen_1 : decode cX6_seen 1 = .ok (.ifCond .lt 27, 3) := by decide +kernel
theorem dX6_seen_4 : decode cX6_seen 4 = .ok (.iload_n 1, 1) := by decide +kernel
theorem dX6_seen_5 : decode cX6_seen 5 = .ok (.aload_n 0, 1) := by decide +kernel
theorem dX6_seen_6 : decode cX6_seen 6 = .ok (.getfield 31, 3) := by decide +kernel
theorem dX6_seen_9 : decode cX6_seen 9 = .ok (.invokevirtual 123, 3) := by decide +kernel
theorem dX6_seen_12 : decode cX6_seen 12 = .ok (.invokevirtual 136, 3) := by decide +kernel
theorem dX6_seen_15 : decode cX6_seen 15 = .ok (.if_icmp .ge 13, 3) := by decide +kernel
theorem dX6_seen_18 : decode cX6_seen 18 = .ok (.iload_n 2, 1) := by decide +kernel
theorem dX6_seen_19 : decode cX6_seen 19 = .ok (.ifCond .lt 9, 3) := by decide +kernel
theorem dX6_seen_22 : decode cX6_seen 22 = .ok (.iload_n 2, 1) := by decide +kernel
theorem dX6_seen_23 : decode cX6_seen 23 = .ok (.bipush 99, 2) := by decide +kernel
theorem dX6_seen_25 : decode cX6_seen 25 = .ok (.if_icmp .le 5, 3) := by decide +kernel
theorem dX6_seen_28 : decode cX6_seen 28 = .ok (.iconst (-1), 1) := by decide +kernel
theorem dX6_seen_29 : decode cX6_seen 29 = .ok (.ireturn, 1) := by decide +kernel
theorem dX6_seen_30 : decode cX6_seen 30 = .ok (.aload_n 0, 1) := by decide +kernel
theorem dX6_seen_31 : decode cX6_seen 31 = .ok (.getfield 68, 3) := by decide +kernel
theorem dX6_seen_34 : decode cX6_seen 34 = .ok (.bipush 6, 2) := by decide +kernel
theorem dX6_seen_36 : decode cX6_seen 36 = .ok (.if_icmp .lt 6, 3) := by decide +kernel
theorem dX6_seen_39 : decode cX6_seen 39 = .ok (.bipush (-3), 2) := by decide +kernel
theorem dX6_seen_41 : decode cX6_seen 41 = .ok (.ireturn, 1) := by decide +kernel
theorem dX6_seen_42 : decode cX6_seen 42 = .ok (.aload_n 0, 1) := by decide +kernel
theorem dX6_seen_43 : decode cX6_seen 43 = .ok (.getfield 61, 3) := by decide +kernel
theorem dX6_seen_46 : decode cX6_seen 46 = .ok (.aload_n 0, 1) := by decide +kernel
theorem dX6_seen_47 : decode cX6_seen 47 = .ok (.getfield 68, 3) := by decide +kernel
theorem dX6_seen_50 : decode cX6_seen 50 = .ok (.iload_n 1, 1) := by decide +kernel
theorem dX6_seen_51 : decode cX6_seen 51 = .ok (.iastore, 1) := by decide +kernel
theorem dX6_seen_52 : decode cX6_seen 52 = .ok (.aload_n 0, 1) := by decide +kernel
theorem dX6_seen_53 : decode cX6_seen 53 = .ok (.getfield 65, 3) := by decide +kernel
theorem dX6_seen_56 : decode cX6_seen 56 = .ok (.aload_n 0, 1) := by decide +kernel
theorem dX6_seen_57 : decode cX6_seen 57 = .ok (.getfield 68, 3) := by decide +kernel
theorem dX6_seen_60 : decode cX6_seen 60 = .ok (.iload_n 2, 1) := by decide +kernel
theorem dX6_seen_61 : decode cX6_seen 61 = .ok (.iastore, 1) := by decide +kernel
theorem dX6_seen_62 : decode cX6_seen 62 = .ok (.aload_n 0, 1) := by decide +kernel
theorem dX6_seen_63 : decode cX6_seen 63 = .ok (.dup, 1) := by decide +kernel
theorem dX6_seen_64 : decode cX6_seen 64 = .ok (.getfield 68, 3) := by decide +kernel
theorem dX6_seen_67 : decode cX6_seen 67 = .ok (.iconst 1, 1) := by decide +kernel
theorem dX6_seen_68 : decode cX6_seen 68 = .ok (.iadd, 1) := by decide +kernel
theorem dX6_seen_69 : decode cX6_seen 69 = .ok (.putfield 68, 3) := by decide +kernel
theorem dX6_seen_72 : decode cX6_seen 72 = .ok (.aload_n 0, 1) := by decide +kernel
theorem dX6_seen_73 : decode cX6_seen 73 = .ok (.getfield 68, 3) := by decide +kernel
theorem dX6_seen_76 : decode cX6_seen 76 = .ok (.ireturn, 1) := by decide +kernel
theorem hd_X6_seen : yX6_seen.cls = RX6 ∧ yX6_seen.cls ≠ "java/lang/invoke/MethodHandle" ∧ yX6_seen.cls ≠ "java/lang/invoke/VarHandle" ∧ (parseMethodDescriptor yX6_seen.desc).map (fun d => d.parameters.length) = some 2 := by decide +kernel
abbrev rm_X6_seen : Room := { frames := 1, cells := 0, slots := 0, locals := 20 }
def wp_X6_seen (K : Int32 → HF → Prop) (F : HF) (a1 : Int32) (a2 : Int32) : Prop := ((a1 < (nI 0)) → (K (-1 : Int32) F)) ∧ ((¬ a1 < (nI 0)) → (wp_X0_size (fun x1 F1 => ((x1 ≤ a1) → (K (-1 : Int32) F1)) ∧ ((¬ x1 ≤ a1) → (((a2 < (nI 0)) → (K (-1 : Int32) F1)) ∧ ((¬ a2 < (nI 0)) → (((a2 ≤ (nI 99)) → ((((F1 0 10) < (nI 6)) → ((vp_in (F1 0 10) 6) ∧ (∀ F2 : HF, F2 = hup F1 85 (F1 0 10).toNatClampNeg a1 → ((vp_in (F2 0 10) 6) ∧ (∀ F3 : HF, F3 = hup F2 86 (F2 0 10).toNatClampNeg a2 → (∀ F4 : HF, F4 = hup F3 0 10 ((F3 0 10) + (nI 1)) → (K (F4 0 10) F4))))))) ∧ ((¬ (F1 0 10) < (nI 6)) → (K (-3 : Int32) F1)))) ∧ ((¬ a2 ≤ (nI 99)) → (K (-1 : Int32) F1))))))) F 17))
set_option maxRecDepth 100000 in
set_option maxHeartbeats 4000000 in
theorem c_X6_seen {l : Launch} {D : va_G} {dA : Nat → ClassId} {ad : Nat → Nat} {R : List Nat} {F : HF} {a1 : Int32} {a2 : Int32} {K : Int32 → HF → Prop} (hT : BBr R) (h : wp_X6_seen K F a1 a2) : MI l yX6_seen cX6_seen 3 .int rm_X6_seen D dA ad R F [.ref (ad 0), .int a1, .int a2] K := by
  refine MI.of (own := RX6) (by decide) rfl (Nat.le_of_ble_eq_true rfl) ?_
  intro p e s m args below meth c A hA X hr
  unfold wp_X6_seen at h
  show J p l e rm_X6_seen s m args below meth c 3 D dA ad R A (QI D dA ad R A below args s K) F 0 [(0, .ref (ad 0)), (1, .int a1), (2, .int a2)] []
  refine r_iload_n (pc := 0) X 1 dX6_seen_0 rfl rfl ?_
  refine r_if_lt (pc := 1) (tgt := 28) X dX6_seen_1 (by decide) (fun hc => ?_) (fun hc => ?_)
  · replace h := h.1 hc
    refine r_iconst (pc := 28) (v := (-1 : Int32)) X dX6_seen_28 (by decide) ?_
    exact r_iret (pc := 29) X hr dX6_seen_29 h
  · replace h := h.2 hc
    refine r_iload_n (pc := 4) X 1 dX6_seen_4 rfl rfl ?_
    refine r_aload_n (pc := 5) X 0 dX6_seen_5 rfl rfl ?_
    refine fg_X6_31 (pc := 6) X hT.1 dX6_seen_6 ?_
    refine r_bridge_X6 (pc := 9) (t1 := 17) X hA rfl hT.2.2.2.2.1 (Nat.le_of_ble_eq_true rfl) (Nat.le_of_ble_eq_true rfl) (Nat.le_of_ble_eq_true rfl) dX6_seen_9 ?_
    refine r_callIV (pc := 12) (As := []) (st := [.int a1]) X hA (c_X0_size hT.2.2.2.2.1.2 h) g_X6_136 cl_X0 hT.2.2.2.2.1.2.1 hd_X0_size rfl rfl rfl ⟨Nat.le_of_ble_eq_true rfl, Nat.le_of_ble_eq_true rfl⟩ rfl (Nat.le_of_ble_eq_true rfl) dX6_seen_12 (fun x1 F1 h => ?_)
    refine r_icmp_ge (pc := 15) (tgt := 28) X dX6_seen_15 (by decide) (fun hc => ?_) (fun hc => ?_)
    · replace h := h.1 hc
      refine r_iconst (pc := 28) (v := (-1 : Int32)) X dX6_seen_28 (by decide) ?_
      exact r_iret (pc := 29) X hr dX6_seen_29 h
    · replace h := h.2 hc
      refine r_iload_n (pc := 18) X 2 dX6_seen_18 rfl rfl ?_
      refine r_if_lt (pc := 19) (tgt := 28) X dX6_seen_19 (by decide) (fun hc => ?_) (fun hc => ?_)
      · replace h := h.1 hc
        refine r_iconst (pc := 28) (v := (-1 : Int32)) X dX6_seen_28 (by decide) ?_
        exact r_iret (pc := 29) X hr dX6_seen_29 h
      · replace h := h.2 hc
        refine r_iload_n (pc := 22) X 2 dX6_seen_22 rfl rfl ?_
        refine r_bipush (pc := 23) (v := (nI 99)) X dX6_seen_23 (by decide) ?_
        refine r_icmp_le (pc := 25) (tgt := 30) X dX6_seen_25 (by decide) (fun hc => ?_) (fun hc => ?_)
        · replace h := h.1 hc
          refine r_aload_n (pc := 30) X 0 dX6_seen_30 rfl rfl ?_
          refine fg_X6_68 (pc := 31) X hT.1 dX6_seen_31 ?_
          refine r_bipush (pc := 34) (v := (nI 6)) X dX6_seen_34 (by decide) ?_
          refine r_icmp_lt (pc := 36) (tgt := 42) X dX6_seen_36 (by decide) (fun hc => ?_) (fun hc => ?_)
          · replace h := h.1 hc
            refine r_aload_n (pc := 42) X 0 dX6_seen_42 rfl rfl ?_
            refine fg_X6_61 (pc := 43) X hT.1 dX6_seen_43 ?_
            refine r_aload_n (pc := 46) X 0 dX6_seen_46 rfl rfl ?_
            refine fg_X6_68 (pc := 47) X hT.1 dX6_seen_47 ?_
            refine r_iload_n (pc := 50) X 1 dX6_seen_50 rfl rfl ?_
            refine r_iast (pc := 51) X hT.2.2.2.2.2.2.2.2.2.1 h.1 dX6_seen_51 (fun F2 e1 => ?_)
            replace h := h.2 F2 e1
            refine r_aload_n (pc := 52) X 0 dX6_seen_52 rfl rfl ?_
            refine fg_X6_65 (pc := 53) X hT.1 dX6_seen_53 ?_
            refine r_aload_n (pc := 56) X 0 dX6_seen_56 rfl rfl ?_
            refine fg_X6_68 (pc := 57) X hT.1 dX6_seen_57 ?_
            refine r_iload_n (pc := 60) X 2 dX6_seen_60 rfl rfl ?_
            refine r_iast (pc := 61) X hT.2.2.2.2.2.2.2.2.2.2 h.1 dX6_seen_61 (fun F3 e1 => ?_)
            replace h := h.2 F3 e1
            refine r_aload_n (pc := 62) X 0 dX6_seen_62 rfl rfl ?_
            refine r_dup (pc := 63) X dX6_seen_63 rfl ?_
            refine fg_X6_68 (pc := 64) X hT.1 dX6_seen_64 ?_
            refine r_iconst (pc := 67) (v := (nI 1)) X dX6_seen_67 (by decide) ?_
            refine r_iadd (pc := 68) X dX6_seen_68 ?_
            refine fp_X6_68 (pc := 69) X hT.1 dX6_seen_69 (fun F4 e1 => ?_)
            replace h := h F4 e1
            refine r_aload_n (pc := 72) X 0 dX6_seen_72 rfl rfl ?_
            refine fg_X6_68 (pc := 73) X hT.1 dX6_seen_73 ?_
            exact r_iret (pc := 76) X hr dX6_seen_76 h
          · replace h := h.2 hc
            refine r_bipush (pc := 39) (v := (-3 : Int32)) X dX6_seen_39 (by decide) ?_
            exact r_iret (pc := 41) X hr dX6_seen_41 h
        · replace h := h.2 hc
          refine r_iconst (pc := 28) (v := (-1 : Int32)) X dX6_seen_28 (by decide) ?_
          exact r_iret (pc := 29) X hr dX6_seen_29 h
theorem dX6_forget_0 : decode cX6_forget 0 = .ok (.aload_n 0, 1) := by decide +kernel
theorem dX6_forget_1 : decode cX6_forget 1 = .ok (.getfield 68, 3) := by decide +kernel
theorem dX6_forget_4 : decode cX6_forget 4 = .ok (.istore_n 1, 1) := by decide +kernel
theorem dX6_forget_5 : decode cX6_forget 5 = .ok (.aload_n 0, 1) := by decide +kernel
theorem dX6_forget_6 : decode cX6_forget 6 = .ok (.iconst 0, 1) := by decide +kernel
theorem dX6_forget_7 : decode cX6_forget 7 = .ok (.putfield 68, 3) := by decide +kernel
theorem dX6_forget_10 : decode cX6_forget 10 = .ok (.iload_n 1, 1) := by decide +kernel
theorem dX6_forget_11 : decode cX6_forget 11 = .ok (.ireturn, 1) := by decide +kernel
theorem hd_X6_forget : yX6_forget.cls = RX6 ∧ yX6_forget.cls ≠ "java/lang/invoke/MethodHandle" ∧ yX6_forget.cls ≠ "java/lang/invoke/VarHandle" ∧ (parseMethodDescriptor yX6_forget.desc).map (fun d => d.parameters.length) = some 0 := by decide +kernel
abbrev rm_X6_forget : Room := { frames := 0, cells := 0, slots := 0, locals := 0 }
def wp_X6_forget (K : Int32 → HF → Prop) (F : HF) : Prop := ∀ F1 : HF, F1 = hup F 0 10 (nI 0) → (K (F 0 10) F1)
set_option maxRecDepth 100000 in
set_option maxHeartbeats 4000000 in
theorem c_X6_forget {l : Launch} {D : va_G} {dA : Nat → ClassId} {ad : Nat → Nat} {R : List Nat} {F : HF} {K : Int32 → HF → Prop} (hT : BBr R) (h : wp_X6_forget K F ) : MI l yX6_forget cX6_forget 2 .int rm_X6_forget D dA ad R F [.ref (ad 0)] K := by
  refine MI.of (own := RX6) (by decide) rfl (Nat.le_of_ble_eq_true rfl) ?_
  intro p e s m args below meth c A hA X hr
  unfold wp_X6_forget at h
  show J p l e rm_X6_forget s m args below meth c 2 D dA ad R A (QI D dA ad R A below args s K) F 0 [(0, .ref (ad 0))] []
  refine r_aload_n (pc := 0) X 0 dX6_forget_0 rfl rfl ?_
  refine fg_X6_68 (pc := 1) X hT.1 dX6_forget_1 ?_
  refine r_istore_n (pc := 4) X [(1, .int (F 0 10)), (0, .ref (ad 0))] dX6_forget_4 rfl (by decide) rfl ?_
  refine r_aload_n (pc := 5) X 1 dX6_forget_5 rfl rfl ?_
  refine r_iconst (pc := 6) (v := (nI 0)) X dX6_forget_6 (by decide) ?_
  refine fp_X6_68 (pc := 7) X hT.1 dX6_forget_7 (fun F1 e1 => ?_)
  replace h := h F1 e1
  refine r_iload_n (pc := 10) X 0 dX6_forget_10 rfl rfl ?_
  exact r_iret (pc := 11) X hr dX6_forget_11 h
theorem dX6_isAsSeen_0 : decode cX6_isAsSeen 0 = .ok (.aload_n 0, 1) := by decide +kernel
theorem dX6_isAsSeen_1 : decode cX6_isAsSeen 1 = .ok (.getfield 38, 3) := by decide +kernel
theorem dX6_isAsSeen_4 : decode cX6_isAsSeen 4 = .ok (.aload_n 0, 1) := by decide +kernel
theorem dX6_isAsSeen_5 : decode cX6_isAsSeen 5 = .ok (.getfield 31, 3) := by decide +kernel
theorem dX6_isAsSeen_8 : decode cX6_isAsSeen 8 = .ok (.invokevirtual 123, 3) := by decide +kernel
theorem dX6_isAsSeen_11 : decode cX6_isAsSeen 11 = .ok (.invokevirtual 232, 3) := by decide +kernel
theorem dX6_isAsSeen_14 : decode cX6_isAsSeen 14 = .ok (.iconst 0, 1) := by decide +kernel
theorem dX6_isAsSeen_15 : decode cX6_isAsSeen 15 = .ok (.istore_n 3, 1) := by decide +kernel
theorem dX6_isAsSeen_16 : decode cX6_isAsSeen 16 = .ok (.iload_n 3, 1) := by decide +kernel
theorem dX6_isAsSeen_17 : decode cX6_isAsSeen 17 = .ok (.iload_n 2, 1) := by decide +kernel
theorem dX6_isAsSeen_18 : decode cX6_isAsSeen 18 = .ok (.if_icmp .ge 40, 3) := by decide +kernel
theorem dX6_isAsSeen_21 : decode cX6_isAsSeen 21 = .ok (.aload_n 0, 1) := by decide +kernel
theorem dX6_isAsSeen_22 : decode cX6_isAsSeen 22 = .ok (.getfield 38, 3) := by decide +kernel
theorem dX6_isAsSeen_25 : decode cX6_isAsSeen 25 = .ok (.iload_n 1, 1) := by decide +kernel
theorem dX6_isAsSeen_26 : decode cX6_isAsSeen 26 = .ok (.aload_n 0, 1) := by decide +kernel
theorem dX6_isAsSeen_27 : decode cX6_isAsSeen 27 = .ok (.getfield 31, 3) := by decide +kernel
theorem dX6_isAsSeen_30 : decode cX6_isAsSeen 30 = .ok (.invokevirtual 189, 3) := by decide +kernel
theorem dX6_isAsSeen_33 : decode cX6_isAsSeen 33 = .ok (.aload_n 0, 1) := by decide +kernel
theorem dX6_isAsSeen_34 : decode cX6_isAsSeen 34 = .ok (.getfield 19, 3) := by decide +kernel
theorem dX6_isAsSeen_37 : decode cX6_isAsSeen 37 = .ok (.iload_n 3, 1) := by decide +kernel
theorem dX6_isAsSeen_38 : decode cX6_isAsSeen 38 = .ok (.invokevirtual 133, 3) := by decide +kernel
theorem dX6_isAsSeen_41 : decode cX6_isAsSeen 41 = .ok (.iadd, 1) := by decide +kernel
theorem dX6_isAsSeen_42 : decode cX6_isAsSeen 42 = .ok (.invokevirtual 273, 3) := by decide +kernel
theorem dX6_isAsSeen_45 : decode cX6_isAsSeen 45 = .ok (.aload_n 0, 1) := by decide +kernel
theorem dX6_isAsSeen_46 : decode cX6_isAsSeen 46 = .ok (.getfield 38, 3) := by decide +kernel
theorem dX6_isAsSeen_49 : decode cX6_isAsSeen 49 = .ok (.invokevirtual 276, 3) := by decide +kernel
theorem dX6_isAsSeen_52 : decode cX6_isAsSeen 52 = .ok (.iinc 3 1, 3) := by decide +kernel
theorem dX6_isAsSeen_55 : decode cX6_isAsSeen 55 = .ok (.goto (-39), 3) := by decide +kernel
theorem dX6_isAsSeen_58 : decode cX6_isAsSeen 58 = .ok (.iconst 0, 1) := by decide +kernel
theorem dX6_isAsSeen_59 : decode cX6_isAsSeen 59 = .ok (.istore_n 3, 1) := by decide +kernel
theorem dX6_isAsSeen_60 : decode cX6_isAsSeen 60 = .ok (.iload_n 3, 1) := by decide +kernel
theorem dX6_isAsSeen_61 : decode cX6_isAsSeen 61 = .ok (.aload_n 0, 1) := by decide +kernel
theorem dX6_isAsSeen_62 : decode cX6_isAsSeen 62 = .ok (.getfield 68, 3) := by decide +kernel
theorem dX6_isAsSeen_65 : decode cX6_isAsSeen 65 = .ok (.if_icmp .ge 56, 3) := by decide +kernel
theorem dX6_isAsSeen_68 : decode cX6_isAsSeen 68 = .ok (.aload_n 0, 1) := by decide +kernel
theorem dX6_isAsSeen_69 : decode cX6_isAsSeen 69 = .ok (.getfield 61, 3) := by decide +kernel
theorem dX6_isAsSeen_72 : decode cX6_isAsSeen 72 = .ok (.iload_n 3, 1) := by decide +kernel
theorem dX6_isAsSeen_73 : decode cX6_isAsSeen 73 = .ok (.iaload, 1) := by decide +kernel
theorem dX6_isAsSeen_74 : decode cX6_isAsSeen 74 = .ok (.aload_n 0, 1) := by decide +kernel
theorem dX6_isAsSeen_75 : decode cX6_isAsSeen 75 = .ok (.getfield 38, 3) := by decide +kernel
theorem dX6_isAsSeen_78 : decode cX6_isAsSeen 78 = .ok (.invokevirtual 136, 3) := by decide +kernel
theorem dX6_isAsSeen_81 : decode cX6_isAsSeen 81 = .ok (.if_icmp .ge 32, 3) := by decide +kernel
theorem dX6_isAsSeen_84 : decode cX6_isAsSeen 84 = .ok (.aload_n 0, 1) := by decide +kernel
theorem dX6_isAsSeen_85 : decode cX6_isAsSeen 85 = .ok (.getfield 38, 3) := by decide +kernel
theorem dX6_isAsSeen_88 : decode cX6_isAsSeen 88 = .ok (.aload_n 0, 1) := by decide +kernel
theorem dX6_isAsSeen_89 : decode cX6_isAsSeen 89 = .ok (.getfield 38, 3) := by decide +kernel
theorem dX6_isAsSeen_92 : decode cX6_isAsSeen 92 = .ok (.aload_n 0, 1) := by decide +kernel
theorem dX6_isAsSeen_93 : decode cX6_isAsSeen 93 = .ok (.getfield 61, 3) := by decide +kernel
theorem dX6_isAsSeen_96 : decode cX6_isAsSeen 96 = .ok (.iload_n 3, 1) := by decide +kernel
theorem dX6_isAsSeen_97 : decode cX6_isAsSeen 97 = .ok (.iaload, 1) := by decide +kernel
theorem dX6_isAsSeen_98 : decode cX6_isAsSeen 98 = .ok (.invokevirtual 139, 3) := by decide +kernel
theorem dX6_isAsSeen_101 : decode cX6_isAsSeen 101 = .ok (.invokevirtual 127, 3) := by decide +kernel
theorem dX6_isAsSeen_104 : decode cX6_isAsSeen 104 = .ok (.aload_n 0, 1) := by decide +kernel
theorem dX6_isAsSeen_105 : decode cX6_isAsSeen 105 = .ok (.getfield 65, 3) := by decide +kernel
theorem dX6_isAsSeen_108 : decode cX6_isAsSeen 108 = .ok (.iload_n 3, 1) := by decide +kernel
theorem dX6_isAsSeen_109 : decode cX6_isAsSeen 109 = .ok (.iaload, 1) := by decide +kernel
theorem dX6_isAsSeen_110 : decode cX6_isAsSeen 110 = .ok (.if_icmp .eq 5, 3) := by decide +kernel
theorem dX6_isAsSeen_113 : decode cX6_isAsSeen 113 = .ok (.iconst 0, 1) := by decide +kernel
theorem dX6_isAsSeen_114 : decode cX6_isAsSeen 114 = .ok (.ireturn, 1) := by decide +kernel
theorem dX6_isAsSeen_115 : decode cX6_isAsSeen 115 = .ok (.iinc 3 1, 3) := by decide +kernel
theorem dX6_isAsSeen_118 : decode cX6_isAsSeen 118 = .ok (.goto (-58), 3) := by decide +kernel
theorem dX6_isAsSeen_121 : decode cX6_isAsSeen 121 = .ok (.iconst 1, 1) := by decide +kernel
theorem dX6_isAsSeen_122 : decode cX6_isAsSeen 122 = .ok (.ireturn, 1) := by decide +kernel
theorem hd_X6_isAsSeen : yX6_isAsSeen.cls = RX6 ∧ yX6_isAsSeen.cls ≠ "java/lang/invoke/MethodHandle" ∧ yX6_isAsSeen.cls ≠ "java/lang/invoke/VarHandle" ∧ (parseMethodDescriptor yX6_isAsSeen.desc).map (fun d => d.parameters.length) = some 2 := by decide +kernel
abbrev rm_X6_isAsSeen : Room := { frames := 4, cells := 0, slots := 0, locals := 90 }
def wp_X6_isAsSeen_60 (K : Int32 → HF → Prop) : Nat → HF → Int32 → Prop
  | 0 => fun _ _ => False
  | n60_ + 1 => fun F v3 => (((F 0 10) ≤ v3) → (K (nI 1) F)) ∧ ((¬ (F 0 10) ≤ v3) → ((vp_in v3 6) ∧ (wp_X0_size (fun x1 F202 => ((x1 ≤ (F 85 v3.toNatClampNeg)) → (K (nI 0) F202)) ∧ ((¬ x1 ≤ (F 85 v3.toNatClampNeg)) → ((vp_in v3 6) ∧ (wp_X0_birdAt (fun x2 F203 => wp_X0_tiredOf (fun x3 F204 => (vp_in v3 6) ∧ (((x3 = (F204 86 v3.toNatClampNeg)) → (wp_X6_isAsSeen_60 K  n60_ F204 (v3 + (nI 1)))) ∧ ((¬ x3 = (F204 86 v3.toNatClampNeg)) → (K (nI 0) F204)))) F203 21 x2) F202 21 (F202 85 v3.toNatClampNeg))))) F 21)))
set_option maxRecDepth 100000 in
set_option maxHeartbeats 4000000 in
theorem k_X6_isAsSeen_60 {p : Program} {l : Launch} {e : Env} {s : State} {m : MethodId} {args : Array Value} {below : List Frame} {meth : Method} {c : Code} {D : va_G} {dA : Nat → ClassId} {ad : Nat → Nat} {R : List Nat} {A : Nat → Prop} {K : Int32 → HF → Prop} (X : Cx p s m args meth c cX6_isAsSeen 4 RX6 D dA) (hA : ∀ q, s.heap.size ≤ q → A q) (hr : meth.sig.returnType = some .boolean) (hT : BBr R) : ∀ (n_ : Nat) (F : HF) (v3 : Int32), wp_X6_isAsSeen_60 K  n_ F v3 → J p l e rm_X6_isAsSeen s m args below meth c 4 D dA ad R A (QI D dA ad R A below args s K) F 60 [(0, .ref (ad 0)), (3, .int v3)] [] := by
  intro n_
  induction n_ with
  | zero => intro F v3 h; exact h.elim
  | succ n_ ih =>
    intro F v3 h
    unfold wp_X6_isAsSeen_60 at h
    refine r_iload_n (pc := 60) X 1 dX6_isAsSeen_60 rfl rfl ?_
    refine r_aload_n (pc := 61) X 0 dX6_isAsSeen_61 rfl rfl ?_
    refine fg_X6_68 (pc := 62) X hT.1 dX6_isAsSeen_62 ?_
    refine r_icmp_ge (pc := 65) (tgt := 121) X dX6_isAsSeen_65 (by decide) (fun hc => ?_) (fun hc => ?_)
    · replace h := h.1 hc
      refine r_iconst (pc := 121) (v := (nI 1)) X dX6_isAsSeen_121 (by decide) ?_
      exact r_zret (pc := 122) X hr dX6_isAsSeen_122 nb1 h
    · replace h := h.2 hc
      refine r_aload_n (pc := 68) X 0 dX6_isAsSeen_68 rfl rfl ?_
      refine fg_X6_61 (pc := 69) X hT.1 dX6_isAsSeen_69 ?_
      refine r_iload_n (pc := 72) X 1 dX6_isAsSeen_72 rfl rfl ?_
      refine r_iald (pc := 73) X hT.2.2.2.2.2.2.2.2.2.1 h.1 dX6_isAsSeen_73 ?_
      replace h := h.2
      refine r_aload_n (pc := 74) X 0 dX6_isAsSeen_74 rfl rfl ?_
      refine fg_X6_38 (pc := 75) X hT.1 dX6_isAsSeen_75 ?_
      refine r_callIV (pc := 78) (As := []) (st := [.int (F 85 v3.toNatClampNeg)]) X hA (c_X0_size hT.2.2.2.2.2.1 h) g_X6_136 cl_X0 hT.2.2.2.2.2.1.1 hd_X0_size rfl rfl rfl ⟨Nat.le_of_ble_eq_true rfl, Nat.le_of_ble_eq_true rfl⟩ rfl (Nat.le_of_ble_eq_true rfl) dX6_isAsSeen_78 (fun x1 F202 h => ?_)
      refine r_icmp_ge (pc := 81) (tgt := 113) X dX6_isAsSeen_81 (by decide) (fun hc => ?_) (fun hc => ?_)
      · replace h := h.1 hc
        refine r_iconst (pc := 113) (v := (nI 0)) X dX6_isAsSeen_113 (by decide) ?_
        exact r_zret (pc := 114) X hr dX6_isAsSeen_114 nb0 h
      · replace h := h.2 hc
        refine r_aload_n (pc := 84) X 0 dX6_isAsSeen_84 rfl rfl ?_
        refine fg_X6_38 (pc := 85) X hT.1 dX6_isAsSeen_85 ?_
        refine r_aload_n (pc := 88) X 0 dX6_isAsSeen_88 rfl rfl ?_
        refine fg_X6_38 (pc := 89) X hT.1 dX6_isAsSeen_89 ?_
        refine r_aload_n (pc := 92) X 0 dX6_isAsSeen_92 rfl rfl ?_
        refine fg_X6_61 (pc := 93) X hT.1 dX6_isAsSeen_93 ?_
        refine r_iload_n (pc := 96) X 1 dX6_isAsSeen_96 rfl rfl ?_
        refine r_iald (pc := 97) X hT.2.2.2.2.2.2.2.2.2.1 h.1 dX6_isAsSeen_97 ?_
        replace h := h.2
        refine r_callIV (pc := 98) (As := [.int (F202 85 v3.toNatClampNeg)]) (st := [.ref (ad 21)]) X hA (c_X0_birdAt hT.2.2.2.2.2.1 h) g_X6_139 cl_X0 hT.2.2.2.2.2.1.1 hd_X0_birdAt rfl rfl rfl ⟨Nat.le_of_ble_eq_true rfl, Nat.le_of_ble_eq_true rfl⟩ rfl (Nat.le_of_ble_eq_true rfl) dX6_isAsSeen_98 (fun x2 F203 h => ?_)
        refine r_callIV (pc := 101) (As := [.int x2]) (st := []) X hA (c_X0_tiredOf hT.2.2.2.2.2.1 h) g_X6_127 cl_X0 hT.2.2.2.2.2.1.1 hd_X0_tiredOf rfl rfl rfl ⟨Nat.le_of_ble_eq_true rfl, Nat.le_of_ble_eq_true rfl⟩ rfl (Nat.le_of_ble_eq_true rfl) dX6_isAsSeen_101 (fun x3 F204 h => ?_)
        refine r_aload_n (pc := 104) X 0 dX6_isAsSeen_104 rfl rfl ?_
        refine fg_X6_65 (pc := 105) X hT.1 dX6_isAsSeen_105 ?_
        refine r_iload_n (pc := 108) X 1 dX6_isAsSeen_108 rfl rfl ?_
        refine r_iald (pc := 109) X hT.2.2.2.2.2.2.2.2.2.2 h.1 dX6_isAsSeen_109 ?_
        replace h := h.2
        refine r_icmp_eq (pc := 110) (tgt := 115) X dX6_isAsSeen_110 (by decide) (fun hc => ?_) (fun hc => ?_)
        · replace h := h.1 hc
          refine r_iinc (pc := 115) (v := (v3 + (nI 1))) X 1 [(3, .int (v3 + (nI 1))), (0, .ref (ad 0))] dX6_isAsSeen_115 rfl rfl (by decide) rfl ?_
          refine r_goto (pc := 118) (tgt := 60) X dX6_isAsSeen_118 (by decide) ?_
          refine r_sub [1, 0] rfl ?_
          exact ih _ _ h
        · replace h := h.2 hc
          refine r_iconst (pc := 113) (v := (nI 0)) X dX6_isAsSeen_113 (by decide) ?_
          exact r_zret (pc := 114) X hr dX6_isAsSeen_114 nb0 h
def wp_X6_isAsSeen_16 (K : Int32 → HF → Prop) : Nat → HF → Int32 → Int32 → Int32 → Prop
  | 0 => fun _ _ _ _ => False
  | n16_ + 1 => fun F v1 v2 v3 => ((v2 ≤ v3) → (∃ m_, wp_X6_isAsSeen_60 K  m_ F (nI 0))) ∧ ((¬ v2 ≤ v3) → (wp_X2_weight (fun x4 F205 => wp_X1_windIn (fun x5 F206 => wp_X0_loadAlone (fun F207 => wp_X0_tire (fun F208 => wp_X6_isAsSeen_16 K  n16_ F208 v1 v2 (v3 + (nI 1))) F207 21) F206 21 v1 (x4 + x5)) F205 4 v3) F 16))
set_option maxRecDepth 100000 in
set_option maxHeartbeats 4000000 in
theorem k_X6_isAsSeen_16 {p : Program} {l : Launch} {e : Env} {s : State} {m : MethodId} {args : Array Value} {below : List Frame} {meth : Method} {c : Code} {D : va_G} {dA : Nat → ClassId} {ad : Nat → Nat} {R : List Nat} {A : Nat → Prop} {K : Int32 → HF → Prop} (X : Cx p s m args meth c cX6_isAsSeen 4 RX6 D dA) (hA : ∀ q, s.heap.size ≤ q → A q) (hr : meth.sig.returnType = some .boolean) (hT : BBr R) : ∀ (n_ : Nat) (F : HF) (v1 : Int32) (v2 : Int32) (v3 : Int32), wp_X6_isAsSeen_16 K  n_ F v1 v2 v3 → J p l e rm_X6_isAsSeen s m args below meth c 4 D dA ad R A (QI D dA ad R A below args s K) F 16 [(0, .ref (ad 0)), (1, .int v1), (2, .int v2), (3, .int v3)] [] := by
  intro n_
  induction n_ with
  | zero => intro F v1 v2 v3 h; exact h.elim
  | succ n_ ih =>
    intro F v1 v2 v3 h
    unfold wp_X6_isAsSeen_16 at h
    refine r_iload_n (pc := 16) X 3 dX6_isAsSeen_16 rfl rfl ?_
    refine r_iload_n (pc := 17) X 2 dX6_isAsSeen_17 rfl rfl ?_
    refine r_icmp_ge (pc := 18) (tgt := 58) X dX6_isAsSeen_18 (by decide) (fun hc => ?_) (fun hc => ?_)
    · replace h := h.1 hc
      refine r_iconst (pc := 58) (v := (nI 0)) X dX6_isAsSeen_58 (by decide) ?_
      refine r_istore_n (pc := 59) X [(3, .int (nI 0)), (0, .ref (ad 0)), (1, .int v1), (2, .int v2)] dX6_isAsSeen_59 rfl (by decide) rfl ?_
      refine r_sub [1, 0] rfl ?_
      obtain ⟨n1, h⟩ := h
      exact k_X6_isAsSeen_60 X hA hr hT  n1 _ _ h
    · replace h := h.2 hc
      refine r_aload_n (pc := 21) X 0 dX6_isAsSeen_21 rfl rfl ?_
      refine fg_X6_38 (pc := 22) X hT.1 dX6_isAsSeen_22 ?_
      refine r_iload_n (pc := 25) X 1 dX6_isAsSeen_25 rfl rfl ?_
      refine r_aload_n (pc := 26) X 0 dX6_isAsSeen_26 rfl rfl ?_
      refine fg_X6_31 (pc := 27) X hT.1 dX6_isAsSeen_27 ?_
      refine r_callIV (pc := 30) (As := []) (st := [.int v1, .ref (ad 21)]) X hA (c_X2_weight hT.2.2.2.2.1 h) g_X6_189 cl_X2 hT.2.2.2.2.1.1 hd_X2_weight rfl rfl rfl ⟨Nat.le_of_ble_eq_true rfl, Nat.le_of_ble_eq_true rfl⟩ rfl (Nat.le_of_ble_eq_true rfl) dX6_isAsSeen_30 (fun x4 F205 h => ?_)
      refine r_aload_n (pc := 33) X 0 dX6_isAsSeen_33 rfl rfl ?_
      refine fg_X6_19 (pc := 34) X hT.1 dX6_isAsSeen_34 ?_
      refine r_iload_n (pc := 37) X 3 dX6_isAsSeen_37 rfl rfl ?_
      refine r_callIV (pc := 38) (As := [.int v3]) (st := [.int x4, .int v1, .ref (ad 21)]) X hA (c_X1_windIn hT.2.2.1 h) g_X6_133 cl_X1 hT.2.2.1.1 hd_X1_windIn rfl rfl rfl ⟨Nat.le_of_ble_eq_true rfl, Nat.le_of_ble_eq_true rfl⟩ rfl (Nat.le_of_ble_eq_true rfl) dX6_isAsSeen_38 (fun x5 F206 h => ?_)
      refine r_iadd (pc := 41) X dX6_isAsSeen_41 ?_
      refine r_callVV (pc := 42) (As := [.int v1, .int (x4 + x5)]) (st := []) X hA (c_X0_loadAlone hT.2.2.2.2.2.1 h) g_X6_273 cl_X0 hT.2.2.2.2.2.1.1 hd_X0_loadAlone rfl rfl rfl ⟨Nat.le_of_ble_eq_true rfl, Nat.le_of_ble_eq_true rfl⟩ rfl (Nat.le_of_ble_eq_true rfl) dX6_isAsSeen_42 (fun F207 h => ?_)
      refine r_aload_n (pc := 45) X 0 dX6_isAsSeen_45 rfl rfl ?_
      refine fg_X6_38 (pc := 46) X hT.1 dX6_isAsSeen_46 ?_
      refine r_callVV (pc := 49) (As := []) (st := []) X hA (c_X0_tire hT.2.2.2.2.2.1 h) g_X6_276 cl_X0 hT.2.2.2.2.2.1.1 hd_X0_tire rfl rfl rfl ⟨Nat.le_of_ble_eq_true rfl, Nat.le_of_ble_eq_true rfl⟩ rfl (Nat.le_of_ble_eq_true rfl) dX6_isAsSeen_49 (fun F208 h => ?_)
      refine r_iinc (pc := 52) (v := (v3 + (nI 1))) X 3 [(3, .int (v3 + (nI 1))), (0, .ref (ad 0)), (1, .int v1), (2, .int v2)] dX6_isAsSeen_52 rfl rfl (by decide) rfl ?_
      refine r_goto (pc := 55) (tgt := 16) X dX6_isAsSeen_55 (by decide) ?_
      refine r_sub [1, 2, 3, 0] rfl ?_
      exact ih _ _ _ _ h
def wp_X6_isAsSeen (K : Int32 → HF → Prop) (F : HF) (a1 : Int32) (a2 : Int32) : Prop := wp_X0_copyRested (fun F1 => ∃ m_, wp_X6_isAsSeen_16 K  m_ F1 a1 a2 (nI 0)) F 21 17
set_option maxRecDepth 100000 in
set_option maxHeartbeats 4000000 in
theorem c_X6_isAsSeen {l : Launch} {D : va_G} {dA : Nat → ClassId} {ad : Nat → Nat} {R : List Nat} {F : HF} {a1 : Int32} {a2 : Int32} {K : Int32 → HF → Prop} (hT : BBr R) (h : wp_X6_isAsSeen K F a1 a2) : MI l yX6_isAsSeen cX6_isAsSeen 4 .boolean rm_X6_isAsSeen D dA ad R F [.ref (ad 0), .int a1, .int a2] K := by
  refine MI.of (own := RX6) (by decide) rfl (Nat.le_of_ble_eq_true rfl) ?_
  intro p e s m args below meth c A hA X hr
  unfold wp_X6_isAsSeen at h
  show J p l e rm_X6_isAsSeen s m args below meth c 4 D dA ad R A (QI D dA ad R A below args s K) F 0 [(0, .ref (ad 0)), (1, .int a1), (2, .int a2)] []
  refine r_aload_n (pc := 0) X 0 dX6_isAsSeen_0 rfl rfl ?_
  refine fg_X6_38 (pc := 1) X hT.1 dX6_isAsSeen_1 ?_
  refine r_aload_n (pc := 4) X 0 dX6_isAsSeen_4 rfl rfl ?_
  refine fg_X6_31 (pc := 5) X hT.1 dX6_isAsSeen_5 ?_
  refine r_bridge_X6 (pc := 8) (t1 := 17) X hA rfl hT.2.2.2.2.1 (Nat.le_of_ble_eq_true rfl) (Nat.le_of_ble_eq_true rfl) (Nat.le_of_ble_eq_true rfl) dX6_isAsSeen_8 ?_
  refine r_callVV (pc := 11) (As := [.ref (ad 17)]) (st := []) X hA (c_X0_copyRested hT.2.2.2.2.2.1 hT.2.2.2.2.1.2 h) g_X6_232 cl_X0 hT.2.2.2.2.2.1.1 hd_X0_copyRested rfl rfl rfl ⟨Nat.le_of_ble_eq_true rfl, Nat.le_of_ble_eq_true rfl⟩ rfl (Nat.le_of_ble_eq_true rfl) dX6_isAsSeen_11 (fun F1 h => ?_)
  refine r_iconst (pc := 14) (v := (nI 0)) X dX6_isAsSeen_14 (by decide) ?_
  refine r_istore_n (pc := 15) X [(3, .int (nI 0)), (0, .ref (ad 0)), (1, .int a1), (2, .int a2)] dX6_isAsSeen_15 rfl (by decide) rfl ?_
  refine r_sub [1, 2, 3, 0] rfl ?_
  obtain ⟨n1, h⟩ := h
  exact k_X6_isAsSeen_16 X hA hr hT  n1 _ _ _ _ h
theorem dX6_stood_0 : decode cX6_stood 0 = .ok (.iload_n 1, 1) := by decide +kernel
theorem dX6_stood_1 : decode cX6_stood 1 = .ok (.iconst 1, 1) := by decide +kernel
theorem dX6_stood_2 : decode cX6_stood 2 = .ok (.if_icmp .lt 9, 3) := by decide +kernel
theorem dX6_stood_5 : decode cX6_stood 5 = .ok (.iload_n 1, 1) := by decide +kernel
theorem dX6_stood_6 : decode cX6_stood 6 = .ok (.bipush 20, 2) := by decide +kernel
theorem dX6_stood_8 : decode cX6_stood 8 = .ok (.if_icmp .le 5, 3) := by decide +kernel
theorem dX6_stood_11 : decode cX6_stood 11 = .ok (.iconst (-1), 1) := by decide +kernel
theorem dX6_stood_12 : decode cX6_stood 12 = .ok (.ireturn, 1) := by decide +kernel
theorem dX6_stood_13 : decode cX6_stood 13 = .ok (.aload_n 0, 1) := by decide +kernel
theorem dX6_stood_14 : decode cX6_stood 14 = .ok (.getfield 31, 3) := by decide +kernel
theorem dX6_stood_17 : decode cX6_stood 17 = .ok (.invokevirtual 123, 3) := by decide +kernel
theorem dX6_stood_20 : decode cX6_stood 20 = .ok (.invokevirtual 171, 3) := by decide +kernel
theorem dX6_stood_23 : decode cX6_stood 23 = .ok (.ifCond .ne 6, 3) := by decide +kernel
theorem dX6_stood_26 : decode cX6_stood 26 = .ok (.bipush (-2), 2) := by decide +kernel
theorem dX6_stood_28 : decode cX6_stood 28 = .ok (.ireturn, 1) := by decide +kernel
theorem dX6_stood_29 : decode cX6_stood 29 = .ok (.iconst 0, 1) := by decide +kernel
theorem dX6_stood_30 : decode cX6_stood 30 = .ok (.istore_n 2, 1) := by decide +kernel
theorem dX6_stood_31 : decode cX6_stood 31 = .ok (.iconst 0, 1) := by decide +kernel
theorem dX6_stood_32 : decode cX6_stood 32 = .ok (.istore_n 3, 1) := by decide +kernel
theorem dX6_stood_33 : decode cX6_stood 33 = .ok (.iload_n 3, 1) := by decide +kernel
theorem dX6_stood_34 : decode cX6_stood 34 = .ok (.aload_n 0, 1) := by decide +kernel
theorem dX6_stood_35 : decode cX6_stood 35 = .ok (.getfield 19, 3) := by decide +kernel
theorem dX6_stood_38 : decode cX6_stood 38 = .ok (.invokevirtual 177, 3) := by decide +kernel
theorem dX6_stood_41 : decode cX6_stood 41 = .ok (.if_icmp .ge 24, 3) := by decide +kernel
theorem dX6_stood_44 : decode cX6_stood 44 = .ok (.aload_n 0, 1) := by decide +kernel
theorem dX6_stood_45 : decode cX6_stood 45 = .ok (.iload_n 3, 1) := by decide +kernel
theorem dX6_stood_46 : decode cX6_stood 46 = .ok (.iload_n 1, 1) := by decide +kernel
theorem dX6_stood_47 : decode cX6_stood 47 = .ok (.invokevirtual 238, 3) := by decide +kernel
theorem dX6_stood_50 : decode cX6_stood 50 = .ok (.ifCond .eq 9, 3) := by decide +kernel
theorem dX6_stood_53 : decode cX6_stood 53 = .ok (.iload_n 2, 1) := by decide +kernel
theorem dX6_stood_54 : decode cX6_stood 54 = .ok (.iconst 1, 1) := by decide +kernel
theorem dX6_stood_55 : decode cX6_stood 55 = .ok (.iload_n 3, 1) := by decide +kernel
theorem dX6_stood_56 : decode cX6_stood 56 = .ok (.ishl, 1) := by decide +kernel
theorem dX6_stood_57 : decode cX6_stood 57 = .ok (.ior, 1) := by decide +kernel
theorem dX6_stood_58 : decode cX6_stood 58 = .ok (.istore_n 2, 1) := by decide +kernel
theorem dX6_stood_59 : decode cX6_stood 59 = .ok (.iinc 3 1, 3) := by decide +kernel
theorem dX6_stood_62 : decode cX6_stood 62 = .ok (.goto (-29), 3) := by decide +kernel
theorem dX6_stood_65 : decode cX6_stood 65 = .ok (.iload_n 2, 1) := by decide +kernel
theorem dX6_stood_66 : decode cX6_stood 66 = .ok (.ireturn, 1) := by decide +kernel
theorem hd_X6_stood : yX6_stood.cls = RX6 ∧ yX6_stood.cls ≠ "java/lang/invoke/MethodHandle" ∧ yX6_stood.cls ≠ "java/lang/invoke/VarHandle" ∧ (parseMethodDescriptor yX6_stood.desc).map (fun d => d.parameters.length) = some 1 := by decide +kernel
abbrev rm_X6_stood : Room := { frames := 5, cells := 0, slots := 0, locals := 113 }
def wp_X6_stood_59 (K : Int32 → HF → Prop) (L33 : HF → Int32 → Int32 → Int32 → Prop) (F : HF) (v1 : Int32) (v2 : Int32) (v3 : Int32) : Prop := L33 F v1 v2 (v3 + (nI 1))
set_option maxRecDepth 100000 in
set_option maxHeartbeats 4000000 in
theorem k_X6_stood_59 {p : Program} {l : Launch} {e : Env} {s : State} {m : MethodId} {args : Array Value} {below : List Frame} {meth : Method} {c : Code} {D : va_G} {dA : Nat → ClassId} {ad : Nat → Nat} {R : List Nat} {A : Nat → Prop} {K : Int32 → HF → Prop} {L33 : HF → Int32 → Int32 → Int32 → Prop} (X : Cx p s m args meth c cX6_stood 4 RX6 D dA) (hA : ∀ q, s.heap.size ≤ q → A q) (hr : meth.sig.returnType = some .int) (hT : BBr R) (hL33 : ∀ (F : HF) (v1 : Int32) (v2 : Int32) (v3 : Int32), L33 F v1 v2 v3 → J p l e rm_X6_stood s m args below meth c 4 D dA ad R A (QI D dA ad R A below args s K) F 33 [(0, .ref (ad 0)), (1, .int v1), (2, .int v2), (3, .int v3)] []) : ∀ (F : HF) (v1 : Int32) (v2 : Int32) (v3 : Int32), wp_X6_stood_59 K L33  F v1 v2 v3 → J p l e rm_X6_stood s m args below meth c 4 D dA ad R A (QI D dA ad R A below args s K) F 59 [(0, .ref (ad 0)), (1, .int v1), (2, .int v2), (3, .int v3)] [] := by
  intro F v1 v2 v3 h
  unfold wp_X6_stood_59 at h
  refine r_iinc (pc := 59) (v := (v3 + (nI 1))) X 3 [(3, .int (v3 + (nI 1))), (0, .ref (ad 0)), (1, .int v1), (2, .int v2)] dX6_stood_59 rfl rfl (by decide) rfl ?_
  refine r_goto (pc := 62) (tgt := 33) X dX6_stood_62 (by decide) ?_
  refine r_sub [1, 2, 3, 0] rfl ?_
  exact hL33 _ _ _ _ h
def wp_X6_stood_33 (K : Int32 → HF → Prop) : Nat → HF → Int32 → Int32 → Int32 → Prop
  | 0 => fun _ _ _ _ => False
  | n33_ + 1 => fun F v1 v2 v3 => wp_X1_width (fun x2 F102 => ((x2 ≤ v3) → (K v2 F102)) ∧ ((¬ x2 ≤ v3) → (wp_X6_isAsSeen (fun x3 F103 => ((x3 = (nI 0)) → (wp_X6_stood_59 K (wp_X6_stood_33 K n33_)  F103 v1 v2 v3)) ∧ ((¬ x3 = (nI 0)) → (wp_X6_stood_59 K (wp_X6_stood_33 K n33_)  F103 v1 (v2 ||| ((nI 1) <<< (v3 &&& 31))) v3))) F102 v3 v1))) F 4
set_option maxRecDepth 100000 in
set_option maxHeartbeats 4000000 in
theorem k_X6_stood_33 {p : Program} {l : Launch} {e : Env} {s : State} {m : MethodId} {args : Array Value} {below : List Frame} {meth : Method} {c : Code} {D : va_G} {dA : Nat → ClassId} {ad : Nat → Nat} {R : List Nat} {A : Nat → Prop} {K : Int32 → HF → Prop} (X : Cx p s m args meth c cX6_stood 4 RX6 D dA) (hA : ∀ q, s.heap.size ≤ q → A q) (hr : meth.sig.returnType = some .int) (hT : BBr R) : ∀ (n_ : Nat) (F : HF) (v1 : Int32) (v2 : Int32) (v3 : Int32), wp_X6_stood_33 K  n_ F v1 v2 v3 → J p l e rm_X6_stood s m args below meth c 4 D dA ad R A (QI D dA ad R A below args s K) F 33 [(0, .ref (ad 0)), (1, .int v1), (2, .int v2), (3, .int v3)] [] := by
  intro n_
  induction n_ with
  | zero => intro F v1 v2 v3 h; exact h.elim
  | succ n_ ih =>
    intro F v1 v2 v3 h
    unfold wp_X6_stood_33 at h
    refine r_iload_n (pc := 33) X 3 dX6_stood_33 rfl rfl ?_
    refine r_aload_n (pc := 34) X 0 dX6_stood_34 rfl rfl ?_
    refine fg_X6_19 (pc := 35) X hT.1 dX6_stood_35 ?_
    refine r_callIV (pc := 38) (As := []) (st := [.int v3]) X hA (c_X1_width hT.2.2.1 h) g_X6_177 cl_X1 hT.2.2.1.1 hd_X1_width rfl rfl rfl ⟨Nat.le_of_ble_eq_true rfl, Nat.le_of_ble_eq_true rfl⟩ rfl (Nat.le_of_ble_eq_true rfl) dX6_stood_38 (fun x2 F102 h => ?_)
    refine r_icmp_ge (pc := 41) (tgt := 65) X dX6_stood_41 (by decide) (fun hc => ?_) (fun hc => ?_)
    · replace h := h.1 hc
      refine r_iload_n (pc := 65) X 2 dX6_stood_65 rfl rfl ?_
      exact r_iret (pc := 66) X hr dX6_stood_66 h
    · replace h := h.2 hc
      refine r_aload_n (pc := 44) X 0 dX6_stood_44 rfl rfl ?_
      refine r_iload_n (pc := 45) X 3 dX6_stood_45 rfl rfl ?_
      refine r_iload_n (pc := 46) X 1 dX6_stood_46 rfl rfl ?_
      refine r_callIV (pc := 47) (As := [.int v3, .int v1]) (st := []) X hA (c_X6_isAsSeen hT h) g_X6_238 cl_X6 hT.1 hd_X6_isAsSeen rfl rfl rfl ⟨Nat.le_of_ble_eq_true rfl, Nat.le_of_ble_eq_true rfl⟩ rfl (Nat.le_of_ble_eq_true rfl) dX6_stood_47 (fun x3 F103 h => ?_)
      refine r_if_eq (pc := 50) (tgt := 59) X dX6_stood_50 (by decide) (fun hc => ?_) (fun hc => ?_)
      · replace h := h.1 hc
        exact k_X6_stood_59 X hA hr hT ih _ _ _ _ h
      · replace h := h.2 hc
        refine r_iload_n (pc := 53) X 2 dX6_stood_53 rfl rfl ?_
        refine r_iconst (pc := 54) (v := (nI 1)) X dX6_stood_54 (by decide) ?_
        refine r_iload_n (pc := 55) X 3 dX6_stood_55 rfl rfl ?_
        refine r_ishl (pc := 56) X dX6_stood_56 ?_
        refine r_ior (pc := 57) X dX6_stood_57 ?_
        refine r_istore_n (pc := 58) X [(2, .int (v2 ||| ((nI 1) <<< (v3 &&& 31)))), (0, .ref (ad 0)), (1, .int v1), (3, .int v3)] dX6_stood_58 rfl (by decide) rfl ?_
        refine r_sub [1, 2, 0, 3] rfl ?_
        exact k_X6_stood_59 X hA hr hT ih _ _ _ _ h
def wp_X6_stood (K : Int32 → HF → Prop) (F : HF) (a1 : Int32) : Prop := ((a1 < (nI 1)) → (K (-1 : Int32) F)) ∧ ((¬ a1 < (nI 1)) → (((a1 ≤ (nI 20)) → (wp_X0_isWhole (fun x1 F1 => ((¬ x1 = (nI 0)) → (∃ m_, wp_X6_stood_33 K  m_ F1 a1 (nI 0) (nI 0))) ∧ ((x1 = (nI 0)) → (K (-2 : Int32) F1))) F 17)) ∧ ((¬ a1 ≤ (nI 20)) → (K (-1 : Int32) F))))
set_option maxRecDepth 100000 in
set_option maxHeartbeats 4000000 in
theorem c_X6_stood {l : Launch} {D : va_G} {dA : Nat → ClassId} {ad : Nat → Nat} {R : List Nat} {F : HF} {a1 : Int32} {K : Int32 → HF → Prop} (hT : BBr R) (h : wp_X6_stood K F a1) : MI l yX6_stood cX6_stood 4 .int rm_X6_stood D dA ad R F [.ref (ad 0), .int a1] K := by
  refine MI.of (own := RX6) (by decide) rfl (Nat.le_of_ble_eq_true rfl) ?_
  intro p e s m args below meth c A hA X hr
  unfold wp_X6_stood at h
  show J p l e rm_X6_stood s m args below meth c 4 D dA ad R A (QI D dA ad R A below args s K) F 0 [(0, .ref (ad 0)), (1, .int a1)] []
  refine r_iload_n (pc := 0) X 1 dX6_stood_0 rfl rfl ?_
  refine r_iconst (pc := 1) (v := (nI 1)) X dX6_stood_1 (by decide) ?_
  refine r_icmp_lt (pc := 2) (tgt := 11) X dX6_stood_2 (by decide) (fun hc => ?_) (fun hc => ?_)
  · replace h := h.1 hc
    refine r_iconst (pc := 11) (v := (-1 : Int32)) X dX6_stood_11 (by decide) ?_
    exact r_iret (pc := 12) X hr dX6_stood_12 h
  · replace h := h.2 hc
    refine r_iload_n (pc := 5) X 1 dX6_stood_5 rfl rfl ?_
    refine r_bipush (pc := 6) (v := (nI 20)) X dX6_stood_6 (by decide) ?_
    refine r_icmp_le (pc := 8) (tgt := 13) X dX6_stood_8 (by decide) (fun hc => ?_) (fun hc => ?_)
    · replace h := h.1 hc
      refine r_aload_n (pc := 13) X 0 dX6_stood_13 rfl rfl ?_
      refine fg_X6_31 (pc := 14) X hT.1 dX6_stood_14 ?_
      refine r_bridge_X6 (pc := 17) (t1 := 17) X hA rfl hT.2.2.2.2.1 (Nat.le_of_ble_eq_true rfl) (Nat.le_of_ble_eq_true rfl) (Nat.le_of_ble_eq_true rfl) dX6_stood_17 ?_
      refine r_callIV (pc := 20) (As := []) (st := []) X hA (c_X0_isWhole hT.2.2.2.2.1.2 h) g_X6_171 cl_X0 hT.2.2.2.2.1.2.1 hd_X0_isWhole rfl rfl rfl ⟨Nat.le_of_ble_eq_true rfl, Nat.le_of_ble_eq_true rfl⟩ rfl (Nat.le_of_ble_eq_true rfl) dX6_stood_20 (fun x1 F1 h => ?_)
      refine r_if_ne (pc := 23) (tgt := 29) X dX6_stood_23 (by decide) (fun hc => ?_) (fun hc => ?_)
      · replace h := h.1 hc
        refine r_iconst (pc := 29) (v := (nI 0)) X dX6_stood_29 (by decide) ?_
        refine r_istore_n (pc := 30) X [(2, .int (nI 0)), (0, .ref (ad 0)), (1, .int a1)] dX6_stood_30 rfl (by decide) rfl ?_
        refine r_iconst (pc := 31) (v := (nI 0)) X dX6_stood_31 (by decide) ?_
        refine r_istore_n (pc := 32) X [(3, .int (nI 0)), (2, .int (nI 0)), (0, .ref (ad 0)), (1, .int a1)] dX6_stood_32 rfl (by decide) rfl ?_
        refine r_sub [2, 3, 1, 0] rfl ?_
        obtain ⟨n1, h⟩ := h
        exact k_X6_stood_33 X hA hr hT  n1 _ _ _ _ h
      · replace h := h.2 hc
        refine r_bipush (pc := 26) (v := (-2 : Int32)) X dX6_stood_26 (by decide) ?_
        exact r_iret (pc := 28) X hr dX6_stood_28 h
    · replace h := h.2 hc
      refine r_iconst (pc := 11) (v := (-1 : Int32)) X dX6_stood_11 (by decide) ?_
      exact r_iret (pc := 12) X hr dX6_stood_12 h
theorem dX6_rain_0 : decode cX6_rain 0 = .ok (.iload_n 1, 1) := by decide +kernel
theorem dX6_rain_1 : decode cX6_rain 1 = .ok (.ifCond .lt 9, 3) := by decide +kernel
theorem dX6_rain_4 : decode cX6_rain 4 = .ok (.iload_n 1, 1) := by decide +kernel
theorem dX6_rain_5 : decode cX6_rain 5 = .ok (.bipush 10, 2) := by decide +kernel
theorem dX6_rain_7 : decode cX6_rain 7 = .ok (.if_icmp .le 5, 3) := by decide +kernel
theorem dX6_rain_10 : decode cX6_rain 10 = .ok (.iconst (-1), 1) := by decide +kernel
theorem dX6_rain_11 : decode cX6_rain 11 = .ok (.ireturn, 1) := by decide +kernel
theorem dX6_rain_12 : decode cX6_rain 12 = .ok (.ldc2_w 241, 3) := by decide +kernel
theorem dX6_rain_15 : decode cX6_rain 15 = .ok (.lstore_n 2, 1) := by decide +kernel
theorem dX6_rain_16 : decode cX6_rain 16 = .ok (.lconst 1, 1) := by decide +kernel
theorem dX6_rain_17 : decode cX6_rain 17 = .ok (.lstore 4, 2) := by decide +kernel
theorem dX6_rain_19 : decode cX6_rain 19 = .ok (.iconst 0, 1) := by decide +kernel
theorem dX6_rain_20 : decode cX6_rain 20 = .ok (.istore 6, 2) := by decide +kernel
theorem dX6_rain_22 : decode cX6_rain 22 = .ok (.iload 6, 2) := by decide +kernel
theorem dX6_rain_24 : decode cX6_rain 24 = .ok (.aload_n 0, 1) := by decide +kernel
theorem dX6_rain_25 : decode cX6_rain 25 = .ok (.getfield 19, 3) := by decide +kernel
theorem dX6_rain_28 : decode cX6_rain 28 = .ok (.invokevirtual 177, 3) := by decide +kernel
theorem dX6_rain_31 : decode cX6_rain 31 = .ok (.if_icmp .ge 25, 3) := by decide +kernel
theorem dX6_rain_34 : decode cX6_rain 34 = .ok (.lload_n 2, 1) := by decide +kernel
theorem dX6_rain_35 : decode cX6_rain 35 = .ok (.bipush 10, 2) := by decide +kernel
theorem dX6_rain_37 : decode cX6_rain 37 = .ok (.iload_n 1, 1) := by decide +kernel
theorem dX6_rain_38 : decode cX6_rain 38 = .ok (.isub, 1) := by decide +kernel
theorem dX6_rain_39 : decode cX6_rain 39 = .ok (.i2l, 1) := by decide +kernel
theorem dX6_rain_40 : decode cX6_rain 40 = .ok (.lmul, 1) := by decide +kernel
theorem dX6_rain_41 : decode cX6_rain 41 = .ok (.lstore_n 2, 1) := by decide +kernel
theorem dX6_rain_42 : decode cX6_rain 42 = .ok (.lload 4, 2) := by decide +kernel
theorem dX6_rain_44 : decode cX6_rain 44 = .ok (.ldc2_w 243, 3) := by decide +kernel
theorem dX6_rain_47 : decode cX6_rain 47 = .ok (.lmul, 1) := by decide +kernel
theorem dX6_rain_48 : decode cX6_rain 48 = .ok (.lstore 4, 2) := by decide +kernel
theorem dX6_rain_50 : decode cX6_rain 50 = .ok (.iinc 6 1, 3) := by decide +kernel
theorem dX6_rain_53 : decode cX6_rain 53 = .ok (.goto (-31), 3) := by decide +kernel
theorem dX6_rain_56 : decode cX6_rain 56 = .ok (.lload_n 2, 1) := by decide +kernel
theorem dX6_rain_57 : decode cX6_rain 57 = .ok (.lload 4, 2) := by decide +kernel
theorem dX6_rain_59 : decode cX6_rain 59 = .ok (.ldiv, 1) := by decide +kernel
theorem dX6_rain_60 : decode cX6_rain 60 = .ok (.l2i, 1) := by decide +kernel
theorem dX6_rain_61 : decode cX6_rain 61 = .ok (.ireturn, 1) := by decide +kernel
theorem hd_X6_rain : yX6_rain.cls = RX6 ∧ yX6_rain.cls ≠ "java/lang/invoke/MethodHandle" ∧ yX6_rain.cls ≠ "java/lang/invoke/VarHandle" ∧ (parseMethodDescriptor yX6_rain.desc).map (fun d => d.parameters.length) = some 1 := by decide +kernel
abbrev rm_X6_rain : Room := { frames := 1, cells := 0, slots := 0, locals := 20 }
def wp_X6_rain_22 (K : Int32 → HF → Prop) : Nat → HF → Int32 → Int64 → Int64 → Int32 → Prop
  | 0 => fun _ _ _ _ _ => False
  | n22_ + 1 => fun F v1 v2 v4 v6 => wp_X1_width (fun x1 F101 => ((x1 ≤ v6) → ((¬ v4 = (lN 0)) ∧ (K ((v2 / v4)).toInt32 F101))) ∧ ((¬ x1 ≤ v6) → (wp_X6_rain_22 K  n22_ F101 v1 (v2 * (((nI 10) - v1)).toInt64) (v4 * (lN 10)) (v6 + (nI 1))))) F 4
set_option maxRecDepth 100000 in
set_option maxHeartbeats 4000000 in
theorem k_X6_rain_22 {p : Program} {l : Launch} {e : Env} {s : State} {m : MethodId} {args : Array Value} {below : List Frame} {meth : Method} {c : Code} {D : va_G} {dA : Nat → ClassId} {ad : Nat → Nat} {R : List Nat} {A : Nat → Prop} {K : Int32 → HF → Prop} (X : Cx p s m args meth c cX6_rain 7 RX6 D dA) (hA : ∀ q, s.heap.size ≤ q → A q) (hr : meth.sig.returnType = some .int) (hT : BBr R) : ∀ (n_ : Nat) (F : HF) (v1 : Int32) (v2 : Int64) (v4 : Int64) (v6 : Int32), wp_X6_rain_22 K  n_ F v1 v2 v4 v6 → J p l e rm_X6_rain s m args below meth c 7 D dA ad R A (QI D dA ad R A below args s K) F 22 [(0, .ref (ad 0)), (1, .int v1), (2, .long v2), (4, .long v4), (6, .int v6)] [] := by
  intro n_
  induction n_ with
  | zero => intro F v1 v2 v4 v6 h; exact h.elim
  | succ n_ ih =>
    intro F v1 v2 v4 v6 h
    unfold wp_X6_rain_22 at h
    refine r_iload (pc := 22) X 4 dX6_rain_22 rfl ?_
    refine r_aload_n (pc := 24) X 0 dX6_rain_24 rfl rfl ?_
    refine fg_X6_19 (pc := 25) X hT.1 dX6_rain_25 ?_
    refine r_callIV (pc := 28) (As := []) (st := [.int v6]) X hA (c_X1_width hT.2.2.1 h) g_X6_177 cl_X1 hT.2.2.1.1 hd_X1_width rfl rfl rfl ⟨Nat.le_of_ble_eq_true rfl, Nat.le_of_ble_eq_true rfl⟩ rfl (Nat.le_of_ble_eq_true rfl) dX6_rain_28 (fun x1 F101 h => ?_)
    refine r_icmp_ge (pc := 31) (tgt := 56) X dX6_rain_31 (by decide) (fun hc => ?_) (fun hc => ?_)
    · replace h := h.1 hc
      refine r_lload_n (pc := 56) X 2 dX6_rain_56 rfl rfl ?_
      refine r_lload (pc := 57) X 3 dX6_rain_57 rfl ?_
      refine r_ldiv (pc := 59) X dX6_rain_59 h.1 ?_
      replace h := h.2
      refine r_l2i (pc := 60) X dX6_rain_60 rfl ?_
      exact r_iret (pc := 61) X hr dX6_rain_61 h
    · replace h := h.2 hc
      refine r_lload_n (pc := 34) X 2 dX6_rain_34 rfl rfl ?_
      refine r_bipush (pc := 35) (v := (nI 10)) X dX6_rain_35 (by decide) ?_
      refine r_iload_n (pc := 37) X 1 dX6_rain_37 rfl rfl ?_
      refine r_isub (pc := 38) X dX6_rain_38 ?_
      refine r_i2l (pc := 39) X dX6_rain_39 rfl ?_
      refine r_lmul (pc := 40) X dX6_rain_40 ?_
      refine r_lstore_n (pc := 41) X [(2, .long (v2 * (((nI 10) - v1)).toInt64)), (0, .ref (ad 0)), (1, .int v1), (4, .long v4), (6, .int v6)] dX6_rain_41 rfl (by decide) rfl ?_
      refine r_lload (pc := 42) X 3 dX6_rain_42 rfl ?_
      refine r_ldc2 (pc := 44) (v := (lN 10)) X w_805 dX6_rain_44 ?_
      refine r_lmul (pc := 47) X dX6_rain_47 ?_
      refine r_lstore (pc := 48) X [(4, .long (v4 * (lN 10))), (2, .long (v2 * (((nI 10) - v1)).toInt64)), (0, .ref (ad 0)), (1, .int v1), (6, .int v6)] dX6_rain_48 (by decide) rfl ?_
      refine r_iinc (pc := 50) (v := (v6 + (nI 1))) X 4 [(6, .int (v6 + (nI 1))), (4, .long (v4 * (lN 10))), (2, .long (v2 * (((nI 10) - v1)).toInt64)), (0, .ref (ad 0)), (1, .int v1)] dX6_rain_50 rfl rfl (by decide) rfl ?_
      refine r_goto (pc := 53) (tgt := 22) X dX6_rain_53 (by decide) ?_
      refine r_sub [3, 4, 2, 1, 0] rfl ?_
      exact ih _ _ _ _ _ h
def wp_X6_rain (K : Int32 → HF → Prop) (F : HF) (a1 : Int32) : Prop := ((a1 < (nI 0)) → (K (-1 : Int32) F)) ∧ ((¬ a1 < (nI 0)) → (((a1 ≤ (nI 10)) → (∃ m_, wp_X6_rain_22 K  m_ F a1 (lN 1000000) (lN 1) (nI 0))) ∧ ((¬ a1 ≤ (nI 10)) → (K (-1 : Int32) F))))
set_option maxRecDepth 100000 in
set_option maxHeartbeats 4000000 in
theorem c_X6_rain {l : Launch} {D : va_G} {dA : Nat → ClassId} {ad : Nat → Nat} {R : List Nat} {F : HF} {a1 : Int32} {K : Int32 → HF → Prop} (hT : BBr R) (h : wp_X6_rain K F a1) : MI l yX6_rain cX6_rain 7 .int rm_X6_rain D dA ad R F [.ref (ad 0), .int a1] K := by
  refine MI.of (own := RX6) (by decide) rfl (Nat.le_of_ble_eq_true rfl) ?_
  intro p e s m args below meth c A hA X hr
  unfold wp_X6_rain at h
  show J p l e rm_X6_rain s m args below meth c 7 D dA ad R A (QI D dA ad R A below args s K) F 0 [(0, .ref (ad 0)), (1, .int a1)] []
  refine r_iload_n (pc := 0) X 1 dX6_rain_0 rfl rfl ?_
  refine r_if_lt (pc := 1) (tgt := 10) X dX6_rain_1 (by decide) (fun hc => ?_) (fun hc => ?_)
  · replace h := h.1 hc
    refine r_iconst (pc := 10) (v := (-1 : Int32)) X dX6_rain_10 (by decide) ?_
    exact r_iret (pc := 11) X hr dX6_rain_11 h
  · replace h := h.2 hc
    refine r_iload_n (pc := 4) X 1 dX6_rain_4 rfl rfl ?_
    refine r_bipush (pc := 5) (v := (nI 10)) X dX6_rain_5 (by decide) ?_
    refine r_icmp_le (pc := 7) (tgt := 12) X dX6_rain_7 (by decide) (fun hc => ?_) (fun hc => ?_)
    · replace h := h.1 hc
      refine r_ldc2 (pc := 12) (v := (lN 1000000)) X w_804 dX6_rain_12 ?_
      refine r_lstore_n (pc := 15) X [(2, .long (lN 1000000)), (0, .ref (ad 0)), (1, .int a1)] dX6_rain_15 rfl (by decide) rfl ?_
      refine r_lconst (pc := 16) (v := (lN 1)) X dX6_rain_16 (by decide) ?_
      refine r_lstore (pc := 17) X [(4, .long (lN 1)), (2, .long (lN 1000000)), (0, .ref (ad 0)), (1, .int a1)] dX6_rain_17 (by decide) rfl ?_
      refine r_iconst (pc := 19) (v := (nI 0)) X dX6_rain_19 (by decide) ?_
      refine r_istore (pc := 20) X [(6, .int (nI 0)), (4, .long (lN 1)), (2, .long (lN 1000000)), (0, .ref (ad 0)), (1, .int a1)] dX6_rain_20 (by decide) rfl ?_
      refine r_sub [3, 4, 2, 1, 0] rfl ?_
      obtain ⟨n1, h⟩ := h
      exact k_X6_rain_22 X hA hr hT  n1 _ _ _ _ _ h
    · replace h := h.2 hc
      refine r_iconst (pc := 10) (v := (-1 : Int32)) X dX6_rain_10 (by decide) ?_
      exact r_iret (pc := 11) X hr dX6_rain_11 h
theorem dX6_drawnWind_0 : decode cX6_drawnWind 0 = .ok (.ldc2_w 283, 3) := by decide +kernel
theorem dX6_drawnWind_3 : decode cX6_drawnWind 3 = .ok (.iload_n 0, 1) := by decide +kernel
theorem dX6_drawnWind_4 : decode cX6_drawnWind 4 = .ok (.i2l, 1) := by decide +kernel
theorem dX6_drawnWind_5 : decode cX6_drawnWind 5 = .ok (.lmul, 1) := by decide +kernel
theorem dX6_drawnWind_6 : decode cX6_drawnWind 6 = .ok (.ldc2_w 285, 3) := by decide +kernel
theorem dX6_drawnWind_9 : decode cX6_drawnWind 9 = .ok (.iload_n 1, 1) := by decide +kernel
theorem dX6_drawnWind_10 : decode cX6_drawnWind 10 = .ok (.i2l, 1) := by decide +kernel
theorem dX6_drawnWind_11 : decode cX6_drawnWind 11 = .ok (.lmul, 1) := by decide +kernel
theorem dX6_drawnWind_12 : decode cX6_drawnWind 12 = .ok (.ladd, 1) := by decide +kernel
theorem dX6_drawnWind_13 : decode cX6_drawnWind 13 = .ok (.ldc2_w 287, 3) := by decide +kernel
theorem dX6_drawnWind_16 : decode cX6_drawnWind 16 = .ok (.iload_n 2, 1) := by decide +kernel
theorem dX6_drawnWind_17 : decode cX6_drawnWind 17 = .ok (.i2l, 1) := by decide +kernel
theorem dX6_drawnWind_18 : decode cX6_drawnWind 18 = .ok (.lmul, 1) := by decide +kernel
theorem dX6_drawnWind_19 : decode cX6_drawnWind 19 = .ok (.ladd, 1) := by decide +kernel
theorem dX6_drawnWind_20 : decode cX6_drawnWind 20 = .ok (.lconst 1, 1) := by decide +kernel
theorem dX6_drawnWind_21 : decode cX6_drawnWind 21 = .ok (.ladd, 1) := by decide +kernel
theorem dX6_drawnWind_22 : decode cX6_drawnWind 22 = .ok (.lstore_n 3, 1) := by decide +kernel
theorem dX6_drawnWind_23 : decode cX6_drawnWind 23 = .ok (.lload_n 3, 1) := by decide +kernel
theorem dX6_drawnWind_24 : decode cX6_drawnWind 24 = .ok (.lload_n 3, 1) := by decide +kernel
theorem dX6_drawnWind_25 : decode cX6_drawnWind 25 = .ok (.lmul, 1) := by decide +kernel
theorem dX6_drawnWind_26 : decode cX6_drawnWind 26 = .ok (.ldc2_w 289, 3) := by decide +kernel
theorem dX6_drawnWind_29 : decode cX6_drawnWind 29 = .ok (.lrem, 1) := by decide +kernel
theorem dX6_drawnWind_30 : decode cX6_drawnWind 30 = .ok (.ldc2_w 291, 3) := by decide +kernel
theorem dX6_drawnWind_33 : decode cX6_drawnWind 33 = .ok (.ldiv, 1) := by decide +kernel
theorem dX6_drawnWind_34 : decode cX6_drawnWind 34 = .ok (.lstore 5, 2) := by decide +kernel
theorem dX6_drawnWind_36 : decode cX6_drawnWind 36 = .ok (.lload 5, 2) := by decide +kernel
theorem dX6_drawnWind_38 : decode cX6_drawnWind 38 = .ok (.ldc2_w 293, 3) := by decide +kernel
theorem dX6_drawnWind_41 : decode cX6_drawnWind 41 = .ok (.lrem, 1) := by decide +kernel
theorem dX6_drawnWind_42 : decode cX6_drawnWind 42 = .ok (.l2i, 1) := by decide +kernel
theorem dX6_drawnWind_43 : decode cX6_drawnWind 43 = .ok (.ireturn, 1) := by decide +kernel
theorem hd_X6_drawnWind : yX6_drawnWind.cls = RX6 ∧ yX6_drawnWind.cls ≠ "java/lang/invoke/MethodHandle" ∧ yX6_drawnWind.cls ≠ "java/lang/invoke/VarHandle" ∧ (parseMethodDescriptor yX6_drawnWind.desc).map (fun d => d.parameters.length) = some 3 := by decide +kernel
abbrev rm_X6_drawnWind : Room := { frames := 0, cells := 0, slots := 0, locals := 0 }
def wp_X6_drawnWind (K : Int32 → HF → Prop) (F : HF) (a1 : Int32) (a2 : Int32) (a3 : Int32) : Prop := K ((((((((((lN 7919) * (a1).toInt64) + ((lN 6151) * (a2).toInt64)) + ((lN 331) * (a3).toInt64)) + (lN 1)) * (((((lN 7919) * (a1).toInt64) + ((lN 6151) * (a2).toInt64)) + ((lN 331) * (a3).toInt64)) + (lN 1))) - ((((((lN 7919) * (a1).toInt64) + ((lN 6151) * (a2).toInt64)) + ((lN 331) * (a3).toInt64)) + (lN 1)) * (((((lN 7919) * (a1).toInt64) + ((lN 6151) * (a2).toInt64)) + ((lN 331) * (a3).toInt64)) + (lN 1))) / (lN 65521) * (lN 65521)) / (lN 8)) - ((((((((lN 7919) * (a1).toInt64) + ((lN 6151) * (a2).toInt64)) + ((lN 331) * (a3).toInt64)) + (lN 1)) * (((((lN 7919) * (a1).toInt64) + ((lN 6151) * (a2).toInt64)) + ((lN 331) * (a3).toInt64)) + (lN 1))) - ((((((lN 7919) * (a1).toInt64) + ((lN 6151) * (a2).toInt64)) + ((lN 331) * (a3).toInt64)) + (lN 1)) * (((((lN 7919) * (a1).toInt64) + ((lN 6151) * (a2).toInt64)) + ((lN 331) * (a3).toInt64)) + (lN 1))) / (lN 65521) * (lN 65521)) / (lN 8)) / (lN 21) * (lN 21))).toInt32 F
set_option maxRecDepth 100000 in
set_option maxHeartbeats 4000000 in
theorem c_X6_drawnWind {l : Launch} {D : va_G} {dA : Nat → ClassId} {ad : Nat → Nat} {R : List Nat} {F : HF} {a1 : Int32} {a2 : Int32} {a3 : Int32} {K : Int32 → HF → Prop} (h : wp_X6_drawnWind K F a1 a2 a3) : MI l yX6_drawnWind cX6_drawnWind 7 .int rm_X6_drawnWind D dA ad R F [.int a1, .int a2, .int a3] K := by
  refine MI.of (own := RX6) (by decide) rfl (Nat.le_of_ble_eq_true rfl) ?_
  intro p e s m args below meth c A hA X hr
  unfold wp_X6_drawnWind at h
  show J p l e rm_X6_drawnWind s m args below meth c 7 D dA ad R A (QI D dA ad R A below args s K) F 0 [(0, .int a1), (1, .int a2), (2, .int a3)] []
  refine r_ldc2 (pc := 0) (v := (lN 7919)) X w_817 dX6_drawnWind_0 ?_
  refine r_iload_n (pc := 3) X 0 dX6_drawnWind_3 rfl rfl ?_
  refine r_i2l (pc := 4) X dX6_drawnWind_4 rfl ?_
  refine r_lmul (pc := 5) X dX6_drawnWind_5 ?_
  refine r_ldc2 (pc := 6) (v := (lN 6151)) X w_818 dX6_drawnWind_6 ?_
  refine r_iload_n (pc := 9) X 1 dX6_drawnWind_9 rfl rfl ?_
  refine r_i2l (pc := 10) X dX6_drawnWind_10 rfl ?_
  refine r_lmul (pc := 11) X dX6_drawnWind_11 ?_
  refine r_ladd (pc := 12) X dX6_drawnWind_12 ?_
  refine r_ldc2 (pc := 13) (v := (lN 331)) X w_819 dX6_drawnWind_13 ?_
  refine r_iload_n (pc := 16) X 2 dX6_drawnWind_16 rfl rfl ?_
  refine r_i2l (pc := 17) X dX6_drawnWind_17 rfl ?_
  refine r_lmul (pc := 18) X dX6_drawnWind_18 ?_
  refine r_ladd (pc := 19) X dX6_drawnWind_19 ?_
  refine r_lconst (pc := 20) (v := (lN 1)) X dX6_drawnWind_20 (by decide) ?_
  refine r_ladd (pc := 21) X dX6_drawnWind_21 ?_
  refine r_lstore_n (pc := 22) X [(3, .long (((((lN 7919) * (a1).toInt64) + ((lN 6151) * (a2).toInt64)) + ((lN 331) * (a3).toInt64)) + (lN 1))), (0, .int a1), (1, .int a2), (2, .int a3)] dX6_drawnWind_22 rfl (by decide) rfl ?_
  refine r_lload_n (pc := 23) X 0 dX6_drawnWind_23 rfl rfl ?_
  refine r_lload_n (pc := 24) X 0 dX6_drawnWind_24 rfl rfl ?_
  refine r_lmul (pc := 25) X dX6_drawnWind_25 ?_
  refine r_ldc2 (pc := 26) (v := (lN 65521)) X w_820 dX6_drawnWind_26 ?_
  refine r_lrem (pc := 29) X dX6_drawnWind_29 (by decide) ?_
  refine r_ldc2 (pc := 30) (v := (lN 8)) X w_821 dX6_drawnWind_30 ?_
  refine r_ldiv (pc := 33) X dX6_drawnWind_33 (by decide) ?_
  refine r_lstore (pc := 34) X [(5, .long ((((((((lN 7919) * (a1).toInt64) + ((lN 6151) * (a2).toInt64)) + ((lN 331) * (a3).toInt64)) + (lN 1)) * (((((lN 7919) * (a1).toInt64) + ((lN 6151) * (a2).toInt64)) + ((lN 331) * (a3).toInt64)) + (lN 1))) - ((((((lN 7919) * (a1).toInt64) + ((lN 6151) * (a2).toInt64)) + ((lN 331) * (a3).toInt64)) + (lN 1)) * (((((lN 7919) * (a1).toInt64) + ((lN 6151) * (a2).toInt64)) + ((lN 331) * (a3).toInt64)) + (lN 1))) / (lN 65521) * (lN 65521)) / (lN 8))), (3, .long (((((lN 7919) * (a1).toInt64) + ((lN 6151) * (a2).toInt64)) + ((lN 331) * (a3).toInt64)) + (lN 1))), (0, .int a1), (1, .int a2), (2, .int a3)] dX6_drawnWind_34 (by decide) rfl ?_
  refine r_lload (pc := 36) X 0 dX6_drawnWind_36 rfl ?_
  refine r_ldc2 (pc := 38) (v := (lN 21)) X w_822 dX6_drawnWind_38 ?_
  refine r_lrem (pc := 41) X dX6_drawnWind_41 (by decide) ?_
  refine r_l2i (pc := 42) X dX6_drawnWind_42 rfl ?_
  exact r_iret (pc := 43) X hr dX6_drawnWind_43 h
theorem dX6_comesOverByDraws_0 : decode cX6_comesOverByDraws 0 = .ok (.aload_n 0, 1) := by decide +kernel
theorem dX6_comesOverByDraws_1 : decode cX6_comesOverByDraws 1 = .ok (.getfield 38, 3) := by decide +kernel
theorem dX6_comesOverByDraws_4 : decode cX6_comesOverByDraws 4 = .ok (.aload_n 0, 1) := by decide +kernel
theorem dX6_comesOverByDraws_5 : decode cX6_comesOverByDraws 5 = .ok (.getfield 31, 3) := by decide +kernel
theorem dX6_comesOverByDraws_8 : decode cX6_comesOverByDraws 8 = .ok (.invokevirtual 123, 3) := by decide +kernel
theorem dX6_comesOverByDraws_11 : decode cX6_comesOverByDraws 11 = .ok (.invokevirtual 232, 3) := by decide +kernel
theorem dX6_comesOverByDraws_14 : decode cX6_comesOverByDraws 14 = .ok (.aload_n 0, 1) := by decide +kernel
theorem dX6_comesOverByDraws_15 : decode cX6_comesOverByDraws 15 = .ok (.getfield 19, 3) := by decide +kernel
theorem dX6_comesOverByDraws_18 : decode cX6_comesOverByDraws 18 = .ok (.iload_n 2, 1) := by decide +kernel
theorem dX6_comesOverByDraws_19 : decode cX6_comesOverByDraws 19 = .ok (.invokevirtual 235, 3) := by decide +kernel
theorem dX6_comesOverByDraws_22 : decode cX6_comesOverByDraws 22 = .ok (.istore_n 3, 1) := by decide +kernel
theorem dX6_comesOverByDraws_23 : decode cX6_comesOverByDraws 23 = .ok (.iconst 0, 1) := by decide +kernel
theorem dX6_comesOverByDraws_24 : decode cX6_comesOverByDraws 24 = .ok (.istore 4, 2) := by decide +kernel
theorem dX6_comesOverByDraws_26 : decode cX6_comesOverByDraws 26 = .ok (.iload 4, 2) := by decide +kernel
theorem dX6_comesOverByDraws_28 : decode cX6_comesOverByDraws 28 = .ok (.aload_n 0, 1) := by decide +kernel
theorem dX6_comesOverByDraws_29 : decode cX6_comesOverByDraws 29 = .ok (.getfield 19, 3) := by decide +kernel
theorem dX6_comesOverByDraws_32 : decode cX6_comesOverByDraws 32 = .ok (.invokevirtual 177, 3) := by decide +kernel
theorem dX6_comesOverByDraws_35 : decode cX6_comesOverByDraws 35 = .ok (.if_icmp .ge 39, 3) := by decide +kernel
theorem dX6_comesOverByDraws_38 : decode cX6_comesOverByDraws 38 = .ok (.aload_n 0, 1) := by decide +kernel
theorem dX6_comesOverByDraws_39 : decode cX6_comesOverByDraws 39 = .ok (.getfield 38, 3) := by decide +kernel
theorem dX6_comesOverByDraws_42 : decode cX6_comesOverByDraws 42 = .ok (.iload 4, 2) := by decide +kernel
theorem dX6_comesOverByDraws_44 : decode cX6_comesOverByDraws 44 = .ok (.iload_n 3, 1) := by decide +kernel
theorem dX6_comesOverByDraws_45 : decode cX6_comesOverByDraws 45 = .ok (.iload_n 1, 1) := by decide +kernel
theorem dX6_comesOverByDraws_46 : decode cX6_comesOverByDraws 46 = .ok (.iload_n 2, 1) := by decide +kernel
theorem dX6_comesOverByDraws_47 : decode cX6_comesOverByDraws 47 = .ok (.iload 4, 2) := by decide +kernel
theorem dX6_comesOverByDraws_49 : decode cX6_comesOverByDraws 49 = .ok (.invokestatic 279, 3) := by decide +kernel
theorem dX6_comesOverByDraws_52 : decode cX6_comesOverByDraws 52 = .ok (.iadd, 1) := by decide +kernel
theorem dX6_comesOverByDraws_53 : decode cX6_comesOverByDraws 53 = .ok (.invokevirtual 273, 3) := by decide +kernel
theorem dX6_comesOverByDraws_56 : decode cX6_comesOverByDraws 56 = .ok (.aload_n 0, 1) := by decide +kernel
theorem dX6_comesOverByDraws_57 : decode cX6_comesOverByDraws 57 = .ok (.getfield 38, 3) := by decide +kernel
theorem dX6_comesOverByDraws_60 : decode cX6_comesOverByDraws 60 = .ok (.invokevirtual 270, 3) := by decide +kernel
theorem dX6_comesOverByDraws_63 : decode cX6_comesOverByDraws 63 = .ok (.ifCond .ne 5, 3) := by decide +kernel
theorem dX6_comesOverByDraws_66 : decode cX6_comesOverByDraws 66 = .ok (.iconst 0, 1) := by decide +kernel
theorem dX6_comesOverByDraws_67 : decode cX6_comesOverByDraws 67 = .ok (.ireturn, 1) := by decide +kernel
theorem dX6_comesOverByDraws_68 : decode cX6_comesOverByDraws 68 = .ok (.iinc 4 1, 3) := by decide +kernel
theorem dX6_comesOverByDraws_71 : decode cX6_comesOverByDraws 71 = .ok (.goto (-45), 3) := by decide +kernel
theorem dX6_comesOverByDraws_74 : decode cX6_comesOverByDraws 74 = .ok (.iconst 1, 1) := by decide +kernel
theorem dX6_comesOverByDraws_75 : decode cX6_comesOverByDraws 75 = .ok (.ireturn, 1) := by decide +kernel
theorem hd_X6_comesOverByDraws : yX6_comesOverByDraws.cls = RX6 ∧ yX6_comesOverByDraws.cls ≠ "java/lang/invoke/MethodHandle" ∧ yX6_comesOverByDraws.cls ≠ "java/lang/invoke/VarHandle" ∧ (parseMethodDescriptor yX6_comesOverByDraws.desc).map (fun d => d.parameters.length) = some 2 := by decide +kernel
abbrev rm_X6_comesOverByDraws : Room := { frames := 4, cells := 0, slots := 0, locals := 90 }
def wp_X6_comesOverByDraws_26 (K : Int32 → HF → Prop) : Nat → HF → Int32 → Int32 → Int32 → Int32 → Prop
  | 0 => fun _ _ _ _ _ => False
  | n26_ + 1 => fun F v1 v2 v3 v4 => wp_X1_width (fun x2 F103 => ((x2 ≤ v4) → (K (nI 1) F103)) ∧ ((¬ x2 ≤ v4) → (wp_X6_drawnWind (fun x3 F104 => wp_X0_loadAlone (fun F105 => wp_X0_settle (fun x4 F106 => ((¬ x4 = (nI 0)) → (wp_X6_comesOverByDraws_26 K  n26_ F106 v1 v2 v3 (v4 + (nI 1)))) ∧ ((x4 = (nI 0)) → (K (nI 0) F106))) F105 21) F104 21 v4 (v3 + x3)) F103 v1 v2 v4))) F 4
set_option maxRecDepth 100000 in
set_option maxHeartbeats 4000000 in
theorem k_X6_comesOverByDraws_26 {p : Program} {l : Launch} {e : Env} {s : State} {m : MethodId} {args : Array Value} {below : List Frame} {meth : Method} {c : Code} {D : va_G} {dA : Nat → ClassId} {ad : Nat → Nat} {R : List Nat} {A : Nat → Prop} {K : Int32 → HF → Prop} (X : Cx p s m args meth c cX6_comesOverByDraws 5 RX6 D dA) (hA : ∀ q, s.heap.size ≤ q → A q) (hr : meth.sig.returnType = some .boolean) (hT : BBr R) : ∀ (n_ : Nat) (F : HF) (v1 : Int32) (v2 : Int32) (v3 : Int32) (v4 : Int32), wp_X6_comesOverByDraws_26 K  n_ F v1 v2 v3 v4 → J p l e rm_X6_comesOverByDraws s m args below meth c 5 D dA ad R A (QI D dA ad R A below args s K) F 26 [(0, .ref (ad 0)), (1, .int v1), (2, .int v2), (3, .int v3), (4, .int v4)] [] := by
  intro n_
  induction n_ with
  | zero => intro F v1 v2 v3 v4 h; exact h.elim
  | succ n_ ih =>
    intro F v1 v2 v3 v4 h
    unfold wp_X6_comesOverByDraws_26 at h
    refine r_iload (pc := 26) X 4 dX6_comesOverByDraws_26 rfl ?_
    refine r_aload_n (pc := 28) X 0 dX6_comesOverByDraws_28 rfl rfl ?_
    refine fg_X6_19 (pc := 29) X hT.1 dX6_comesOverByDraws_29 ?_
    refine r_callIV (pc := 32) (As := []) (st := [.int v4]) X hA (c_X1_width hT.2.2.1 h) g_X6_177 cl_X1 hT.2.2.1.1 hd_X1_width rfl rfl rfl ⟨Nat.le_of_ble_eq_true rfl, Nat.le_of_ble_eq_true rfl⟩ rfl (Nat.le_of_ble_eq_true rfl) dX6_comesOverByDraws_32 (fun x2 F103 h => ?_)
    refine r_icmp_ge (pc := 35) (tgt := 74) X dX6_comesOverByDraws_35 (by decide) (fun hc => ?_) (fun hc => ?_)
    · replace h := h.1 hc
      refine r_iconst (pc := 74) (v := (nI 1)) X dX6_comesOverByDraws_74 (by decide) ?_
      exact r_zret (pc := 75) X hr dX6_comesOverByDraws_75 nb1 h
    · replace h := h.2 hc
      refine r_aload_n (pc := 38) X 0 dX6_comesOverByDraws_38 rfl rfl ?_
      refine fg_X6_38 (pc := 39) X hT.1 dX6_comesOverByDraws_39 ?_
      refine r_iload (pc := 42) X 4 dX6_comesOverByDraws_42 rfl ?_
      refine r_iload_n (pc := 44) X 3 dX6_comesOverByDraws_44 rfl rfl ?_
      refine r_iload_n (pc := 45) X 1 dX6_comesOverByDraws_45 rfl rfl ?_
      refine r_iload_n (pc := 46) X 2 dX6_comesOverByDraws_46 rfl rfl ?_
      refine r_iload (pc := 47) X 4 dX6_comesOverByDraws_47 rfl ?_
      refine r_callIS (pc := 49) (As := [.int v1, .int v2, .int v4]) (st := [.int v3, .int v4, .ref (ad 21)]) X hA (c_X6_drawnWind  h) g_X6_279 hd_X6_drawnWind rfl rfl rfl ⟨Nat.le_of_ble_eq_true rfl, Nat.le_of_ble_eq_true rfl⟩ rfl (Nat.le_of_ble_eq_true rfl) dX6_comesOverByDraws_49 (fun x3 F104 h => ?_)
      refine r_iadd (pc := 52) X dX6_comesOverByDraws_52 ?_
      refine r_callVV (pc := 53) (As := [.int v4, .int (v3 + x3)]) (st := []) X hA (c_X0_loadAlone hT.2.2.2.2.2.1 h) g_X6_273 cl_X0 hT.2.2.2.2.2.1.1 hd_X0_loadAlone rfl rfl rfl ⟨Nat.le_of_ble_eq_true rfl, Nat.le_of_ble_eq_true rfl⟩ rfl (Nat.le_of_ble_eq_true rfl) dX6_comesOverByDraws_53 (fun F105 h => ?_)
      refine r_aload_n (pc := 56) X 0 dX6_comesOverByDraws_56 rfl rfl ?_
      refine fg_X6_38 (pc := 57) X hT.1 dX6_comesOverByDraws_57 ?_
      refine r_callIV (pc := 60) (As := []) (st := []) X hA (c_X0_settle hT.2.2.2.2.2.1 h) g_X6_270 cl_X0 hT.2.2.2.2.2.1.1 hd_X0_settle rfl rfl rfl ⟨Nat.le_of_ble_eq_true rfl, Nat.le_of_ble_eq_true rfl⟩ rfl (Nat.le_of_ble_eq_true rfl) dX6_comesOverByDraws_60 (fun x4 F106 h => ?_)
      refine r_if_ne (pc := 63) (tgt := 68) X dX6_comesOverByDraws_63 (by decide) (fun hc => ?_) (fun hc => ?_)
      · replace h := h.1 hc
        refine r_iinc (pc := 68) (v := (v4 + (nI 1))) X 4 [(4, .int (v4 + (nI 1))), (0, .ref (ad 0)), (1, .int v1), (2, .int v2), (3, .int v3)] dX6_comesOverByDraws_68 rfl rfl (by decide) rfl ?_
        refine r_goto (pc := 71) (tgt := 26) X dX6_comesOverByDraws_71 (by decide) ?_
        refine r_sub [1, 2, 3, 4, 0] rfl ?_
        exact ih _ _ _ _ _ h
      · replace h := h.2 hc
        refine r_iconst (pc := 66) (v := (nI 0)) X dX6_comesOverByDraws_66 (by decide) ?_
        exact r_zret (pc := 67) X hr dX6_comesOverByDraws_67 nb0 h
def wp_X6_comesOverByDraws (K : Int32 → HF → Prop) (F : HF) (a1 : Int32) (a2 : Int32) : Prop := wp_X0_copyRested (fun F1 => wp_X1_weightIn (fun x1 F2 => ∃ m_, wp_X6_comesOverByDraws_26 K  m_ F2 a1 a2 x1 (nI 0)) F1 4 a2) F 21 17
set_option maxRecDepth 100000 in
set_option maxHeartbeats 4000000 in
theorem c_X6_comesOverByDraws {l : Launch} {D : va_G} {dA : Nat → ClassId} {ad : Nat → Nat} {R : List Nat} {F : HF} {a1 : Int32} {a2 : Int32} {K : Int32 → HF → Prop} (hT : BBr R) (h : wp_X6_comesOverByDraws K F a1 a2) : MI l yX6_comesOverByDraws cX6_comesOverByDraws 5 .boolean rm_X6_comesOverByDraws D dA ad R F [.ref (ad 0), .int a1, .int a2] K := by
  refine MI.of (own := RX6) (by decide) rfl (Nat.le_of_ble_eq_true rfl) ?_
  intro p e s m args below meth c A hA X hr
  unfold wp_X6_comesOverByDraws at h
  show J p l e rm_X6_comesOverByDraws s m args below meth c 5 D dA ad R A (QI D dA ad R A below args s K) F 0 [(0, .ref (ad 0)), (1, .int a1), (2, .int a2)] []
  refine r_aload_n (pc := 0) X 0 dX6_comesOverByDraws_0 rfl rfl ?_
  refine fg_X6_38 (pc := 1) X hT.1 dX6_comesOverByDraws_1 ?_
  refine r_aload_n (pc := 4) X 0 dX6_comesOverByDraws_4 rfl rfl ?_
  refine fg_X6_31 (pc := 5) X hT.1 dX6_comesOverByDraws_5 ?_
  refine r_bridge_X6 (pc := 8) (t1 := 17) X hA rfl hT.2.2.2.2.1 (Nat.le_of_ble_eq_true rfl) (Nat.le_of_ble_eq_true rfl) (Nat.le_of_ble_eq_true rfl) dX6_comesOverByDraws_8 ?_
  refine r_callVV (pc := 11) (As := [.ref (ad 17)]) (st := []) X hA (c_X0_copyRested hT.2.2.2.2.2.1 hT.2.2.2.2.1.2 h) g_X6_232 cl_X0 hT.2.2.2.2.2.1.1 hd_X0_copyRested rfl rfl rfl ⟨Nat.le_of_ble_eq_true rfl, Nat.le_of_ble_eq_true rfl⟩ rfl (Nat.le_of_ble_eq_true rfl) dX6_comesOverByDraws_11 (fun F1 h => ?_)
  refine r_aload_n (pc := 14) X 0 dX6_comesOverByDraws_14 rfl rfl ?_
  refine fg_X6_19 (pc := 15) X hT.1 dX6_comesOverByDraws_15 ?_
  refine r_iload_n (pc := 18) X 2 dX6_comesOverByDraws_18 rfl rfl ?_
  refine r_callIV (pc := 19) (As := [.int a2]) (st := []) X hA (c_X1_weightIn hT.2.2.1 h) g_X6_235 cl_X1 hT.2.2.1.1 hd_X1_weightIn rfl rfl rfl ⟨Nat.le_of_ble_eq_true rfl, Nat.le_of_ble_eq_true rfl⟩ rfl (Nat.le_of_ble_eq_true rfl) dX6_comesOverByDraws_19 (fun x1 F2 h => ?_)
  refine r_istore_n (pc := 22) X [(3, .int x1), (0, .ref (ad 0)), (1, .int a1), (2, .int a2)] dX6_comesOverByDraws_22 rfl (by decide) rfl ?_
  refine r_iconst (pc := 23) (v := (nI 0)) X dX6_comesOverByDraws_23 (by decide) ?_
  refine r_istore (pc := 24) X [(4, .int (nI 0)), (3, .int x1), (0, .ref (ad 0)), (1, .int a1), (2, .int a2)] dX6_comesOverByDraws_24 (by decide) rfl ?_
  refine r_sub [2, 3, 4, 1, 0] rfl ?_
  obtain ⟨n1, h⟩ := h
  exact k_X6_comesOverByDraws_26 X hA hr hT  n1 _ _ _ _ _ h
theorem dX6_century_0 : decode cX6_century 0 = .ok (.iload_n 1, 1) := by decide +kernel
theorem dX6_century_1 : decode cX6_century 1 = .ok (.ifCond .lt 30, 3) := by decide +kernel
theorem dX6_century_4 : decode cX6_century 4 = .ok (.iload_n 1, 1) := by decide +kernel
theorem dX6_century_5 : decode cX6_century 5 = .ok (.sipush 9999, 3) := by decide +kernel
theorem dX6_century_8 : decode cX6_century 8 = .ok (.if_icmp .gt 23, 3) := by decide +kernel
theorem dX6_century_11 : decode cX6_century 11 = .ok (.iload_n 2, 1) := by decide +kernel
theorem dX6_century_12 : decode cX6_century 12 = .ok (.iconst 1, 1) := by decide +kernel
theorem dX6_century_13 : decode cX6_century 13 = .ok (.if_icmp .lt 18, 3) := by decide +kernel
theorem dX6_century_16 : decode cX6_century 16 = .ok (.iload_n 2, 1) := by decide +kernel
theorem dX6_century_17 : decode cX6_century 17 = .ok (.bipush 90, 2) := by decide +kernel
theorem dX6_century_19 : decode cX6_century 19 = .ok (.if_icmp .gt 12, 3) := by decide +kernel
theorem dX6_century_22 : decode cX6_century 22 = .ok (.iload_n 3, 1) := by decide +kernel
theorem dX6_century_23 : decode cX6_century 23 = .ok (.ifCond .lt 8, 3) := by decide +kernel
theorem dX6_century_26 : decode cX6_century 26 = .ok (.iload_n 3, 1) := by decide +kernel
theorem dX6_century_27 : decode cX6_century 27 = .ok (.iconst 1, 1) := by decide +kernel
theorem dX6_century_28 : decode cX6_century 28 = .ok (.if_icmp .le 5, 3) := by decide +kernel
theorem dX6_century_31 : decode cX6_century 31 = .ok (.iconst (-1), 1) := by decide +kernel
theorem dX6_century_32 : decode cX6_century 32 = .ok (.ireturn, 1) := by decide +kernel
theorem dX6_century_33 : decode cX6_century 33 = .ok (.aload_n 0, 1) := by decide +kernel
theorem dX6_century_34 : decode cX6_century 34 = .ok (.getfield 31, 3) := by decide +kernel
theorem dX6_century_37 : decode cX6_century 37 = .ok (.invokevirtual 123, 3) := by decide +kernel
theorem dX6_century_40 : decode cX6_century 40 = .ok (.invokevirtual 171, 3) := by decide +kernel
theorem dX6_century_43 : decode cX6_century 43 = .ok (.ifCond .ne 6, 3) := by decide +kernel
theorem dX6_century_46 : decode cX6_century 46 = .ok (.bipush (-2), 2) := by decide +kernel
theorem dX6_century_48 : decode cX6_century 48 = .ok (.ireturn, 1) := by decide +kernel
theorem dX6_century_49 : decode cX6_century 49 = .ok (.iconst 0, 1) := by decide +kernel
theorem dX6_century_50 : decode cX6_century 50 = .ok (.istore 4, 2) := by decide +kernel
theorem dX6_century_52 : decode cX6_century 52 = .ok (.bipush (-4), 2) := by decide +kernel
theorem dX6_century_54 : decode cX6_century 54 = .ok (.istore 5, 2) := by decide +kernel
theorem dX6_century_56 : decode cX6_century 56 = .ok (.iconst 0, 1) := by decide +kernel
theorem dX6_century_57 : decode cX6_century 57 = .ok (.istore 6, 2) := by decide +kernel
theorem dX6_century_59 : decode cX6_century 59 = .ok (.iload 6, 2) := by decide +kernel
theorem dX6_century_61 : decode cX6_century 61 = .ok (.iload_n 2, 1) := by decide +kernel
theorem dX6_century_62 : decode cX6_century 62 = .ok (.if_icmp .ge 36, 3) := by decide +kernel
theorem dX6_century_65 : decode cX6_century 65 = .ok (.aload_n 0, 1) := by decide +kernel
theorem dX6_century_66 : decode cX6_century 66 = .ok (.iload_n 1, 1) := by decide +kernel
theorem dX6_century_67 : decode cX6_century 67 = .ok (.iload 6, 2) := by decide +kernel
theorem dX6_century_69 : decode cX6_century 69 = .ok (.invokevirtual 245, 3) := by decide +kernel
theorem dX6_century_72 : decode cX6_century 72 = .ok (.ifCond .eq 9, 3) := by decide +kernel
theorem dX6_century_75 : decode cX6_century 75 = .ok (.iinc 4 1, 3) := by decide +kernel
theorem dX6_century_78 : decode cX6_century 78 = .ok (.goto 14, 3) := by decide +kernel
theorem dX6_century_81 : decode cX6_century 81 = .ok (.iload 5, 2) := by decide +kernel
theorem dX6_century_83 : decode cX6_century 83 = .ok (.bipush (-4), 2) := by decide +kernel
theorem dX6_century_85 : decode cX6_century 85 = .ok (.if_icmp .ne 7, 3) := by decide +kernel
theorem dX6_century_88 : decode cX6_century 88 = .ok (.iload 6, 2) := by decide +kernel
theorem dX6_century_90 : decode cX6_century 90 = .ok (.istore 5, 2) := by decide +kernel
theorem dX6_century_92 : decode cX6_century 92 = .ok (.iinc 6 1, 3) := by decide +kernel
theorem dX6_century_95 : decode cX6_century 95 = .ok (.goto (-36), 3) := by decide +kernel
theorem dX6_century_98 : decode cX6_century 98 = .ok (.iload_n 3, 1) := by decide +kernel
theorem dX6_century_99 : decode cX6_century 99 = .ok (.ifCond .ne 8, 3) := by decide +kernel
theorem dX6_century_102 : decode cX6_century 102 = .ok (.iload 4, 2) := by decide +kernel
theorem dX6_century_104 : decode cX6_century 104 = .ok (.goto 5, 3) := by decide +kernel
theorem dX6_century_107 : decode cX6_century 107 = .ok (.iload 5, 2) := by decide +kernel
theorem dX6_century_109 : decode cX6_century 109 = .ok (.ireturn, 1) := by decide +kernel
theorem hd_X6_century : yX6_century.cls = RX6 ∧ yX6_century.cls ≠ "java/lang/invoke/MethodHandle" ∧ yX6_century.cls ≠ "java/lang/invoke/VarHandle" ∧ (parseMethodDescriptor yX6_century.desc).map (fun d => d.parameters.length) = some 3 := by decide +kernel
abbrev rm_X6_century : Room := { frames := 5, cells := 0, slots := 0, locals := 114 }
def wp_X6_century_92 (K : Int32 → HF → Prop) (L59 : HF → Int32 → Int32 → Int32 → Int32 → Int32 → Int32 → Prop) (F : HF) (v1 : Int32) (v2 : Int32) (v3 : Int32) (v4 : Int32) (v5 : Int32) (v6 : Int32) : Prop := L59 F v1 v2 v3 v4 v5 (v6 + (nI 1))
set_option maxRecDepth 100000 in
set_option maxHeartbeats 4000000 in
theorem k_X6_century_92 {p : Program} {l : Launch} {e : Env} {s : State} {m : MethodId} {args : Array Value} {below : List Frame} {meth : Method} {c : Code} {D : va_G} {dA : Nat → ClassId} {ad : Nat → Nat} {R : List Nat} {A : Nat → Prop} {K : Int32 → HF → Prop} {L59 : HF → Int32 → Int32 → Int32 → Int32 → Int32 → Int32 → Prop} (X : Cx p s m args meth c cX6_century 7 RX6 D dA) (hA : ∀ q, s.heap.size ≤ q → A q) (hr : meth.sig.returnType = some .int) (hT : BBr R) (hL59 : ∀ (F : HF) (v1 : Int32) (v2 : Int32) (v3 : Int32) (v4 : Int32) (v5 : Int32) (v6 : Int32), L59 F v1 v2 v3 v4 v5 v6 → J p l e rm_X6_century s m args below meth c 7 D dA ad R A (QI D dA ad R A below args s K) F 59 [(0, .ref (ad 0)), (1, .int v1), (2, .int v2), (3, .int v3), (4, .int v4), (5, .int v5), (6, .int v6)] []) : ∀ (F : HF) (v1 : Int32) (v2 : Int32) (v3 : Int32) (v4 : Int32) (v5 : Int32) (v6 : Int32), wp_X6_century_92 K L59  F v1 v2 v3 v4 v5 v6 → J p l e rm_X6_century s m args below meth c 7 D dA ad R A (QI D dA ad R A below args s K) F 92 [(0, .ref (ad 0)), (1, .int v1), (2, .int v2), (3, .int v3), (4, .int v4), (5, .int v5), (6, .int v6)] [] := by
  intro F v1 v2 v3 v4 v5 v6 h
  unfold wp_X6_century_92 at h
  refine r_iinc (pc := 92) (v := (v6 + (nI 1))) X 6 [(6, .int (v6 + (nI 1))), (0, .ref (ad 0)), (1, .int v1), (2, .int v2), (3, .int v3), (4, .int v4), (5, .int v5)] dX6_century_92 rfl rfl (by decide) rfl ?_
  refine r_goto (pc := 95) (tgt := 59) X dX6_century_95 (by decide) ?_
  refine r_sub [1, 2, 3, 4, 5, 6, 0] rfl ?_
  exact hL59 _ _ _ _ _ _ _ h
def wp_X6_century_59 (K : Int32 → HF → Prop) : Nat → HF → Int32 → Int32 → Int32 → Int32 → Int32 → Int32 → Prop
  | 0 => fun _ _ _ _ _ _ _ => False
  | n59_ + 1 => fun F v1 v2 v3 v4 v5 v6 => ((v2 ≤ v6) → (((¬ v3 = (nI 0)) → (K v5 F)) ∧ ((v3 = (nI 0)) → (K v4 F)))) ∧ ((¬ v2 ≤ v6) → (wp_X6_comesOverByDraws (fun x2 F102 => ((x2 = (nI 0)) → (((¬ v5 = (-4 : Int32)) → (wp_X6_century_92 K (wp_X6_century_59 K n59_)  F102 v1 v2 v3 v4 v5 v6)) ∧ ((v5 = (-4 : Int32)) → (wp_X6_century_92 K (wp_X6_century_59 K n59_)  F102 v1 v2 v3 v4 v6 v6)))) ∧ ((¬ x2 = (nI 0)) → (wp_X6_century_92 K (wp_X6_century_59 K n59_)  F102 v1 v2 v3 (v4 + (nI 1)) v5 v6))) F v1 v6))
set_option maxRecDepth 100000 in
set_option maxHeartbeats 4000000 in
theorem k_X6_century_59 {p : Program} {l : Launch} {e : Env} {s : State} {m : MethodId} {args : Array Value} {below : List Frame} {meth : Method} {c : Code} {D : va_G} {dA : Nat → ClassId} {ad : Nat → Nat} {R : List Nat} {A : Nat → Prop} {K : Int32 → HF → Prop} (X : Cx p s m args meth c cX6_century 7 RX6 D dA) (hA : ∀ q, s.heap.size ≤ q → A q) (hr : meth.sig.returnType = some .int) (hT : BBr R) : ∀ (n_ : Nat) (F : HF) (v1 : Int32) (v2 : Int32) (v3 : Int32) (v4 : Int32) (v5 : Int32) (v6 : Int32), wp_X6_century_59 K  n_ F v1 v2 v3 v4 v5 v6 → J p l e rm_X6_century s m args below meth c 7 D dA ad R A (QI D dA ad R A below args s K) F 59 [(0, .ref (ad 0)), (1, .int v1), (2, .int v2), (3, .int v3), (4, .int v4), (5, .int v5), (6, .int v6)] [] := by
  intro n_
  induction n_ with
  | zero => intro F v1 v2 v3 v4 v5 v6 h; exact h.elim
  | succ n_ ih =>
    intro F v1 v2 v3 v4 v5 v6 h
    unfold wp_X6_century_59 at h
    refine r_iload (pc := 59) X 6 dX6_century_59 rfl ?_
    refine r_iload_n (pc := 61) X 2 dX6_century_61 rfl rfl ?_
    refine r_icmp_ge (pc := 62) (tgt := 98) X dX6_century_62 (by decide) (fun hc => ?_) (fun hc => ?_)
    · replace h := h.1 hc
      refine r_iload_n (pc := 98) X 3 dX6_century_98 rfl rfl ?_
      refine r_if_ne (pc := 99) (tgt := 107) X dX6_century_99 (by decide) (fun hc => ?_) (fun hc => ?_)
      · replace h := h.1 hc
        refine r_iload (pc := 107) X 5 dX6_century_107 rfl ?_
        exact r_iret (pc := 109) X hr dX6_century_109 h
      · replace h := h.2 hc
        refine r_iload (pc := 102) X 4 dX6_century_102 rfl ?_
        refine r_goto (pc := 104) (tgt := 109) X dX6_century_104 (by decide) ?_
        exact r_iret (pc := 109) X hr dX6_century_109 h
    · replace h := h.2 hc
      refine r_aload_n (pc := 65) X 0 dX6_century_65 rfl rfl ?_
      refine r_iload_n (pc := 66) X 1 dX6_century_66 rfl rfl ?_
      refine r_iload (pc := 67) X 6 dX6_century_67 rfl ?_
      refine r_callIV (pc := 69) (As := [.int v1, .int v6]) (st := []) X hA (c_X6_comesOverByDraws hT h) g_X6_245 cl_X6 hT.1 hd_X6_comesOverByDraws rfl rfl rfl ⟨Nat.le_of_ble_eq_true rfl, Nat.le_of_ble_eq_true rfl⟩ rfl (Nat.le_of_ble_eq_true rfl) dX6_century_69 (fun x2 F102 h => ?_)
      refine r_if_eq (pc := 72) (tgt := 81) X dX6_century_72 (by decide) (fun hc => ?_) (fun hc => ?_)
      · replace h := h.1 hc
        refine r_iload (pc := 81) X 5 dX6_century_81 rfl ?_
        refine r_bipush (pc := 83) (v := (-4 : Int32)) X dX6_century_83 (by decide) ?_
        refine r_icmp_ne (pc := 85) (tgt := 92) X dX6_century_85 (by decide) (fun hc => ?_) (fun hc => ?_)
        · replace h := h.1 hc
          exact k_X6_century_92 X hA hr hT ih _ _ _ _ _ _ _ h
        · replace h := h.2 hc
          refine r_iload (pc := 88) X 6 dX6_century_88 rfl ?_
          refine r_istore (pc := 90) X [(5, .int v6), (0, .ref (ad 0)), (1, .int v1), (2, .int v2), (3, .int v3), (4, .int v4), (6, .int v6)] dX6_century_90 (by decide) rfl ?_
          refine r_sub [1, 2, 3, 4, 5, 0, 6] rfl ?_
          exact k_X6_century_92 X hA hr hT ih _ _ _ _ _ _ _ h
      · replace h := h.2 hc
        refine r_iinc (pc := 75) (v := (v4 + (nI 1))) X 4 [(4, .int (v4 + (nI 1))), (0, .ref (ad 0)), (1, .int v1), (2, .int v2), (3, .int v3), (5, .int v5), (6, .int v6)] dX6_century_75 rfl rfl (by decide) rfl ?_
        refine r_goto (pc := 78) (tgt := 92) X dX6_century_78 (by decide) ?_
        refine r_sub [1, 2, 3, 4, 0, 5, 6] rfl ?_
        exact k_X6_century_92 X hA hr hT ih _ _ _ _ _ _ _ h
def wp_X6_century (K : Int32 → HF → Prop) (F : HF) (a1 : Int32) (a2 : Int32) (a3 : Int32) : Prop := ((a1 < (nI 0)) → (K (-1 : Int32) F)) ∧ ((¬ a1 < (nI 0)) → ((((nI 9999) < a1) → (K (-1 : Int32) F)) ∧ ((¬ (nI 9999) < a1) → (((a2 < (nI 1)) → (K (-1 : Int32) F)) ∧ ((¬ a2 < (nI 1)) → ((((nI 90) < a2) → (K (-1 : Int32) F)) ∧ ((¬ (nI 90) < a2) → (((a3 < (nI 0)) → (K (-1 : Int32) F)) ∧ ((¬ a3 < (nI 0)) → (((a3 ≤ (nI 1)) → (wp_X0_isWhole (fun x1 F1 => ((¬ x1 = (nI 0)) → (∃ m_, wp_X6_century_59 K  m_ F1 a1 a2 a3 (nI 0) (-4 : Int32) (nI 0))) ∧ ((x1 = (nI 0)) → (K (-2 : Int32) F1))) F 17)) ∧ ((¬ a3 ≤ (nI 1)) → (K (-1 : Int32) F))))))))))))
set_option maxRecDepth 100000 in
set_option maxHeartbeats 4000000 in
theorem c_X6_century {l : Launch} {D : va_G} {dA : Nat → ClassId} {ad : Nat → Nat} {R : List Nat} {F : HF} {a1 : Int32} {a2 : Int32} {a3 : Int32} {K : Int32 → HF → Prop} (hT : BBr R) (h : wp_X6_century K F a1 a2 a3) : MI l yX6_century cX6_century 7 .int rm_X6_century D dA ad R F [.ref (ad 0), .int a1, .int a2, .int a3] K := by
  refine MI.of (own := RX6) (by decide) rfl (Nat.le_of_ble_eq_true rfl) ?_
  intro p e s m args below meth c A hA X hr
  unfold wp_X6_century at h
  show J p l e rm_X6_century s m args below meth c 7 D dA ad R A (QI D dA ad R A below args s K) F 0 [(0, .ref (ad 0)), (1, .int a1), (2, .int a2), (3, .int a3)] []
  refine r_iload_n (pc := 0) X 1 dX6_century_0 rfl rfl ?_
  refine r_if_lt (pc := 1) (tgt := 31) X dX6_century_1 (by decide) (fun hc => ?_) (fun hc => ?_)
  · replace h := h.1 hc
    refine r_iconst (pc := 31) (v := (-1 : Int32)) X dX6_century_31 (by decide) ?_
    exact r_iret (pc := 32) X hr dX6_century_32 h
  · replace h := h.2 hc
    refine r_iload_n (pc := 4) X 1 dX6_century_4 rfl rfl ?_
    refine r_sipush (pc := 5) (v := (nI 9999)) X dX6_century_5 (by decide) ?_
    refine r_icmp_gt (pc := 8) (tgt := 31) X dX6_century_8 (by decide) (fun hc => ?_) (fun hc => ?_)
    · replace h := h.1 hc
      refine r_iconst (pc := 31) (v := (-1 : Int32)) X dX6_century_31 (by decide) ?_
      exact r_iret (pc := 32) X hr dX6_century_32 h
    · replace h := h.2 hc
      refine r_iload_n (pc := 11) X 2 dX6_century_11 rfl rfl ?_
      refine r_iconst (pc := 12) (v := (nI 1)) X dX6_century_12 (by decide) ?_
      refine r_icmp_lt (pc := 13) (tgt := 31) X dX6_century_13 (by decide) (fun hc => ?_) (fun hc => ?_)
      · replace h := h.1 hc
        refine r_iconst (pc := 31) (v := (-1 : Int32)) X dX6_century_31 (by decide) ?_
        exact r_iret (pc := 32) X hr dX6_century_32 h
      · replace h := h.2 hc
        refine r_iload_n (pc := 16) X 2 dX6_century_16 rfl rfl ?_
        refine r_bipush (pc := 17) (v := (nI 90)) X dX6_century_17 (by decide) ?_
        refine r_icmp_gt (pc := 19) (tgt := 31) X dX6_century_19 (by decide) (fun hc => ?_) (fun hc => ?_)
        · replace h := h.1 hc
          refine r_iconst (pc := 31) (v := (-1 : Int32)) X dX6_century_31 (by decide) ?_
          exact r_iret (pc := 32) X hr dX6_century_32 h
        · replace h := h.2 hc
          refine r_iload_n (pc := 22) X 3 dX6_century_22 rfl rfl ?_
          refine r_if_lt (pc := 23) (tgt := 31) X dX6_century_23 (by decide) (fun hc => ?_) (fun hc => ?_)
          · replace h := h.1 hc
            refine r_iconst (pc := 31) (v := (-1 : Int32)) X dX6_century_31 (by decide) ?_
            exact r_iret (pc := 32) X hr dX6_century_32 h
          · replace h := h.2 hc
            refine r_iload_n (pc := 26) X 3 dX6_century_26 rfl rfl ?_
            refine r_iconst (pc := 27) (v := (nI 1)) X dX6_century_27 (by decide) ?_
            refine r_icmp_le (pc := 28) (tgt := 33) X dX6_century_28 (by decide) (fun hc => ?_) (fun hc => ?_)
            · replace h := h.1 hc
              refine r_aload_n (pc := 33) X 0 dX6_century_33 rfl rfl ?_
              refine fg_X6_31 (pc := 34) X hT.1 dX6_century_34 ?_
              refine r_bridge_X6 (pc := 37) (t1 := 17) X hA rfl hT.2.2.2.2.1 (Nat.le_of_ble_eq_true rfl) (Nat.le_of_ble_eq_true rfl) (Nat.le_of_ble_eq_true rfl) dX6_century_37 ?_
              refine r_callIV (pc := 40) (As := []) (st := []) X hA (c_X0_isWhole hT.2.2.2.2.1.2 h) g_X6_171 cl_X0 hT.2.2.2.2.1.2.1 hd_X0_isWhole rfl rfl rfl ⟨Nat.le_of_ble_eq_true rfl, Nat.le_of_ble_eq_true rfl⟩ rfl (Nat.le_of_ble_eq_true rfl) dX6_century_40 (fun x1 F1 h => ?_)
              refine r_if_ne (pc := 43) (tgt := 49) X dX6_century_43 (by decide) (fun hc => ?_) (fun hc => ?_)
              · replace h := h.1 hc
                refine r_iconst (pc := 49) (v := (nI 0)) X dX6_century_49 (by decide) ?_
                refine r_istore (pc := 50) X [(4, .int (nI 0)), (0, .ref (ad 0)), (1, .int a1), (2, .int a2), (3, .int a3)] dX6_century_50 (by decide) rfl ?_
                refine r_bipush (pc := 52) (v := (-4 : Int32)) X dX6_century_52 (by decide) ?_
                refine r_istore (pc := 54) X [(5, .int (-4 : Int32)), (4, .int (nI 0)), (0, .ref (ad 0)), (1, .int a1), (2, .int a2), (3, .int a3)] dX6_century_54 (by decide) rfl ?_
                refine r_iconst (pc := 56) (v := (nI 0)) X dX6_century_56 (by decide) ?_
                refine r_istore (pc := 57) X [(6, .int (nI 0)), (5, .int (-4 : Int32)), (4, .int (nI 0)), (0, .ref (ad 0)), (1, .int a1), (2, .int a2), (3, .int a3)] dX6_century_57 (by decide) rfl ?_
                refine r_sub [3, 4, 5, 6, 2, 1, 0] rfl ?_
                obtain ⟨n1, h⟩ := h
                exact k_X6_century_59 X hA hr hT  n1 _ _ _ _ _ _ _ h
              · replace h := h.2 hc
                refine r_bipush (pc := 46) (v := (-2 : Int32)) X dX6_century_46 (by decide) ?_
                exact r_iret (pc := 48) X hr dX6_century_48 h
            · replace h := h.2 hc
              refine r_iconst (pc := 31) (v := (-1 : Int32)) X dX6_century_31 (by decide) ?_
              exact r_iret (pc := 32) X hr dX6_century_32 h
theorem dX6_keep_0 : decode cX6_keep 0 = .ok (.aload_n 0, 1) := by decide +kernel
theorem dX6_keep_1 : decode cX6_keep 1 = .ok (.getfield 51, 3) := by decide +kernel
theorem dX6_keep_4 : decode cX6_keep 4 = .ok (.invokevirtual 248, 3) := by decide +kernel
theorem dX6_keep_7 : decode cX6_keep 7 = .ok (.ifCond .eq 6, 3) := by decide +kernel
theorem dX6_keep_10 : decode cX6_keep 10 = .ok (.bipush (-3), 2) := by decide +kernel
theorem dX6_keep_12 : decode cX6_keep 12 = .ok (.ireturn, 1) := by decide +kernel
theorem dX6_keep_13 : decode cX6_keep 13 = .ok (.aload_n 0, 1) := by decide +kernel
theorem dX6_keep_14 : decode cX6_keep 14 = .ok (.getfield 51, 3) := by decide +kernel
theorem dX6_keep_17 : decode cX6_keep 17 = .ok (.aload_n 0, 1) := by decide +kernel
theorem dX6_keep_18 : decode cX6_keep 18 = .ok (.getfield 31, 3) := by decide +kernel
theorem dX6_keep_21 : decode cX6_keep 21 = .ok (.invokevirtual 158, 3) := by decide +kernel
theorem dX6_keep_24 : decode cX6_keep 24 = .ok (.aload_n 0, 1) := by decide +kernel
theorem dX6_keep_25 : decode cX6_keep 25 = .ok (.getfield 51, 3) := by decide +kernel
theorem dX6_keep_28 : decode cX6_keep 28 = .ok (.invokevirtual 196, 3) := by decide +kernel
theorem dX6_keep_31 : decode cX6_keep 31 = .ok (.ireturn, 1) := by decide +kernel
theorem hd_X6_keep : yX6_keep.cls = RX6 ∧ yX6_keep.cls ≠ "java/lang/invoke/MethodHandle" ∧ yX6_keep.cls ≠ "java/lang/invoke/VarHandle" ∧ (parseMethodDescriptor yX6_keep.desc).map (fun d => d.parameters.length) = some 0 := by decide +kernel
abbrev rm_X6_keep : Room := { frames := 4, cells := 0, slots := 0, locals := 111 }
def wp_X6_keep (K : Int32 → HF → Prop) (F : HF) : Prop := wp_X5_isFull (fun x1 F1 => ((x1 = (nI 0)) → (wp_X5_put (fun F2 => wp_X5_size (fun x2 F3 => K x2 F3) F2 67 2) F1 67 2 16)) ∧ ((¬ x1 = (nI 0)) → (K (-3 : Int32) F1))) F 67 2
set_option maxRecDepth 100000 in
set_option maxHeartbeats 4000000 in
theorem c_X6_keep {l : Launch} {D : va_G} {dA : Nat → ClassId} {ad : Nat → Nat} {R : List Nat} {F : HF} {K : Int32 → HF → Prop} (hT : BBr R) (h : wp_X6_keep K F ) : MI l yX6_keep cX6_keep 1 .int rm_X6_keep D dA ad R F [.ref (ad 0)] K := by
  refine MI.of (own := RX6) (by decide) rfl (Nat.le_of_ble_eq_true rfl) ?_
  intro p e s m args below meth c A hA X hr
  unfold wp_X6_keep at h
  show J p l e rm_X6_keep s m args below meth c 1 D dA ad R A (QI D dA ad R A below args s K) F 0 [(0, .ref (ad 0))] []
  refine r_aload_n (pc := 0) X 0 dX6_keep_0 rfl rfl ?_
  refine fg_X6_51 (pc := 1) X hT.1 dX6_keep_1 ?_
  refine r_callIV (pc := 4) (As := []) (st := []) X hA (c_X5_isFull hT.2.2.2.2.2.2.2.1 h) g_X6_248 cl_X5 hT.2.2.2.2.2.2.2.1.1 hd_X5_isFull rfl rfl rfl ⟨Nat.le_of_ble_eq_true rfl, Nat.le_of_ble_eq_true rfl⟩ rfl (Nat.le_of_ble_eq_true rfl) dX6_keep_4 (fun x1 F1 h => ?_)
  refine r_if_eq (pc := 7) (tgt := 13) X dX6_keep_7 (by decide) (fun hc => ?_) (fun hc => ?_)
  · replace h := h.1 hc
    refine r_aload_n (pc := 13) X 0 dX6_keep_13 rfl rfl ?_
    refine fg_X6_51 (pc := 14) X hT.1 dX6_keep_14 ?_
    refine r_aload_n (pc := 17) X 0 dX6_keep_17 rfl rfl ?_
    refine fg_X6_31 (pc := 18) X hT.1 dX6_keep_18 ?_
    refine r_callVV (pc := 21) (As := [.ref (ad 16)]) (st := []) X hA (c_X5_put hT.2.2.2.2.2.2.2.1 hT.2.2.2.2.1 h) g_X6_158 cl_X5 hT.2.2.2.2.2.2.2.1.1 hd_X5_put rfl rfl rfl ⟨Nat.le_of_ble_eq_true rfl, Nat.le_of_ble_eq_true rfl⟩ rfl (Nat.le_of_ble_eq_true rfl) dX6_keep_21 (fun F2 h => ?_)
    refine r_aload_n (pc := 24) X 0 dX6_keep_24 rfl rfl ?_
    refine fg_X6_51 (pc := 25) X hT.1 dX6_keep_25 ?_
    refine r_callIV (pc := 28) (As := []) (st := []) X hA (c_X5_size hT.2.2.2.2.2.2.2.1 h) g_X6_196 cl_X5 hT.2.2.2.2.2.2.2.1.1 hd_X5_size rfl rfl rfl ⟨Nat.le_of_ble_eq_true rfl, Nat.le_of_ble_eq_true rfl⟩ rfl (Nat.le_of_ble_eq_true rfl) dX6_keep_28 (fun x2 F3 h => ?_)
    exact r_iret (pc := 31) X hr dX6_keep_31 h
  · replace h := h.2 hc
    refine r_bipush (pc := 10) (v := (-3 : Int32)) X dX6_keep_10 (by decide) ?_
    exact r_iret (pc := 12) X hr dX6_keep_12 h
theorem dX6_back_0 : decode cX6_back 0 = .ok (.aload_n 0, 1) := by decide +kernel
theorem dX6_back_1 : decode cX6_back 1 = .ok (.getfield 51, 3) := by decide +kernel
theorem dX6_back_4 : decode cX6_back 4 = .ok (.aload_n 0, 1) := by decide +kernel
theorem dX6_back_5 : decode cX6_back 5 = .ok (.getfield 31, 3) := by decide +kernel
theorem dX6_back_8 : decode cX6_back 8 = .ok (.invokevirtual 192, 3) := by decide +kernel
theorem dX6_back_11 : decode cX6_back 11 = .ok (.ifCond .ne 6, 3) := by decide +kernel
theorem dX6_back_14 : decode cX6_back 14 = .ok (.bipush (-2), 2) := by decide +kernel
theorem dX6_back_16 : decode cX6_back 16 = .ok (.ireturn, 1) := by decide +kernel
theorem dX6_back_17 : decode cX6_back 17 = .ok (.aload_n 0, 1) := by decide +kernel
theorem dX6_back_18 : decode cX6_back 18 = .ok (.getfield 47, 3) := by decide +kernel
theorem dX6_back_21 : decode cX6_back 21 = .ok (.invokevirtual 105, 3) := by decide +kernel
theorem dX6_back_24 : decode cX6_back 24 = .ok (.aload_n 0, 1) := by decide +kernel
theorem dX6_back_25 : decode cX6_back 25 = .ok (.getfield 51, 3) := by decide +kernel
theorem dX6_back_28 : decode cX6_back 28 = .ok (.invokevirtual 196, 3) := by decide +kernel
theorem dX6_back_31 : decode cX6_back 31 = .ok (.ireturn, 1) := by decide +kernel
theorem hd_X6_back : yX6_back.cls = RX6 ∧ yX6_back.cls ≠ "java/lang/invoke/MethodHandle" ∧ yX6_back.cls ≠ "java/lang/invoke/VarHandle" ∧ (parseMethodDescriptor yX6_back.desc).map (fun d => d.parameters.length) = some 0 := by decide +kernel
abbrev rm_X6_back : Room := { frames := 4, cells := 0, slots := 0, locals := 111 }
def wp_X6_back (K : Int32 → HF → Prop) (F : HF) : Prop := wp_X5_takeInto (fun x1 F1 => ((¬ x1 = (nI 0)) → (wp_X5_clear (fun F2 => wp_X5_size (fun x2 F3 => K x2 F3) F2 67 2) F1 25 8)) ∧ ((x1 = (nI 0)) → (K (-2 : Int32) F1))) F 67 2 16
set_option maxRecDepth 100000 in
set_option maxHeartbeats 4000000 in
theorem c_X6_back {l : Launch} {D : va_G} {dA : Nat → ClassId} {ad : Nat → Nat} {R : List Nat} {F : HF} {K : Int32 → HF → Prop} (hT : BBr R) (h : wp_X6_back K F ) : MI l yX6_back cX6_back 1 .int rm_X6_back D dA ad R F [.ref (ad 0)] K := by
  refine MI.of (own := RX6) (by decide) rfl (Nat.le_of_ble_eq_true rfl) ?_
  intro p e s m args below meth c A hA X hr
  unfold wp_X6_back at h
  show J p l e rm_X6_back s m args below meth c 1 D dA ad R A (QI D dA ad R A below args s K) F 0 [(0, .ref (ad 0))] []
  refine r_aload_n (pc := 0) X 0 dX6_back_0 rfl rfl ?_
  refine fg_X6_51 (pc := 1) X hT.1 dX6_back_1 ?_
  refine r_aload_n (pc := 4) X 0 dX6_back_4 rfl rfl ?_
  refine fg_X6_31 (pc := 5) X hT.1 dX6_back_5 ?_
  refine r_callIV (pc := 8) (As := [.ref (ad 16)]) (st := []) X hA (c_X5_takeInto hT.2.2.2.2.2.2.2.1 hT.2.2.2.2.1 h) g_X6_192 cl_X5 hT.2.2.2.2.2.2.2.1.1 hd_X5_takeInto rfl rfl rfl ⟨Nat.le_of_ble_eq_true rfl, Nat.le_of_ble_eq_true rfl⟩ rfl (Nat.le_of_ble_eq_true rfl) dX6_back_8 (fun x1 F1 h => ?_)
  refine r_if_ne (pc := 11) (tgt := 17) X dX6_back_11 (by decide) (fun hc => ?_) (fun hc => ?_)
  · replace h := h.1 hc
    refine r_aload_n (pc := 17) X 0 dX6_back_17 rfl rfl ?_
    refine fg_X6_47 (pc := 18) X hT.1 dX6_back_18 ?_
    refine r_callVV (pc := 21) (As := []) (st := []) X hA (c_X5_clear hT.2.2.2.2.2.2.1 h) g_X6_105 cl_X5 hT.2.2.2.2.2.2.1.1 hd_X5_clear rfl rfl rfl ⟨Nat.le_of_ble_eq_true rfl, Nat.le_of_ble_eq_true rfl⟩ rfl (Nat.le_of_ble_eq_true rfl) dX6_back_21 (fun F2 h => ?_)
    refine r_aload_n (pc := 24) X 0 dX6_back_24 rfl rfl ?_
    refine fg_X6_51 (pc := 25) X hT.1 dX6_back_25 ?_
    refine r_callIV (pc := 28) (As := []) (st := []) X hA (c_X5_size hT.2.2.2.2.2.2.2.1 h) g_X6_196 cl_X5 hT.2.2.2.2.2.2.2.1.1 hd_X5_size rfl rfl rfl ⟨Nat.le_of_ble_eq_true rfl, Nat.le_of_ble_eq_true rfl⟩ rfl (Nat.le_of_ble_eq_true rfl) dX6_back_28 (fun x2 F3 h => ?_)
    exact r_iret (pc := 31) X hr dX6_back_31 h
  · replace h := h.2 hc
    refine r_bipush (pc := 14) (v := (-2 : Int32)) X dX6_back_14 (by decide) ?_
    exact r_iret (pc := 16) X hr dX6_back_16 h
theorem dX6_count_0 : decode cX6_count 0 = .ok (.iload_n 1, 1) := by decide +kernel
theorem dX6_count_1 : decode cX6_count 1 = .ok (.tableswitch 158 0 10 #[59, 67, 78, 89, 97, 105, 113, 129, 134, 142, 150], 59) := by decide +kernel
theorem dX6_count_60 : decode cX6_count 60 = .ok (.aload_n 0, 1) := by decide +kernel
theorem dX6_count_61 : decode cX6_count 61 = .ok (.getfield 19, 3) := by decide +kernel
theorem dX6_count_64 : decode cX6_count 64 = .ok (.invokevirtual 96, 3) := by decide +kernel
theorem dX6_count_67 : decode cX6_count 67 = .ok (.ireturn, 1) := by decide +kernel
theorem dX6_count_68 : decode cX6_count 68 = .ok (.aload_n 0, 1) := by decide +kernel
theorem dX6_count_69 : decode cX6_count 69 = .ok (.getfield 31, 3) := by decide +kernel
theorem dX6_count_72 : decode cX6_count 72 = .ok (.invokevirtual 123, 3) := by decide +kernel
theorem dX6_count_75 : decode cX6_count 75 = .ok (.invokevirtual 136, 3) := by decide +kernel
theorem dX6_count_78 : decode cX6_count 78 = .ok (.ireturn, 1) := by decide +kernel
theorem dX6_count_79 : decode cX6_count 79 = .ok (.aload_n 0, 1) := by decide +kernel
theorem dX6_count_80 : decode cX6_count 80 = .ok (.getfield 31, 3) := by decide +kernel
theorem dX6_count_83 : decode cX6_count 83 = .ok (.invokevirtual 123, 3) := by decide +kernel
theorem dX6_count_86 : decode cX6_count 86 = .ok (.invokevirtual 251, 3) := by decide +kernel
theorem dX6_count_89 : decode cX6_count 89 = .ok (.ireturn, 1) := by decide +kernel
theorem dX6_count_90 : decode cX6_count 90 = .ok (.aload_n 0, 1) := by decide +kernel
theorem dX6_count_91 : decode cX6_count 91 = .ok (.getfield 19, 3) := by decide +kernel
theorem dX6_count_94 : decode cX6_count 94 = .ok (.invokevirtual 177, 3) := by decide +kernel
theorem dX6_count_97 : decode cX6_count 97 = .ok (.ireturn, 1) := by decide +kernel
theorem dX6_count_98 : decode cX6_count 98 = .ok (.aload_n 0, 1) := by decide +kernel
theorem dX6_count_99 : decode cX6_count 99 = .ok (.getfield 31, 3) := by decide +kernel
theorem dX6_count_102 : decode cX6_count 102 = .ok (.invokevirtual 200, 3) := by decide +kernel
theorem dX6_count_105 : decode cX6_count 105 = .ok (.ireturn, 1) := by decide +kernel
theorem dX6_count_106 : decode cX6_count 106 = .ok (.aload_n 0, 1) := by decide +kernel
theorem dX6_count_107 : decode cX6_count 107 = .ok (.getfield 31, 3) := by decide +kernel
theorem dX6_count_110 : decode cX6_count 110 = .ok (.invokevirtual 254, 3) := by decide +kernel
theorem dX6_count_113 : decode cX6_count 113 = .ok (.ireturn, 1) := by decide +kernel
theorem dX6_count_114 : decode cX6_count 114 = .ok (.aload_n 0, 1) := by decide +kernel
theorem dX6_count_115 : decode cX6_count 115 = .ok (.getfield 31, 3) := by decide +kernel
theorem dX6_count_118 : decode cX6_count 118 = .ok (.invokevirtual 168, 3) := by decide +kernel
theorem dX6_count_121 : decode cX6_count 121 = .ok (.ifCond .eq 7, 3) := by decide +kernel
theorem dX6_count_124 : decode cX6_count 124 = .ok (.iconst 1, 1) := by decide +kernel
theorem dX6_count_125 : decode cX6_count 125 = .ok (.goto 4, 3) := by decide +kernel
theorem dX6_count_128 : decode cX6_count 128 = .ok (.iconst 0, 1) := by decide +kernel
theorem dX6_count_129 : decode cX6_count 129 = .ok (.ireturn, 1) := by decide +kernel
theorem dX6_count_130 : decode cX6_count 130 = .ok (.aload_n 0, 1) := by decide +kernel
theorem dX6_count_131 : decode cX6_count 131 = .ok (.getfield 68, 3) := by decide +kernel
theorem dX6_count_134 : decode cX6_count 134 = .ok (.ireturn, 1) := by decide +kernel
theorem dX6_count_135 : decode cX6_count 135 = .ok (.aload_n 0, 1) := by decide +kernel
theorem dX6_count_136 : decode cX6_count 136 = .ok (.getfield 47, 3) := by decide +kernel
theorem dX6_count_139 : decode cX6_count 139 = .ok (.invokevirtual 196, 3) := by decide +kernel
theorem dX6_count_142 : decode cX6_count 142 = .ok (.ireturn, 1) := by decide +kernel
theorem dX6_count_143 : decode cX6_count 143 = .ok (.aload_n 0, 1) := by decide +kernel
theorem dX6_count_144 : decode cX6_count 144 = .ok (.getfield 51, 3) := by decide +kernel
theorem dX6_count_147 : decode cX6_count 147 = .ok (.invokevirtual 196, 3) := by decide +kernel
theorem dX6_count_150 : decode cX6_count 150 = .ok (.ireturn, 1) := by decide +kernel
theorem dX6_count_151 : decode cX6_count 151 = .ok (.aload_n 0, 1) := by decide +kernel
theorem dX6_count_152 : decode cX6_count 152 = .ok (.getfield 10, 3) := by decide +kernel
theorem dX6_count_155 : decode cX6_count 155 = .ok (.invokevirtual 95, 3) := by decide +kernel
theorem dX6_count_158 : decode cX6_count 158 = .ok (.ireturn, 1) := by decide +kernel
theorem dX6_count_159 : decode cX6_count 159 = .ok (.iconst (-1), 1) := by decide +kernel
theorem dX6_count_160 : decode cX6_count 160 = .ok (.ireturn, 1) := by decide +kernel
theorem hd_X6_count : yX6_count.cls = RX6 ∧ yX6_count.cls ≠ "java/lang/invoke/MethodHandle" ∧ yX6_count.cls ≠ "java/lang/invoke/VarHandle" ∧ (parseMethodDescriptor yX6_count.desc).map (fun d => d.parameters.length) = some 1 := by decide +kernel
abbrev rm_X6_count : Room := { frames := 3, cells := 0, slots := 0, locals := 64 }
def wp_X6_count (K : Int32 → HF → Prop) (F : HF) (a1 : Int32) : Prop := (((a1 = (nI 0)) → (wp_X1_birds (fun x1 F1 => K x1 F1) F 4))) ∧ (((a1 = (nI 1)) → (wp_X0_size (fun x2 F2 => K x2 F2) F 17))) ∧ (((a1 = (nI 2)) → (wp_X0_placesSpanned (fun x3 F3 => K x3 F3) F 17))) ∧ (((a1 = (nI 3)) → (wp_X1_width (fun x4 F4 => K x4 F4) F 4))) ∧ (((a1 = (nI 4)) → (wp_X2_minute (fun x5 F5 => K x5 F5) F 16))) ∧ (((a1 = (nI 5)) → (wp_X2_yearNow (fun x6 F6 => K x6 F6) F 16))) ∧ (((a1 = (nI 6)) → (wp_X2_isBroken (fun x7 F7 => ((x7 = (nI 0)) → (K (nI 0) F7)) ∧ ((¬ x7 = (nI 0)) → (K (nI 1) F7))) F 16))) ∧ (((a1 = (nI 7)) → (K (F 0 10) F))) ∧ (((a1 = (nI 8)) → (wp_X5_size (fun x8 F8 => K x8 F8) F 25 8))) ∧ (((a1 = (nI 9)) → (wp_X5_size (fun x9 F9 => K x9 F9) F 67 2))) ∧ (((a1 = (nI 10)) → (wp_X3_length (fun x10 F10 => K x10 F10) F ))) ∧ ((¬ a1 = (nI 0)) → (¬ a1 = (nI 1)) → (¬ a1 = (nI 2)) → (¬ a1 = (nI 3)) → (¬ a1 = (nI 4)) → (¬ a1 = (nI 5)) → (¬ a1 = (nI 6)) → (¬ a1 = (nI 7)) → (¬ a1 = (nI 8)) → (¬ a1 = (nI 9)) → (¬ a1 = (nI 10)) → (K (-1 : Int32) F))
set_option maxRecDepth 100000 in
set_option maxHeartbeats 4000000 in
theorem c_X6_count {l : Launch} {D : va_G} {dA : Nat → ClassId} {ad : Nat → Nat} {R : List Nat} {F : HF} {a1 : Int32} {K : Int32 → HF → Prop} (hT : BBr R) (h : wp_X6_count K F a1) : MI l yX6_count cX6_count 2 .int rm_X6_count D dA ad R F [.ref (ad 0), .int a1] K := by
  refine MI.of (own := RX6) (by decide) rfl (Nat.le_of_ble_eq_true rfl) ?_
  intro p e s m args below meth c A hA X hr
  unfold wp_X6_count at h
  show J p l e rm_X6_count s m args below meth c 2 D dA ad R A (QI D dA ad R A below args s K) F 0 [(0, .ref (ad 0)), (1, .int a1)] []
  refine r_iload_n (pc := 0) X 1 dX6_count_0 rfl rfl ?_
  by_cases hc0 : a1 = (nI 0)
  · replace h := h.1 hc0
    refine r_tableIn (pc := 1) (off := 59) (tgt := 60) X dX6_count_1 (by rw [hc0]; decide) (by rw [hc0]; decide) (by rw [hc0]; decide) (by decide) ?_
    refine r_aload_n (pc := 60) X 0 dX6_count_60 rfl rfl ?_
    refine fg_X6_19 (pc := 61) X hT.1 dX6_count_61 ?_
    refine r_callIV (pc := 64) (As := []) (st := []) X hA (c_X1_birds hT.2.2.1 h) g_X6_96 cl_X1 hT.2.2.1.1 hd_X1_birds rfl rfl rfl ⟨Nat.le_of_ble_eq_true rfl, Nat.le_of_ble_eq_true rfl⟩ rfl (Nat.le_of_ble_eq_true rfl) dX6_count_64 (fun x1 F1 h => ?_)
    exact r_iret (pc := 67) X hr dX6_count_67 h
  · replace h := h.2
    by_cases hc1 : a1 = (nI 1)
    · replace h := h.1 hc1
      refine r_tableIn (pc := 1) (off := 67) (tgt := 68) X dX6_count_1 (by rw [hc1]; decide) (by rw [hc1]; decide) (by rw [hc1]; decide) (by decide) ?_
      refine r_aload_n (pc := 68) X 0 dX6_count_68 rfl rfl ?_
      refine fg_X6_31 (pc := 69) X hT.1 dX6_count_69 ?_
      refine r_bridge_X6 (pc := 72) (t1 := 17) X hA rfl hT.2.2.2.2.1 (Nat.le_of_ble_eq_true rfl) (Nat.le_of_ble_eq_true rfl) (Nat.le_of_ble_eq_true rfl) dX6_count_72 ?_
      refine r_callIV (pc := 75) (As := []) (st := []) X hA (c_X0_size hT.2.2.2.2.1.2 h) g_X6_136 cl_X0 hT.2.2.2.2.1.2.1 hd_X0_size rfl rfl rfl ⟨Nat.le_of_ble_eq_true rfl, Nat.le_of_ble_eq_true rfl⟩ rfl (Nat.le_of_ble_eq_true rfl) dX6_count_75 (fun x2 F2 h => ?_)
      exact r_iret (pc := 78) X hr dX6_count_78 h
    · replace h := h.2
      by_cases hc2 : a1 = (nI 2)
      · replace h := h.1 hc2
        refine r_tableIn (pc := 1) (off := 78) (tgt := 79) X dX6_count_1 (by rw [hc2]; decide) (by rw [hc2]; decide) (by rw [hc2]; decide) (by decide) ?_
        refine r_aload_n (pc := 79) X 0 dX6_count_79 rfl rfl ?_
        refine fg_X6_31 (pc := 80) X hT.1 dX6_count_80 ?_
        refine r_bridge_X6 (pc := 83) (t1 := 17) X hA rfl hT.2.2.2.2.1 (Nat.le_of_ble_eq_true rfl) (Nat.le_of_ble_eq_true rfl) (Nat.le_of_ble_eq_true rfl) dX6_count_83 ?_
        refine r_callIV (pc := 86) (As := []) (st := []) X hA (c_X0_placesSpanned hT.2.2.2.2.1.2 h) g_X6_251 cl_X0 hT.2.2.2.2.1.2.1 hd_X0_placesSpanned rfl rfl rfl ⟨Nat.le_of_ble_eq_true rfl, Nat.le_of_ble_eq_true rfl⟩ rfl (Nat.le_of_ble_eq_true rfl) dX6_count_86 (fun x3 F3 h => ?_)
        exact r_iret (pc := 89) X hr dX6_count_89 h
      · replace h := h.2
        by_cases hc3 : a1 = (nI 3)
        · replace h := h.1 hc3
          refine r_tableIn (pc := 1) (off := 89) (tgt := 90) X dX6_count_1 (by rw [hc3]; decide) (by rw [hc3]; decide) (by rw [hc3]; decide) (by decide) ?_
          refine r_aload_n (pc := 90) X 0 dX6_count_90 rfl rfl ?_
          refine fg_X6_19 (pc := 91) X hT.1 dX6_count_91 ?_
          refine r_callIV (pc := 94) (As := []) (st := []) X hA (c_X1_width hT.2.2.1 h) g_X6_177 cl_X1 hT.2.2.1.1 hd_X1_width rfl rfl rfl ⟨Nat.le_of_ble_eq_true rfl, Nat.le_of_ble_eq_true rfl⟩ rfl (Nat.le_of_ble_eq_true rfl) dX6_count_94 (fun x4 F4 h => ?_)
          exact r_iret (pc := 97) X hr dX6_count_97 h
        · replace h := h.2
          by_cases hc4 : a1 = (nI 4)
          · replace h := h.1 hc4
            refine r_tableIn (pc := 1) (off := 97) (tgt := 98) X dX6_count_1 (by rw [hc4]; decide) (by rw [hc4]; decide) (by rw [hc4]; decide) (by decide) ?_
            refine r_aload_n (pc := 98) X 0 dX6_count_98 rfl rfl ?_
            refine fg_X6_31 (pc := 99) X hT.1 dX6_count_99 ?_
            refine r_callIV (pc := 102) (As := []) (st := []) X hA (c_X2_minute hT.2.2.2.2.1 h) g_X6_200 cl_X2 hT.2.2.2.2.1.1 hd_X2_minute rfl rfl rfl ⟨Nat.le_of_ble_eq_true rfl, Nat.le_of_ble_eq_true rfl⟩ rfl (Nat.le_of_ble_eq_true rfl) dX6_count_102 (fun x5 F5 h => ?_)
            exact r_iret (pc := 105) X hr dX6_count_105 h
          · replace h := h.2
            by_cases hc5 : a1 = (nI 5)
            · replace h := h.1 hc5
              refine r_tableIn (pc := 1) (off := 105) (tgt := 106) X dX6_count_1 (by rw [hc5]; decide) (by rw [hc5]; decide) (by rw [hc5]; decide) (by decide) ?_
              refine r_aload_n (pc := 106) X 0 dX6_count_106 rfl rfl ?_
              refine fg_X6_31 (pc := 107) X hT.1 dX6_count_107 ?_
              refine r_callIV (pc := 110) (As := []) (st := []) X hA (c_X2_yearNow hT.2.2.2.2.1 h) g_X6_254 cl_X2 hT.2.2.2.2.1.1 hd_X2_yearNow rfl rfl rfl ⟨Nat.le_of_ble_eq_true rfl, Nat.le_of_ble_eq_true rfl⟩ rfl (Nat.le_of_ble_eq_true rfl) dX6_count_110 (fun x6 F6 h => ?_)
              exact r_iret (pc := 113) X hr dX6_count_113 h
            · replace h := h.2
              by_cases hc6 : a1 = (nI 6)
              · replace h := h.1 hc6
                refine r_tableIn (pc := 1) (off := 113) (tgt := 114) X dX6_count_1 (by rw [hc6]; decide) (by rw [hc6]; decide) (by rw [hc6]; decide) (by decide) ?_
                refine r_aload_n (pc := 114) X 0 dX6_count_114 rfl rfl ?_
                refine fg_X6_31 (pc := 115) X hT.1 dX6_count_115 ?_
                refine r_callIV (pc := 118) (As := []) (st := []) X hA (c_X2_isBroken hT.2.2.2.2.1 h) g_X6_168 cl_X2 hT.2.2.2.2.1.1 hd_X2_isBroken rfl rfl rfl ⟨Nat.le_of_ble_eq_true rfl, Nat.le_of_ble_eq_true rfl⟩ rfl (Nat.le_of_ble_eq_true rfl) dX6_count_118 (fun x7 F7 h => ?_)
                refine r_if_eq (pc := 121) (tgt := 128) X dX6_count_121 (by decide) (fun hc => ?_) (fun hc => ?_)
                · replace h := h.1 hc
                  refine r_iconst (pc := 128) (v := (nI 0)) X dX6_count_128 (by decide) ?_
                  exact r_iret (pc := 129) X hr dX6_count_129 h
                · replace h := h.2 hc
                  refine r_iconst (pc := 124) (v := (nI 1)) X dX6_count_124 (by decide) ?_
                  refine r_goto (pc := 125) (tgt := 129) X dX6_count_125 (by decide) ?_
                  exact r_iret (pc := 129) X hr dX6_count_129 h
              · replace h := h.2
                by_cases hc7 : a1 = (nI 7)
                · replace h := h.1 hc7
                  refine r_tableIn (pc := 1) (off := 129) (tgt := 130) X dX6_count_1 (by rw [hc7]; decide) (by rw [hc7]; decide) (by rw [hc7]; decide) (by decide) ?_
                  refine r_aload_n (pc := 130) X 0 dX6_count_130 rfl rfl ?_
                  refine fg_X6_68 (pc := 131) X hT.1 dX6_count_131 ?_
                  exact r_iret (pc := 134) X hr dX6_count_134 h
                · replace h := h.2
                  by_cases hc8 : a1 = (nI 8)
                  · replace h := h.1 hc8
                    refine r_tableIn (pc := 1) (off := 134) (tgt := 135) X dX6_count_1 (by rw [hc8]; decide) (by rw [hc8]; decide) (by rw [hc8]; decide) (by decide) ?_
                    refine r_aload_n (pc := 135) X 0 dX6_count_135 rfl rfl ?_
                    refine fg_X6_47 (pc := 136) X hT.1 dX6_count_136 ?_
                    refine r_callIV (pc := 139) (As := []) (st := []) X hA (c_X5_size hT.2.2.2.2.2.2.1 h) g_X6_196 cl_X5 hT.2.2.2.2.2.2.1.1 hd_X5_size rfl rfl rfl ⟨Nat.le_of_ble_eq_true rfl, Nat.le_of_ble_eq_true rfl⟩ rfl (Nat.le_of_ble_eq_true rfl) dX6_count_139 (fun x8 F8 h => ?_)
                    exact r_iret (pc := 142) X hr dX6_count_142 h
                  · replace h := h.2
                    by_cases hc9 : a1 = (nI 9)
                    · replace h := h.1 hc9
                      refine r_tableIn (pc := 1) (off := 142) (tgt := 143) X dX6_count_1 (by rw [hc9]; decide) (by rw [hc9]; decide) (by rw [hc9]; decide) (by decide) ?_
                      refine r_aload_n (pc := 143) X 0 dX6_count_143 rfl rfl ?_
                      refine fg_X6_51 (pc := 144) X hT.1 dX6_count_144 ?_
                      refine r_callIV (pc := 147) (As := []) (st := []) X hA (c_X5_size hT.2.2.2.2.2.2.2.1 h) g_X6_196 cl_X5 hT.2.2.2.2.2.2.2.1.1 hd_X5_size rfl rfl rfl ⟨Nat.le_of_ble_eq_true rfl, Nat.le_of_ble_eq_true rfl⟩ rfl (Nat.le_of_ble_eq_true rfl) dX6_count_147 (fun x9 F9 h => ?_)
                      exact r_iret (pc := 150) X hr dX6_count_150 h
                    · replace h := h.2
                      by_cases hc10 : a1 = (nI 10)
                      · replace h := h.1 hc10
                        refine r_tableIn (pc := 1) (off := 150) (tgt := 151) X dX6_count_1 (by rw [hc10]; decide) (by rw [hc10]; decide) (by rw [hc10]; decide) (by decide) ?_
                        refine r_aload_n (pc := 151) X 0 dX6_count_151 rfl rfl ?_
                        refine fg_X6_10 (pc := 152) X hT.1 dX6_count_152 ?_
                        refine r_callIV (pc := 155) (As := []) (st := []) X hA (c_X3_length hT.2.1 h) g_X6_95 cl_X3 hT.2.1.1 hd_X3_length rfl rfl rfl ⟨Nat.le_of_ble_eq_true rfl, Nat.le_of_ble_eq_true rfl⟩ rfl (Nat.le_of_ble_eq_true rfl) dX6_count_155 (fun x10 F10 h => ?_)
                        exact r_iret (pc := 158) X hr dX6_count_158 h
                      · replace h := h.2
                        replace h := h hc0 hc1 hc2 hc3 hc4 hc5 hc6 hc7 hc8 hc9 hc10
                        refine r_tableOut (pc := 1) (tgt := 159) X dX6_count_1 (sw_out (x := a1) 10 (by decide) (fun k hk => by rcases (show k = 0 ∨ k = 1 ∨ k = 2 ∨ k = 3 ∨ k = 4 ∨ k = 5 ∨ k = 6 ∨ k = 7 ∨ k = 8 ∨ k = 9 ∨ k = 10 by omega) with rfl | rfl | rfl | rfl | rfl | rfl | rfl | rfl | rfl | rfl | rfl <;> first | exact hc0 | exact hc1 | exact hc2 | exact hc3 | exact hc4 | exact hc5 | exact hc6 | exact hc7 | exact hc8 | exact hc9 | exact hc10)) (by decide) ?_
                        refine r_iconst (pc := 159) (v := (-1 : Int32)) X dX6_count_159 (by decide) ?_
                        exact r_iret (pc := 160) X hr dX6_count_160 h
