theorem dX7_bird_0 : decode cX7_bird 0 = .ok (.aload_n 0, 1) := by decide +kernel
theorem dX7_bird_1 : decode cX7_bird 1 = .ok (.iload_n 1, 1) := by decide +kernel
theorem dX7_bird_2 : decode cX7_bird 2 = .ok (.invokevirtual 133, 3) := by decide +kernel
theorem dX7_bird_5 : decode cX7_bird 5 = .ok (.ifCond .ne 5, 3) := by decide +kernel
theorem dX7_bird_8 : decode cX7_bird 8 = .ok (.iconst (-1), 1) := by decide +kernel
theorem dX7_bird_9 : decode cX7_bird 9 = .ok (.ireturn, 1) := by decide +kernel
theorem dX7_bird_10 : decode cX7_bird 10 = .ok (.iload_n 2, 1) := by decide +kernel
theorem dX7_bird_11 : decode cX7_bird 11 = .ok (.tableswitch 64 0 5 #[37, 37, 37, 37, 48, 58], 37) := by decide +kernel
theorem dX7_bird_48 : decode cX7_bird 48 = .ok (.aload_n 0, 1) := by decide +kernel
theorem dX7_bird_49 : decode cX7_bird 49 = .ok (.getfield 26, 3) := by decide +kernel
theorem dX7_bird_52 : decode cX7_bird 52 = .ok (.iconst 4, 1) := by decide +kernel
theorem dX7_bird_53 : decode cX7_bird 53 = .ok (.iload_n 1, 1) := by decide +kernel
theorem dX7_bird_54 : decode cX7_bird 54 = .ok (.imul, 1) := by decide +kernel
theorem dX7_bird_55 : decode cX7_bird 55 = .ok (.iload_n 2, 1) := by decide +kernel
theorem dX7_bird_56 : decode cX7_bird 56 = .ok (.iadd, 1) := by decide +kernel
theorem dX7_bird_57 : decode cX7_bird 57 = .ok (.iaload, 1) := by decide +kernel
theorem dX7_bird_58 : decode cX7_bird 58 = .ok (.ireturn, 1) := by decide +kernel
theorem dX7_bird_59 : decode cX7_bird 59 = .ok (.aload_n 0, 1) := by decide +kernel
theorem dX7_bird_60 : decode cX7_bird 60 = .ok (.getfield 44, 3) := by decide +kernel
theorem dX7_bird_63 : decode cX7_bird 63 = .ok (.bipush 13, 2) := by decide +kernel
theorem dX7_bird_65 : decode cX7_bird 65 = .ok (.iload_n 1, 1) := by decide +kernel
theorem dX7_bird_66 : decode cX7_bird 66 = .ok (.iadd, 1) := by decide +kernel
theorem dX7_bird_67 : decode cX7_bird 67 = .ok (.iaload, 1) := by decide +kernel
theorem dX7_bird_68 : decode cX7_bird 68 = .ok (.ireturn, 1) := by decide +kernel
theorem dX7_bird_69 : decode cX7_bird 69 = .ok (.aload_n 0, 1) := by decide +kernel
theorem dX7_bird_70 : decode cX7_bird 70 = .ok (.iload_n 1, 1) := by decide +kernel
theorem dX7_bird_71 : decode cX7_bird 71 = .ok (.invokevirtual 136, 3) := by decide +kernel
theorem dX7_bird_74 : decode cX7_bird 74 = .ok (.ireturn, 1) := by decide +kernel
theorem dX7_bird_75 : decode cX7_bird 75 = .ok (.iconst (-1), 1) := by decide +kernel
theorem dX7_bird_76 : decode cX7_bird 76 = .ok (.ireturn, 1) := by decide +kernel
theorem hd_X7_bird : yX7_bird.cls = RX7 ∧ yX7_bird.cls ≠ "java/lang/invoke/MethodHandle" ∧ yX7_bird.cls ≠ "java/lang/invoke/VarHandle" ∧ (parseMethodDescriptor yX7_bird.desc).map (fun d => d.parameters.length) = some 2 := by decide +kernel
abbrev rm_X7_bird : Room := { frames := 2, cells := 0, slots := 0, locals := 43 }
def wp_X7_bird (K : Int32 → HF → Prop) (F : HF) (a1 : Int32) (a2 : Int32) : Prop := wp_X7_isBird (fun x1 F1 => ((¬ x1 = (nI 0)) → ((((a2 = (nI 0)) → ((vp_in (((nI 4) * a1) + a2) 32) ∧ (K (F1 114 (((nI 4) * a1) + a2).toNatClampNeg) F1)))) ∧ (((a2 = (nI 1)) → ((vp_in (((nI 4) * a1) + a2) 32) ∧ (K (F1 114 (((nI 4) * a1) + a2).toNatClampNeg) F1)))) ∧ (((a2 = (nI 2)) → ((vp_in (((nI 4) * a1) + a2) 32) ∧ (K (F1 114 (((nI 4) * a1) + a2).toNatClampNeg) F1)))) ∧ (((a2 = (nI 3)) → ((vp_in (((nI 4) * a1) + a2) 32) ∧ (K (F1 114 (((nI 4) * a1) + a2).toNatClampNeg) F1)))) ∧ (((a2 = (nI 4)) → ((vp_in ((nI 13) + a1) 21) ∧ (K (F1 120 ((nI 13) + a1).toNatClampNeg) F1)))) ∧ (((a2 = (nI 5)) → (wp_X7_placeIn (fun x2 F2 => K x2 F2) F1 a1))) ∧ ((¬ a2 = (nI 0)) → (¬ a2 = (nI 1)) → (¬ a2 = (nI 2)) → (¬ a2 = (nI 3)) → (¬ a2 = (nI 4)) → (¬ a2 = (nI 5)) → (K (-1 : Int32) F1)))) ∧ ((x1 = (nI 0)) → (K (-1 : Int32) F1))) F a1
set_option maxRecDepth 100000 in
set_option maxHeartbeats 4000000 in
theorem c_X7_bird {l : Launch} {D : va_G} {dA : Nat → ClassId} {ad : Nat → Nat} {R : List Nat} {F : HF} {a1 : Int32} {a2 : Int32} {K : Int32 → HF → Prop} (hT : Md R) (h : wp_X7_bird K F a1 a2) : MI l yX7_bird cX7_bird 3 .int rm_X7_bird D dA ad R F [.ref (ad 100), .int a1, .int a2] K := by
  refine MI.of (own := RX7) (by decide) rfl (Nat.le_of_ble_eq_true rfl) ?_
  intro p e s m args below meth c A hA X hr
  unfold wp_X7_bird at h
  show J p l e rm_X7_bird s m args below meth c 3 D dA ad R A (QI D dA ad R A below args s K) F 0 [(0, .ref (ad 100)), (1, .int a1), (2, .int a2)] []
  refine r_aload_n (pc := 0) X 0 dX7_bird_0 rfl rfl ?_
  refine r_iload_n (pc := 1) X 1 dX7_bird_1 rfl rfl ?_
  refine r_callIV (pc := 2) (As := [.int a1]) (st := []) X hA (c_X7_isBird hT h) g_X7_133 cl_X7 hT.1 hd_X7_isBird rfl rfl rfl ⟨Nat.le_of_ble_eq_true rfl, Nat.le_of_ble_eq_true rfl⟩ rfl (Nat.le_of_ble_eq_true rfl) dX7_bird_2 (fun x1 F1 h => ?_)
  refine r_if_ne (pc := 5) (tgt := 10) X dX7_bird_5 (by decide) (fun hc => ?_) (fun hc => ?_)
  · replace h := h.1 hc
    refine r_iload_n (pc := 10) X 2 dX7_bird_10 rfl rfl ?_
    by_cases hc0 : a2 = (nI 0)
    · replace h := h.1 hc0
      refine r_tableIn (pc := 11) (off := 37) (tgt := 48) X dX7_bird_11 (by rw [hc0]; decide) (by rw [hc0]; decide) (by rw [hc0]; decide) (by decide) ?_
      refine r_aload_n (pc := 48) X 0 dX7_bird_48 rfl rfl ?_
      refine fg_X7_26 (pc := 49) X hT.1 dX7_bird_49 ?_
      refine r_iconst (pc := 52) (v := (nI 4)) X dX7_bird_52 (by decide) ?_
      refine r_iload_n (pc := 53) X 1 dX7_bird_53 rfl rfl ?_
      refine r_imul (pc := 54) X dX7_bird_54 ?_
      refine r_iload_n (pc := 55) X 2 dX7_bird_55 rfl rfl ?_
      refine r_iadd (pc := 56) X dX7_bird_56 ?_
      refine r_iald (pc := 57) X hT.2.2.2.2.2.1 h.1 dX7_bird_57 ?_
      replace h := h.2
      exact r_iret (pc := 58) X hr dX7_bird_58 h
    · replace h := h.2
      by_cases hc1 : a2 = (nI 1)
      · replace h := h.1 hc1
        refine r_tableIn (pc := 11) (off := 37) (tgt := 48) X dX7_bird_11 (by rw [hc1]; decide) (by rw [hc1]; decide) (by rw [hc1]; decide) (by decide) ?_
        refine r_aload_n (pc := 48) X 0 dX7_bird_48 rfl rfl ?_
        refine fg_X7_26 (pc := 49) X hT.1 dX7_bird_49 ?_
        refine r_iconst (pc := 52) (v := (nI 4)) X dX7_bird_52 (by decide) ?_
        refine r_iload_n (pc := 53) X 1 dX7_bird_53 rfl rfl ?_
        refine r_imul (pc := 54) X dX7_bird_54 ?_
        refine r_iload_n (pc := 55) X 2 dX7_bird_55 rfl rfl ?_
        refine r_iadd (pc := 56) X dX7_bird_56 ?_
        refine r_iald (pc := 57) X hT.2.2.2.2.2.1 h.1 dX7_bird_57 ?_
        replace h := h.2
        exact r_iret (pc := 58) X hr dX7_bird_58 h
      · replace h := h.2
        by_cases hc2 : a2 = (nI 2)
        · replace h := h.1 hc2
          refine r_tableIn (pc := 11) (off := 37) (tgt := 48) X dX7_bird_11 (by rw [hc2]; decide) (by rw [hc2]; decide) (by rw [hc2]; decide) (by decide) ?_
          refine r_aload_n (pc := 48) X 0 dX7_bird_48 rfl rfl ?_
          refine fg_X7_26 (pc := 49) X hT.1 dX7_bird_49 ?_
          refine r_iconst (pc := 52) (v := (nI 4)) X dX7_bird_52 (by decide) ?_
          refine r_iload_n (pc := 53) X 1 dX7_bird_53 rfl rfl ?_
          refine r_imul (pc := 54) X dX7_bird_54 ?_
          refine r_iload_n (pc := 55) X 2 dX7_bird_55 rfl rfl ?_
          refine r_iadd (pc := 56) X dX7_bird_56 ?_
          refine r_iald (pc := 57) X hT.2.2.2.2.2.1 h.1 dX7_bird_57 ?_
          replace h := h.2
          exact r_iret (pc := 58) X hr dX7_bird_58 h
        · replace h := h.2
          by_cases hc3 : a2 = (nI 3)
          · replace h := h.1 hc3
            refine r_tableIn (pc := 11) (off := 37) (tgt := 48) X dX7_bird_11 (by rw [hc3]; decide) (by rw [hc3]; decide) (by rw [hc3]; decide) (by decide) ?_
            refine r_aload_n (pc := 48) X 0 dX7_bird_48 rfl rfl ?_
            refine fg_X7_26 (pc := 49) X hT.1 dX7_bird_49 ?_
            refine r_iconst (pc := 52) (v := (nI 4)) X dX7_bird_52 (by decide) ?_
            refine r_iload_n (pc := 53) X 1 dX7_bird_53 rfl rfl ?_
            refine r_imul (pc := 54) X dX7_bird_54 ?_
            refine r_iload_n (pc := 55) X 2 dX7_bird_55 rfl rfl ?_
            refine r_iadd (pc := 56) X dX7_bird_56 ?_
            refine r_iald (pc := 57) X hT.2.2.2.2.2.1 h.1 dX7_bird_57 ?_
            replace h := h.2
            exact r_iret (pc := 58) X hr dX7_bird_58 h
          · replace h := h.2
            by_cases hc4 : a2 = (nI 4)
            · replace h := h.1 hc4
              refine r_tableIn (pc := 11) (off := 48) (tgt := 59) X dX7_bird_11 (by rw [hc4]; decide) (by rw [hc4]; decide) (by rw [hc4]; decide) (by decide) ?_
              refine r_aload_n (pc := 59) X 0 dX7_bird_59 rfl rfl ?_
              refine fg_X7_44 (pc := 60) X hT.1 dX7_bird_60 ?_
              refine r_bipush (pc := 63) (v := (nI 13)) X dX7_bird_63 (by decide) ?_
              refine r_iload_n (pc := 65) X 1 dX7_bird_65 rfl rfl ?_
              refine r_iadd (pc := 66) X dX7_bird_66 ?_
              refine r_iald (pc := 67) X hT.2.2.2.2.2.2.2.1 h.1 dX7_bird_67 ?_
              replace h := h.2
              exact r_iret (pc := 68) X hr dX7_bird_68 h
            · replace h := h.2
              by_cases hc5 : a2 = (nI 5)
              · replace h := h.1 hc5
                refine r_tableIn (pc := 11) (off := 58) (tgt := 69) X dX7_bird_11 (by rw [hc5]; decide) (by rw [hc5]; decide) (by rw [hc5]; decide) (by decide) ?_
                refine r_aload_n (pc := 69) X 0 dX7_bird_69 rfl rfl ?_
                refine r_iload_n (pc := 70) X 1 dX7_bird_70 rfl rfl ?_
                refine r_callIV (pc := 71) (As := [.int a1]) (st := []) X hA (c_X7_placeIn hT h) g_X7_136 cl_X7 hT.1 hd_X7_placeIn rfl rfl rfl ⟨Nat.le_of_ble_eq_true rfl, Nat.le_of_ble_eq_true rfl⟩ rfl (Nat.le_of_ble_eq_true rfl) dX7_bird_71 (fun x2 F2 h => ?_)
                exact r_iret (pc := 74) X hr dX7_bird_74 h
              · replace h := h.2
                replace h := h hc0 hc1 hc2 hc3 hc4 hc5
                refine r_tableOut (pc := 11) (tgt := 75) X dX7_bird_11 (sw_out (x := a2) 5 (by decide) (fun k hk => by rcases (show k = 0 ∨ k = 1 ∨ k = 2 ∨ k = 3 ∨ k = 4 ∨ k = 5 by omega) with rfl | rfl | rfl | rfl | rfl | rfl <;> first | exact hc0 | exact hc1 | exact hc2 | exact hc3 | exact hc4 | exact hc5)) (by decide) ?_
                refine r_iconst (pc := 75) (v := (-1 : Int32)) X dX7_bird_75 (by decide) ?_
                exact r_iret (pc := 76) X hr dX7_bird_76 h
  · replace h := h.2 hc
    refine r_iconst (pc := 8) (v := (-1 : Int32)) X dX7_bird_8 (by decide) ?_
    exact r_iret (pc := 9) X hr dX7_bird_9 h
theorem dX7_windIn_0 : decode cX7_windIn 0 = .ok (.aload_n 0, 1) := by decide +kernel
theorem dX7_windIn_1 : decode cX7_windIn 1 = .ok (.getfield 29, 3) := by decide +kernel
theorem dX7_windIn_4 : decode cX7_windIn 4 = .ok (.ifCond .ne 7, 3) := by decide +kernel
theorem dX7_windIn_7 : decode cX7_windIn 7 = .ok (.iconst 0, 1) := by decide +kernel
theorem dX7_windIn_8 : decode cX7_windIn 8 = .ok (.goto 14, 3) := by decide +kernel
theorem dX7_windIn_11 : decode cX7_windIn 11 = .ok (.aload_n 0, 1) := by decide +kernel
theorem dX7_windIn_12 : decode cX7_windIn 12 = .ok (.getfield 32, 3) := by decide +kernel
theorem dX7_windIn_15 : decode cX7_windIn 15 = .ok (.iload_n 1, 1) := by decide +kernel
theorem dX7_windIn_16 : decode cX7_windIn 16 = .ok (.aload_n 0, 1) := by decide +kernel
theorem dX7_windIn_17 : decode cX7_windIn 17 = .ok (.getfield 29, 3) := by decide +kernel
theorem dX7_windIn_20 : decode cX7_windIn 20 = .ok (.irem, 1) := by decide +kernel
theorem dX7_windIn_21 : decode cX7_windIn 21 = .ok (.iaload, 1) := by decide +kernel
theorem dX7_windIn_22 : decode cX7_windIn 22 = .ok (.ireturn, 1) := by decide +kernel
theorem hd_X7_windIn : yX7_windIn.cls = RX7 ∧ yX7_windIn.cls ≠ "java/lang/invoke/MethodHandle" ∧ yX7_windIn.cls ≠ "java/lang/invoke/VarHandle" ∧ (parseMethodDescriptor yX7_windIn.desc).map (fun d => d.parameters.length) = some 1 := by decide +kernel
abbrev rm_X7_windIn : Room := { frames := 0, cells := 0, slots := 0, locals := 0 }
def wp_X7_windIn (K : Int32 → HF → Prop) (F : HF) (a1 : Int32) : Prop := ((¬ (F 100 15) = (nI 0)) → ((¬ (F 100 15) = (nI 0)) ∧ ((vp_in (a1 - a1 / (F 100 15) * (F 100 15)) 8) ∧ (K (F 116 (a1 - a1 / (F 100 15) * (F 100 15)).toNatClampNeg) F)))) ∧ (((F 100 15) = (nI 0)) → (K (nI 0) F))
set_option maxRecDepth 100000 in
set_option maxHeartbeats 4000000 in
theorem c_X7_windIn {l : Launch} {D : va_G} {dA : Nat → ClassId} {ad : Nat → Nat} {R : List Nat} {F : HF} {a1 : Int32} {K : Int32 → HF → Prop} (hT : Md R) (h : wp_X7_windIn K F a1) : MI l yX7_windIn cX7_windIn 2 .int rm_X7_windIn D dA ad R F [.ref (ad 100), .int a1] K := by
  refine MI.of (own := RX7) (by decide) rfl (Nat.le_of_ble_eq_true rfl) ?_
  intro p e s m args below meth c A hA X hr
  unfold wp_X7_windIn at h
  show J p l e rm_X7_windIn s m args below meth c 2 D dA ad R A (QI D dA ad R A below args s K) F 0 [(0, .ref (ad 100)), (1, .int a1)] []
  refine r_aload_n (pc := 0) X 0 dX7_windIn_0 rfl rfl ?_
  refine fg_X7_29 (pc := 1) X hT.1 dX7_windIn_1 ?_
  refine r_if_ne (pc := 4) (tgt := 11) X dX7_windIn_4 (by decide) (fun hc => ?_) (fun hc => ?_)
  · replace h := h.1 hc
    refine r_aload_n (pc := 11) X 0 dX7_windIn_11 rfl rfl ?_
    refine fg_X7_32 (pc := 12) X hT.1 dX7_windIn_12 ?_
    refine r_iload_n (pc := 15) X 1 dX7_windIn_15 rfl rfl ?_
    refine r_aload_n (pc := 16) X 0 dX7_windIn_16 rfl rfl ?_
    refine fg_X7_29 (pc := 17) X hT.1 dX7_windIn_17 ?_
    refine r_irem (pc := 20) X dX7_windIn_20 h.1 ?_
    replace h := h.2
    refine r_iald (pc := 21) X hT.2.2.2.2.2.2.1 h.1 dX7_windIn_21 ?_
    replace h := h.2
    exact r_iret (pc := 22) X hr dX7_windIn_22 h
  · replace h := h.2 hc
    refine r_iconst (pc := 7) (v := (nI 0)) X dX7_windIn_7 (by decide) ?_
    refine r_goto (pc := 8) (tgt := 22) X dX7_windIn_8 (by decide) ?_
    exact r_iret (pc := 22) X hr dX7_windIn_22 h
theorem dX7_wind_0 : decode cX7_wind 0 = .ok (.iload_n 1, 1) := by decide +kernel
theorem dX7_wind_1 : decode cX7_wind 1 = .ok (.iconst 0, 1) := by decide +kernel
theorem dX7_wind_2 : decode cX7_wind 2 = .ok (.bipush 99, 2) := by decide +kernel
theorem dX7_wind_4 : decode cX7_wind 4 = .ok (.invokestatic 87, 3) := by decide +kernel
theorem dX7_wind_7 : decode cX7_wind 7 = .ok (.ifCond .eq 11, 3) := by decide +kernel
theorem dX7_wind_10 : decode cX7_wind 10 = .ok (.aload_n 0, 1) := by decide +kernel
theorem dX7_wind_11 : decode cX7_wind 11 = .ok (.iload_n 1, 1) := by decide +kernel
theorem dX7_wind_12 : decode cX7_wind 12 = .ok (.invokevirtual 139, 3) := by decide +kernel
theorem dX7_wind_15 : decode cX7_wind 15 = .ok (.goto 4, 3) := by decide +kernel
theorem dX7_wind_18 : decode cX7_wind 18 = .ok (.iconst (-1), 1) := by decide +kernel
theorem dX7_wind_19 : decode cX7_wind 19 = .ok (.ireturn, 1) := by decide +kernel
theorem hd_X7_wind : yX7_wind.cls = RX7 ∧ yX7_wind.cls ≠ "java/lang/invoke/MethodHandle" ∧ yX7_wind.cls ≠ "java/lang/invoke/VarHandle" ∧ (parseMethodDescriptor yX7_wind.desc).map (fun d => d.parameters.length) = some 1 := by decide +kernel
abbrev rm_X7_wind : Room := { frames := 1, cells := 0, slots := 0, locals := 22 }
def wp_X7_wind (K : Int32 → HF → Prop) (F : HF) (a1 : Int32) : Prop := wp_X7_in (fun x1 F1 => ((x1 = (nI 0)) → (K (-1 : Int32) F1)) ∧ ((¬ x1 = (nI 0)) → (wp_X7_windIn (fun x2 F2 => K x2 F2) F1 a1))) F a1 (nI 0) (nI 99)
set_option maxRecDepth 100000 in
set_option maxHeartbeats 4000000 in
theorem c_X7_wind {l : Launch} {D : va_G} {dA : Nat → ClassId} {ad : Nat → Nat} {R : List Nat} {F : HF} {a1 : Int32} {K : Int32 → HF → Prop} (hT : Md R) (h : wp_X7_wind K F a1) : MI l yX7_wind cX7_wind 2 .int rm_X7_wind D dA ad R F [.ref (ad 100), .int a1] K := by
  refine MI.of (own := RX7) (by decide) rfl (Nat.le_of_ble_eq_true rfl) ?_
  intro p e s m args below meth c A hA X hr
  unfold wp_X7_wind at h
  show J p l e rm_X7_wind s m args below meth c 2 D dA ad R A (QI D dA ad R A below args s K) F 0 [(0, .ref (ad 100)), (1, .int a1)] []
  refine r_iload_n (pc := 0) X 1 dX7_wind_0 rfl rfl ?_
  refine r_iconst (pc := 1) (v := (nI 0)) X dX7_wind_1 (by decide) ?_
  refine r_bipush (pc := 2) (v := (nI 99)) X dX7_wind_2 (by decide) ?_
  refine r_callIS (pc := 4) (As := [.int a1, .int (nI 0), .int (nI 99)]) (st := []) X hA (c_X7_in  h) g_X7_87 hd_X7_in rfl rfl rfl ⟨Nat.le_of_ble_eq_true rfl, Nat.le_of_ble_eq_true rfl⟩ rfl (Nat.le_of_ble_eq_true rfl) dX7_wind_4 (fun x1 F1 h => ?_)
  refine r_if_eq (pc := 7) (tgt := 18) X dX7_wind_7 (by decide) (fun hc => ?_) (fun hc => ?_)
  · replace h := h.1 hc
    refine r_iconst (pc := 18) (v := (-1 : Int32)) X dX7_wind_18 (by decide) ?_
    exact r_iret (pc := 19) X hr dX7_wind_19 h
  · replace h := h.2 hc
    refine r_aload_n (pc := 10) X 0 dX7_wind_10 rfl rfl ?_
    refine r_iload_n (pc := 11) X 1 dX7_wind_11 rfl rfl ?_
    refine r_callIV (pc := 12) (As := [.int a1]) (st := []) X hA (c_X7_windIn hT h) g_X7_139 cl_X7 hT.1 hd_X7_windIn rfl rfl rfl ⟨Nat.le_of_ble_eq_true rfl, Nat.le_of_ble_eq_true rfl⟩ rfl (Nat.le_of_ble_eq_true rfl) dX7_wind_12 (fun x2 F2 h => ?_)
    refine r_goto (pc := 15) (tgt := 19) X dX7_wind_15 (by decide) ?_
    exact r_iret (pc := 19) X hr dX7_wind_19 h
theorem dX7_firstOf_0 : decode cX7_firstOf 0 = .ok (.iconst 0, 1) := by decide +kernel
theorem dX7_firstOf_1 : decode cX7_firstOf 1 = .ok (.istore_n 3, 1) := by decide +kernel
theorem dX7_firstOf_2 : decode cX7_firstOf 2 = .ok (.iconst 0, 1) := by decide +kernel
theorem dX7_firstOf_3 : decode cX7_firstOf 3 = .ok (.istore 4, 2) := by decide +kernel
theorem dX7_firstOf_5 : decode cX7_firstOf 5 = .ok (.iload 4, 2) := by decide +kernel
theorem dX7_firstOf_7 : decode cX7_firstOf 7 = .ok (.iload_n 2, 1) := by decide +kernel
theorem dX7_firstOf_8 : decode cX7_firstOf 8 = .ok (.if_icmp .ge 27, 3) := by decide +kernel
theorem dX7_firstOf_11 : decode cX7_firstOf 11 = .ok (.iload_n 3, 1) := by decide +kernel
theorem dX7_firstOf_12 : decode cX7_firstOf 12 = .ok (.aload_n 0, 1) := by decide +kernel
theorem dX7_firstOf_13 : decode cX7_firstOf 13 = .ok (.getfield 26, 3) := by decide +kernel
theorem dX7_firstOf_16 : decode cX7_firstOf 16 = .ok (.iconst 4, 1) := by decide +kernel
theorem dX7_firstOf_17 : decode cX7_firstOf 17 = .ok (.aload_n 1, 1) := by decide +kernel
theorem dX7_firstOf_18 : decode cX7_firstOf 18 = .ok (.iconst 5, 1) := by decide +kernel
theorem dX7_firstOf_19 : decode cX7_firstOf 19 = .ok (.iload 4, 2) := by decide +kernel
theorem dX7_firstOf_21 : decode cX7_firstOf 21 = .ok (.iadd, 1) := by decide +kernel
theorem dX7_firstOf_22 : decode cX7_firstOf 22 = .ok (.iaload, 1) := by decide +kernel
theorem dX7_firstOf_23 : decode cX7_firstOf 23 = .ok (.imul, 1) := by decide +kernel
theorem dX7_firstOf_24 : decode cX7_firstOf 24 = .ok (.iconst 1, 1) := by decide +kernel
theorem dX7_firstOf_25 : decode cX7_firstOf 25 = .ok (.iadd, 1) := by decide +kernel
theorem dX7_firstOf_26 : decode cX7_firstOf 26 = .ok (.iaload, 1) := by decide +kernel
theorem dX7_firstOf_27 : decode cX7_firstOf 27 = .ok (.iadd, 1) := by decide +kernel
theorem dX7_firstOf_28 : decode cX7_firstOf 28 = .ok (.istore_n 3, 1) := by decide +kernel
theorem dX7_firstOf_29 : decode cX7_firstOf 29 = .ok (.iinc 4 1, 3) := by decide +kernel
theorem dX7_firstOf_32 : decode cX7_firstOf 32 = .ok (.goto (-27), 3) := by decide +kernel
theorem dX7_firstOf_35 : decode cX7_firstOf 35 = .ok (.iload_n 3, 1) := by decide +kernel
theorem dX7_firstOf_36 : decode cX7_firstOf 36 = .ok (.ireturn, 1) := by decide +kernel
theorem hd_X7_firstOf : yX7_firstOf.cls = RX7 ∧ yX7_firstOf.cls ≠ "java/lang/invoke/MethodHandle" ∧ yX7_firstOf.cls ≠ "java/lang/invoke/VarHandle" ∧ (parseMethodDescriptor yX7_firstOf.desc).map (fun d => d.parameters.length) = some 2 := by decide +kernel
abbrev rm_X7_firstOf : Room := { frames := 0, cells := 0, slots := 0, locals := 0 }
def wp_X7_firstOf_5 (K : Int32 → HF → Prop) (r1 : Nat) (z1 : Nat) : Nat → HF → Int32 → Int32 → Int32 → Prop
  | 0 => fun _ _ _ _ => False
  | n5_ + 1 => fun F v2 v3 v4 => ((v2 ≤ v4) → (K v3 F)) ∧ ((¬ v2 ≤ v4) → ((vp_in ((nI 5) + v4) z1) ∧ ((vp_in (((nI 4) * (F r1 ((nI 5) + v4).toNatClampNeg)) + (nI 1)) 32) ∧ (wp_X7_firstOf_5 K r1 z1  n5_ F v2 (v3 + (F 114 (((nI 4) * (F r1 ((nI 5) + v4).toNatClampNeg)) + (nI 1)).toNatClampNeg)) (v4 + (nI 1))))))
set_option maxRecDepth 100000 in
set_option maxHeartbeats 4000000 in
theorem k_X7_firstOf_5 {p : Program} {l : Launch} {e : Env} {s : State} {m : MethodId} {args : Array Value} {below : List Frame} {meth : Method} {c : Code} {D : va_G} {dA : Nat → ClassId} {ad : Nat → Nat} {R : List Nat} {A : Nat → Prop} {K : Int32 → HF → Prop} {r1 : Nat} {z1 : Nat} (X : Cx p s m args meth c cX7_firstOf 5 RX7 D dA) (hA : ∀ q, s.heap.size ≤ q → A q) (hr : meth.sig.returnType = some .int) (hT : Md R) (hr1 : IA R r1 z1) : ∀ (n_ : Nat) (F : HF) (v2 : Int32) (v3 : Int32) (v4 : Int32), wp_X7_firstOf_5 K r1 z1 n_ F v2 v3 v4 → J p l e rm_X7_firstOf s m args below meth c 5 D dA ad R A (QI D dA ad R A below args s K) F 5 [(0, .ref (ad 100)), (1, .ref (ad r1)), (2, .int v2), (3, .int v3), (4, .int v4)] [] := by
  intro n_
  induction n_ with
  | zero => intro F v2 v3 v4 h; exact h.elim
  | succ n_ ih =>
    intro F v2 v3 v4 h
    unfold wp_X7_firstOf_5 at h
    refine r_iload (pc := 5) X 4 dX7_firstOf_5 rfl ?_
    refine r_iload_n (pc := 7) X 2 dX7_firstOf_7 rfl rfl ?_
    refine r_icmp_ge (pc := 8) (tgt := 35) X dX7_firstOf_8 (by decide) (fun hc => ?_) (fun hc => ?_)
    · replace h := h.1 hc
      refine r_iload_n (pc := 35) X 3 dX7_firstOf_35 rfl rfl ?_
      exact r_iret (pc := 36) X hr dX7_firstOf_36 h
    · replace h := h.2 hc
      refine r_iload_n (pc := 11) X 3 dX7_firstOf_11 rfl rfl ?_
      refine r_aload_n (pc := 12) X 0 dX7_firstOf_12 rfl rfl ?_
      refine fg_X7_26 (pc := 13) X hT.1 dX7_firstOf_13 ?_
      refine r_iconst (pc := 16) (v := (nI 4)) X dX7_firstOf_16 (by decide) ?_
      refine r_aload_n (pc := 17) X 1 dX7_firstOf_17 rfl rfl ?_
      refine r_iconst (pc := 18) (v := (nI 5)) X dX7_firstOf_18 (by decide) ?_
      refine r_iload (pc := 19) X 4 dX7_firstOf_19 rfl ?_
      refine r_iadd (pc := 21) X dX7_firstOf_21 ?_
      refine r_iald (pc := 22) X hr1 h.1 dX7_firstOf_22 ?_
      replace h := h.2
      refine r_imul (pc := 23) X dX7_firstOf_23 ?_
      refine r_iconst (pc := 24) (v := (nI 1)) X dX7_firstOf_24 (by decide) ?_
      refine r_iadd (pc := 25) X dX7_firstOf_25 ?_
      refine r_iald (pc := 26) X hT.2.2.2.2.2.1 h.1 dX7_firstOf_26 ?_
      replace h := h.2
      refine r_iadd (pc := 27) X dX7_firstOf_27 ?_
      refine r_istore_n (pc := 28) X [(3, .int (v3 + (F 114 (((nI 4) * (F r1 ((nI 5) + v4).toNatClampNeg)) + (nI 1)).toNatClampNeg))), (0, .ref (ad 100)), (1, .ref (ad r1)), (2, .int v2), (4, .int v4)] dX7_firstOf_28 rfl (by decide) rfl ?_
      refine r_iinc (pc := 29) (v := (v4 + (nI 1))) X 4 [(4, .int (v4 + (nI 1))), (3, .int (v3 + (F 114 (((nI 4) * (F r1 ((nI 5) + v4).toNatClampNeg)) + (nI 1)).toNatClampNeg))), (0, .ref (ad 100)), (1, .ref (ad r1)), (2, .int v2)] dX7_firstOf_29 rfl rfl (by decide) rfl ?_
      refine r_goto (pc := 32) (tgt := 5) X dX7_firstOf_32 (by decide) ?_
      refine r_sub [2, 3, 4, 1, 0] rfl ?_
      exact ih _ _ _ _ h
def wp_X7_firstOf (K : Int32 → HF → Prop) (F : HF) (r1 : Nat) (z1 : Nat) (a2 : Int32) : Prop := ∃ m_, wp_X7_firstOf_5 K r1 z1  m_ F a2 (nI 0) (nI 0)
set_option maxRecDepth 100000 in
set_option maxHeartbeats 4000000 in
theorem c_X7_firstOf {l : Launch} {D : va_G} {dA : Nat → ClassId} {ad : Nat → Nat} {R : List Nat} {F : HF} {r1 : Nat} {z1 : Nat} {a2 : Int32} {K : Int32 → HF → Prop} (hT : Md R) (hr1 : IA R r1 z1) (h : wp_X7_firstOf K F r1 z1 a2) : MI l yX7_firstOf cX7_firstOf 5 .int rm_X7_firstOf D dA ad R F [.ref (ad 100), .ref (ad r1), .int a2] K := by
  refine MI.of (own := RX7) (by decide) rfl (Nat.le_of_ble_eq_true rfl) ?_
  intro p e s m args below meth c A hA X hr
  unfold wp_X7_firstOf at h
  show J p l e rm_X7_firstOf s m args below meth c 5 D dA ad R A (QI D dA ad R A below args s K) F 0 [(0, .ref (ad 100)), (1, .ref (ad r1)), (2, .int a2)] []
  refine r_iconst (pc := 0) (v := (nI 0)) X dX7_firstOf_0 (by decide) ?_
  refine r_istore_n (pc := 1) X [(3, .int (nI 0)), (0, .ref (ad 100)), (1, .ref (ad r1)), (2, .int a2)] dX7_firstOf_1 rfl (by decide) rfl ?_
  refine r_iconst (pc := 2) (v := (nI 0)) X dX7_firstOf_2 (by decide) ?_
  refine r_istore (pc := 3) X [(4, .int (nI 0)), (3, .int (nI 0)), (0, .ref (ad 100)), (1, .ref (ad r1)), (2, .int a2)] dX7_firstOf_3 (by decide) rfl ?_
  refine r_sub [2, 3, 4, 1, 0] rfl ?_
  obtain ⟨n1, h⟩ := h
  exact k_X7_firstOf_5 X hA hr hT hr1  n1 _ _ _ _ h
theorem dX7_spanned_0 : decode cX7_spanned 0 = .ok (.aload_n 0, 1) := by decide +kernel
theorem dX7_spanned_1 : decode cX7_spanned 1 = .ok (.aload_n 1, 1) := by decide +kernel
theorem dX7_spanned_2 : decode cX7_spanned 2 = .ok (.aload_n 1, 1) := by decide +kernel
theorem dX7_spanned_3 : decode cX7_spanned 3 = .ok (.iconst 0, 1) := by decide +kernel
theorem dX7_spanned_4 : decode cX7_spanned 4 = .ok (.iaload, 1) := by decide +kernel
theorem dX7_spanned_5 : decode cX7_spanned 5 = .ok (.invokevirtual 142, 3) := by decide +kernel
theorem dX7_spanned_8 : decode cX7_spanned 8 = .ok (.istore_n 2, 1) := by decide +kernel
theorem dX7_spanned_9 : decode cX7_spanned 9 = .ok (.iload_n 2, 1) := by decide +kernel
theorem dX7_spanned_10 : decode cX7_spanned 10 = .ok (.aload_n 0, 1) := by decide +kernel
theorem dX7_spanned_11 : decode cX7_spanned 11 = .ok (.getfield 35, 3) := by decide +kernel
theorem dX7_spanned_14 : decode cX7_spanned 14 = .ok (.if_icmp .le 10, 3) := by decide +kernel
theorem dX7_spanned_17 : decode cX7_spanned 17 = .ok (.aload_n 0, 1) := by decide +kernel
theorem dX7_spanned_18 : decode cX7_spanned 18 = .ok (.getfield 35, 3) := by decide +kernel
theorem dX7_spanned_21 : decode cX7_spanned 21 = .ok (.goto 4, 3) := by decide +kernel
theorem dX7_spanned_24 : decode cX7_spanned 24 = .ok (.iload_n 2, 1) := by decide +kernel
theorem dX7_spanned_25 : decode cX7_spanned 25 = .ok (.ireturn, 1) := by decide +kernel
theorem hd_X7_spanned : yX7_spanned.cls = RX7 ∧ yX7_spanned.cls ≠ "java/lang/invoke/MethodHandle" ∧ yX7_spanned.cls ≠ "java/lang/invoke/VarHandle" ∧ (parseMethodDescriptor yX7_spanned.desc).map (fun d => d.parameters.length) = some 1 := by decide +kernel
abbrev rm_X7_spanned : Room := { frames := 1, cells := 0, slots := 0, locals := 24 }
def wp_X7_spanned (K : Int32 → HF → Prop) (F : HF) (r1 : Nat) (z1 : Nat) : Prop := (vp_in (nI 0) z1) ∧ (wp_X7_firstOf (fun x1 F1 => ((x1 ≤ (F1 100 17)) → (K x1 F1)) ∧ ((¬ x1 ≤ (F1 100 17)) → (K (F1 100 17) F1))) F r1 z1 (F r1 (nI 0).toNatClampNeg))
set_option maxRecDepth 100000 in
set_option maxHeartbeats 4000000 in
theorem c_X7_spanned {l : Launch} {D : va_G} {dA : Nat → ClassId} {ad : Nat → Nat} {R : List Nat} {F : HF} {r1 : Nat} {z1 : Nat} {K : Int32 → HF → Prop} (hT : Md R) (hr1 : IA R r1 z1) (h : wp_X7_spanned K F r1 z1) : MI l yX7_spanned cX7_spanned 3 .int rm_X7_spanned D dA ad R F [.ref (ad 100), .ref (ad r1)] K := by
  refine MI.of (own := RX7) (by decide) rfl (Nat.le_of_ble_eq_true rfl) ?_
  intro p e s m args below meth c A hA X hr
  unfold wp_X7_spanned at h
  show J p l e rm_X7_spanned s m args below meth c 3 D dA ad R A (QI D dA ad R A below args s K) F 0 [(0, .ref (ad 100)), (1, .ref (ad r1))] []
  refine r_aload_n (pc := 0) X 0 dX7_spanned_0 rfl rfl ?_
  refine r_aload_n (pc := 1) X 1 dX7_spanned_1 rfl rfl ?_
  refine r_aload_n (pc := 2) X 1 dX7_spanned_2 rfl rfl ?_
  refine r_iconst (pc := 3) (v := (nI 0)) X dX7_spanned_3 (by decide) ?_
  refine r_iald (pc := 4) X hr1 h.1 dX7_spanned_4 ?_
  replace h := h.2
  refine r_callIV (pc := 5) (As := [.ref (ad r1), .int (F r1 (nI 0).toNatClampNeg)]) (st := []) X hA (c_X7_firstOf hT hr1 h) g_X7_142 cl_X7 hT.1 hd_X7_firstOf rfl rfl rfl ⟨Nat.le_of_ble_eq_true rfl, Nat.le_of_ble_eq_true rfl⟩ rfl (Nat.le_of_ble_eq_true rfl) dX7_spanned_5 (fun x1 F1 h => ?_)
  refine r_istore_n (pc := 8) X [(2, .int x1), (0, .ref (ad 100)), (1, .ref (ad r1))] dX7_spanned_8 rfl (by decide) rfl ?_
  refine r_iload_n (pc := 9) X 0 dX7_spanned_9 rfl rfl ?_
  refine r_aload_n (pc := 10) X 1 dX7_spanned_10 rfl rfl ?_
  refine fg_X7_35 (pc := 11) X hT.1 dX7_spanned_11 ?_
  refine r_icmp_le (pc := 14) (tgt := 24) X dX7_spanned_14 (by decide) (fun hc => ?_) (fun hc => ?_)
  · replace h := h.1 hc
    refine r_iload_n (pc := 24) X 0 dX7_spanned_24 rfl rfl ?_
    exact r_iret (pc := 25) X hr dX7_spanned_25 h
  · replace h := h.2 hc
    refine r_aload_n (pc := 17) X 1 dX7_spanned_17 rfl rfl ?_
    refine fg_X7_35 (pc := 18) X hT.1 dX7_spanned_18 ?_
    refine r_goto (pc := 21) (tgt := 25) X dX7_spanned_21 (by decide) ?_
    exact r_iret (pc := 25) X hr dX7_spanned_25 h
theorem dX7_isWhole_0 : decode cX7_isWhole 0 = .ok (.aload_n 0, 1) := by decide +kernel
theorem dX7_isWhole_1 : decode cX7_isWhole 1 = .ok (.aload_n 1, 1) := by decide +kernel
theorem dX7_isWhole_2 : decode cX7_isWhole 2 = .ok (.invokevirtual 146, 3) := by decide +kernel
theorem dX7_isWhole_5 : decode cX7_isWhole 5 = .ok (.aload_n 0, 1) := by decide +kernel
theorem dX7_isWhole_6 : decode cX7_isWhole 6 = .ok (.getfield 35, 3) := by decide +kernel
theorem dX7_isWhole_9 : decode cX7_isWhole 9 = .ok (.if_icmp .ne 7, 3) := by decide +kernel
theorem dX7_isWhole_12 : decode cX7_isWhole 12 = .ok (.iconst 1, 1) := by decide +kernel
theorem dX7_isWhole_13 : decode cX7_isWhole 13 = .ok (.goto 4, 3) := by decide +kernel
theorem dX7_isWhole_16 : decode cX7_isWhole 16 = .ok (.iconst 0, 1) := by decide +kernel
theorem dX7_isWhole_17 : decode cX7_isWhole 17 = .ok (.ireturn, 1) := by decide +kernel
theorem hd_X7_isWhole : yX7_isWhole.cls = RX7 ∧ yX7_isWhole.cls ≠ "java/lang/invoke/MethodHandle" ∧ yX7_isWhole.cls ≠ "java/lang/invoke/VarHandle" ∧ (parseMethodDescriptor yX7_isWhole.desc).map (fun d => d.parameters.length) = some 1 := by decide +kernel
abbrev rm_X7_isWhole : Room := { frames := 2, cells := 0, slots := 0, locals := 46 }
def wp_X7_isWhole (K : Int32 → HF → Prop) (F : HF) (r1 : Nat) (z1 : Nat) : Prop := wp_X7_spanned (fun x1 F1 => ((¬ x1 = (F1 100 17)) → (K (nI 0) F1)) ∧ ((x1 = (F1 100 17)) → (K (nI 1) F1))) F r1 z1
set_option maxRecDepth 100000 in
set_option maxHeartbeats 4000000 in
theorem c_X7_isWhole {l : Launch} {D : va_G} {dA : Nat → ClassId} {ad : Nat → Nat} {R : List Nat} {F : HF} {r1 : Nat} {z1 : Nat} {K : Int32 → HF → Prop} (hT : Md R) (hr1 : IA R r1 z1) (h : wp_X7_isWhole K F r1 z1) : MI l yX7_isWhole cX7_isWhole 2 .boolean rm_X7_isWhole D dA ad R F [.ref (ad 100), .ref (ad r1)] K := by
  refine MI.of (own := RX7) (by decide) rfl (Nat.le_of_ble_eq_true rfl) ?_
  intro p e s m args below meth c A hA X hr
  unfold wp_X7_isWhole at h
  show J p l e rm_X7_isWhole s m args below meth c 2 D dA ad R A (QI D dA ad R A below args s K) F 0 [(0, .ref (ad 100)), (1, .ref (ad r1))] []
  refine r_aload_n (pc := 0) X 0 dX7_isWhole_0 rfl rfl ?_
  refine r_aload_n (pc := 1) X 1 dX7_isWhole_1 rfl rfl ?_
  refine r_callIV (pc := 2) (As := [.ref (ad r1)]) (st := []) X hA (c_X7_spanned hT hr1 h) g_X7_146 cl_X7 hT.1 hd_X7_spanned rfl rfl rfl ⟨Nat.le_of_ble_eq_true rfl, Nat.le_of_ble_eq_true rfl⟩ rfl (Nat.le_of_ble_eq_true rfl) dX7_isWhole_2 (fun x1 F1 h => ?_)
  refine r_aload_n (pc := 5) X 0 dX7_isWhole_5 rfl rfl ?_
  refine fg_X7_35 (pc := 6) X hT.1 dX7_isWhole_6 ?_
  refine r_icmp_ne (pc := 9) (tgt := 16) X dX7_isWhole_9 (by decide) (fun hc => ?_) (fun hc => ?_)
  · replace h := h.1 hc
    refine r_iconst (pc := 16) (v := (nI 0)) X dX7_isWhole_16 (by decide) ?_
    exact r_zret (pc := 17) X hr dX7_isWhole_17 nb0 h
  · replace h := h.2 hc
    refine r_iconst (pc := 12) (v := (nI 1)) X dX7_isWhole_12 (by decide) ?_
    refine r_goto (pc := 13) (tgt := 17) X dX7_isWhole_13 (by decide) ?_
    exact r_zret (pc := 17) X hr dX7_isWhole_17 nb1 h
theorem dX7_isPair_0 : decode cX7_isPair 0 = .ok (.iload_n 2, 1) := by decide +kernel
theorem dX7_isPair_1 : decode cX7_isPair 1 = .ok (.iconst 0, 1) := by decide +kernel
theorem dX7_isPair_2 : decode cX7_isPair 2 = .ok (.aload_n 1, 1) := by decide +kernel
theorem dX7_isPair_3 : decode cX7_isPair 3 = .ok (.iconst 0, 1) := by decide +kernel
theorem dX7_isPair_4 : decode cX7_isPair 4 = .ok (.iaload, 1) := by decide +kernel
theorem dX7_isPair_5 : decode cX7_isPair 5 = .ok (.iconst 1, 1) := by decide +kernel
theorem dX7_isPair_6 : decode cX7_isPair 6 = .ok (.isub, 1) := by decide +kernel
theorem dX7_isPair_7 : decode cX7_isPair 7 = .ok (.invokestatic 87, 3) := by decide +kernel
theorem dX7_isPair_10 : decode cX7_isPair 10 = .ok (.ifCond .eq 20, 3) := by decide +kernel
theorem dX7_isPair_13 : decode cX7_isPair 13 = .ok (.aload_n 0, 1) := by decide +kernel
theorem dX7_isPair_14 : decode cX7_isPair 14 = .ok (.aload_n 1, 1) := by decide +kernel
theorem dX7_isPair_15 : decode cX7_isPair 15 = .ok (.iconst 5, 1) := by decide +kernel
theorem dX7_isPair_16 : decode cX7_isPair 16 = .ok (.iload_n 2, 1) := by decide +kernel
theorem dX7_isPair_17 : decode cX7_isPair 17 = .ok (.iadd, 1) := by decide +kernel
theorem dX7_isPair_18 : decode cX7_isPair 18 = .ok (.iaload, 1) := by decide +kernel
theorem dX7_isPair_19 : decode cX7_isPair 19 = .ok (.invokevirtual 150, 3) := by decide +kernel
theorem dX7_isPair_22 : decode cX7_isPair 22 = .ok (.iconst 4, 1) := by decide +kernel
theorem dX7_isPair_23 : decode cX7_isPair 23 = .ok (.if_icmp .ne 7, 3) := by decide +kernel
theorem dX7_isPair_26 : decode cX7_isPair 26 = .ok (.iconst 1, 1) := by decide +kernel
theorem dX7_isPair_27 : decode cX7_isPair 27 = .ok (.goto 4, 3) := by decide +kernel
theorem dX7_isPair_30 : decode cX7_isPair 30 = .ok (.iconst 0, 1) := by decide +kernel
theorem dX7_isPair_31 : decode cX7_isPair 31 = .ok (.ireturn, 1) := by decide +kernel
theorem hd_X7_isPair : yX7_isPair.cls = RX7 ∧ yX7_isPair.cls ≠ "java/lang/invoke/MethodHandle" ∧ yX7_isPair.cls ≠ "java/lang/invoke/VarHandle" ∧ (parseMethodDescriptor yX7_isPair.desc).map (fun d => d.parameters.length) = some 2 := by decide +kernel
abbrev rm_X7_isPair : Room := { frames := 1, cells := 0, slots := 0, locals := 22 }
def wp_X7_isPair (K : Int32 → HF → Prop) (F : HF) (r1 : Nat) (z1 : Nat) (a2 : Int32) : Prop := (vp_in (nI 0) z1) ∧ (wp_X7_in (fun x1 F1 => ((x1 = (nI 0)) → (K (nI 0) F1)) ∧ ((¬ x1 = (nI 0)) → ((vp_in ((nI 5) + a2) z1) ∧ (wp_X7_kindOf (fun x2 F2 => ((¬ x2 = (nI 4)) → (K (nI 0) F2)) ∧ ((x2 = (nI 4)) → (K (nI 1) F2))) F1 (F1 r1 ((nI 5) + a2).toNatClampNeg))))) F a2 (nI 0) ((F r1 (nI 0).toNatClampNeg) - (nI 1)))
set_option maxRecDepth 100000 in
set_option maxHeartbeats 4000000 in
theorem c_X7_isPair {l : Launch} {D : va_G} {dA : Nat → ClassId} {ad : Nat → Nat} {R : List Nat} {F : HF} {r1 : Nat} {z1 : Nat} {a2 : Int32} {K : Int32 → HF → Prop} (hT : Md R) (hr1 : IA R r1 z1) (h : wp_X7_isPair K F r1 z1 a2) : MI l yX7_isPair cX7_isPair 3 .boolean rm_X7_isPair D dA ad R F [.ref (ad 100), .ref (ad r1), .int a2] K := by
  refine MI.of (own := RX7) (by decide) rfl (Nat.le_of_ble_eq_true rfl) ?_
  intro p e s m args below meth c A hA X hr
  unfold wp_X7_isPair at h
  show J p l e rm_X7_isPair s m args below meth c 3 D dA ad R A (QI D dA ad R A below args s K) F 0 [(0, .ref (ad 100)), (1, .ref (ad r1)), (2, .int a2)] []
  refine r_iload_n (pc := 0) X 2 dX7_isPair_0 rfl rfl ?_
  refine r_iconst (pc := 1) (v := (nI 0)) X dX7_isPair_1 (by decide) ?_
  refine r_aload_n (pc := 2) X 1 dX7_isPair_2 rfl rfl ?_
  refine r_iconst (pc := 3) (v := (nI 0)) X dX7_isPair_3 (by decide) ?_
  refine r_iald (pc := 4) X hr1 h.1 dX7_isPair_4 ?_
  replace h := h.2
  refine r_iconst (pc := 5) (v := (nI 1)) X dX7_isPair_5 (by decide) ?_
  refine r_isub (pc := 6) X dX7_isPair_6 ?_
  refine r_callIS (pc := 7) (As := [.int a2, .int (nI 0), .int ((F r1 (nI 0).toNatClampNeg) - (nI 1))]) (st := []) X hA (c_X7_in  h) g_X7_87 hd_X7_in rfl rfl rfl ⟨Nat.le_of_ble_eq_true rfl, Nat.le_of_ble_eq_true rfl⟩ rfl (Nat.le_of_ble_eq_true rfl) dX7_isPair_7 (fun x1 F1 h => ?_)
  refine r_if_eq (pc := 10) (tgt := 30) X dX7_isPair_10 (by decide) (fun hc => ?_) (fun hc => ?_)
  · replace h := h.1 hc
    refine r_iconst (pc := 30) (v := (nI 0)) X dX7_isPair_30 (by decide) ?_
    exact r_zret (pc := 31) X hr dX7_isPair_31 nb0 h
  · replace h := h.2 hc
    refine r_aload_n (pc := 13) X 0 dX7_isPair_13 rfl rfl ?_
    refine r_aload_n (pc := 14) X 1 dX7_isPair_14 rfl rfl ?_
    refine r_iconst (pc := 15) (v := (nI 5)) X dX7_isPair_15 (by decide) ?_
    refine r_iload_n (pc := 16) X 2 dX7_isPair_16 rfl rfl ?_
    refine r_iadd (pc := 17) X dX7_isPair_17 ?_
    refine r_iald (pc := 18) X hr1 h.1 dX7_isPair_18 ?_
    replace h := h.2
    refine r_callIV (pc := 19) (As := [.int (F1 r1 ((nI 5) + a2).toNatClampNeg)]) (st := []) X hA (c_X7_kindOf hT h) g_X7_150 cl_X7 hT.1 hd_X7_kindOf rfl rfl rfl ⟨Nat.le_of_ble_eq_true rfl, Nat.le_of_ble_eq_true rfl⟩ rfl (Nat.le_of_ble_eq_true rfl) dX7_isPair_19 (fun x2 F2 h => ?_)
    refine r_iconst (pc := 22) (v := (nI 4)) X dX7_isPair_22 (by decide) ?_
    refine r_icmp_ne (pc := 23) (tgt := 30) X dX7_isPair_23 (by decide) (fun hc => ?_) (fun hc => ?_)
    · replace h := h.1 hc
      refine r_iconst (pc := 30) (v := (nI 0)) X dX7_isPair_30 (by decide) ?_
      exact r_zret (pc := 31) X hr dX7_isPair_31 nb0 h
    · replace h := h.2 hc
      refine r_iconst (pc := 26) (v := (nI 1)) X dX7_isPair_26 (by decide) ?_
      refine r_goto (pc := 27) (tgt := 31) X dX7_isPair_27 (by decide) ?_
      exact r_zret (pc := 31) X hr dX7_isPair_31 nb1 h
theorem dX7_powerOf_0 : decode cX7_powerOf 0 = .ok (.aload_n 1, 1) := by decide +kernel
theorem dX7_powerOf_1 : decode cX7_powerOf 1 = .ok (.iconst 5, 1) := by decide +kernel
theorem dX7_powerOf_2 : decode cX7_powerOf 2 = .ok (.iload_n 2, 1) := by decide +kernel
theorem dX7_powerOf_3 : decode cX7_powerOf 3 = .ok (.iadd, 1) := by decide +kernel
theorem dX7_powerOf_4 : decode cX7_powerOf 4 = .ok (.iaload, 1) := by decide +kernel
theorem dX7_powerOf_5 : decode cX7_powerOf 5 = .ok (.istore_n 3, 1) := by decide +kernel
theorem dX7_powerOf_6 : decode cX7_powerOf 6 = .ok (.aload_n 0, 1) := by decide +kernel
theorem dX7_powerOf_7 : decode cX7_powerOf 7 = .ok (.getfield 26, 3) := by decide +kernel
theorem dX7_powerOf_10 : decode cX7_powerOf 10 = .ok (.iconst 4, 1) := by decide +kernel
theorem dX7_powerOf_11 : decode cX7_powerOf 11 = .ok (.iload_n 3, 1) := by decide +kernel
theorem dX7_powerOf_12 : decode cX7_powerOf 12 = .ok (.imul, 1) := by decide +kernel
theorem dX7_powerOf_13 : decode cX7_powerOf 13 = .ok (.iaload, 1) := by decide +kernel
theorem dX7_powerOf_14 : decode cX7_powerOf 14 = .ok (.aload_n 1, 1) := by decide +kernel
theorem dX7_powerOf_15 : decode cX7_powerOf 15 = .ok (.bipush 13, 2) := by decide +kernel
theorem dX7_powerOf_17 : decode cX7_powerOf 17 = .ok (.iload_n 3, 1) := by decide +kernel
theorem dX7_powerOf_18 : decode cX7_powerOf 18 = .ok (.iadd, 1) := by decide +kernel
theorem dX7_powerOf_19 : decode cX7_powerOf 19 = .ok (.iaload, 1) := by decide +kernel
theorem dX7_powerOf_20 : decode cX7_powerOf 20 = .ok (.isub, 1) := by decide +kernel
theorem dX7_powerOf_21 : decode cX7_powerOf 21 = .ok (.istore 4, 2) := by decide +kernel
theorem dX7_powerOf_23 : decode cX7_powerOf 23 = .ok (.iload 4, 2) := by decide +kernel
theorem dX7_powerOf_25 : decode cX7_powerOf 25 = .ok (.ifCond .ge 7, 3) := by decide +kernel
theorem dX7_powerOf_28 : decode cX7_powerOf 28 = .ok (.iconst 0, 1) := by decide +kernel
theorem dX7_powerOf_29 : decode cX7_powerOf 29 = .ok (.goto 5, 3) := by decide +kernel
theorem dX7_powerOf_32 : decode cX7_powerOf 32 = .ok (.iload 4, 2) := by decide +kernel
theorem dX7_powerOf_34 : decode cX7_powerOf 34 = .ok (.istore 4, 2) := by decide +kernel
theorem dX7_powerOf_36 : decode cX7_powerOf 36 = .ok (.iload_n 2, 1) := by decide +kernel
theorem dX7_powerOf_37 : decode cX7_powerOf 37 = .ok (.ifCond .le 16, 3) := by decide +kernel
theorem dX7_powerOf_40 : decode cX7_powerOf 40 = .ok (.iload_n 2, 1) := by decide +kernel
theorem dX7_powerOf_41 : decode cX7_powerOf 41 = .ok (.aload_n 1, 1) := by decide +kernel
theorem dX7_powerOf_42 : decode cX7_powerOf 42 = .ok (.iconst 0, 1) := by decide +kernel
theorem dX7_powerOf_43 : decode cX7_powerOf 43 = .ok (.iaload, 1) := by decide +kernel
theorem dX7_powerOf_44 : decode cX7_powerOf 44 = .ok (.iconst 1, 1) := by decide +kernel
theorem dX7_powerOf_45 : decode cX7_powerOf 45 = .ok (.isub, 1) := by decide +kernel
theorem dX7_powerOf_46 : decode cX7_powerOf 46 = .ok (.if_icmp .ge 7, 3) := by decide +kernel
theorem dX7_powerOf_49 : decode cX7_powerOf 49 = .ok (.iconst 1, 1) := by decide +kernel
theorem dX7_powerOf_50 : decode cX7_powerOf 50 = .ok (.goto 4, 3) := by decide +kernel
theorem dX7_powerOf_53 : decode cX7_powerOf 53 = .ok (.iconst 0, 1) := by decide +kernel
theorem dX7_powerOf_54 : decode cX7_powerOf 54 = .ok (.istore 5, 2) := by decide +kernel
theorem dX7_powerOf_56 : decode cX7_powerOf 56 = .ok (.aload_n 0, 1) := by decide +kernel
theorem dX7_powerOf_57 : decode cX7_powerOf 57 = .ok (.iload_n 3, 1) := by decide +kernel
theorem dX7_powerOf_58 : decode cX7_powerOf 58 = .ok (.invokevirtual 150, 3) := by decide +kernel
theorem dX7_powerOf_61 : decode cX7_powerOf 61 = .ok (.iconst 1, 1) := by decide +kernel
theorem dX7_powerOf_62 : decode cX7_powerOf 62 = .ok (.if_icmp .ne 15, 3) := by decide +kernel
theorem dX7_powerOf_65 : decode cX7_powerOf 65 = .ok (.iload 5, 2) := by decide +kernel
theorem dX7_powerOf_67 : decode cX7_powerOf 67 = .ok (.ifCond .eq 10, 3) := by decide +kernel
theorem dX7_powerOf_70 : decode cX7_powerOf 70 = .ok (.iload 4, 2) := by decide +kernel
theorem dX7_powerOf_72 : decode cX7_powerOf 72 = .ok (.iconst 2, 1) := by decide +kernel
theorem dX7_powerOf_73 : decode cX7_powerOf 73 = .ok (.idiv, 1) := by decide +kernel
theorem dX7_powerOf_74 : decode cX7_powerOf 74 = .ok (.goto 5, 3) := by decide +kernel
theorem dX7_powerOf_77 : decode cX7_powerOf 77 = .ok (.iload 4, 2) := by decide +kernel
theorem dX7_powerOf_79 : decode cX7_powerOf 79 = .ok (.istore 4, 2) := by decide +kernel
theorem dX7_powerOf_81 : decode cX7_powerOf 81 = .ok (.aload_n 0, 1) := by decide +kernel
theorem dX7_powerOf_82 : decode cX7_powerOf 82 = .ok (.iload_n 3, 1) := by decide +kernel
theorem dX7_powerOf_83 : decode cX7_powerOf 83 = .ok (.invokevirtual 150, 3) := by decide +kernel
theorem dX7_powerOf_86 : decode cX7_powerOf 86 = .ok (.iconst 4, 1) := by decide +kernel
theorem dX7_powerOf_87 : decode cX7_powerOf 87 = .ok (.if_icmp .ne 32, 3) := by decide +kernel
theorem dX7_powerOf_90 : decode cX7_powerOf 90 = .ok (.aload_n 0, 1) := by decide +kernel
theorem dX7_powerOf_91 : decode cX7_powerOf 91 = .ok (.aload_n 1, 1) := by decide +kernel
theorem dX7_powerOf_92 : decode cX7_powerOf 92 = .ok (.iload_n 2, 1) := by decide +kernel
theorem dX7_powerOf_93 : decode cX7_powerOf 93 = .ok (.iconst 1, 1) := by decide +kernel
theorem dX7_powerOf_94 : decode cX7_powerOf 94 = .ok (.isub, 1) := by decide +kernel
theorem dX7_powerOf_95 : decode cX7_powerOf 95 = .ok (.invokevirtual 153, 3) := by decide +kernel
theorem dX7_powerOf_98 : decode cX7_powerOf 98 = .ok (.ifCond .ne 14, 3) := by decide +kernel
theorem dX7_powerOf_101 : decode cX7_powerOf 101 = .ok (.aload_n 0, 1) := by decide +kernel
theorem dX7_powerOf_102 : decode cX7_powerOf 102 = .ok (.aload_n 1, 1) := by decide +kernel
theorem dX7_powerOf_103 : decode cX7_powerOf 103 = .ok (.iload_n 2, 1) := by decide +kernel
theorem dX7_powerOf_104 : decode cX7_powerOf 104 = .ok (.iconst 1, 1) := by decide +kernel
theorem dX7_powerOf_105 : decode cX7_powerOf 105 = .ok (.iadd, 1) := by decide +kernel
theorem dX7_powerOf_106 : decode cX7_powerOf 106 = .ok (.invokevirtual 153, 3) := by decide +kernel
theorem dX7_powerOf_109 : decode cX7_powerOf 109 = .ok (.ifCond .eq 10, 3) := by decide +kernel
theorem dX7_powerOf_112 : decode cX7_powerOf 112 = .ok (.iload 4, 2) := by decide +kernel
theorem dX7_powerOf_114 : decode cX7_powerOf 114 = .ok (.iconst 5, 1) := by decide +kernel
theorem dX7_powerOf_115 : decode cX7_powerOf 115 = .ok (.iadd, 1) := by decide +kernel
theorem dX7_powerOf_116 : decode cX7_powerOf 116 = .ok (.goto 5, 3) := by decide +kernel
theorem dX7_powerOf_119 : decode cX7_powerOf 119 = .ok (.iload 4, 2) := by decide +kernel
theorem dX7_powerOf_121 : decode cX7_powerOf 121 = .ok (.ireturn, 1) := by decide +kernel
theorem hd_X7_powerOf : yX7_powerOf.cls = RX7 ∧ yX7_powerOf.cls ≠ "java/lang/invoke/MethodHandle" ∧ yX7_powerOf.cls ≠ "java/lang/invoke/VarHandle" ∧ (parseMethodDescriptor yX7_powerOf.desc).map (fun d => d.parameters.length) = some 2 := by decide +kernel
abbrev rm_X7_powerOf : Room := { frames := 2, cells := 0, slots := 0, locals := 44 }
def wp_X7_powerOf_79 (K : Int32 → HF → Prop) (r1 : Nat) (z1 : Nat) (F : HF) (v2 : Int32) (v3 : Int32) (s0 : Int32) : Prop := wp_X7_kindOf (fun x2 F502 => ((¬ x2 = (nI 4)) → (K s0 F502)) ∧ ((x2 = (nI 4)) → (wp_X7_isPair (fun x3 F503 => ((¬ x3 = (nI 0)) → (K (s0 + (nI 5)) F503)) ∧ ((x3 = (nI 0)) → (wp_X7_isPair (fun x4 F504 => ((x4 = (nI 0)) → (K s0 F504)) ∧ ((¬ x4 = (nI 0)) → (K (s0 + (nI 5)) F504))) F503 r1 z1 (v2 + (nI 1))))) F502 r1 z1 (v2 - (nI 1))))) F v3
set_option maxRecDepth 100000 in
set_option maxHeartbeats 4000000 in
theorem k_X7_powerOf_79 {p : Program} {l : Launch} {e : Env} {s : State} {m : MethodId} {args : Array Value} {below : List Frame} {meth : Method} {c : Code} {D : va_G} {dA : Nat → ClassId} {ad : Nat → Nat} {R : List Nat} {A : Nat → Prop} {K : Int32 → HF → Prop} {r1 : Nat} {z1 : Nat} (X : Cx p s m args meth c cX7_powerOf 6 RX7 D dA) (hA : ∀ q, s.heap.size ≤ q → A q) (hr : meth.sig.returnType = some .int) (hT : Md R) (hr1 : IA R r1 z1) : ∀ (F : HF) (v2 : Int32) (v3 : Int32) (s0 : Int32), wp_X7_powerOf_79 K r1 z1 F v2 v3 s0 → J p l e rm_X7_powerOf s m args below meth c 6 D dA ad R A (QI D dA ad R A below args s K) F 79 [(0, .ref (ad 100)), (1, .ref (ad r1)), (2, .int v2), (3, .int v3)] [.int s0] := by
  intro F v2 v3 s0 h
  unfold wp_X7_powerOf_79 at h
  refine r_istore (pc := 79) X [(4, .int s0), (0, .ref (ad 100)), (1, .ref (ad r1)), (2, .int v2), (3, .int v3)] dX7_powerOf_79 (by decide) rfl ?_
  refine r_aload_n (pc := 81) X 1 dX7_powerOf_81 rfl rfl ?_
  refine r_iload_n (pc := 82) X 4 dX7_powerOf_82 rfl rfl ?_
  refine r_callIV (pc := 83) (As := [.int v3]) (st := []) X hA (c_X7_kindOf hT h) g_X7_150 cl_X7 hT.1 hd_X7_kindOf rfl rfl rfl ⟨Nat.le_of_ble_eq_true rfl, Nat.le_of_ble_eq_true rfl⟩ rfl (Nat.le_of_ble_eq_true rfl) dX7_powerOf_83 (fun x2 F502 h => ?_)
  refine r_iconst (pc := 86) (v := (nI 4)) X dX7_powerOf_86 (by decide) ?_
  refine r_icmp_ne (pc := 87) (tgt := 119) X dX7_powerOf_87 (by decide) (fun hc => ?_) (fun hc => ?_)
  · replace h := h.1 hc
    refine r_iload (pc := 119) X 0 dX7_powerOf_119 rfl ?_
    exact r_iret (pc := 121) X hr dX7_powerOf_121 h
  · replace h := h.2 hc
    refine r_aload_n (pc := 90) X 1 dX7_powerOf_90 rfl rfl ?_
    refine r_aload_n (pc := 91) X 2 dX7_powerOf_91 rfl rfl ?_
    refine r_iload_n (pc := 92) X 3 dX7_powerOf_92 rfl rfl ?_
    refine r_iconst (pc := 93) (v := (nI 1)) X dX7_powerOf_93 (by decide) ?_
    refine r_isub (pc := 94) X dX7_powerOf_94 ?_
    refine r_callIV (pc := 95) (As := [.ref (ad r1), .int (v2 - (nI 1))]) (st := []) X hA (c_X7_isPair hT hr1 h) g_X7_153 cl_X7 hT.1 hd_X7_isPair rfl rfl rfl ⟨Nat.le_of_ble_eq_true rfl, Nat.le_of_ble_eq_true rfl⟩ rfl (Nat.le_of_ble_eq_true rfl) dX7_powerOf_95 (fun x3 F503 h => ?_)
    refine r_if_ne (pc := 98) (tgt := 112) X dX7_powerOf_98 (by decide) (fun hc => ?_) (fun hc => ?_)
    · replace h := h.1 hc
      refine r_iload (pc := 112) X 0 dX7_powerOf_112 rfl ?_
      refine r_iconst (pc := 114) (v := (nI 5)) X dX7_powerOf_114 (by decide) ?_
      refine r_iadd (pc := 115) X dX7_powerOf_115 ?_
      refine r_goto (pc := 116) (tgt := 121) X dX7_powerOf_116 (by decide) ?_
      exact r_iret (pc := 121) X hr dX7_powerOf_121 h
    · replace h := h.2 hc
      refine r_aload_n (pc := 101) X 1 dX7_powerOf_101 rfl rfl ?_
      refine r_aload_n (pc := 102) X 2 dX7_powerOf_102 rfl rfl ?_
      refine r_iload_n (pc := 103) X 3 dX7_powerOf_103 rfl rfl ?_
      refine r_iconst (pc := 104) (v := (nI 1)) X dX7_powerOf_104 (by decide) ?_
      refine r_iadd (pc := 105) X dX7_powerOf_105 ?_
      refine r_callIV (pc := 106) (As := [.ref (ad r1), .int (v2 + (nI 1))]) (st := []) X hA (c_X7_isPair hT hr1 h) g_X7_153 cl_X7 hT.1 hd_X7_isPair rfl rfl rfl ⟨Nat.le_of_ble_eq_true rfl, Nat.le_of_ble_eq_true rfl⟩ rfl (Nat.le_of_ble_eq_true rfl) dX7_powerOf_106 (fun x4 F504 h => ?_)
      refine r_if_eq (pc := 109) (tgt := 119) X dX7_powerOf_109 (by decide) (fun hc => ?_) (fun hc => ?_)
      · replace h := h.1 hc
        refine r_iload (pc := 119) X 0 dX7_powerOf_119 rfl ?_
        exact r_iret (pc := 121) X hr dX7_powerOf_121 h
      · replace h := h.2 hc
        refine r_iload (pc := 112) X 0 dX7_powerOf_112 rfl ?_
        refine r_iconst (pc := 114) (v := (nI 5)) X dX7_powerOf_114 (by decide) ?_
        refine r_iadd (pc := 115) X dX7_powerOf_115 ?_
        refine r_goto (pc := 116) (tgt := 121) X dX7_powerOf_116 (by decide) ?_
        exact r_iret (pc := 121) X hr dX7_powerOf_121 h
def wp_X7_powerOf_77 (K : Int32 → HF → Prop) (r1 : Nat) (z1 : Nat) (F : HF) (v2 : Int32) (v3 : Int32) (v4 : Int32) : Prop := wp_X7_powerOf_79 K r1 z1  F v2 v3 v4
set_option maxRecDepth 100000 in
set_option maxHeartbeats 4000000 in
theorem k_X7_powerOf_77 {p : Program} {l : Launch} {e : Env} {s : State} {m : MethodId} {args : Array Value} {below : List Frame} {meth : Method} {c : Code} {D : va_G} {dA : Nat → ClassId} {ad : Nat → Nat} {R : List Nat} {A : Nat → Prop} {K : Int32 → HF → Prop} {r1 : Nat} {z1 : Nat} (X : Cx p s m args meth c cX7_powerOf 6 RX7 D dA) (hA : ∀ q, s.heap.size ≤ q → A q) (hr : meth.sig.returnType = some .int) (hT : Md R) (hr1 : IA R r1 z1) : ∀ (F : HF) (v2 : Int32) (v3 : Int32) (v4 : Int32), wp_X7_powerOf_77 K r1 z1 F v2 v3 v4 → J p l e rm_X7_powerOf s m args below meth c 6 D dA ad R A (QI D dA ad R A below args s K) F 77 [(0, .ref (ad 100)), (1, .ref (ad r1)), (2, .int v2), (3, .int v3), (4, .int v4)] [] := by
  intro F v2 v3 v4 h
  unfold wp_X7_powerOf_77 at h
  refine r_iload (pc := 77) X 4 dX7_powerOf_77 rfl ?_
  refine r_sub [0, 1, 2, 3] rfl ?_
  exact k_X7_powerOf_79 X hA hr hT hr1  _ _ _ _ h
def wp_X7_powerOf_54 (K : Int32 → HF → Prop) (r1 : Nat) (z1 : Nat) (F : HF) (v2 : Int32) (v3 : Int32) (v4 : Int32) (s0 : Int32) : Prop := wp_X7_kindOf (fun x1 F301 => ((¬ x1 = (nI 1)) → (wp_X7_powerOf_77 K r1 z1  F301 v2 v3 v4)) ∧ ((x1 = (nI 1)) → (((s0 = (nI 0)) → (wp_X7_powerOf_77 K r1 z1  F301 v2 v3 v4)) ∧ ((¬ s0 = (nI 0)) → (wp_X7_powerOf_79 K r1 z1  F301 v2 v3 (v4 / (nI 2))))))) F v3
set_option maxRecDepth 100000 in
set_option maxHeartbeats 4000000 in
theorem k_X7_powerOf_54 {p : Program} {l : Launch} {e : Env} {s : State} {m : MethodId} {args : Array Value} {below : List Frame} {meth : Method} {c : Code} {D : va_G} {dA : Nat → ClassId} {ad : Nat → Nat} {R : List Nat} {A : Nat → Prop} {K : Int32 → HF → Prop} {r1 : Nat} {z1 : Nat} (X : Cx p s m args meth c cX7_powerOf 6 RX7 D dA) (hA : ∀ q, s.heap.size ≤ q → A q) (hr : meth.sig.returnType = some .int) (hT : Md R) (hr1 : IA R r1 z1) : ∀ (F : HF) (v2 : Int32) (v3 : Int32) (v4 : Int32) (s0 : Int32), wp_X7_powerOf_54 K r1 z1 F v2 v3 v4 s0 → J p l e rm_X7_powerOf s m args below meth c 6 D dA ad R A (QI D dA ad R A below args s K) F 54 [(0, .ref (ad 100)), (1, .ref (ad r1)), (2, .int v2), (3, .int v3), (4, .int v4)] [.int s0] := by
  intro F v2 v3 v4 s0 h
  unfold wp_X7_powerOf_54 at h
  refine r_istore (pc := 54) X [(5, .int s0), (0, .ref (ad 100)), (1, .ref (ad r1)), (2, .int v2), (3, .int v3), (4, .int v4)] dX7_powerOf_54 (by decide) rfl ?_
  refine r_aload_n (pc := 56) X 1 dX7_powerOf_56 rfl rfl ?_
  refine r_iload_n (pc := 57) X 4 dX7_powerOf_57 rfl rfl ?_
  refine r_callIV (pc := 58) (As := [.int v3]) (st := []) X hA (c_X7_kindOf hT h) g_X7_150 cl_X7 hT.1 hd_X7_kindOf rfl rfl rfl ⟨Nat.le_of_ble_eq_true rfl, Nat.le_of_ble_eq_true rfl⟩ rfl (Nat.le_of_ble_eq_true rfl) dX7_powerOf_58 (fun x1 F301 h => ?_)
  refine r_iconst (pc := 61) (v := (nI 1)) X dX7_powerOf_61 (by decide) ?_
  refine r_icmp_ne (pc := 62) (tgt := 77) X dX7_powerOf_62 (by decide) (fun hc => ?_) (fun hc => ?_)
  · replace h := h.1 hc
    refine r_sub [1, 2, 3, 4, 5] rfl ?_
    exact k_X7_powerOf_77 X hA hr hT hr1  _ _ _ _ h
  · replace h := h.2 hc
    refine r_iload (pc := 65) X 0 dX7_powerOf_65 rfl ?_
    refine r_if_eq (pc := 67) (tgt := 77) X dX7_powerOf_67 (by decide) (fun hc => ?_) (fun hc => ?_)
    · replace h := h.1 hc
      refine r_sub [1, 2, 3, 4, 5] rfl ?_
      exact k_X7_powerOf_77 X hA hr hT hr1  _ _ _ _ h
    · replace h := h.2 hc
      refine r_iload (pc := 70) X 5 dX7_powerOf_70 rfl ?_
      refine r_iconst (pc := 72) (v := (nI 2)) X dX7_powerOf_72 (by decide) ?_
      refine r_idiv (pc := 73) X dX7_powerOf_73 (by decide) ?_
      refine r_goto (pc := 74) (tgt := 79) X dX7_powerOf_74 (by decide) ?_
      refine r_sub [1, 2, 3, 4] rfl ?_
      exact k_X7_powerOf_79 X hA hr hT hr1  _ _ _ _ h
def wp_X7_powerOf_53 (K : Int32 → HF → Prop) (r1 : Nat) (z1 : Nat) (F : HF) (v2 : Int32) (v3 : Int32) (v4 : Int32) : Prop := wp_X7_powerOf_54 K r1 z1  F v2 v3 v4 (nI 0)
set_option maxRecDepth 100000 in
set_option maxHeartbeats 4000000 in
theorem k_X7_powerOf_53 {p : Program} {l : Launch} {e : Env} {s : State} {m : MethodId} {args : Array Value} {below : List Frame} {meth : Method} {c : Code} {D : va_G} {dA : Nat → ClassId} {ad : Nat → Nat} {R : List Nat} {A : Nat → Prop} {K : Int32 → HF → Prop} {r1 : Nat} {z1 : Nat} (X : Cx p s m args meth c cX7_powerOf 6 RX7 D dA) (hA : ∀ q, s.heap.size ≤ q → A q) (hr : meth.sig.returnType = some .int) (hT : Md R) (hr1 : IA R r1 z1) : ∀ (F : HF) (v2 : Int32) (v3 : Int32) (v4 : Int32), wp_X7_powerOf_53 K r1 z1 F v2 v3 v4 → J p l e rm_X7_powerOf s m args below meth c 6 D dA ad R A (QI D dA ad R A below args s K) F 53 [(0, .ref (ad 100)), (1, .ref (ad r1)), (2, .int v2), (3, .int v3), (4, .int v4)] [] := by
  intro F v2 v3 v4 h
  unfold wp_X7_powerOf_53 at h
  refine r_iconst (pc := 53) (v := (nI 0)) X dX7_powerOf_53 (by decide) ?_
  exact k_X7_powerOf_54 X hA hr hT hr1  _ _ _ _ _ h
def wp_X7_powerOf_34 (K : Int32 → HF → Prop) (r1 : Nat) (z1 : Nat) (F : HF) (v2 : Int32) (v3 : Int32) (s0 : Int32) : Prop := ((v2 ≤ (nI 0)) → (wp_X7_powerOf_53 K r1 z1  F v2 v3 s0)) ∧ ((¬ v2 ≤ (nI 0)) → ((vp_in (nI 0) z1) ∧ (((((F r1 (nI 0).toNatClampNeg) - (nI 1)) ≤ v2) → (wp_X7_powerOf_53 K r1 z1  F v2 v3 s0)) ∧ ((¬ ((F r1 (nI 0).toNatClampNeg) - (nI 1)) ≤ v2) → (wp_X7_powerOf_54 K r1 z1  F v2 v3 s0 (nI 1))))))
set_option maxRecDepth 100000 in
set_option maxHeartbeats 4000000 in
theorem k_X7_powerOf_34 {p : Program} {l : Launch} {e : Env} {s : State} {m : MethodId} {args : Array Value} {below : List Frame} {meth : Method} {c : Code} {D : va_G} {dA : Nat → ClassId} {ad : Nat → Nat} {R : List Nat} {A : Nat → Prop} {K : Int32 → HF → Prop} {r1 : Nat} {z1 : Nat} (X : Cx p s m args meth c cX7_powerOf 6 RX7 D dA) (hA : ∀ q, s.heap.size ≤ q → A q) (hr : meth.sig.returnType = some .int) (hT : Md R) (hr1 : IA R r1 z1) : ∀ (F : HF) (v2 : Int32) (v3 : Int32) (s0 : Int32), wp_X7_powerOf_34 K r1 z1 F v2 v3 s0 → J p l e rm_X7_powerOf s m args below meth c 6 D dA ad R A (QI D dA ad R A below args s K) F 34 [(0, .ref (ad 100)), (1, .ref (ad r1)), (2, .int v2), (3, .int v3)] [.int s0] := by
  intro F v2 v3 s0 h
  unfold wp_X7_powerOf_34 at h
  refine r_istore (pc := 34) X [(4, .int s0), (0, .ref (ad 100)), (1, .ref (ad r1)), (2, .int v2), (3, .int v3)] dX7_powerOf_34 (by decide) rfl ?_
  refine r_iload_n (pc := 36) X 3 dX7_powerOf_36 rfl rfl ?_
  refine r_if_le (pc := 37) (tgt := 53) X dX7_powerOf_37 (by decide) (fun hc => ?_) (fun hc => ?_)
  · replace h := h.1 hc
    refine r_sub [1, 2, 3, 4, 0] rfl ?_
    exact k_X7_powerOf_53 X hA hr hT hr1  _ _ _ _ h
  · replace h := h.2 hc
    refine r_iload_n (pc := 40) X 3 dX7_powerOf_40 rfl rfl ?_
    refine r_aload_n (pc := 41) X 2 dX7_powerOf_41 rfl rfl ?_
    refine r_iconst (pc := 42) (v := (nI 0)) X dX7_powerOf_42 (by decide) ?_
    refine r_iald (pc := 43) X hr1 h.1 dX7_powerOf_43 ?_
    replace h := h.2
    refine r_iconst (pc := 44) (v := (nI 1)) X dX7_powerOf_44 (by decide) ?_
    refine r_isub (pc := 45) X dX7_powerOf_45 ?_
    refine r_icmp_ge (pc := 46) (tgt := 53) X dX7_powerOf_46 (by decide) (fun hc => ?_) (fun hc => ?_)
    · replace h := h.1 hc
      refine r_sub [1, 2, 3, 4, 0] rfl ?_
      exact k_X7_powerOf_53 X hA hr hT hr1  _ _ _ _ h
    · replace h := h.2 hc
      refine r_iconst (pc := 49) (v := (nI 1)) X dX7_powerOf_49 (by decide) ?_
      refine r_goto (pc := 50) (tgt := 54) X dX7_powerOf_50 (by decide) ?_
      refine r_sub [1, 2, 3, 4, 0] rfl ?_
      exact k_X7_powerOf_54 X hA hr hT hr1  _ _ _ _ _ h
def wp_X7_powerOf (K : Int32 → HF → Prop) (F : HF) (r1 : Nat) (z1 : Nat) (a2 : Int32) : Prop := (vp_in ((nI 5) + a2) z1) ∧ ((vp_in ((nI 4) * (F r1 ((nI 5) + a2).toNatClampNeg)) 32) ∧ ((vp_in ((nI 13) + (F r1 ((nI 5) + a2).toNatClampNeg)) z1) ∧ ((((nI 0) ≤ ((F 114 ((nI 4) * (F r1 ((nI 5) + a2).toNatClampNeg)).toNatClampNeg) - (F r1 ((nI 13) + (F r1 ((nI 5) + a2).toNatClampNeg)).toNatClampNeg))) → (wp_X7_powerOf_34 K r1 z1  F a2 (F r1 ((nI 5) + a2).toNatClampNeg) ((F 114 ((nI 4) * (F r1 ((nI 5) + a2).toNatClampNeg)).toNatClampNeg) - (F r1 ((nI 13) + (F r1 ((nI 5) + a2).toNatClampNeg)).toNatClampNeg)))) ∧ ((¬ (nI 0) ≤ ((F 114 ((nI 4) * (F r1 ((nI 5) + a2).toNatClampNeg)).toNatClampNeg) - (F r1 ((nI 13) + (F r1 ((nI 5) + a2).toNatClampNeg)).toNatClampNeg))) → (wp_X7_powerOf_34 K r1 z1  F a2 (F r1 ((nI 5) + a2).toNatClampNeg) (nI 0))))))
set_option maxRecDepth 100000 in
set_option maxHeartbeats 4000000 in
theorem c_X7_powerOf {l : Launch} {D : va_G} {dA : Nat → ClassId} {ad : Nat → Nat} {R : List Nat} {F : HF} {r1 : Nat} {z1 : Nat} {a2 : Int32} {K : Int32 → HF → Prop} (hT : Md R) (hr1 : IA R r1 z1) (h : wp_X7_powerOf K F r1 z1 a2) : MI l yX7_powerOf cX7_powerOf 6 .int rm_X7_powerOf D dA ad R F [.ref (ad 100), .ref (ad r1), .int a2] K := by
  refine MI.of (own := RX7) (by decide) rfl (Nat.le_of_ble_eq_true rfl) ?_
  intro p e s m args below meth c A hA X hr
  unfold wp_X7_powerOf at h
  show J p l e rm_X7_powerOf s m args below meth c 6 D dA ad R A (QI D dA ad R A below args s K) F 0 [(0, .ref (ad 100)), (1, .ref (ad r1)), (2, .int a2)] []
  refine r_aload_n (pc := 0) X 1 dX7_powerOf_0 rfl rfl ?_
  refine r_iconst (pc := 1) (v := (nI 5)) X dX7_powerOf_1 (by decide) ?_
  refine r_iload_n (pc := 2) X 2 dX7_powerOf_2 rfl rfl ?_
  refine r_iadd (pc := 3) X dX7_powerOf_3 ?_
  refine r_iald (pc := 4) X hr1 h.1 dX7_powerOf_4 ?_
  replace h := h.2
  refine r_istore_n (pc := 5) X [(3, .int (F r1 ((nI 5) + a2).toNatClampNeg)), (0, .ref (ad 100)), (1, .ref (ad r1)), (2, .int a2)] dX7_powerOf_5 rfl (by decide) rfl ?_
  refine r_aload_n (pc := 6) X 1 dX7_powerOf_6 rfl rfl ?_
  refine fg_X7_26 (pc := 7) X hT.1 dX7_powerOf_7 ?_
  refine r_iconst (pc := 10) (v := (nI 4)) X dX7_powerOf_10 (by decide) ?_
  refine r_iload_n (pc := 11) X 0 dX7_powerOf_11 rfl rfl ?_
  refine r_imul (pc := 12) X dX7_powerOf_12 ?_
  refine r_iald (pc := 13) X hT.2.2.2.2.2.1 h.1 dX7_powerOf_13 ?_
  replace h := h.2
  refine r_aload_n (pc := 14) X 2 dX7_powerOf_14 rfl rfl ?_
  refine r_bipush (pc := 15) (v := (nI 13)) X dX7_powerOf_15 (by decide) ?_
  refine r_iload_n (pc := 17) X 0 dX7_powerOf_17 rfl rfl ?_
  refine r_iadd (pc := 18) X dX7_powerOf_18 ?_
  refine r_iald (pc := 19) X hr1 h.1 dX7_powerOf_19 ?_
  replace h := h.2
  refine r_isub (pc := 20) X dX7_powerOf_20 ?_
  refine r_istore (pc := 21) X [(4, .int ((F 114 ((nI 4) * (F r1 ((nI 5) + a2).toNatClampNeg)).toNatClampNeg) - (F r1 ((nI 13) + (F r1 ((nI 5) + a2).toNatClampNeg)).toNatClampNeg))), (3, .int (F r1 ((nI 5) + a2).toNatClampNeg)), (0, .ref (ad 100)), (1, .ref (ad r1)), (2, .int a2)] dX7_powerOf_21 (by decide) rfl ?_
  refine r_iload (pc := 23) X 0 dX7_powerOf_23 rfl ?_
  refine r_if_ge (pc := 25) (tgt := 32) X dX7_powerOf_25 (by decide) (fun hc => ?_) (fun hc => ?_)
  · replace h := h.1 hc
    refine r_iload (pc := 32) X 0 dX7_powerOf_32 rfl ?_
    refine r_sub [2, 3, 4, 1] rfl ?_
    exact k_X7_powerOf_34 X hA hr hT hr1  _ _ _ _ h
  · replace h := h.2 hc
    refine r_iconst (pc := 28) (v := (nI 0)) X dX7_powerOf_28 (by decide) ?_
    refine r_goto (pc := 29) (tgt := 34) X dX7_powerOf_29 (by decide) ?_
    refine r_sub [2, 3, 4, 1] rfl ?_
    exact k_X7_powerOf_34 X hA hr hT hr1  _ _ _ _ h
theorem dX7_holderOf_0 : decode cX7_holderOf 0 = .ok (.iconst 0, 1) := by decide +kernel
theorem dX7_holderOf_1 : decode cX7_holderOf 1 = .ok (.istore_n 3, 1) := by decide +kernel
theorem dX7_holderOf_2 : decode cX7_holderOf 2 = .ok (.aload_n 0, 1) := by decide +kernel
theorem dX7_holderOf_3 : decode cX7_holderOf 3 = .ok (.getfield 26, 3) := by decide +kernel
theorem dX7_holderOf_6 : decode cX7_holderOf 6 = .ok (.iconst 4, 1) := by decide +kernel
theorem dX7_holderOf_7 : decode cX7_holderOf 7 = .ok (.aload_n 1, 1) := by decide +kernel
theorem dX7_holderOf_8 : decode cX7_holderOf 8 = .ok (.iconst 5, 1) := by decide +kernel
theorem dX7_holderOf_9 : decode cX7_holderOf 9 = .ok (.iaload, 1) := by decide +kernel
theorem dX7_holderOf_10 : decode cX7_holderOf 10 = .ok (.imul, 1) := by decide +kernel
theorem dX7_holderOf_11 : decode cX7_holderOf 11 = .ok (.iconst 1, 1) := by decide +kernel
theorem dX7_holderOf_12 : decode cX7_holderOf 12 = .ok (.iadd, 1) := by decide +kernel
theorem dX7_holderOf_13 : decode cX7_holderOf 13 = .ok (.iaload, 1) := by decide +kernel
theorem dX7_holderOf_14 : decode cX7_holderOf 14 = .ok (.istore 4, 2) := by decide +kernel
theorem dX7_holderOf_16 : decode cX7_holderOf 16 = .ok (.iload 4, 2) := by decide +kernel
theorem dX7_holderOf_18 : decode cX7_holderOf 18 = .ok (.iload_n 2, 1) := by decide +kernel
theorem dX7_holderOf_19 : decode cX7_holderOf 19 = .ok (.if_icmp .gt 28, 3) := by decide +kernel
theorem dX7_holderOf_22 : decode cX7_holderOf 22 = .ok (.iinc 3 1, 3) := by decide +kernel
theorem dX7_holderOf_25 : decode cX7_holderOf 25 = .ok (.iload 4, 2) := by decide +kernel
theorem dX7_holderOf_27 : decode cX7_holderOf 27 = .ok (.aload_n 0, 1) := by decide +kernel
theorem dX7_holderOf_28 : decode cX7_holderOf 28 = .ok (.getfield 26, 3) := by decide +kernel
theorem dX7_holderOf_31 : decode cX7_holderOf 31 = .ok (.iconst 4, 1) := by decide +kernel
theorem dX7_holderOf_32 : decode cX7_holderOf 32 = .ok (.aload_n 1, 1) := by decide +kernel
theorem dX7_holderOf_33 : decode cX7_holderOf 33 = .ok (.iconst 5, 1) := by decide +kernel
theorem dX7_holderOf_34 : decode cX7_holderOf 34 = .ok (.iload_n 3, 1) := by decide +kernel
theorem dX7_holderOf_35 : decode cX7_holderOf 35 = .ok (.iadd, 1) := by decide +kernel
theorem dX7_holderOf_36 : decode cX7_holderOf 36 = .ok (.iaload, 1) := by decide +kernel
theorem dX7_holderOf_37 : decode cX7_holderOf 37 = .ok (.imul, 1) := by decide +kernel
theorem dX7_holderOf_38 : decode cX7_holderOf 38 = .ok (.iconst 1, 1) := by decide +kernel
theorem dX7_holderOf_39 : decode cX7_holderOf 39 = .ok (.iadd, 1) := by decide +kernel
theorem dX7_holderOf_40 : decode cX7_holderOf 40 = .ok (.iaload, 1) := by decide +kernel
theorem dX7_holderOf_41 : decode cX7_holderOf 41 = .ok (.iadd, 1) := by decide +kernel
theorem dX7_holderOf_42 : decode cX7_holderOf 42 = .ok (.istore 4, 2) := by decide +kernel
theorem dX7_holderOf_44 : decode cX7_holderOf 44 = .ok (.goto (-28), 3) := by decide +kernel
theorem dX7_holderOf_47 : decode cX7_holderOf 47 = .ok (.iload_n 3, 1) := by decide +kernel
theorem dX7_holderOf_48 : decode cX7_holderOf 48 = .ok (.ireturn, 1) := by decide +kernel
theorem hd_X7_holderOf : yX7_holderOf.cls = RX7 ∧ yX7_holderOf.cls ≠ "java/lang/invoke/MethodHandle" ∧ yX7_holderOf.cls ≠ "java/lang/invoke/VarHandle" ∧ (parseMethodDescriptor yX7_holderOf.desc).map (fun d => d.parameters.length) = some 2 := by decide +kernel
abbrev rm_X7_holderOf : Room := { frames := 0, cells := 0, slots := 0, locals := 0 }
def wp_X7_holderOf_16 (K : Int32 → HF → Prop) (r1 : Nat) (z1 : Nat) : Nat → HF → Int32 → Int32 → Int32 → Prop
  | 0 => fun _ _ _ _ => False
  | n16_ + 1 => fun F v2 v3 v4 => ((v2 < v4) → (K v3 F)) ∧ ((¬ v2 < v4) → ((vp_in ((nI 5) + (v3 + (nI 1))) z1) ∧ ((vp_in (((nI 4) * (F r1 ((nI 5) + (v3 + (nI 1))).toNatClampNeg)) + (nI 1)) 32) ∧ (wp_X7_holderOf_16 K r1 z1  n16_ F v2 (v3 + (nI 1)) (v4 + (F 114 (((nI 4) * (F r1 ((nI 5) + (v3 + (nI 1))).toNatClampNeg)) + (nI 1)).toNatClampNeg))))))
set_option maxRecDepth 100000 in
set_option maxHeartbeats 4000000 in
theorem k_X7_holderOf_16 {p : Program} {l : Launch} {e : Env} {s : State} {m : MethodId} {args : Array Value} {below : List Frame} {meth : Method} {c : Code} {D : va_G} {dA : Nat → ClassId} {ad : Nat → Nat} {R : List Nat} {A : Nat → Prop} {K : Int32 → HF → Prop} {r1 : Nat} {z1 : Nat} (X : Cx p s m args meth c cX7_holderOf 5 RX7 D dA) (hA : ∀ q, s.heap.size ≤ q → A q) (hr : meth.sig.returnType = some .int) (hT : Md R) (hr1 : IA R r1 z1) : ∀ (n_ : Nat) (F : HF) (v2 : Int32) (v3 : Int32) (v4 : Int32), wp_X7_holderOf_16 K r1 z1 n_ F v2 v3 v4 → J p l e rm_X7_holderOf s m args below meth c 5 D dA ad R A (QI D dA ad R A below args s K) F 16 [(0, .ref (ad 100)), (1, .ref (ad r1)), (2, .int v2), (3, .int v3), (4, .int v4)] [] := by
  intro n_
  induction n_ with
  | zero => intro F v2 v3 v4 h; exact h.elim
  | succ n_ ih =>
    intro F v2 v3 v4 h
    unfold wp_X7_holderOf_16 at h
    refine r_iload (pc := 16) X 4 dX7_holderOf_16 rfl ?_
    refine r_iload_n (pc := 18) X 2 dX7_holderOf_18 rfl rfl ?_
    refine r_icmp_gt (pc := 19) (tgt := 47) X dX7_holderOf_19 (by decide) (fun hc => ?_) (fun hc => ?_)
    · replace h := h.1 hc
      refine r_iload_n (pc := 47) X 3 dX7_holderOf_47 rfl rfl ?_
      exact r_iret (pc := 48) X hr dX7_holderOf_48 h
    · replace h := h.2 hc
      refine r_iinc (pc := 22) (v := (v3 + (nI 1))) X 3 [(3, .int (v3 + (nI 1))), (0, .ref (ad 100)), (1, .ref (ad r1)), (2, .int v2), (4, .int v4)] dX7_holderOf_22 rfl rfl (by decide) rfl ?_
      refine r_iload (pc := 25) X 4 dX7_holderOf_25 rfl ?_
      refine r_aload_n (pc := 27) X 1 dX7_holderOf_27 rfl rfl ?_
      refine fg_X7_26 (pc := 28) X hT.1 dX7_holderOf_28 ?_
      refine r_iconst (pc := 31) (v := (nI 4)) X dX7_holderOf_31 (by decide) ?_
      refine r_aload_n (pc := 32) X 2 dX7_holderOf_32 rfl rfl ?_
      refine r_iconst (pc := 33) (v := (nI 5)) X dX7_holderOf_33 (by decide) ?_
      refine r_iload_n (pc := 34) X 0 dX7_holderOf_34 rfl rfl ?_
      refine r_iadd (pc := 35) X dX7_holderOf_35 ?_
      refine r_iald (pc := 36) X hr1 h.1 dX7_holderOf_36 ?_
      replace h := h.2
      refine r_imul (pc := 37) X dX7_holderOf_37 ?_
      refine r_iconst (pc := 38) (v := (nI 1)) X dX7_holderOf_38 (by decide) ?_
      refine r_iadd (pc := 39) X dX7_holderOf_39 ?_
      refine r_iald (pc := 40) X hT.2.2.2.2.2.1 h.1 dX7_holderOf_40 ?_
      replace h := h.2
      refine r_iadd (pc := 41) X dX7_holderOf_41 ?_
      refine r_istore (pc := 42) X [(4, .int (v4 + (F 114 (((nI 4) * (F r1 ((nI 5) + (v3 + (nI 1))).toNatClampNeg)) + (nI 1)).toNatClampNeg))), (3, .int (v3 + (nI 1))), (0, .ref (ad 100)), (1, .ref (ad r1)), (2, .int v2)] dX7_holderOf_42 (by decide) rfl ?_
      refine r_goto (pc := 44) (tgt := 16) X dX7_holderOf_44 (by decide) ?_
      refine r_sub [2, 3, 4, 1, 0] rfl ?_
      exact ih _ _ _ _ h
def wp_X7_holderOf (K : Int32 → HF → Prop) (F : HF) (r1 : Nat) (z1 : Nat) (a2 : Int32) : Prop := (vp_in (nI 5) z1) ∧ ((vp_in (((nI 4) * (F r1 (nI 5).toNatClampNeg)) + (nI 1)) 32) ∧ (∃ m_, wp_X7_holderOf_16 K r1 z1  m_ F a2 (nI 0) (F 114 (((nI 4) * (F r1 (nI 5).toNatClampNeg)) + (nI 1)).toNatClampNeg)))
set_option maxRecDepth 100000 in
set_option maxHeartbeats 4000000 in
theorem c_X7_holderOf {l : Launch} {D : va_G} {dA : Nat → ClassId} {ad : Nat → Nat} {R : List Nat} {F : HF} {r1 : Nat} {z1 : Nat} {a2 : Int32} {K : Int32 → HF → Prop} (hT : Md R) (hr1 : IA R r1 z1) (h : wp_X7_holderOf K F r1 z1 a2) : MI l yX7_holderOf cX7_holderOf 5 .int rm_X7_holderOf D dA ad R F [.ref (ad 100), .ref (ad r1), .int a2] K := by
  refine MI.of (own := RX7) (by decide) rfl (Nat.le_of_ble_eq_true rfl) ?_
  intro p e s m args below meth c A hA X hr
  unfold wp_X7_holderOf at h
  show J p l e rm_X7_holderOf s m args below meth c 5 D dA ad R A (QI D dA ad R A below args s K) F 0 [(0, .ref (ad 100)), (1, .ref (ad r1)), (2, .int a2)] []
  refine r_iconst (pc := 0) (v := (nI 0)) X dX7_holderOf_0 (by decide) ?_
  refine r_istore_n (pc := 1) X [(3, .int (nI 0)), (0, .ref (ad 100)), (1, .ref (ad r1)), (2, .int a2)] dX7_holderOf_1 rfl (by decide) rfl ?_
  refine r_aload_n (pc := 2) X 1 dX7_holderOf_2 rfl rfl ?_
  refine fg_X7_26 (pc := 3) X hT.1 dX7_holderOf_3 ?_
  refine r_iconst (pc := 6) (v := (nI 4)) X dX7_holderOf_6 (by decide) ?_
  refine r_aload_n (pc := 7) X 2 dX7_holderOf_7 rfl rfl ?_
  refine r_iconst (pc := 8) (v := (nI 5)) X dX7_holderOf_8 (by decide) ?_
  refine r_iald (pc := 9) X hr1 h.1 dX7_holderOf_9 ?_
  replace h := h.2
  refine r_imul (pc := 10) X dX7_holderOf_10 ?_
  refine r_iconst (pc := 11) (v := (nI 1)) X dX7_holderOf_11 (by decide) ?_
  refine r_iadd (pc := 12) X dX7_holderOf_12 ?_
  refine r_iald (pc := 13) X hT.2.2.2.2.2.1 h.1 dX7_holderOf_13 ?_
  replace h := h.2
  refine r_istore (pc := 14) X [(4, .int (F 114 (((nI 4) * (F r1 (nI 5).toNatClampNeg)) + (nI 1)).toNatClampNeg)), (3, .int (nI 0)), (0, .ref (ad 100)), (1, .ref (ad r1)), (2, .int a2)] dX7_holderOf_14 (by decide) rfl ?_
  refine r_sub [2, 3, 4, 1, 0] rfl ?_
  obtain ⟨n1, h⟩ := h
  exact k_X7_holderOf_16 X hA hr hT hr1  n1 _ _ _ _ h
theorem dX7_noLoads_0 : decode cX7_noLoads 0 = .ok (.iconst 0, 1) := by decide +kernel
theorem dX7_noLoads_1 : decode cX7_noLoads 1 = .ok (.istore_n 1, 1) := by decide +kernel
theorem dX7_noLoads_2 : decode cX7_noLoads 2 = .ok (.iload_n 1, 1) := by decide +kernel
theorem dX7_noLoads_3 : decode cX7_noLoads 3 = .ok (.bipush 8, 2) := by decide +kernel
theorem dX7_noLoads_5 : decode cX7_noLoads 5 = .ok (.if_icmp .ge 16, 3) := by decide +kernel
theorem dX7_noLoads_8 : decode cX7_noLoads 8 = .ok (.aload_n 0, 1) := by decide +kernel
theorem dX7_noLoads_9 : decode cX7_noLoads 9 = .ok (.getfield 62, 3) := by decide +kernel
theorem dX7_noLoads_12 : decode cX7_noLoads 12 = .ok (.iload_n 1, 1) := by decide +kernel
theorem dX7_noLoads_13 : decode cX7_noLoads 13 = .ok (.iconst 0, 1) := by decide +kernel
theorem dX7_noLoads_14 : decode cX7_noLoads 14 = .ok (.iastore, 1) := by decide +kernel
theorem dX7_noLoads_15 : decode cX7_noLoads 15 = .ok (.iinc 1 1, 3) := by decide +kernel
theorem dX7_noLoads_18 : decode cX7_noLoads 18 = .ok (.goto (-16), 3) := by decide +kernel
theorem dX7_noLoads_21 : decode cX7_noLoads 21 = .ok (.return_, 1) := by decide +kernel
theorem hd_X7_noLoads : yX7_noLoads.cls = RX7 ∧ yX7_noLoads.cls ≠ "java/lang/invoke/MethodHandle" ∧ yX7_noLoads.cls ≠ "java/lang/invoke/VarHandle" ∧ (parseMethodDescriptor yX7_noLoads.desc).map (fun d => d.parameters.length) = some 0 := by decide +kernel
abbrev rm_X7_noLoads : Room := { frames := 0, cells := 0, slots := 0, locals := 0 }
def wp_X7_noLoads_2 (K : HF → Prop) : Nat → HF → Int32 → Prop
  | 0 => fun _ _ => False
  | n2_ + 1 => fun F v1 => (((nI 8) ≤ v1) → (K F)) ∧ ((¬ (nI 8) ≤ v1) → ((vp_in v1 8) ∧ (∀ F101 : HF, F101 = hup F 129 v1.toNatClampNeg (nI 0) → (wp_X7_noLoads_2 K  n2_ F101 (v1 + (nI 1))))))
set_option maxRecDepth 100000 in
set_option maxHeartbeats 4000000 in
theorem k_X7_noLoads_2 {p : Program} {l : Launch} {e : Env} {s : State} {m : MethodId} {args : Array Value} {below : List Frame} {meth : Method} {c : Code} {D : va_G} {dA : Nat → ClassId} {ad : Nat → Nat} {R : List Nat} {A : Nat → Prop} {K : HF → Prop} (X : Cx p s m args meth c cX7_noLoads 2 RX7 D dA) (hA : ∀ q, s.heap.size ≤ q → A q) (hr : meth.sig.returnType = none) (hT : Md R) : ∀ (n_ : Nat) (F : HF) (v1 : Int32), wp_X7_noLoads_2 K  n_ F v1 → J p l e rm_X7_noLoads s m args below meth c 2 D dA ad R A (QV D dA ad R A below args s K) F 2 [(0, .ref (ad 100)), (1, .int v1)] [] := by
  intro n_
  induction n_ with
  | zero => intro F v1 h; exact h.elim
  | succ n_ ih =>
    intro F v1 h
    unfold wp_X7_noLoads_2 at h
    refine r_iload_n (pc := 2) X 1 dX7_noLoads_2 rfl rfl ?_
    refine r_bipush (pc := 3) (v := (nI 8)) X dX7_noLoads_3 (by decide) ?_
    refine r_icmp_ge (pc := 5) (tgt := 21) X dX7_noLoads_5 (by decide) (fun hc => ?_) (fun hc => ?_)
    · replace h := h.1 hc
      exact r_vret (pc := 21) X hr dX7_noLoads_21 h
    · replace h := h.2 hc
      refine r_aload_n (pc := 8) X 0 dX7_noLoads_8 rfl rfl ?_
      refine fg_X7_62 (pc := 9) X hT.1 dX7_noLoads_9 ?_
      refine r_iload_n (pc := 12) X 1 dX7_noLoads_12 rfl rfl ?_
      refine r_iconst (pc := 13) (v := (nI 0)) X dX7_noLoads_13 (by decide) ?_
      refine r_iast (pc := 14) X hT.2.2.2.2.2.2.2.2.2.2.2.2.2.1 h.1 dX7_noLoads_14 (fun F101 e1 => ?_)
      replace h := h.2 F101 e1
      refine r_iinc (pc := 15) (v := (v1 + (nI 1))) X 1 [(1, .int (v1 + (nI 1))), (0, .ref (ad 100))] dX7_noLoads_15 rfl rfl (by decide) rfl ?_
      refine r_goto (pc := 18) (tgt := 2) X dX7_noLoads_18 (by decide) ?_
      refine r_sub [1, 0] rfl ?_
      exact ih _ _ h
def wp_X7_noLoads (K : HF → Prop) (F : HF) : Prop := ∃ m_, wp_X7_noLoads_2 K  m_ F (nI 0)
set_option maxRecDepth 100000 in
set_option maxHeartbeats 4000000 in
theorem c_X7_noLoads {l : Launch} {D : va_G} {dA : Nat → ClassId} {ad : Nat → Nat} {R : List Nat} {F : HF} {K : HF → Prop} (hT : Md R) (h : wp_X7_noLoads K F ) : MV l yX7_noLoads cX7_noLoads 2 rm_X7_noLoads D dA ad R F [.ref (ad 100)] K := by
  refine MV.of (own := RX7) (by decide) rfl (Nat.le_of_ble_eq_true rfl) ?_
  intro p e s m args below meth c A hA X hr
  unfold wp_X7_noLoads at h
  show J p l e rm_X7_noLoads s m args below meth c 2 D dA ad R A (QV D dA ad R A below args s K) F 0 [(0, .ref (ad 100))] []
  refine r_iconst (pc := 0) (v := (nI 0)) X dX7_noLoads_0 (by decide) ?_
  refine r_istore_n (pc := 1) X [(1, .int (nI 0)), (0, .ref (ad 100))] dX7_noLoads_1 rfl (by decide) rfl ?_
  refine r_sub [1, 0] rfl ?_
  obtain ⟨n1, h⟩ := h
  exact k_X7_noLoads_2 X hA hr hT  n1 _ _ h
theorem dX7_bear_0 : decode cX7_bear 0 = .ok (.aload_n 0, 1) := by decide +kernel
theorem dX7_bear_1 : decode cX7_bear 1 = .ok (.aload_n 1, 1) := by decide +kernel
theorem dX7_bear_2 : decode cX7_bear 2 = .ok (.iload_n 2, 1) := by decide +kernel
theorem dX7_bear_3 : decode cX7_bear 3 = .ok (.invokevirtual 157, 3) := by decide +kernel
theorem dX7_bear_6 : decode cX7_bear 6 = .ok (.istore 4, 2) := by decide +kernel
theorem dX7_bear_8 : decode cX7_bear 8 = .ok (.iconst 0, 1) := by decide +kernel
theorem dX7_bear_9 : decode cX7_bear 9 = .ok (.istore 5, 2) := by decide +kernel
theorem dX7_bear_11 : decode cX7_bear 11 = .ok (.iload 5, 2) := by decide +kernel
theorem dX7_bear_13 : decode cX7_bear 13 = .ok (.aload_n 1, 1) := by decide +kernel
theorem dX7_bear_14 : decode cX7_bear 14 = .ok (.iconst 0, 1) := by decide +kernel
theorem dX7_bear_15 : decode cX7_bear 15 = .ok (.iaload, 1) := by decide +kernel
theorem dX7_bear_16 : decode cX7_bear 16 = .ok (.if_icmp .ge 75, 3) := by decide +kernel
theorem dX7_bear_19 : decode cX7_bear 19 = .ok (.iload 5, 2) := by decide +kernel
theorem dX7_bear_21 : decode cX7_bear 21 = .ok (.iload 4, 2) := by decide +kernel
theorem dX7_bear_23 : decode cX7_bear 23 = .ok (.if_icmp .le 11, 3) := by decide +kernel
theorem dX7_bear_26 : decode cX7_bear 26 = .ok (.iload 5, 2) := by decide +kernel
theorem dX7_bear_28 : decode cX7_bear 28 = .ok (.iload 4, 2) := by decide +kernel
theorem dX7_bear_30 : decode cX7_bear 30 = .ok (.isub, 1) := by decide +kernel
theorem dX7_bear_31 : decode cX7_bear 31 = .ok (.goto 8, 3) := by decide +kernel
theorem dX7_bear_34 : decode cX7_bear 34 = .ok (.iload 4, 2) := by decide +kernel
theorem dX7_bear_36 : decode cX7_bear 36 = .ok (.iload 5, 2) := by decide +kernel
theorem dX7_bear_38 : decode cX7_bear 38 = .ok (.isub, 1) := by decide +kernel
theorem dX7_bear_39 : decode cX7_bear 39 = .ok (.istore 6, 2) := by decide +kernel
theorem dX7_bear_41 : decode cX7_bear 41 = .ok (.aload_n 0, 1) := by decide +kernel
theorem dX7_bear_42 : decode cX7_bear 42 = .ok (.getfield 62, 3) := by decide +kernel
theorem dX7_bear_45 : decode cX7_bear 45 = .ok (.iload 5, 2) := by decide +kernel
theorem dX7_bear_47 : decode cX7_bear 47 = .ok (.dup2, 1) := by decide +kernel
theorem dX7_bear_48 : decode cX7_bear 48 = .ok (.iaload, 1) := by decide +kernel
theorem dX7_bear_49 : decode cX7_bear 49 = .ok (.iload 6, 2) := by decide +kernel
theorem dX7_bear_51 : decode cX7_bear 51 = .ok (.ifCond .ne 7, 3) := by decide +kernel
theorem dX7_bear_54 : decode cX7_bear 54 = .ok (.iload_n 3, 1) := by decide +kernel
theorem dX7_bear_55 : decode cX7_bear 55 = .ok (.goto 28, 3) := by decide +kernel
theorem dX7_bear_58 : decode cX7_bear 58 = .ok (.iload 6, 2) := by decide +kernel
theorem dX7_bear_60 : decode cX7_bear 60 = .ok (.iconst 1, 1) := by decide +kernel
theorem dX7_bear_61 : decode cX7_bear 61 = .ok (.if_icmp .ne 9, 3) := by decide +kernel
theorem dX7_bear_64 : decode cX7_bear 64 = .ok (.iload_n 3, 1) := by decide +kernel
theorem dX7_bear_65 : decode cX7_bear 65 = .ok (.iconst 2, 1) := by decide +kernel
theorem dX7_bear_66 : decode cX7_bear 66 = .ok (.idiv, 1) := by decide +kernel
theorem dX7_bear_67 : decode cX7_bear 67 = .ok (.goto 16, 3) := by decide +kernel
theorem dX7_bear_70 : decode cX7_bear 70 = .ok (.iload 6, 2) := by decide +kernel
theorem dX7_bear_72 : decode cX7_bear 72 = .ok (.iconst 2, 1) := by decide +kernel
theorem dX7_bear_73 : decode cX7_bear 73 = .ok (.if_icmp .ne 9, 3) := by decide +kernel
theorem dX7_bear_76 : decode cX7_bear 76 = .ok (.iload_n 3, 1) := by decide +kernel
theorem dX7_bear_77 : decode cX7_bear 77 = .ok (.iconst 4, 1) := by decide +kernel
theorem dX7_bear_78 : decode cX7_bear 78 = .ok (.idiv, 1) := by decide +kernel
theorem dX7_bear_79 : decode cX7_bear 79 = .ok (.goto 4, 3) := by decide +kernel
theorem dX7_bear_82 : decode cX7_bear 82 = .ok (.iconst 0, 1) := by decide +kernel
theorem dX7_bear_83 : decode cX7_bear 83 = .ok (.iadd, 1) := by decide +kernel
theorem dX7_bear_84 : decode cX7_bear 84 = .ok (.iastore, 1) := by decide +kernel
theorem dX7_bear_85 : decode cX7_bear 85 = .ok (.iinc 5 1, 3) := by decide +kernel
theorem dX7_bear_88 : decode cX7_bear 88 = .ok (.goto (-77), 3) := by decide +kernel
theorem dX7_bear_91 : decode cX7_bear 91 = .ok (.return_, 1) := by decide +kernel
theorem hd_X7_bear : yX7_bear.cls = RX7 ∧ yX7_bear.cls ≠ "java/lang/invoke/MethodHandle" ∧ yX7_bear.cls ≠ "java/lang/invoke/VarHandle" ∧ (parseMethodDescriptor yX7_bear.desc).map (fun d => d.parameters.length) = some 3 := by decide +kernel
abbrev rm_X7_bear : Room := { frames := 1, cells := 0, slots := 0, locals := 24 }
def wp_X7_bear_83 (K : HF → Prop) (L11 : HF → Int32 → Int32 → Int32 → Prop) (r1 : Nat) (z1 : Nat) (F : HF) (v3 : Int32) (v4 : Int32) (v5 : Int32) (s1 : Int32) (s2 : Int32) (s3 : Int32) : Prop := (vp_in s1 8) ∧ (∀ F302 : HF, F302 = hup F 129 s1.toNatClampNeg (s2 + s3) → (L11 F302 v3 v4 (v5 + (nI 1))))
set_option maxRecDepth 100000 in
set_option maxHeartbeats 4000000 in
theorem k_X7_bear_83 {p : Program} {l : Launch} {e : Env} {s : State} {m : MethodId} {args : Array Value} {below : List Frame} {meth : Method} {c : Code} {D : va_G} {dA : Nat → ClassId} {ad : Nat → Nat} {R : List Nat} {A : Nat → Prop} {K : HF → Prop} {L11 : HF → Int32 → Int32 → Int32 → Prop} {r1 : Nat} {z1 : Nat} (X : Cx p s m args meth c cX7_bear 7 RX7 D dA) (hA : ∀ q, s.heap.size ≤ q → A q) (hr : meth.sig.returnType = none) (hT : Md R) (hr1 : IA R r1 z1) (hL11 : ∀ (F : HF) (v3 : Int32) (v4 : Int32) (v5 : Int32), L11 F v3 v4 v5 → J p l e rm_X7_bear s m args below meth c 7 D dA ad R A (QV D dA ad R A below args s K) F 11 [(0, .ref (ad 100)), (1, .ref (ad r1)), (3, .int v3), (4, .int v4), (5, .int v5)] []) : ∀ (F : HF) (v3 : Int32) (v4 : Int32) (v5 : Int32) (s1 : Int32) (s2 : Int32) (s3 : Int32), wp_X7_bear_83 K L11 r1 z1 F v3 v4 v5 s1 s2 s3 → J p l e rm_X7_bear s m args below meth c 7 D dA ad R A (QV D dA ad R A below args s K) F 83 [(0, .ref (ad 100)), (1, .ref (ad r1)), (3, .int v3), (4, .int v4), (5, .int v5)] [.int s3, .int s2, .int s1, .ref (ad 129)] := by
  intro F v3 v4 v5 s1 s2 s3 h
  unfold wp_X7_bear_83 at h
  refine r_iadd (pc := 83) X dX7_bear_83 ?_
  refine r_iast (pc := 84) X hT.2.2.2.2.2.2.2.2.2.2.2.2.2.1 h.1 dX7_bear_84 (fun F302 e1 => ?_)
  replace h := h.2 F302 e1
  refine r_iinc (pc := 85) (v := (v5 + (nI 1))) X 4 [(5, .int (v5 + (nI 1))), (0, .ref (ad 100)), (1, .ref (ad r1)), (3, .int v3), (4, .int v4)] dX7_bear_85 rfl rfl (by decide) rfl ?_
  refine r_goto (pc := 88) (tgt := 11) X dX7_bear_88 (by decide) ?_
  refine r_sub [1, 2, 3, 4, 0] rfl ?_
  exact hL11 _ _ _ _ h
def wp_X7_bear_39 (K : HF → Prop) (L11 : HF → Int32 → Int32 → Int32 → Prop) (r1 : Nat) (z1 : Nat) (F : HF) (v3 : Int32) (v4 : Int32) (v5 : Int32) (s0 : Int32) : Prop := (vp_in v5 8) ∧ (((¬ s0 = (nI 0)) → (((¬ s0 = (nI 1)) → (((¬ s0 = (nI 2)) → (wp_X7_bear_83 K L11 r1 z1  F v3 v4 v5 v5 (F 129 v5.toNatClampNeg) (nI 0))) ∧ ((s0 = (nI 2)) → (wp_X7_bear_83 K L11 r1 z1  F v3 v4 v5 v5 (F 129 v5.toNatClampNeg) (v3 / (nI 4)))))) ∧ ((s0 = (nI 1)) → (wp_X7_bear_83 K L11 r1 z1  F v3 v4 v5 v5 (F 129 v5.toNatClampNeg) (v3 / (nI 2)))))) ∧ ((s0 = (nI 0)) → (wp_X7_bear_83 K L11 r1 z1  F v3 v4 v5 v5 (F 129 v5.toNatClampNeg) v3)))
set_option maxRecDepth 100000 in
set_option maxHeartbeats 4000000 in
theorem k_X7_bear_39 {p : Program} {l : Launch} {e : Env} {s : State} {m : MethodId} {args : Array Value} {below : List Frame} {meth : Method} {c : Code} {D : va_G} {dA : Nat → ClassId} {ad : Nat → Nat} {R : List Nat} {A : Nat → Prop} {K : HF → Prop} {L11 : HF → Int32 → Int32 → Int32 → Prop} {r1 : Nat} {z1 : Nat} (X : Cx p s m args meth c cX7_bear 7 RX7 D dA) (hA : ∀ q, s.heap.size ≤ q → A q) (hr : meth.sig.returnType = none) (hT : Md R) (hr1 : IA R r1 z1) (hL11 : ∀ (F : HF) (v3 : Int32) (v4 : Int32) (v5 : Int32), L11 F v3 v4 v5 → J p l e rm_X7_bear s m args below meth c 7 D dA ad R A (QV D dA ad R A below args s K) F 11 [(0, .ref (ad 100)), (1, .ref (ad r1)), (3, .int v3), (4, .int v4), (5, .int v5)] []) : ∀ (F : HF) (v3 : Int32) (v4 : Int32) (v5 : Int32) (s0 : Int32), wp_X7_bear_39 K L11 r1 z1 F v3 v4 v5 s0 → J p l e rm_X7_bear s m args below meth c 7 D dA ad R A (QV D dA ad R A below args s K) F 39 [(0, .ref (ad 100)), (1, .ref (ad r1)), (3, .int v3), (4, .int v4), (5, .int v5)] [.int s0] := by
  intro F v3 v4 v5 s0 h
  unfold wp_X7_bear_39 at h
  refine r_istore (pc := 39) X [(6, .int s0), (0, .ref (ad 100)), (1, .ref (ad r1)), (3, .int v3), (4, .int v4), (5, .int v5)] dX7_bear_39 (by decide) rfl ?_
  refine r_aload_n (pc := 41) X 1 dX7_bear_41 rfl rfl ?_
  refine fg_X7_62 (pc := 42) X hT.1 dX7_bear_42 ?_
  refine r_iload (pc := 45) X 5 dX7_bear_45 rfl ?_
  refine r_dup2 (pc := 47) X dX7_bear_47 rfl rfl ?_
  refine r_iald (pc := 48) X hT.2.2.2.2.2.2.2.2.2.2.2.2.2.1 h.1 dX7_bear_48 ?_
  replace h := h.2
  refine r_iload (pc := 49) X 0 dX7_bear_49 rfl ?_
  refine r_if_ne (pc := 51) (tgt := 58) X dX7_bear_51 (by decide) (fun hc => ?_) (fun hc => ?_)
  · replace h := h.1 hc
    refine r_iload (pc := 58) X 0 dX7_bear_58 rfl ?_
    refine r_iconst (pc := 60) (v := (nI 1)) X dX7_bear_60 (by decide) ?_
    refine r_icmp_ne (pc := 61) (tgt := 70) X dX7_bear_61 (by decide) (fun hc => ?_) (fun hc => ?_)
    · replace h := h.1 hc
      refine r_iload (pc := 70) X 0 dX7_bear_70 rfl ?_
      refine r_iconst (pc := 72) (v := (nI 2)) X dX7_bear_72 (by decide) ?_
      refine r_icmp_ne (pc := 73) (tgt := 82) X dX7_bear_73 (by decide) (fun hc => ?_) (fun hc => ?_)
      · replace h := h.1 hc
        refine r_iconst (pc := 82) (v := (nI 0)) X dX7_bear_82 (by decide) ?_
        refine r_sub [1, 2, 3, 4, 5] rfl ?_
        exact k_X7_bear_83 X hA hr hT hr1 hL11 _ _ _ _ _ _ _ h
      · replace h := h.2 hc
        refine r_iload_n (pc := 76) X 3 dX7_bear_76 rfl rfl ?_
        refine r_iconst (pc := 77) (v := (nI 4)) X dX7_bear_77 (by decide) ?_
        refine r_idiv (pc := 78) X dX7_bear_78 (by decide) ?_
        refine r_goto (pc := 79) (tgt := 83) X dX7_bear_79 (by decide) ?_
        refine r_sub [1, 2, 3, 4, 5] rfl ?_
        exact k_X7_bear_83 X hA hr hT hr1 hL11 _ _ _ _ _ _ _ h
    · replace h := h.2 hc
      refine r_iload_n (pc := 64) X 3 dX7_bear_64 rfl rfl ?_
      refine r_iconst (pc := 65) (v := (nI 2)) X dX7_bear_65 (by decide) ?_
      refine r_idiv (pc := 66) X dX7_bear_66 (by decide) ?_
      refine r_goto (pc := 67) (tgt := 83) X dX7_bear_67 (by decide) ?_
      refine r_sub [1, 2, 3, 4, 5] rfl ?_
      exact k_X7_bear_83 X hA hr hT hr1 hL11 _ _ _ _ _ _ _ h
  · replace h := h.2 hc
    refine r_iload_n (pc := 54) X 3 dX7_bear_54 rfl rfl ?_
    refine r_goto (pc := 55) (tgt := 83) X dX7_bear_55 (by decide) ?_
    refine r_sub [1, 2, 3, 4, 5] rfl ?_
    exact k_X7_bear_83 X hA hr hT hr1 hL11 _ _ _ _ _ _ _ h
def wp_X7_bear_11 (K : HF → Prop) (r1 : Nat) (z1 : Nat) : Nat → HF → Int32 → Int32 → Int32 → Prop
  | 0 => fun _ _ _ _ => False
  | n11_ + 1 => fun F v3 v4 v5 => (vp_in (nI 0) z1) ∧ ((((F r1 (nI 0).toNatClampNeg) ≤ v5) → (K F)) ∧ ((¬ (F r1 (nI 0).toNatClampNeg) ≤ v5) → (((v5 ≤ v4) → (wp_X7_bear_39 K (wp_X7_bear_11 K r1 z1 n11_) r1 z1  F v3 v4 v5 (v4 - v5))) ∧ ((¬ v5 ≤ v4) → (wp_X7_bear_39 K (wp_X7_bear_11 K r1 z1 n11_) r1 z1  F v3 v4 v5 (v5 - v4))))))
set_option maxRecDepth 100000 in
set_option maxHeartbeats 4000000 in
theorem k_X7_bear_11 {p : Program} {l : Launch} {e : Env} {s : State} {m : MethodId} {args : Array Value} {below : List Frame} {meth : Method} {c : Code} {D : va_G} {dA : Nat → ClassId} {ad : Nat → Nat} {R : List Nat} {A : Nat → Prop} {K : HF → Prop} {r1 : Nat} {z1 : Nat} (X : Cx p s m args meth c cX7_bear 7 RX7 D dA) (hA : ∀ q, s.heap.size ≤ q → A q) (hr : meth.sig.returnType = none) (hT : Md R) (hr1 : IA R r1 z1) : ∀ (n_ : Nat) (F : HF) (v3 : Int32) (v4 : Int32) (v5 : Int32), wp_X7_bear_11 K r1 z1 n_ F v3 v4 v5 → J p l e rm_X7_bear s m args below meth c 7 D dA ad R A (QV D dA ad R A below args s K) F 11 [(0, .ref (ad 100)), (1, .ref (ad r1)), (3, .int v3), (4, .int v4), (5, .int v5)] [] := by
  intro n_
  induction n_ with
  | zero => intro F v3 v4 v5 h; exact h.elim
  | succ n_ ih =>
    intro F v3 v4 v5 h
    unfold wp_X7_bear_11 at h
    refine r_iload (pc := 11) X 4 dX7_bear_11 rfl ?_
    refine r_aload_n (pc := 13) X 1 dX7_bear_13 rfl rfl ?_
    refine r_iconst (pc := 14) (v := (nI 0)) X dX7_bear_14 (by decide) ?_
    refine r_iald (pc := 15) X hr1 h.1 dX7_bear_15 ?_
    replace h := h.2
    refine r_icmp_ge (pc := 16) (tgt := 91) X dX7_bear_16 (by decide) (fun hc => ?_) (fun hc => ?_)
    · replace h := h.1 hc
      exact r_vret (pc := 91) X hr dX7_bear_91 h
    · replace h := h.2 hc
      refine r_iload (pc := 19) X 4 dX7_bear_19 rfl ?_
      refine r_iload (pc := 21) X 3 dX7_bear_21 rfl ?_
      refine r_icmp_le (pc := 23) (tgt := 34) X dX7_bear_23 (by decide) (fun hc => ?_) (fun hc => ?_)
      · replace h := h.1 hc
        refine r_iload (pc := 34) X 3 dX7_bear_34 rfl ?_
        refine r_iload (pc := 36) X 4 dX7_bear_36 rfl ?_
        refine r_isub (pc := 38) X dX7_bear_38 ?_
        exact k_X7_bear_39 X hA hr hT hr1 ih _ _ _ _ _ h
      · replace h := h.2 hc
        refine r_iload (pc := 26) X 4 dX7_bear_26 rfl ?_
        refine r_iload (pc := 28) X 3 dX7_bear_28 rfl ?_
        refine r_isub (pc := 30) X dX7_bear_30 ?_
        refine r_goto (pc := 31) (tgt := 39) X dX7_bear_31 (by decide) ?_
        exact k_X7_bear_39 X hA hr hT hr1 ih _ _ _ _ _ h
def wp_X7_bear (K : HF → Prop) (F : HF) (r1 : Nat) (z1 : Nat) (a2 : Int32) (a3 : Int32) : Prop := wp_X7_holderOf (fun x1 F1 => ∃ m_, wp_X7_bear_11 K r1 z1  m_ F1 a3 x1 (nI 0)) F r1 z1 a2
set_option maxRecDepth 100000 in
set_option maxHeartbeats 4000000 in
theorem c_X7_bear {l : Launch} {D : va_G} {dA : Nat → ClassId} {ad : Nat → Nat} {R : List Nat} {F : HF} {r1 : Nat} {z1 : Nat} {a2 : Int32} {a3 : Int32} {K : HF → Prop} (hT : Md R) (hr1 : IA R r1 z1) (h : wp_X7_bear K F r1 z1 a2 a3) : MV l yX7_bear cX7_bear 7 rm_X7_bear D dA ad R F [.ref (ad 100), .ref (ad r1), .int a2, .int a3] K := by
  refine MV.of (own := RX7) (by decide) rfl (Nat.le_of_ble_eq_true rfl) ?_
  intro p e s m args below meth c A hA X hr
  unfold wp_X7_bear at h
  show J p l e rm_X7_bear s m args below meth c 7 D dA ad R A (QV D dA ad R A below args s K) F 0 [(0, .ref (ad 100)), (1, .ref (ad r1)), (2, .int a2), (3, .int a3)] []
  refine r_aload_n (pc := 0) X 0 dX7_bear_0 rfl rfl ?_
  refine r_aload_n (pc := 1) X 1 dX7_bear_1 rfl rfl ?_
  refine r_iload_n (pc := 2) X 2 dX7_bear_2 rfl rfl ?_
  refine r_callIV (pc := 3) (As := [.ref (ad r1), .int a2]) (st := []) X hA (c_X7_holderOf hT hr1 h) g_X7_157 cl_X7 hT.1 hd_X7_holderOf rfl rfl rfl ⟨Nat.le_of_ble_eq_true rfl, Nat.le_of_ble_eq_true rfl⟩ rfl (Nat.le_of_ble_eq_true rfl) dX7_bear_3 (fun x1 F1 h => ?_)
  refine r_istore (pc := 6) X [(4, .int x1), (0, .ref (ad 100)), (1, .ref (ad r1)), (2, .int a2), (3, .int a3)] dX7_bear_6 (by decide) rfl ?_
  refine r_iconst (pc := 8) (v := (nI 0)) X dX7_bear_8 (by decide) ?_
  refine r_istore (pc := 9) X [(5, .int (nI 0)), (4, .int x1), (0, .ref (ad 100)), (1, .ref (ad r1)), (2, .int a2), (3, .int a3)] dX7_bear_9 (by decide) rfl ?_
  refine r_sub [2, 3, 5, 1, 0] rfl ?_
  obtain ⟨n1, h⟩ := h
  exact k_X7_bear_11 X hA hr hT hr1  n1 _ _ _ _ h
theorem dX7_tire_0 : decode cX7_tire 0 = .ok (.iconst 0, 1) := by decide +kernel
theorem dX7_tire_1 : decode cX7_tire 1 = .ok (.istore_n 2, 1) := by decide +kernel
theorem dX7_tire_2 : decode cX7_tire 2 = .ok (.iload_n 2, 1) := by decide +kernel
theorem dX7_tire_3 : decode cX7_tire 3 = .ok (.aload_n 1, 1) := by decide +kernel
theorem dX7_tire_4 : decode cX7_tire 4 = .ok (.iconst 0, 1) := by decide +kernel
theorem dX7_tire_5 : decode cX7_tire 5 = .ok (.iaload, 1) := by decide +kernel
theorem dX7_tire_6 : decode cX7_tire 6 = .ok (.if_icmp .ge 53, 3) := by decide +kernel
theorem dX7_tire_9 : decode cX7_tire 9 = .ok (.aload_n 1, 1) := by decide +kernel
theorem dX7_tire_10 : decode cX7_tire 10 = .ok (.iconst 5, 1) := by decide +kernel
theorem dX7_tire_11 : decode cX7_tire 11 = .ok (.iload_n 2, 1) := by decide +kernel
theorem dX7_tire_12 : decode cX7_tire 12 = .ok (.iadd, 1) := by decide +kernel
theorem dX7_tire_13 : decode cX7_tire 13 = .ok (.iaload, 1) := by decide +kernel
theorem dX7_tire_14 : decode cX7_tire 14 = .ok (.istore_n 3, 1) := by decide +kernel
theorem dX7_tire_15 : decode cX7_tire 15 = .ok (.aload_n 0, 1) := by decide +kernel
theorem dX7_tire_16 : decode cX7_tire 16 = .ok (.getfield 62, 3) := by decide +kernel
theorem dX7_tire_19 : decode cX7_tire 19 = .ok (.iload_n 2, 1) := by decide +kernel
theorem dX7_tire_20 : decode cX7_tire 20 = .ok (.iaload, 1) := by decide +kernel
theorem dX7_tire_21 : decode cX7_tire 21 = .ok (.bipush 8, 2) := by decide +kernel
theorem dX7_tire_23 : decode cX7_tire 23 = .ok (.idiv, 1) := by decide +kernel
theorem dX7_tire_24 : decode cX7_tire 24 = .ok (.istore 4, 2) := by decide +kernel
theorem dX7_tire_26 : decode cX7_tire 26 = .ok (.aload_n 1, 1) := by decide +kernel
theorem dX7_tire_27 : decode cX7_tire 27 = .ok (.bipush 13, 2) := by decide +kernel
theorem dX7_tire_29 : decode cX7_tire 29 = .ok (.iload_n 3, 1) := by decide +kernel
theorem dX7_tire_30 : decode cX7_tire 30 = .ok (.iadd, 1) := by decide +kernel
theorem dX7_tire_31 : decode cX7_tire 31 = .ok (.dup2, 1) := by decide +kernel
theorem dX7_tire_32 : decode cX7_tire 32 = .ok (.iaload, 1) := by decide +kernel
theorem dX7_tire_33 : decode cX7_tire 33 = .ok (.aload_n 0, 1) := by decide +kernel
theorem dX7_tire_34 : decode cX7_tire 34 = .ok (.iload_n 3, 1) := by decide +kernel
theorem dX7_tire_35 : decode cX7_tire 35 = .ok (.invokevirtual 150, 3) := by decide +kernel
theorem dX7_tire_38 : decode cX7_tire 38 = .ok (.iconst 2, 1) := by decide +kernel
theorem dX7_tire_39 : decode cX7_tire 39 = .ok (.if_icmp .ne 10, 3) := by decide +kernel
theorem dX7_tire_42 : decode cX7_tire 42 = .ok (.iconst 2, 1) := by decide +kernel
theorem dX7_tire_43 : decode cX7_tire 43 = .ok (.iload 4, 2) := by decide +kernel
theorem dX7_tire_45 : decode cX7_tire 45 = .ok (.imul, 1) := by decide +kernel
theorem dX7_tire_46 : decode cX7_tire 46 = .ok (.goto 5, 3) := by decide +kernel
theorem dX7_tire_49 : decode cX7_tire 49 = .ok (.iload 4, 2) := by decide +kernel
theorem dX7_tire_51 : decode cX7_tire 51 = .ok (.iadd, 1) := by decide +kernel
theorem dX7_tire_52 : decode cX7_tire 52 = .ok (.iastore, 1) := by decide +kernel
theorem dX7_tire_53 : decode cX7_tire 53 = .ok (.iinc 2 1, 3) := by decide +kernel
theorem dX7_tire_56 : decode cX7_tire 56 = .ok (.goto (-54), 3) := by decide +kernel
theorem dX7_tire_59 : decode cX7_tire 59 = .ok (.return_, 1) := by decide +kernel
theorem hd_X7_tire : yX7_tire.cls = RX7 ∧ yX7_tire.cls ≠ "java/lang/invoke/MethodHandle" ∧ yX7_tire.cls ≠ "java/lang/invoke/VarHandle" ∧ (parseMethodDescriptor yX7_tire.desc).map (fun d => d.parameters.length) = some 1 := by decide +kernel
abbrev rm_X7_tire : Room := { frames := 1, cells := 0, slots := 0, locals := 21 }
def wp_X7_tire_51 (K : HF → Prop) (L2 : HF → Int32 → Prop) (r1 : Nat) (z1 : Nat) (F : HF) (v2 : Int32) (s1 : Int32) (s2 : Int32) (s3 : Int32) : Prop := (vp_in s1 z1) ∧ (∀ F202 : HF, F202 = hup F r1 s1.toNatClampNeg (s2 + s3) → (L2 F202 (v2 + (nI 1))))
set_option maxRecDepth 100000 in
set_option maxHeartbeats 4000000 in
theorem k_X7_tire_51 {p : Program} {l : Launch} {e : Env} {s : State} {m : MethodId} {args : Array Value} {below : List Frame} {meth : Method} {c : Code} {D : va_G} {dA : Nat → ClassId} {ad : Nat → Nat} {R : List Nat} {A : Nat → Prop} {K : HF → Prop} {L2 : HF → Int32 → Prop} {r1 : Nat} {z1 : Nat} (X : Cx p s m args meth c cX7_tire 5 RX7 D dA) (hA : ∀ q, s.heap.size ≤ q → A q) (hr : meth.sig.returnType = none) (hT : Md R) (hr1 : IA R r1 z1) (hL2 : ∀ (F : HF) (v2 : Int32), L2 F v2 → J p l e rm_X7_tire s m args below meth c 5 D dA ad R A (QV D dA ad R A below args s K) F 2 [(0, .ref (ad 100)), (1, .ref (ad r1)), (2, .int v2)] []) : ∀ (F : HF) (v2 : Int32) (s1 : Int32) (s2 : Int32) (s3 : Int32), wp_X7_tire_51 K L2 r1 z1 F v2 s1 s2 s3 → J p l e rm_X7_tire s m args below meth c 5 D dA ad R A (QV D dA ad R A below args s K) F 51 [(0, .ref (ad 100)), (1, .ref (ad r1)), (2, .int v2)] [.int s3, .int s2, .int s1, .ref (ad r1)] := by
  intro F v2 s1 s2 s3 h
  unfold wp_X7_tire_51 at h
  refine r_iadd (pc := 51) X dX7_tire_51 ?_
  refine r_iast (pc := 52) X hr1 h.1 dX7_tire_52 (fun F202 e1 => ?_)
  replace h := h.2 F202 e1
  refine r_iinc (pc := 53) (v := (v2 + (nI 1))) X 2 [(2, .int (v2 + (nI 1))), (0, .ref (ad 100)), (1, .ref (ad r1))] dX7_tire_53 rfl rfl (by decide) rfl ?_
  refine r_goto (pc := 56) (tgt := 2) X dX7_tire_56 (by decide) ?_
  refine r_sub [1, 2, 0] rfl ?_
  exact hL2 _ _ h
def wp_X7_tire_2 (K : HF → Prop) (r1 : Nat) (z1 : Nat) : Nat → HF → Int32 → Prop
  | 0 => fun _ _ => False
  | n2_ + 1 => fun F v2 => (vp_in (nI 0) z1) ∧ ((((F r1 (nI 0).toNatClampNeg) ≤ v2) → (K F)) ∧ ((¬ (F r1 (nI 0).toNatClampNeg) ≤ v2) → ((vp_in ((nI 5) + v2) z1) ∧ ((vp_in v2 8) ∧ ((vp_in ((nI 13) + (F r1 ((nI 5) + v2).toNatClampNeg)) z1) ∧ (wp_X7_kindOf (fun x1 F101 => ((¬ x1 = (nI 2)) → (wp_X7_tire_51 K (wp_X7_tire_2 K r1 z1 n2_) r1 z1  F101 v2 ((nI 13) + (F r1 ((nI 5) + v2).toNatClampNeg)) (F r1 ((nI 13) + (F r1 ((nI 5) + v2).toNatClampNeg)).toNatClampNeg) ((F 129 v2.toNatClampNeg) / (nI 8)))) ∧ ((x1 = (nI 2)) → (wp_X7_tire_51 K (wp_X7_tire_2 K r1 z1 n2_) r1 z1  F101 v2 ((nI 13) + (F r1 ((nI 5) + v2).toNatClampNeg)) (F r1 ((nI 13) + (F r1 ((nI 5) + v2).toNatClampNeg)).toNatClampNeg) ((nI 2) * ((F 129 v2.toNatClampNeg) / (nI 8)))))) F (F r1 ((nI 5) + v2).toNatClampNeg)))))))
set_option maxRecDepth 100000 in
set_option maxHeartbeats 4000000 in
theorem k_X7_tire_2 {p : Program} {l : Launch} {e : Env} {s : State} {m : MethodId} {args : Array Value} {below : List Frame} {meth : Method} {c : Code} {D : va_G} {dA : Nat → ClassId} {ad : Nat → Nat} {R : List Nat} {A : Nat → Prop} {K : HF → Prop} {r1 : Nat} {z1 : Nat} (X : Cx p s m args meth c cX7_tire 5 RX7 D dA) (hA : ∀ q, s.heap.size ≤ q → A q) (hr : meth.sig.returnType = none) (hT : Md R) (hr1 : IA R r1 z1) : ∀ (n_ : Nat) (F : HF) (v2 : Int32), wp_X7_tire_2 K r1 z1 n_ F v2 → J p l e rm_X7_tire s m args below meth c 5 D dA ad R A (QV D dA ad R A below args s K) F 2 [(0, .ref (ad 100)), (1, .ref (ad r1)), (2, .int v2)] [] := by
  intro n_
  induction n_ with
  | zero => intro F v2 h; exact h.elim
  | succ n_ ih =>
    intro F v2 h
    unfold wp_X7_tire_2 at h
    refine r_iload_n (pc := 2) X 2 dX7_tire_2 rfl rfl ?_
    refine r_aload_n (pc := 3) X 1 dX7_tire_3 rfl rfl ?_
    refine r_iconst (pc := 4) (v := (nI 0)) X dX7_tire_4 (by decide) ?_
    refine r_iald (pc := 5) X hr1 h.1 dX7_tire_5 ?_
    replace h := h.2
    refine r_icmp_ge (pc := 6) (tgt := 59) X dX7_tire_6 (by decide) (fun hc => ?_) (fun hc => ?_)
    · replace h := h.1 hc
      exact r_vret (pc := 59) X hr dX7_tire_59 h
    · replace h := h.2 hc
      refine r_aload_n (pc := 9) X 1 dX7_tire_9 rfl rfl ?_
      refine r_iconst (pc := 10) (v := (nI 5)) X dX7_tire_10 (by decide) ?_
      refine r_iload_n (pc := 11) X 2 dX7_tire_11 rfl rfl ?_
      refine r_iadd (pc := 12) X dX7_tire_12 ?_
      refine r_iald (pc := 13) X hr1 h.1 dX7_tire_13 ?_
      replace h := h.2
      refine r_istore_n (pc := 14) X [(3, .int (F r1 ((nI 5) + v2).toNatClampNeg)), (0, .ref (ad 100)), (1, .ref (ad r1)), (2, .int v2)] dX7_tire_14 rfl (by decide) rfl ?_
      refine r_aload_n (pc := 15) X 1 dX7_tire_15 rfl rfl ?_
      refine fg_X7_62 (pc := 16) X hT.1 dX7_tire_16 ?_
      refine r_iload_n (pc := 19) X 3 dX7_tire_19 rfl rfl ?_
      refine r_iald (pc := 20) X hT.2.2.2.2.2.2.2.2.2.2.2.2.2.1 h.1 dX7_tire_20 ?_
      replace h := h.2
      refine r_bipush (pc := 21) (v := (nI 8)) X dX7_tire_21 (by decide) ?_
      refine r_idiv (pc := 23) X dX7_tire_23 (by decide) ?_
      refine r_istore (pc := 24) X [(4, .int ((F 129 v2.toNatClampNeg) / (nI 8))), (3, .int (F r1 ((nI 5) + v2).toNatClampNeg)), (0, .ref (ad 100)), (1, .ref (ad r1)), (2, .int v2)] dX7_tire_24 (by decide) rfl ?_
      refine r_aload_n (pc := 26) X 3 dX7_tire_26 rfl rfl ?_
      refine r_bipush (pc := 27) (v := (nI 13)) X dX7_tire_27 (by decide) ?_
      refine r_iload_n (pc := 29) X 1 dX7_tire_29 rfl rfl ?_
      refine r_iadd (pc := 30) X dX7_tire_30 ?_
      refine r_dup2 (pc := 31) X dX7_tire_31 rfl rfl ?_
      refine r_iald (pc := 32) X hr1 h.1 dX7_tire_32 ?_
      replace h := h.2
      refine r_aload_n (pc := 33) X 2 dX7_tire_33 rfl rfl ?_
      refine r_iload_n (pc := 34) X 1 dX7_tire_34 rfl rfl ?_
      refine r_callIV (pc := 35) (As := [.int (F r1 ((nI 5) + v2).toNatClampNeg)]) (st := [.int (F r1 ((nI 13) + (F r1 ((nI 5) + v2).toNatClampNeg)).toNatClampNeg), .int ((nI 13) + (F r1 ((nI 5) + v2).toNatClampNeg)), .ref (ad r1)]) X hA (c_X7_kindOf hT h) g_X7_150 cl_X7 hT.1 hd_X7_kindOf rfl rfl rfl ⟨Nat.le_of_ble_eq_true rfl, Nat.le_of_ble_eq_true rfl⟩ rfl (Nat.le_of_ble_eq_true rfl) dX7_tire_35 (fun x1 F101 h => ?_)
      refine r_iconst (pc := 38) (v := (nI 2)) X dX7_tire_38 (by decide) ?_
      refine r_icmp_ne (pc := 39) (tgt := 49) X dX7_tire_39 (by decide) (fun hc => ?_) (fun hc => ?_)
      · replace h := h.1 hc
        refine r_iload (pc := 49) X 0 dX7_tire_49 rfl ?_
        refine r_sub [2, 3, 4] rfl ?_
        exact k_X7_tire_51 X hA hr hT hr1 ih _ _ _ _ _ h
      · replace h := h.2 hc
        refine r_iconst (pc := 42) (v := (nI 2)) X dX7_tire_42 (by decide) ?_
        refine r_iload (pc := 43) X 0 dX7_tire_43 rfl ?_
        refine r_imul (pc := 45) X dX7_tire_45 ?_
        refine r_goto (pc := 46) (tgt := 51) X dX7_tire_46 (by decide) ?_
        refine r_sub [2, 3, 4] rfl ?_
        exact k_X7_tire_51 X hA hr hT hr1 ih _ _ _ _ _ h
def wp_X7_tire (K : HF → Prop) (F : HF) (r1 : Nat) (z1 : Nat) : Prop := ∃ m_, wp_X7_tire_2 K r1 z1  m_ F (nI 0)
set_option maxRecDepth 100000 in
set_option maxHeartbeats 4000000 in
theorem c_X7_tire {l : Launch} {D : va_G} {dA : Nat → ClassId} {ad : Nat → Nat} {R : List Nat} {F : HF} {r1 : Nat} {z1 : Nat} {K : HF → Prop} (hT : Md R) (hr1 : IA R r1 z1) (h : wp_X7_tire K F r1 z1) : MV l yX7_tire cX7_tire 5 rm_X7_tire D dA ad R F [.ref (ad 100), .ref (ad r1)] K := by
  refine MV.of (own := RX7) (by decide) rfl (Nat.le_of_ble_eq_true rfl) ?_
  intro p e s m args below meth c A hA X hr
  unfold wp_X7_tire at h
  show J p l e rm_X7_tire s m args below meth c 5 D dA ad R A (QV D dA ad R A below args s K) F 0 [(0, .ref (ad 100)), (1, .ref (ad r1))] []
  refine r_iconst (pc := 0) (v := (nI 0)) X dX7_tire_0 (by decide) ?_
  refine r_istore_n (pc := 1) X [(2, .int (nI 0)), (0, .ref (ad 100)), (1, .ref (ad r1))] dX7_tire_1 rfl (by decide) rfl ?_
  refine r_sub [1, 2, 0] rfl ?_
  obtain ⟨n1, h⟩ := h
  exact k_X7_tire_2 X hA hr hT hr1  n1 _ _ h
theorem dX7_holds_0 : decode cX7_holds 0 = .ok (.iconst 0, 1) := by decide +kernel
theorem dX7_holds_1 : decode cX7_holds 1 = .ok (.istore_n 2, 1) := by decide +kernel
theorem dX7_holds_2 : decode cX7_holds 2 = .ok (.iload_n 2, 1) := by decide +kernel
theorem dX7_holds_3 : decode cX7_holds 3 = .ok (.aload_n 1, 1) := by decide +kernel
theorem dX7_holds_4 : decode cX7_holds 4 = .ok (.iconst 0, 1) := by decide +kernel
theorem dX7_holds_5 : decode cX7_holds 5 = .ok (.iaload, 1) := by decide +kernel
theorem dX7_holds_6 : decode cX7_holds 6 = .ok (.if_icmp .ge 26, 3) := by decide +kernel
theorem dX7_holds_9 : decode cX7_holds 9 = .ok (.aload_n 0, 1) := by decide +kernel
theorem dX7_holds_10 : decode cX7_holds 10 = .ok (.getfield 62, 3) := by decide +kernel
theorem dX7_holds_13 : decode cX7_holds 13 = .ok (.iload_n 2, 1) := by decide +kernel
theorem dX7_holds_14 : decode cX7_holds 14 = .ok (.iaload, 1) := by decide +kernel
theorem dX7_holds_15 : decode cX7_holds 15 = .ok (.aload_n 0, 1) := by decide +kernel
theorem dX7_holds_16 : decode cX7_holds 16 = .ok (.aload_n 1, 1) := by decide +kernel
theorem dX7_holds_17 : decode cX7_holds 17 = .ok (.iload_n 2, 1) := by decide +kernel
theorem dX7_holds_18 : decode cX7_holds 18 = .ok (.invokevirtual 160, 3) := by decide +kernel
theorem dX7_holds_21 : decode cX7_holds 21 = .ok (.if_icmp .le 5, 3) := by decide +kernel
theorem dX7_holds_24 : decode cX7_holds 24 = .ok (.iconst 0, 1) := by decide +kernel
theorem dX7_holds_25 : decode cX7_holds 25 = .ok (.ireturn, 1) := by decide +kernel
theorem dX7_holds_26 : decode cX7_holds 26 = .ok (.iinc 2 1, 3) := by decide +kernel
theorem dX7_holds_29 : decode cX7_holds 29 = .ok (.goto (-27), 3) := by decide +kernel
theorem dX7_holds_32 : decode cX7_holds 32 = .ok (.aload_n 0, 1) := by decide +kernel
theorem dX7_holds_33 : decode cX7_holds 33 = .ok (.aload_n 1, 1) := by decide +kernel
theorem dX7_holds_34 : decode cX7_holds 34 = .ok (.invokevirtual 163, 3) := by decide +kernel
theorem dX7_holds_37 : decode cX7_holds 37 = .ok (.iconst 1, 1) := by decide +kernel
theorem dX7_holds_38 : decode cX7_holds 38 = .ok (.ireturn, 1) := by decide +kernel
theorem hd_X7_holds : yX7_holds.cls = RX7 ∧ yX7_holds.cls ≠ "java/lang/invoke/MethodHandle" ∧ yX7_holds.cls ≠ "java/lang/invoke/VarHandle" ∧ (parseMethodDescriptor yX7_holds.desc).map (fun d => d.parameters.length) = some 1 := by decide +kernel
abbrev rm_X7_holds : Room := { frames := 3, cells := 0, slots := 0, locals := 69 }
def wp_X7_holds_2 (K : Int32 → HF → Prop) (r1 : Nat) (z1 : Nat) : Nat → HF → Int32 → Prop
  | 0 => fun _ _ => False
  | n2_ + 1 => fun F v2 => (vp_in (nI 0) z1) ∧ ((((F r1 (nI 0).toNatClampNeg) ≤ v2) → (wp_X7_tire (fun F101 => K (nI 1) F101) F r1 z1)) ∧ ((¬ (F r1 (nI 0).toNatClampNeg) ≤ v2) → ((vp_in v2 8) ∧ (wp_X7_powerOf (fun x1 F102 => (((F 129 v2.toNatClampNeg) ≤ x1) → (wp_X7_holds_2 K r1 z1  n2_ F102 (v2 + (nI 1)))) ∧ ((¬ (F 129 v2.toNatClampNeg) ≤ x1) → (K (nI 0) F102))) F r1 z1 v2))))
set_option maxRecDepth 100000 in
set_option maxHeartbeats 4000000 in
theorem k_X7_holds_2 {p : Program} {l : Launch} {e : Env} {s : State} {m : MethodId} {args : Array Value} {below : List Frame} {meth : Method} {c : Code} {D : va_G} {dA : Nat → ClassId} {ad : Nat → Nat} {R : List Nat} {A : Nat → Prop} {K : Int32 → HF → Prop} {r1 : Nat} {z1 : Nat} (X : Cx p s m args meth c cX7_holds 3 RX7 D dA) (hA : ∀ q, s.heap.size ≤ q → A q) (hr : meth.sig.returnType = some .boolean) (hT : Md R) (hr1 : IA R r1 z1) : ∀ (n_ : Nat) (F : HF) (v2 : Int32), wp_X7_holds_2 K r1 z1 n_ F v2 → J p l e rm_X7_holds s m args below meth c 3 D dA ad R A (QI D dA ad R A below args s K) F 2 [(0, .ref (ad 100)), (1, .ref (ad r1)), (2, .int v2)] [] := by
  intro n_
  induction n_ with
  | zero => intro F v2 h; exact h.elim
  | succ n_ ih =>
    intro F v2 h
    unfold wp_X7_holds_2 at h
    refine r_iload_n (pc := 2) X 2 dX7_holds_2 rfl rfl ?_
    refine r_aload_n (pc := 3) X 1 dX7_holds_3 rfl rfl ?_
    refine r_iconst (pc := 4) (v := (nI 0)) X dX7_holds_4 (by decide) ?_
    refine r_iald (pc := 5) X hr1 h.1 dX7_holds_5 ?_
    replace h := h.2
    refine r_icmp_ge (pc := 6) (tgt := 32) X dX7_holds_6 (by decide) (fun hc => ?_) (fun hc => ?_)
    · replace h := h.1 hc
      refine r_aload_n (pc := 32) X 0 dX7_holds_32 rfl rfl ?_
      refine r_aload_n (pc := 33) X 1 dX7_holds_33 rfl rfl ?_
      refine r_callVV (pc := 34) (As := [.ref (ad r1)]) (st := []) X hA (c_X7_tire hT hr1 h) g_X7_163 cl_X7 hT.1 hd_X7_tire rfl rfl rfl ⟨Nat.le_of_ble_eq_true rfl, Nat.le_of_ble_eq_true rfl⟩ rfl (Nat.le_of_ble_eq_true rfl) dX7_holds_34 (fun F101 h => ?_)
      refine r_iconst (pc := 37) (v := (nI 1)) X dX7_holds_37 (by decide) ?_
      exact r_zret (pc := 38) X hr dX7_holds_38 nb1 h
    · replace h := h.2 hc
      refine r_aload_n (pc := 9) X 0 dX7_holds_9 rfl rfl ?_
      refine fg_X7_62 (pc := 10) X hT.1 dX7_holds_10 ?_
      refine r_iload_n (pc := 13) X 2 dX7_holds_13 rfl rfl ?_
      refine r_iald (pc := 14) X hT.2.2.2.2.2.2.2.2.2.2.2.2.2.1 h.1 dX7_holds_14 ?_
      replace h := h.2
      refine r_aload_n (pc := 15) X 0 dX7_holds_15 rfl rfl ?_
      refine r_aload_n (pc := 16) X 1 dX7_holds_16 rfl rfl ?_
      refine r_iload_n (pc := 17) X 2 dX7_holds_17 rfl rfl ?_
      refine r_callIV (pc := 18) (As := [.ref (ad r1), .int v2]) (st := [.int (F 129 v2.toNatClampNeg)]) X hA (c_X7_powerOf hT hr1 h) g_X7_160 cl_X7 hT.1 hd_X7_powerOf rfl rfl rfl ⟨Nat.le_of_ble_eq_true rfl, Nat.le_of_ble_eq_true rfl⟩ rfl (Nat.le_of_ble_eq_true rfl) dX7_holds_18 (fun x1 F102 h => ?_)
      refine r_icmp_le (pc := 21) (tgt := 26) X dX7_holds_21 (by decide) (fun hc => ?_) (fun hc => ?_)
      · replace h := h.1 hc
        refine r_iinc (pc := 26) (v := (v2 + (nI 1))) X 2 [(2, .int (v2 + (nI 1))), (0, .ref (ad 100)), (1, .ref (ad r1))] dX7_holds_26 rfl rfl (by decide) rfl ?_
        refine r_goto (pc := 29) (tgt := 2) X dX7_holds_29 (by decide) ?_
        refine r_sub [1, 2, 0] rfl ?_
        exact ih _ _ h
      · replace h := h.2 hc
        refine r_iconst (pc := 24) (v := (nI 0)) X dX7_holds_24 (by decide) ?_
        exact r_zret (pc := 25) X hr dX7_holds_25 nb0 h
def wp_X7_holds (K : Int32 → HF → Prop) (F : HF) (r1 : Nat) (z1 : Nat) : Prop := ∃ m_, wp_X7_holds_2 K r1 z1  m_ F (nI 0)
set_option maxRecDepth 100000 in
set_option maxHeartbeats 4000000 in
theorem c_X7_holds {l : Launch} {D : va_G} {dA : Nat → ClassId} {ad : Nat → Nat} {R : List Nat} {F : HF} {r1 : Nat} {z1 : Nat} {K : Int32 → HF → Prop} (hT : Md R) (hr1 : IA R r1 z1) (h : wp_X7_holds K F r1 z1) : MI l yX7_holds cX7_holds 3 .boolean rm_X7_holds D dA ad R F [.ref (ad 100), .ref (ad r1)] K := by
  refine MI.of (own := RX7) (by decide) rfl (Nat.le_of_ble_eq_true rfl) ?_
  intro p e s m args below meth c A hA X hr
  unfold wp_X7_holds at h
  show J p l e rm_X7_holds s m args below meth c 3 D dA ad R A (QI D dA ad R A below args s K) F 0 [(0, .ref (ad 100)), (1, .ref (ad r1))] []
  refine r_iconst (pc := 0) (v := (nI 0)) X dX7_holds_0 (by decide) ?_
  refine r_istore_n (pc := 1) X [(2, .int (nI 0)), (0, .ref (ad 100)), (1, .ref (ad r1))] dX7_holds_1 rfl (by decide) rfl ?_
  refine r_sub [1, 2, 0] rfl ?_
  obtain ⟨n1, h⟩ := h
  exact k_X7_holds_2 X hA hr hT hr1  n1 _ _ h
theorem dX7_weightIn_0 : decode cX7_weightIn 0 = .ok (.aload_n 0, 1) := by decide +kernel
theorem dX7_weightIn_1 : decode cX7_weightIn 1 = .ok (.getfield 38, 3) := by decide +kernel
theorem dX7_weightIn_4 : decode cX7_weightIn 4 = .ok (.aload_n 0, 1) := by decide +kernel
theorem dX7_weightIn_5 : decode cX7_weightIn 5 = .ok (.getfield 41, 3) := by decide +kernel
theorem dX7_weightIn_8 : decode cX7_weightIn 8 = .ok (.iload_n 1, 1) := by decide +kernel
theorem dX7_weightIn_9 : decode cX7_weightIn 9 = .ok (.imul, 1) := by decide +kernel
theorem dX7_weightIn_10 : decode cX7_weightIn 10 = .ok (.iadd, 1) := by decide +kernel
theorem dX7_weightIn_11 : decode cX7_weightIn 11 = .ok (.ireturn, 1) := by decide +kernel
theorem hd_X7_weightIn : yX7_weightIn.cls = RX7 ∧ yX7_weightIn.cls ≠ "java/lang/invoke/MethodHandle" ∧ yX7_weightIn.cls ≠ "java/lang/invoke/VarHandle" ∧ (parseMethodDescriptor yX7_weightIn.desc).map (fun d => d.parameters.length) = some 1 := by decide +kernel
abbrev rm_X7_weightIn : Room := { frames := 0, cells := 0, slots := 0, locals := 0 }
def wp_X7_weightIn (K : Int32 → HF → Prop) (F : HF) (a1 : Int32) : Prop := K ((F 100 18) + ((F 100 19) * a1)) F
set_option maxRecDepth 100000 in
set_option maxHeartbeats 4000000 in
theorem c_X7_weightIn {l : Launch} {D : va_G} {dA : Nat → ClassId} {ad : Nat → Nat} {R : List Nat} {F : HF} {a1 : Int32} {K : Int32 → HF → Prop} (hT : Md R) (h : wp_X7_weightIn K F a1) : MI l yX7_weightIn cX7_weightIn 2 .int rm_X7_weightIn D dA ad R F [.ref (ad 100), .int a1] K := by
  refine MI.of (own := RX7) (by decide) rfl (Nat.le_of_ble_eq_true rfl) ?_
  intro p e s m args below meth c A hA X hr
  unfold wp_X7_weightIn at h
  show J p l e rm_X7_weightIn s m args below meth c 2 D dA ad R A (QI D dA ad R A below args s K) F 0 [(0, .ref (ad 100)), (1, .int a1)] []
  refine r_aload_n (pc := 0) X 0 dX7_weightIn_0 rfl rfl ?_
  refine fg_X7_38 (pc := 1) X hT.1 dX7_weightIn_1 ?_
  refine r_aload_n (pc := 4) X 0 dX7_weightIn_4 rfl rfl ?_
  refine fg_X7_41 (pc := 5) X hT.1 dX7_weightIn_5 ?_
  refine r_iload_n (pc := 8) X 1 dX7_weightIn_8 rfl rfl ?_
  refine r_imul (pc := 9) X dX7_weightIn_9 ?_
  refine r_iadd (pc := 10) X dX7_weightIn_10 ?_
  exact r_iret (pc := 11) X hr dX7_weightIn_11 h
theorem dX7_isOn_0 : decode cX7_isOn 0 = .ok (.iload_n 0, 1) := by decide +kernel
theorem dX7_isOn_1 : decode cX7_isOn 1 = .ok (.iconst 0, 1) := by decide +kernel
theorem dX7_isOn_2 : decode cX7_isOn 2 = .ok (.iload_n 1, 1) := by decide +kernel
theorem dX7_isOn_3 : decode cX7_isOn 3 = .ok (.iconst 1, 1) := by decide +kernel
theorem dX7_isOn_4 : decode cX7_isOn 4 = .ok (.isub, 1) := by decide +kernel
theorem dX7_isOn_5 : decode cX7_isOn 5 = .ok (.invokestatic 87, 3) := by decide +kernel
theorem dX7_isOn_8 : decode cX7_isOn 8 = .ok (.ireturn, 1) := by decide +kernel
theorem hd_X7_isOn : yX7_isOn.cls = RX7 ∧ yX7_isOn.cls ≠ "java/lang/invoke/MethodHandle" ∧ yX7_isOn.cls ≠ "java/lang/invoke/VarHandle" ∧ (parseMethodDescriptor yX7_isOn.desc).map (fun d => d.parameters.length) = some 2 := by decide +kernel
abbrev rm_X7_isOn : Room := { frames := 1, cells := 0, slots := 0, locals := 22 }
def wp_X7_isOn (K : Int32 → HF → Prop) (F : HF) (a1 : Int32) (a2 : Int32) : Prop := wp_X7_in (fun x1 F1 => (x1 = nI 0 ∨ x1 = nI 1) ∧ K x1 F1) F a1 (nI 0) (a2 - (nI 1))
set_option maxRecDepth 100000 in
set_option maxHeartbeats 4000000 in
theorem c_X7_isOn {l : Launch} {D : va_G} {dA : Nat → ClassId} {ad : Nat → Nat} {R : List Nat} {F : HF} {a1 : Int32} {a2 : Int32} {K : Int32 → HF → Prop} (h : wp_X7_isOn K F a1 a2) : MI l yX7_isOn cX7_isOn 2 .boolean rm_X7_isOn D dA ad R F [.int a1, .int a2] K := by
  refine MI.of (own := RX7) (by decide) rfl (Nat.le_of_ble_eq_true rfl) ?_
  intro p e s m args below meth c A hA X hr
  unfold wp_X7_isOn at h
  show J p l e rm_X7_isOn s m args below meth c 2 D dA ad R A (QI D dA ad R A below args s K) F 0 [(0, .int a1), (1, .int a2)] []
  refine r_iload_n (pc := 0) X 0 dX7_isOn_0 rfl rfl ?_
  refine r_iconst (pc := 1) (v := (nI 0)) X dX7_isOn_1 (by decide) ?_
  refine r_iload_n (pc := 2) X 1 dX7_isOn_2 rfl rfl ?_
  refine r_iconst (pc := 3) (v := (nI 1)) X dX7_isOn_3 (by decide) ?_
  refine r_isub (pc := 4) X dX7_isOn_4 ?_
  refine r_callIS (pc := 5) (As := [.int a1, .int (nI 0), .int (a2 - (nI 1))]) (st := []) X hA (c_X7_in  h) g_X7_87 hd_X7_in rfl rfl rfl ⟨Nat.le_of_ble_eq_true rfl, Nat.le_of_ble_eq_true rfl⟩ rfl (Nat.le_of_ble_eq_true rfl) dX7_isOn_5 (fun x1 F1 h => ?_)
  exact r_zret (pc := 8) X hr dX7_isOn_8 (nbz h.1) h.2
theorem dX7_passes_0 : decode cX7_passes 0 = .ok (.aload_n 0, 1) := by decide +kernel
theorem dX7_passes_1 : decode cX7_passes 1 = .ok (.invokevirtual 167, 3) := by decide +kernel
theorem dX7_passes_4 : decode cX7_passes 4 = .ok (.aload_n 1, 1) := by decide +kernel
theorem dX7_passes_5 : decode cX7_passes 5 = .ok (.iconst 3, 1) := by decide +kernel
theorem dX7_passes_6 : decode cX7_passes 6 = .ok (.iaload, 1) := by decide +kernel
theorem dX7_passes_7 : decode cX7_passes 7 = .ok (.aload_n 0, 1) := by decide +kernel
theorem dX7_passes_8 : decode cX7_passes 8 = .ok (.getfield 35, 3) := by decide +kernel
theorem dX7_passes_11 : decode cX7_passes 11 = .ok (.invokestatic 170, 3) := by decide +kernel
theorem dX7_passes_14 : decode cX7_passes 14 = .ok (.ifCond .eq 20, 3) := by decide +kernel
theorem dX7_passes_17 : decode cX7_passes 17 = .ok (.aload_n 0, 1) := by decide +kernel
theorem dX7_passes_18 : decode cX7_passes 18 = .ok (.aload_n 1, 1) := by decide +kernel
theorem dX7_passes_19 : decode cX7_passes 19 = .ok (.aload_n 1, 1) := by decide +kernel
theorem dX7_passes_20 : decode cX7_passes 20 = .ok (.iconst 3, 1) := by decide +kernel
theorem dX7_passes_21 : decode cX7_passes 21 = .ok (.iaload, 1) := by decide +kernel
theorem dX7_passes_22 : decode cX7_passes 22 = .ok (.aload_n 0, 1) := by decide +kernel
theorem dX7_passes_23 : decode cX7_passes 23 = .ok (.aload_n 1, 1) := by decide +kernel
theorem dX7_passes_24 : decode cX7_passes 24 = .ok (.iconst 2, 1) := by decide +kernel
theorem dX7_passes_25 : decode cX7_passes 25 = .ok (.iaload, 1) := by decide +kernel
theorem dX7_passes_26 : decode cX7_passes 26 = .ok (.invokevirtual 174, 3) := by decide +kernel
theorem dX7_passes_29 : decode cX7_passes 29 = .ok (.iload_n 2, 1) := by decide +kernel
theorem dX7_passes_30 : decode cX7_passes 30 = .ok (.iadd, 1) := by decide +kernel
theorem dX7_passes_31 : decode cX7_passes 31 = .ok (.invokevirtual 177, 3) := by decide +kernel
theorem dX7_passes_34 : decode cX7_passes 34 = .ok (.aload_n 0, 1) := by decide +kernel
theorem dX7_passes_35 : decode cX7_passes 35 = .ok (.aload_n 1, 1) := by decide +kernel
theorem dX7_passes_36 : decode cX7_passes 36 = .ok (.invokevirtual 181, 3) := by decide +kernel
theorem dX7_passes_39 : decode cX7_passes 39 = .ok (.istore_n 3, 1) := by decide +kernel
theorem dX7_passes_40 : decode cX7_passes 40 = .ok (.aload_n 1, 1) := by decide +kernel
theorem dX7_passes_41 : decode cX7_passes 41 = .ok (.iconst 4, 1) := by decide +kernel
theorem dX7_passes_42 : decode cX7_passes 42 = .ok (.iload_n 3, 1) := by decide +kernel
theorem dX7_passes_43 : decode cX7_passes 43 = .ok (.ifCond .eq 7, 3) := by decide +kernel
theorem dX7_passes_46 : decode cX7_passes 46 = .ok (.iconst 0, 1) := by decide +kernel
theorem dX7_passes_47 : decode cX7_passes 47 = .ok (.goto 4, 3) := by decide +kernel
theorem dX7_passes_50 : decode cX7_passes 50 = .ok (.iconst 1, 1) := by decide +kernel
theorem dX7_passes_51 : decode cX7_passes 51 = .ok (.iastore, 1) := by decide +kernel
theorem dX7_passes_52 : decode cX7_passes 52 = .ok (.aload_n 1, 1) := by decide +kernel
theorem dX7_passes_53 : decode cX7_passes 53 = .ok (.iconst 1, 1) := by decide +kernel
theorem dX7_passes_54 : decode cX7_passes 54 = .ok (.dup2, 1) := by decide +kernel
theorem dX7_passes_55 : decode cX7_passes 55 = .ok (.iaload, 1) := by decide +kernel
theorem dX7_passes_56 : decode cX7_passes 56 = .ok (.iconst 1, 1) := by decide +kernel
theorem dX7_passes_57 : decode cX7_passes 57 = .ok (.iadd, 1) := by decide +kernel
theorem dX7_passes_58 : decode cX7_passes 58 = .ok (.iastore, 1) := by decide +kernel
theorem dX7_passes_59 : decode cX7_passes 59 = .ok (.iload_n 3, 1) := by decide +kernel
theorem dX7_passes_60 : decode cX7_passes 60 = .ok (.ireturn, 1) := by decide +kernel
theorem hd_X7_passes : yX7_passes.cls = RX7 ∧ yX7_passes.cls ≠ "java/lang/invoke/MethodHandle" ∧ yX7_passes.cls ≠ "java/lang/invoke/VarHandle" ∧ (parseMethodDescriptor yX7_passes.desc).map (fun d => d.parameters.length) = some 2 := by decide +kernel
abbrev rm_X7_passes : Room := { frames := 4, cells := 0, slots := 0, locals := 91 }
def wp_X7_passes_51 (K : Int32 → HF → Prop) (r1 : Nat) (z1 : Nat) (F : HF) (v3 : Int32) (s1 : Int32) (s2 : Int32) : Prop := (vp_in s1 z1) ∧ (∀ F204 : HF, F204 = hup F r1 s1.toNatClampNeg s2 → ((vp_in (nI 1) z1) ∧ ((vp_in (nI 1) z1) ∧ (∀ F205 : HF, F205 = hup F204 r1 (nI 1).toNatClampNeg ((F204 r1 (nI 1).toNatClampNeg) + (nI 1)) → ((v3 = nI 0 ∨ v3 = nI 1) ∧ K v3 F205)))))
set_option maxRecDepth 100000 in
set_option maxHeartbeats 4000000 in
theorem k_X7_passes_51 {p : Program} {l : Launch} {e : Env} {s : State} {m : MethodId} {args : Array Value} {below : List Frame} {meth : Method} {c : Code} {D : va_G} {dA : Nat → ClassId} {ad : Nat → Nat} {R : List Nat} {A : Nat → Prop} {K : Int32 → HF → Prop} {r1 : Nat} {z1 : Nat} (X : Cx p s m args meth c cX7_passes 4 RX7 D dA) (hA : ∀ q, s.heap.size ≤ q → A q) (hr : meth.sig.returnType = some .boolean) (hT : Md R) (hr1 : IA R r1 z1) : ∀ (F : HF) (v3 : Int32) (s1 : Int32) (s2 : Int32), wp_X7_passes_51 K r1 z1 F v3 s1 s2 → J p l e rm_X7_passes s m args below meth c 4 D dA ad R A (QI D dA ad R A below args s K) F 51 [(1, .ref (ad r1)), (3, .int v3)] [.int s2, .int s1, .ref (ad r1)] := by
  intro F v3 s1 s2 h
  unfold wp_X7_passes_51 at h
  refine r_iast (pc := 51) X hr1 h.1 dX7_passes_51 (fun F204 e1 => ?_)
  replace h := h.2 F204 e1
  refine r_aload_n (pc := 52) X 0 dX7_passes_52 rfl rfl ?_
  refine r_iconst (pc := 53) (v := (nI 1)) X dX7_passes_53 (by decide) ?_
  refine r_dup2 (pc := 54) X dX7_passes_54 rfl rfl ?_
  refine r_iald (pc := 55) X hr1 h.1 dX7_passes_55 ?_
  replace h := h.2
  refine r_iconst (pc := 56) (v := (nI 1)) X dX7_passes_56 (by decide) ?_
  refine r_iadd (pc := 57) X dX7_passes_57 ?_
  refine r_iast (pc := 58) X hr1 h.1 dX7_passes_58 (fun F205 e1 => ?_)
  replace h := h.2 F205 e1
  refine r_iload_n (pc := 59) X 1 dX7_passes_59 rfl rfl ?_
  exact r_zret (pc := 60) X hr dX7_passes_60 (nbz h.1) h.2
def wp_X7_passes_34 (K : Int32 → HF → Prop) (r1 : Nat) (z1 : Nat) (F : HF) : Prop := wp_X7_holds (fun x2 F103 => ((x2 = (nI 0)) → (wp_X7_passes_51 K r1 z1  F103 x2 (nI 4) (nI 1))) ∧ ((¬ x2 = (nI 0)) → (wp_X7_passes_51 K r1 z1  F103 x2 (nI 4) (nI 0)))) F r1 z1
set_option maxRecDepth 100000 in
set_option maxHeartbeats 4000000 in
theorem k_X7_passes_34 {p : Program} {l : Launch} {e : Env} {s : State} {m : MethodId} {args : Array Value} {below : List Frame} {meth : Method} {c : Code} {D : va_G} {dA : Nat → ClassId} {ad : Nat → Nat} {R : List Nat} {A : Nat → Prop} {K : Int32 → HF → Prop} {r1 : Nat} {z1 : Nat} (X : Cx p s m args meth c cX7_passes 4 RX7 D dA) (hA : ∀ q, s.heap.size ≤ q → A q) (hr : meth.sig.returnType = some .boolean) (hT : Md R) (hr1 : IA R r1 z1) : ∀ (F : HF), wp_X7_passes_34 K r1 z1 F  → J p l e rm_X7_passes s m args below meth c 4 D dA ad R A (QI D dA ad R A below args s K) F 34 [(0, .ref (ad 100)), (1, .ref (ad r1))] [] := by
  intro F  h
  unfold wp_X7_passes_34 at h
  refine r_aload_n (pc := 34) X 0 dX7_passes_34 rfl rfl ?_
  refine r_aload_n (pc := 35) X 1 dX7_passes_35 rfl rfl ?_
  refine r_callIV (pc := 36) (As := [.ref (ad r1)]) (st := []) X hA (c_X7_holds hT hr1 h) g_X7_181 cl_X7 hT.1 hd_X7_holds rfl rfl rfl ⟨Nat.le_of_ble_eq_true rfl, Nat.le_of_ble_eq_true rfl⟩ rfl (Nat.le_of_ble_eq_true rfl) dX7_passes_36 (fun x2 F103 h => ?_)
  refine r_istore_n (pc := 39) X [(3, .int x2), (0, .ref (ad 100)), (1, .ref (ad r1))] dX7_passes_39 rfl (by decide) rfl ?_
  refine r_aload_n (pc := 40) X 2 dX7_passes_40 rfl rfl ?_
  refine r_iconst (pc := 41) (v := (nI 4)) X dX7_passes_41 (by decide) ?_
  refine r_iload_n (pc := 42) X 0 dX7_passes_42 rfl rfl ?_
  refine r_if_eq (pc := 43) (tgt := 50) X dX7_passes_43 (by decide) (fun hc => ?_) (fun hc => ?_)
  · replace h := h.1 hc
    refine r_iconst (pc := 50) (v := (nI 1)) X dX7_passes_50 (by decide) ?_
    refine r_sub [2, 0] rfl ?_
    exact k_X7_passes_51 X hA hr hT hr1  _ _ _ _ h
  · replace h := h.2 hc
    refine r_iconst (pc := 46) (v := (nI 0)) X dX7_passes_46 (by decide) ?_
    refine r_goto (pc := 47) (tgt := 51) X dX7_passes_47 (by decide) ?_
    refine r_sub [2, 0] rfl ?_
    exact k_X7_passes_51 X hA hr hT hr1  _ _ _ _ h
def wp_X7_passes (K : Int32 → HF → Prop) (F : HF) (r1 : Nat) (z1 : Nat) (a2 : Int32) : Prop := wp_X7_noLoads (fun F1 => (vp_in (nI 3) z1) ∧ (wp_X7_isOn (fun x1 F2 => ((x1 = (nI 0)) → (wp_X7_passes_34 K r1 z1  F2)) ∧ ((¬ x1 = (nI 0)) → ((vp_in (nI 3) z1) ∧ ((vp_in (nI 2) z1) ∧ (wp_X7_weightIn (fun x3 F206 => wp_X7_bear (fun F207 => wp_X7_passes_34 K r1 z1  F207) F206 r1 z1 (F2 r1 (nI 3).toNatClampNeg) (x3 + a2)) F2 (F2 r1 (nI 2).toNatClampNeg)))))) F1 (F1 r1 (nI 3).toNatClampNeg) (F1 100 17))) F 
set_option maxRecDepth 100000 in
set_option maxHeartbeats 4000000 in
theorem c_X7_passes {l : Launch} {D : va_G} {dA : Nat → ClassId} {ad : Nat → Nat} {R : List Nat} {F : HF} {r1 : Nat} {z1 : Nat} {a2 : Int32} {K : Int32 → HF → Prop} (hT : Md R) (hr1 : IA R r1 z1) (h : wp_X7_passes K F r1 z1 a2) : MI l yX7_passes cX7_passes 4 .boolean rm_X7_passes D dA ad R F [.ref (ad 100), .ref (ad r1), .int a2] K := by
  refine MI.of (own := RX7) (by decide) rfl (Nat.le_of_ble_eq_true rfl) ?_
  intro p e s m args below meth c A hA X hr
  unfold wp_X7_passes at h
  show J p l e rm_X7_passes s m args below meth c 4 D dA ad R A (QI D dA ad R A below args s K) F 0 [(0, .ref (ad 100)), (1, .ref (ad r1)), (2, .int a2)] []
  refine r_aload_n (pc := 0) X 0 dX7_passes_0 rfl rfl ?_
  refine r_callVV (pc := 1) (As := []) (st := []) X hA (c_X7_noLoads hT h) g_X7_167 cl_X7 hT.1 hd_X7_noLoads rfl rfl rfl ⟨Nat.le_of_ble_eq_true rfl, Nat.le_of_ble_eq_true rfl⟩ rfl (Nat.le_of_ble_eq_true rfl) dX7_passes_1 (fun F1 h => ?_)
  refine r_aload_n (pc := 4) X 1 dX7_passes_4 rfl rfl ?_
  refine r_iconst (pc := 5) (v := (nI 3)) X dX7_passes_5 (by decide) ?_
  refine r_iald (pc := 6) X hr1 h.1 dX7_passes_6 ?_
  replace h := h.2
  refine r_aload_n (pc := 7) X 0 dX7_passes_7 rfl rfl ?_
  refine fg_X7_35 (pc := 8) X hT.1 dX7_passes_8 ?_
  refine r_callIS (pc := 11) (As := [.int (F1 r1 (nI 3).toNatClampNeg), .int (F1 100 17)]) (st := []) X hA (c_X7_isOn  h) g_X7_170 hd_X7_isOn rfl rfl rfl ⟨Nat.le_of_ble_eq_true rfl, Nat.le_of_ble_eq_true rfl⟩ rfl (Nat.le_of_ble_eq_true rfl) dX7_passes_11 (fun x1 F2 h => ?_)
  refine r_if_eq (pc := 14) (tgt := 34) X dX7_passes_14 (by decide) (fun hc => ?_) (fun hc => ?_)
  · replace h := h.1 hc
    refine r_sub [0, 1] rfl ?_
    exact k_X7_passes_34 X hA hr hT hr1  _ h
  · replace h := h.2 hc
    refine r_aload_n (pc := 17) X 0 dX7_passes_17 rfl rfl ?_
    refine r_aload_n (pc := 18) X 1 dX7_passes_18 rfl rfl ?_
    refine r_aload_n (pc := 19) X 1 dX7_passes_19 rfl rfl ?_
    refine r_iconst (pc := 20) (v := (nI 3)) X dX7_passes_20 (by decide) ?_
    refine r_iald (pc := 21) X hr1 h.1 dX7_passes_21 ?_
    replace h := h.2
    refine r_aload_n (pc := 22) X 0 dX7_passes_22 rfl rfl ?_
    refine r_aload_n (pc := 23) X 1 dX7_passes_23 rfl rfl ?_
    refine r_iconst (pc := 24) (v := (nI 2)) X dX7_passes_24 (by decide) ?_
    refine r_iald (pc := 25) X hr1 h.1 dX7_passes_25 ?_
    replace h := h.2
    refine r_callIV (pc := 26) (As := [.int (F2 r1 (nI 2).toNatClampNeg)]) (st := [.int (F2 r1 (nI 3).toNatClampNeg), .ref (ad r1), .ref (ad 100)]) X hA (c_X7_weightIn hT h) g_X7_174 cl_X7 hT.1 hd_X7_weightIn rfl rfl rfl ⟨Nat.le_of_ble_eq_true rfl, Nat.le_of_ble_eq_true rfl⟩ rfl (Nat.le_of_ble_eq_true rfl) dX7_passes_26 (fun x3 F206 h => ?_)
    refine r_iload_n (pc := 29) X 2 dX7_passes_29 rfl rfl ?_
    refine r_iadd (pc := 30) X dX7_passes_30 ?_
    refine r_callVV (pc := 31) (As := [.ref (ad r1), .int (F2 r1 (nI 3).toNatClampNeg), .int (x3 + a2)]) (st := []) X hA (c_X7_bear hT hr1 h) g_X7_177 cl_X7 hT.1 hd_X7_bear rfl rfl rfl ⟨Nat.le_of_ble_eq_true rfl, Nat.le_of_ble_eq_true rfl⟩ rfl (Nat.le_of_ble_eq_true rfl) dX7_passes_31 (fun F207 h => ?_)
    refine r_sub [0, 1] rfl ?_
    exact k_X7_passes_34 X hA hr hT hr1  _ h
