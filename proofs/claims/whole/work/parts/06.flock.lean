theorem dX1_clear_0 : decode cX1_clear 0 = .ok (.aload_n 0, 1) := by decide +kernel
theorem dX1_clear_1 : decode cX1_clear 1 = .ok (.iconst 0, 1) := by decide +kernel
theorem dX1_clear_2 : decode cX1_clear 2 = .ok (.putfield 30, 3) := by decide +kernel
theorem dX1_clear_5 : decode cX1_clear 5 = .ok (.aload_n 0, 1) := by decide +kernel
theorem dX1_clear_6 : decode cX1_clear 6 = .ok (.iconst 0, 1) := by decide +kernel
theorem dX1_clear_7 : decode cX1_clear 7 = .ok (.putfield 34, 3) := by decide +kernel
theorem dX1_clear_10 : decode cX1_clear 10 = .ok (.aload_n 0, 1) := by decide +kernel
theorem dX1_clear_11 : decode cX1_clear 11 = .ok (.iconst 5, 1) := by decide +kernel
theorem dX1_clear_12 : decode cX1_clear 12 = .ok (.putfield 37, 3) := by decide +kernel
theorem dX1_clear_15 : decode cX1_clear 15 = .ok (.aload_n 0, 1) := by decide +kernel
theorem dX1_clear_16 : decode cX1_clear 16 = .ok (.bipush 12, 2) := by decide +kernel
theorem dX1_clear_18 : decode cX1_clear 18 = .ok (.putfield 40, 3) := by decide +kernel
theorem dX1_clear_21 : decode cX1_clear 21 = .ok (.aload_n 0, 1) := by decide +kernel
theorem dX1_clear_22 : decode cX1_clear 22 = .ok (.iconst 1, 1) := by decide +kernel
theorem dX1_clear_23 : decode cX1_clear 23 = .ok (.putfield 43, 3) := by decide +kernel
theorem dX1_clear_26 : decode cX1_clear 26 = .ok (.return_, 1) := by decide +kernel
theorem hd_X1_clear : yX1_clear.cls = RX1 ∧ yX1_clear.cls ≠ "java/lang/invoke/MethodHandle" ∧ yX1_clear.cls ≠ "java/lang/invoke/VarHandle" ∧ (parseMethodDescriptor yX1_clear.desc).map (fun d => d.parameters.length) = some 0 := by decide +kernel
abbrev rm_X1_clear : Room := { frames := 0, cells := 0, slots := 0, locals := 0 }
def wp_X1_clear (K : HF → Prop) (F : HF) (f : Nat) : Prop := ∀ F1 : HF, F1 = hup F f 5 (nI 0) → (∀ F2 : HF, F2 = hup F1 f 6 (nI 0) → (∀ F3 : HF, F3 = hup F2 f 7 (nI 5) → (∀ F4 : HF, F4 = hup F3 f 8 (nI 12) → (∀ F5 : HF, F5 = hup F4 f 9 (nI 1) → (K F5)))))
set_option maxRecDepth 100000 in
set_option maxHeartbeats 4000000 in
theorem c_X1_clear {l : Launch} {D : va_G} {dA : Nat → ClassId} {ad : Nat → Nat} {R : List Nat} {F : HF} {f : Nat} {K : HF → Prop} (hT : Fl R f) (h : wp_X1_clear K F f) : MV l yX1_clear cX1_clear 1 rm_X1_clear D dA ad R F [.ref (ad f)] K := by
  refine MV.of (own := RX1) (by decide) rfl (Nat.le_of_ble_eq_true rfl) ?_
  intro p e s m args below meth c A hA X hr
  unfold wp_X1_clear at h
  show J p l e rm_X1_clear s m args below meth c 1 D dA ad R A (QV D dA ad R A below args s K) F 0 [(0, .ref (ad f))] []
  refine r_aload_n (pc := 0) X 0 dX1_clear_0 rfl rfl ?_
  refine r_iconst (pc := 1) (v := (nI 0)) X dX1_clear_1 (by decide) ?_
  refine fp_X1_30 (pc := 2) X hT.1 dX1_clear_2 (fun F1 e1 => ?_)
  replace h := h F1 e1
  refine r_aload_n (pc := 5) X 0 dX1_clear_5 rfl rfl ?_
  refine r_iconst (pc := 6) (v := (nI 0)) X dX1_clear_6 (by decide) ?_
  refine fp_X1_34 (pc := 7) X hT.1 dX1_clear_7 (fun F2 e1 => ?_)
  replace h := h F2 e1
  refine r_aload_n (pc := 10) X 0 dX1_clear_10 rfl rfl ?_
  refine r_iconst (pc := 11) (v := (nI 5)) X dX1_clear_11 (by decide) ?_
  refine fp_X1_37 (pc := 12) X hT.1 dX1_clear_12 (fun F3 e1 => ?_)
  replace h := h F3 e1
  refine r_aload_n (pc := 15) X 0 dX1_clear_15 rfl rfl ?_
  refine r_bipush (pc := 16) (v := (nI 12)) X dX1_clear_16 (by decide) ?_
  refine fp_X1_40 (pc := 18) X hT.1 dX1_clear_18 (fun F4 e1 => ?_)
  replace h := h F4 e1
  refine r_aload_n (pc := 21) X 0 dX1_clear_21 rfl rfl ?_
  refine r_iconst (pc := 22) (v := (nI 1)) X dX1_clear_22 (by decide) ?_
  refine fp_X1_43 (pc := 23) X hT.1 dX1_clear_23 (fun F5 e1 => ?_)
  replace h := h F5 e1
  exact r_vret (pc := 26) X hr dX1_clear_26 h
theorem dX1_copyFrom_0 : decode cX1_copyFrom 0 = .ok (.aload_n 1, 1) := by decide +kernel
theorem dX1_copyFrom_1 : decode cX1_copyFrom 1 = .ok (.getfield 9, 3) := by decide +kernel
theorem dX1_copyFrom_4 : decode cX1_copyFrom 4 = .ok (.iconst 0, 1) := by decide +kernel
theorem dX1_copyFrom_5 : decode cX1_copyFrom 5 = .ok (.aload_n 0, 1) := by decide +kernel
theorem dX1_copyFrom_6 : decode cX1_copyFrom 6 = .ok (.getfield 9, 3) := by decide +kernel
theorem dX1_copyFrom_9 : decode cX1_copyFrom 9 = .ok (.iconst 0, 1) := by decide +kernel
theorem dX1_copyFrom_10 : decode cX1_copyFrom 10 = .ok (.bipush 8, 2) := by decide +kernel
theorem dX1_copyFrom_12 : decode cX1_copyFrom 12 = .ok (.invokestatic 46, 3) := by decide +kernel
theorem dX1_copyFrom_15 : decode cX1_copyFrom 15 = .ok (.aload_n 1, 1) := by decide +kernel
theorem dX1_copyFrom_16 : decode cX1_copyFrom 16 = .ok (.getfield 15, 3) := by decide +kernel
theorem dX1_copyFrom_19 : decode cX1_copyFrom 19 = .ok (.iconst 0, 1) := by decide +kernel
theorem dX1_copyFrom_20 : decode cX1_copyFrom 20 = .ok (.aload_n 0, 1) := by decide +kernel
theorem dX1_copyFrom_21 : decode cX1_copyFrom 21 = .ok (.getfield 15, 3) := by decide +kernel
theorem dX1_copyFrom_24 : decode cX1_copyFrom 24 = .ok (.iconst 0, 1) := by decide +kernel
theorem dX1_copyFrom_25 : decode cX1_copyFrom 25 = .ok (.bipush 8, 2) := by decide +kernel
theorem dX1_copyFrom_27 : decode cX1_copyFrom 27 = .ok (.invokestatic 46, 3) := by decide +kernel
theorem dX1_copyFrom_30 : decode cX1_copyFrom 30 = .ok (.aload_n 1, 1) := by decide +kernel
theorem dX1_copyFrom_31 : decode cX1_copyFrom 31 = .ok (.getfield 18, 3) := by decide +kernel
theorem dX1_copyFrom_34 : decode cX1_copyFrom 34 = .ok (.iconst 0, 1) := by decide +kernel
theorem dX1_copyFrom_35 : decode cX1_copyFrom 35 = .ok (.aload_n 0, 1) := by decide +kernel
theorem dX1_copyFrom_36 : decode cX1_copyFrom 36 = .ok (.getfield 18, 3) := by decide +kernel
theorem dX1_copyFrom_39 : decode cX1_copyFrom 39 = .ok (.iconst 0, 1) := by decide +kernel
theorem dX1_copyFrom_40 : decode cX1_copyFrom 40 = .ok (.bipush 8, 2) := by decide +kernel
theorem dX1_copyFrom_42 : decode cX1_copyFrom 42 = .ok (.invokestatic 46, 3) := by decide +kernel
theorem dX1_copyFrom_45 : decode cX1_copyFrom 45 = .ok (.aload_n 1, 1) := by decide +kernel
theorem dX1_copyFrom_46 : decode cX1_copyFrom 46 = .ok (.getfield 21, 3) := by decide +kernel
theorem dX1_copyFrom_49 : decode cX1_copyFrom 49 = .ok (.iconst 0, 1) := by decide +kernel
theorem dX1_copyFrom_50 : decode cX1_copyFrom 50 = .ok (.aload_n 0, 1) := by decide +kernel
theorem dX1_copyFrom_51 : decode cX1_copyFrom 51 = .ok (.getfield 21, 3) := by decide +kernel
theorem dX1_copyFrom_54 : decode cX1_copyFrom 54 = .ok (.iconst 0, 1) := by decide +kernel
theorem dX1_copyFrom_55 : decode cX1_copyFrom 55 = .ok (.bipush 8, 2) := by decide +kernel
theorem dX1_copyFrom_57 : decode cX1_copyFrom 57 = .ok (.invokestatic 46, 3) := by decide +kernel
theorem dX1_copyFrom_60 : decode cX1_copyFrom 60 = .ok (.aload_n 1, 1) := by decide +kernel
theorem dX1_copyFrom_61 : decode cX1_copyFrom 61 = .ok (.getfield 24, 3) := by decide +kernel
theorem dX1_copyFrom_64 : decode cX1_copyFrom 64 = .ok (.iconst 0, 1) := by decide +kernel
theorem dX1_copyFrom_65 : decode cX1_copyFrom 65 = .ok (.aload_n 0, 1) := by decide +kernel
theorem dX1_copyFrom_66 : decode cX1_copyFrom 66 = .ok (.getfield 24, 3) := by decide +kernel
theorem dX1_copyFrom_69 : decode cX1_copyFrom 69 = .ok (.iconst 0, 1) := by decide +kernel
theorem dX1_copyFrom_70 : decode cX1_copyFrom 70 = .ok (.bipush 8, 2) := by decide +kernel
theorem dX1_copyFrom_72 : decode cX1_copyFrom 72 = .ok (.invokestatic 46, 3) := by decide +kernel
theorem dX1_copyFrom_75 : decode cX1_copyFrom 75 = .ok (.aload_n 0, 1) := by decide +kernel
theorem dX1_copyFrom_76 : decode cX1_copyFrom 76 = .ok (.aload_n 1, 1) := by decide +kernel
theorem dX1_copyFrom_77 : decode cX1_copyFrom 77 = .ok (.getfield 30, 3) := by decide +kernel
theorem dX1_copyFrom_80 : decode cX1_copyFrom 80 = .ok (.putfield 30, 3) := by decide +kernel
theorem dX1_copyFrom_83 : decode cX1_copyFrom 83 = .ok (.aload_n 0, 1) := by decide +kernel
theorem dX1_copyFrom_84 : decode cX1_copyFrom 84 = .ok (.aload_n 1, 1) := by decide +kernel
theorem dX1_copyFrom_85 : decode cX1_copyFrom 85 = .ok (.getfield 34, 3) := by decide +kernel
theorem dX1_copyFrom_88 : decode cX1_copyFrom 88 = .ok (.putfield 34, 3) := by decide +kernel
theorem dX1_copyFrom_91 : decode cX1_copyFrom 91 = .ok (.aload_n 0, 1) := by decide +kernel
theorem dX1_copyFrom_92 : decode cX1_copyFrom 92 = .ok (.aload_n 1, 1) := by decide +kernel
theorem dX1_copyFrom_93 : decode cX1_copyFrom 93 = .ok (.getfield 37, 3) := by decide +kernel
theorem dX1_copyFrom_96 : decode cX1_copyFrom 96 = .ok (.putfield 37, 3) := by decide +kernel
theorem dX1_copyFrom_99 : decode cX1_copyFrom 99 = .ok (.aload_n 0, 1) := by decide +kernel
theorem dX1_copyFrom_100 : decode cX1_copyFrom 100 = .ok (.aload_n 1, 1) := by decide +kernel
theorem dX1_copyFrom_101 : decode cX1_copyFrom 101 = .ok (.getfield 40, 3) := by decide +kernel
theorem dX1_copyFrom_104 : decode cX1_copyFrom 104 = .ok (.putfield 40, 3) := by decide +kernel
theorem dX1_copyFrom_107 : decode cX1_copyFrom 107 = .ok (.aload_n 0, 1) := by decide +kernel
theorem dX1_copyFrom_108 : decode cX1_copyFrom 108 = .ok (.aload_n 1, 1) := by decide +kernel
theorem dX1_copyFrom_109 : decode cX1_copyFrom 109 = .ok (.getfield 43, 3) := by decide +kernel
theorem dX1_copyFrom_112 : decode cX1_copyFrom 112 = .ok (.putfield 43, 3) := by decide +kernel
theorem dX1_copyFrom_115 : decode cX1_copyFrom 115 = .ok (.return_, 1) := by decide +kernel
theorem hd_X1_copyFrom : yX1_copyFrom.cls = RX1 ∧ yX1_copyFrom.cls ≠ "java/lang/invoke/MethodHandle" ∧ yX1_copyFrom.cls ≠ "java/lang/invoke/VarHandle" ∧ (parseMethodDescriptor yX1_copyFrom.desc).map (fun d => d.parameters.length) = some 1 := by decide +kernel
abbrev rm_X1_copyFrom : Room := { frames := 1, cells := 0, slots := 0, locals := 48 }
def wp_X1_copyFrom (K : HF → Prop) (F : HF) (f : Nat) (r1 : Nat) : Prop := ∀ F1 : HF, F1 = hst F (f + 1) (va_cpy (F (r1 + 1)) (F (f + 1)) 0 0 8) → (∀ F2 : HF, F2 = hst F1 (f + 2) (va_cpy (F1 (r1 + 2)) (F1 (f + 2)) 0 0 8) → (∀ F3 : HF, F3 = hst F2 (f + 3) (va_cpy (F2 (r1 + 3)) (F2 (f + 3)) 0 0 8) → (∀ F4 : HF, F4 = hst F3 (f + 4) (va_cpy (F3 (r1 + 4)) (F3 (f + 4)) 0 0 8) → (∀ F5 : HF, F5 = hst F4 (f + 5) (va_cpy (F4 (r1 + 5)) (F4 (f + 5)) 0 0 8) → (∀ F6 : HF, F6 = hup F5 f 5 (F5 r1 5) → (∀ F7 : HF, F7 = hup F6 f 6 (F6 r1 6) → (∀ F8 : HF, F8 = hup F7 f 7 (F7 r1 7) → (∀ F9 : HF, F9 = hup F8 f 8 (F8 r1 8) → (∀ F10 : HF, F10 = hup F9 f 9 (F9 r1 9) → (K F10))))))))))
set_option maxRecDepth 100000 in
set_option maxHeartbeats 4000000 in
theorem c_X1_copyFrom {l : Launch} {D : va_G} {dA : Nat → ClassId} {ad : Nat → Nat} {R : List Nat} {F : HF} {f : Nat} {r1 : Nat} {K : HF → Prop} (hT : Fl R f) (hr1 : Fl R r1) (h : wp_X1_copyFrom K F f r1) : MV l yX1_copyFrom cX1_copyFrom 2 rm_X1_copyFrom D dA ad R F [.ref (ad f), .ref (ad r1)] K := by
  refine MV.of (own := RX1) (by decide) rfl (Nat.le_of_ble_eq_true rfl) ?_
  intro p e s m args below meth c A hA X hr
  unfold wp_X1_copyFrom at h
  show J p l e rm_X1_copyFrom s m args below meth c 2 D dA ad R A (QV D dA ad R A below args s K) F 0 [(0, .ref (ad f)), (1, .ref (ad r1))] []
  refine r_aload_n (pc := 0) X 1 dX1_copyFrom_0 rfl rfl ?_
  refine fg_X1_9 (pc := 1) X hr1.1 dX1_copyFrom_1 ?_
  refine r_iconst (pc := 4) (v := (nI 0)) X dX1_copyFrom_4 (by decide) ?_
  refine r_aload_n (pc := 5) X 0 dX1_copyFrom_5 rfl rfl ?_
  refine fg_X1_9 (pc := 6) X hT.1 dX1_copyFrom_6 ?_
  refine r_iconst (pc := 9) (v := (nI 0)) X dX1_copyFrom_9 (by decide) ?_
  refine r_bipush (pc := 10) (v := (nI 8)) X dX1_copyFrom_10 (by decide) ?_
  refine r_copy (pc := 12) X w_399 w_401 w_400 w_69 hr1.2.1 hT.2.1 (by decide) (by decide) (by decide) (Nat.le_of_ble_eq_true rfl) (Nat.le_of_ble_eq_true rfl) dX1_copyFrom_12 (fun F1 e1 => ?_)
  replace h := h F1 e1
  refine r_aload_n (pc := 15) X 1 dX1_copyFrom_15 rfl rfl ?_
  refine fg_X1_15 (pc := 16) X hr1.1 dX1_copyFrom_16 ?_
  refine r_iconst (pc := 19) (v := (nI 0)) X dX1_copyFrom_19 (by decide) ?_
  refine r_aload_n (pc := 20) X 0 dX1_copyFrom_20 rfl rfl ?_
  refine fg_X1_15 (pc := 21) X hT.1 dX1_copyFrom_21 ?_
  refine r_iconst (pc := 24) (v := (nI 0)) X dX1_copyFrom_24 (by decide) ?_
  refine r_bipush (pc := 25) (v := (nI 8)) X dX1_copyFrom_25 (by decide) ?_
  refine r_copy (pc := 27) X w_399 w_401 w_400 w_69 hr1.2.2.1 hT.2.2.1 (by decide) (by decide) (by decide) (Nat.le_of_ble_eq_true rfl) (Nat.le_of_ble_eq_true rfl) dX1_copyFrom_27 (fun F2 e1 => ?_)
  replace h := h F2 e1
  refine r_aload_n (pc := 30) X 1 dX1_copyFrom_30 rfl rfl ?_
  refine fg_X1_18 (pc := 31) X hr1.1 dX1_copyFrom_31 ?_
  refine r_iconst (pc := 34) (v := (nI 0)) X dX1_copyFrom_34 (by decide) ?_
  refine r_aload_n (pc := 35) X 0 dX1_copyFrom_35 rfl rfl ?_
  refine fg_X1_18 (pc := 36) X hT.1 dX1_copyFrom_36 ?_
  refine r_iconst (pc := 39) (v := (nI 0)) X dX1_copyFrom_39 (by decide) ?_
  refine r_bipush (pc := 40) (v := (nI 8)) X dX1_copyFrom_40 (by decide) ?_
  refine r_copy (pc := 42) X w_399 w_401 w_400 w_69 hr1.2.2.2.1 hT.2.2.2.1 (by decide) (by decide) (by decide) (Nat.le_of_ble_eq_true rfl) (Nat.le_of_ble_eq_true rfl) dX1_copyFrom_42 (fun F3 e1 => ?_)
  replace h := h F3 e1
  refine r_aload_n (pc := 45) X 1 dX1_copyFrom_45 rfl rfl ?_
  refine fg_X1_21 (pc := 46) X hr1.1 dX1_copyFrom_46 ?_
  refine r_iconst (pc := 49) (v := (nI 0)) X dX1_copyFrom_49 (by decide) ?_
  refine r_aload_n (pc := 50) X 0 dX1_copyFrom_50 rfl rfl ?_
  refine fg_X1_21 (pc := 51) X hT.1 dX1_copyFrom_51 ?_
  refine r_iconst (pc := 54) (v := (nI 0)) X dX1_copyFrom_54 (by decide) ?_
  refine r_bipush (pc := 55) (v := (nI 8)) X dX1_copyFrom_55 (by decide) ?_
  refine r_copy (pc := 57) X w_399 w_401 w_400 w_69 hr1.2.2.2.2.1 hT.2.2.2.2.1 (by decide) (by decide) (by decide) (Nat.le_of_ble_eq_true rfl) (Nat.le_of_ble_eq_true rfl) dX1_copyFrom_57 (fun F4 e1 => ?_)
  replace h := h F4 e1
  refine r_aload_n (pc := 60) X 1 dX1_copyFrom_60 rfl rfl ?_
  refine fg_X1_24 (pc := 61) X hr1.1 dX1_copyFrom_61 ?_
  refine r_iconst (pc := 64) (v := (nI 0)) X dX1_copyFrom_64 (by decide) ?_
  refine r_aload_n (pc := 65) X 0 dX1_copyFrom_65 rfl rfl ?_
  refine fg_X1_24 (pc := 66) X hT.1 dX1_copyFrom_66 ?_
  refine r_iconst (pc := 69) (v := (nI 0)) X dX1_copyFrom_69 (by decide) ?_
  refine r_bipush (pc := 70) (v := (nI 8)) X dX1_copyFrom_70 (by decide) ?_
  refine r_copy (pc := 72) X w_399 w_401 w_400 w_69 hr1.2.2.2.2.2 hT.2.2.2.2.2 (by decide) (by decide) (by decide) (Nat.le_of_ble_eq_true rfl) (Nat.le_of_ble_eq_true rfl) dX1_copyFrom_72 (fun F5 e1 => ?_)
  replace h := h F5 e1
  refine r_aload_n (pc := 75) X 0 dX1_copyFrom_75 rfl rfl ?_
  refine r_aload_n (pc := 76) X 1 dX1_copyFrom_76 rfl rfl ?_
  refine fg_X1_30 (pc := 77) X hr1.1 dX1_copyFrom_77 ?_
  refine fp_X1_30 (pc := 80) X hT.1 dX1_copyFrom_80 (fun F6 e1 => ?_)
  replace h := h F6 e1
  refine r_aload_n (pc := 83) X 0 dX1_copyFrom_83 rfl rfl ?_
  refine r_aload_n (pc := 84) X 1 dX1_copyFrom_84 rfl rfl ?_
  refine fg_X1_34 (pc := 85) X hr1.1 dX1_copyFrom_85 ?_
  refine fp_X1_34 (pc := 88) X hT.1 dX1_copyFrom_88 (fun F7 e1 => ?_)
  replace h := h F7 e1
  refine r_aload_n (pc := 91) X 0 dX1_copyFrom_91 rfl rfl ?_
  refine r_aload_n (pc := 92) X 1 dX1_copyFrom_92 rfl rfl ?_
  refine fg_X1_37 (pc := 93) X hr1.1 dX1_copyFrom_93 ?_
  refine fp_X1_37 (pc := 96) X hT.1 dX1_copyFrom_96 (fun F8 e1 => ?_)
  replace h := h F8 e1
  refine r_aload_n (pc := 99) X 0 dX1_copyFrom_99 rfl rfl ?_
  refine r_aload_n (pc := 100) X 1 dX1_copyFrom_100 rfl rfl ?_
  refine fg_X1_40 (pc := 101) X hr1.1 dX1_copyFrom_101 ?_
  refine fp_X1_40 (pc := 104) X hT.1 dX1_copyFrom_104 (fun F9 e1 => ?_)
  replace h := h F9 e1
  refine r_aload_n (pc := 107) X 0 dX1_copyFrom_107 rfl rfl ?_
  refine r_aload_n (pc := 108) X 1 dX1_copyFrom_108 rfl rfl ?_
  refine fg_X1_43 (pc := 109) X hr1.1 dX1_copyFrom_109 ?_
  refine fp_X1_43 (pc := 112) X hT.1 dX1_copyFrom_112 (fun F10 e1 => ?_)
  replace h := h F10 e1
  exact r_vret (pc := 115) X hr dX1_copyFrom_115 h
theorem dX1_takeBird_0 : decode cX1_takeBird 0 = .ok (.aload_n 0, 1) := by decide +kernel
theorem dX1_takeBird_1 : decode cX1_takeBird 1 = .ok (.getfield 30, 3) := by decide +kernel
theorem dX1_takeBird_4 : decode cX1_takeBird 4 = .ok (.bipush 8, 2) := by decide +kernel
theorem dX1_takeBird_6 : decode cX1_takeBird 6 = .ok (.if_icmp .ge 45, 3) := by decide +kernel
theorem dX1_takeBird_9 : decode cX1_takeBird 9 = .ok (.iload_n 1, 1) := by decide +kernel
theorem dX1_takeBird_10 : decode cX1_takeBird 10 = .ok (.iconst 1, 1) := by decide +kernel
theorem dX1_takeBird_11 : decode cX1_takeBird 11 = .ok (.if_icmp .lt 40, 3) := by decide +kernel
theorem dX1_takeBird_14 : decode cX1_takeBird 14 = .ok (.iload_n 1, 1) := by decide +kernel
theorem dX1_takeBird_15 : decode cX1_takeBird 15 = .ok (.bipush 60, 2) := by decide +kernel
theorem dX1_takeBird_17 : decode cX1_takeBird 17 = .ok (.if_icmp .gt 34, 3) := by decide +kernel
theorem dX1_takeBird_20 : decode cX1_takeBird 20 = .ok (.iload_n 2, 1) := by decide +kernel
theorem dX1_takeBird_21 : decode cX1_takeBird 21 = .ok (.iconst 1, 1) := by decide +kernel
theorem dX1_takeBird_22 : decode cX1_takeBird 22 = .ok (.if_icmp .lt 29, 3) := by decide +kernel
theorem dX1_takeBird_25 : decode cX1_takeBird 25 = .ok (.iload_n 2, 1) := by decide +kernel
theorem dX1_takeBird_26 : decode cX1_takeBird 26 = .ok (.iconst 3, 1) := by decide +kernel
theorem dX1_takeBird_27 : decode cX1_takeBird 27 = .ok (.if_icmp .gt 24, 3) := by decide +kernel
theorem dX1_takeBird_30 : decode cX1_takeBird 30 = .ok (.iload_n 3, 1) := by decide +kernel
theorem dX1_takeBird_31 : decode cX1_takeBird 31 = .ok (.ifCond .lt 20, 3) := by decide +kernel
theorem dX1_takeBird_34 : decode cX1_takeBird 34 = .ok (.iload_n 3, 1) := by decide +kernel
theorem dX1_takeBird_35 : decode cX1_takeBird 35 = .ok (.iconst 4, 1) := by decide +kernel
theorem dX1_takeBird_36 : decode cX1_takeBird 36 = .ok (.if_icmp .gt 15, 3) := by decide +kernel
theorem dX1_takeBird_39 : decode cX1_takeBird 39 = .ok (.iload 4, 2) := by decide +kernel
theorem dX1_takeBird_41 : decode cX1_takeBird 41 = .ok (.ifCond .lt 10, 3) := by decide +kernel
theorem dX1_takeBird_44 : decode cX1_takeBird 44 = .ok (.iload 4, 2) := by decide +kernel
theorem dX1_takeBird_46 : decode cX1_takeBird 46 = .ok (.bipush 40, 2) := by decide +kernel
theorem dX1_takeBird_48 : decode cX1_takeBird 48 = .ok (.if_icmp .le 5, 3) := by decide +kernel
theorem dX1_takeBird_51 : decode cX1_takeBird 51 = .ok (.iconst 0, 1) := by decide +kernel
theorem dX1_takeBird_52 : decode cX1_takeBird 52 = .ok (.ireturn, 1) := by decide +kernel
theorem dX1_takeBird_53 : decode cX1_takeBird 53 = .ok (.aload_n 0, 1) := by decide +kernel
theorem dX1_takeBird_54 : decode cX1_takeBird 54 = .ok (.getfield 9, 3) := by decide +kernel
theorem dX1_takeBird_57 : decode cX1_takeBird 57 = .ok (.aload_n 0, 1) := by decide +kernel
theorem dX1_takeBird_58 : decode cX1_takeBird 58 = .ok (.getfield 30, 3) := by decide +kernel
theorem dX1_takeBird_61 : decode cX1_takeBird 61 = .ok (.iload_n 1, 1) := by decide +kernel
theorem dX1_takeBird_62 : decode cX1_takeBird 62 = .ok (.iastore, 1) := by decide +kernel
theorem dX1_takeBird_63 : decode cX1_takeBird 63 = .ok (.aload_n 0, 1) := by decide +kernel
theorem dX1_takeBird_64 : decode cX1_takeBird 64 = .ok (.getfield 15, 3) := by decide +kernel
theorem dX1_takeBird_67 : decode cX1_takeBird 67 = .ok (.aload_n 0, 1) := by decide +kernel
theorem dX1_takeBird_68 : decode cX1_takeBird 68 = .ok (.getfield 30, 3) := by decide +kernel
theorem dX1_takeBird_71 : decode cX1_takeBird 71 = .ok (.iload_n 2, 1) := by decide +kernel
theorem dX1_takeBird_72 : decode cX1_takeBird 72 = .ok (.iastore, 1) := by decide +kernel
theorem dX1_takeBird_73 : decode cX1_takeBird 73 = .ok (.aload_n 0, 1) := by decide +kernel
theorem dX1_takeBird_74 : decode cX1_takeBird 74 = .ok (.getfield 18, 3) := by decide +kernel
theorem dX1_takeBird_77 : decode cX1_takeBird 77 = .ok (.aload_n 0, 1) := by decide +kernel
theorem dX1_takeBird_78 : decode cX1_takeBird 78 = .ok (.getfield 30, 3) := by decide +kernel
theorem dX1_takeBird_81 : decode cX1_takeBird 81 = .ok (.iload_n 3, 1) := by decide +kernel
theorem dX1_takeBird_82 : decode cX1_takeBird 82 = .ok (.iastore, 1) := by decide +kernel
theorem dX1_takeBird_83 : decode cX1_takeBird 83 = .ok (.aload_n 0, 1) := by decide +kernel
theorem dX1_takeBird_84 : decode cX1_takeBird 84 = .ok (.getfield 21, 3) := by decide +kernel
theorem dX1_takeBird_87 : decode cX1_takeBird 87 = .ok (.aload_n 0, 1) := by decide +kernel
theorem dX1_takeBird_88 : decode cX1_takeBird 88 = .ok (.getfield 30, 3) := by decide +kernel
theorem dX1_takeBird_91 : decode cX1_takeBird 91 = .ok (.iload 4, 2) := by decide +kernel
theorem dX1_takeBird_93 : decode cX1_takeBird 93 = .ok (.iastore, 1) := by decide +kernel
theorem dX1_takeBird_94 : decode cX1_takeBird 94 = .ok (.aload_n 0, 1) := by decide +kernel
theorem dX1_takeBird_95 : decode cX1_takeBird 95 = .ok (.dup, 1) := by decide +kernel
theorem dX1_takeBird_96 : decode cX1_takeBird 96 = .ok (.getfield 30, 3) := by decide +kernel
theorem dX1_takeBird_99 : decode cX1_takeBird 99 = .ok (.iconst 1, 1) := by decide +kernel
theorem dX1_takeBird_100 : decode cX1_takeBird 100 = .ok (.iadd, 1) := by decide +kernel
theorem dX1_takeBird_101 : decode cX1_takeBird 101 = .ok (.putfield 30, 3) := by decide +kernel
theorem dX1_takeBird_104 : decode cX1_takeBird 104 = .ok (.iconst 1, 1) := by decide +kernel
theorem dX1_takeBird_105 : decode cX1_takeBird 105 = .ok (.ireturn, 1) := by decide +kernel
theorem hd_X1_takeBird : yX1_takeBird.cls = RX1 ∧ yX1_takeBird.cls ≠ "java/lang/invoke/MethodHandle" ∧ yX1_takeBird.cls ≠ "java/lang/invoke/VarHandle" ∧ (parseMethodDescriptor yX1_takeBird.desc).map (fun d => d.parameters.length) = some 4 := by decide +kernel
abbrev rm_X1_takeBird : Room := { frames := 0, cells := 0, slots := 0, locals := 0 }
def wp_X1_takeBird (K : Int32 → HF → Prop) (F : HF) (f : Nat) (a1 : Int32) (a2 : Int32) (a3 : Int32) (a4 : Int32) : Prop := (((nI 8) ≤ (F f 5)) → (K (nI 0) F)) ∧ ((¬ (nI 8) ≤ (F f 5)) → (((a1 < (nI 1)) → (K (nI 0) F)) ∧ ((¬ a1 < (nI 1)) → ((((nI 60) < a1) → (K (nI 0) F)) ∧ ((¬ (nI 60) < a1) → (((a2 < (nI 1)) → (K (nI 0) F)) ∧ ((¬ a2 < (nI 1)) → ((((nI 3) < a2) → (K (nI 0) F)) ∧ ((¬ (nI 3) < a2) → (((a3 < (nI 0)) → (K (nI 0) F)) ∧ ((¬ a3 < (nI 0)) → ((((nI 4) < a3) → (K (nI 0) F)) ∧ ((¬ (nI 4) < a3) → (((a4 < (nI 0)) → (K (nI 0) F)) ∧ ((¬ a4 < (nI 0)) → (((a4 ≤ (nI 40)) → ((vp_in (F f 5) 8) ∧ (∀ F1 : HF, F1 = hup F (f + 1) (F f 5).toNatClampNeg a1 → ((vp_in (F1 f 5) 8) ∧ (∀ F2 : HF, F2 = hup F1 (f + 2) (F1 f 5).toNatClampNeg a2 → ((vp_in (F2 f 5) 8) ∧ (∀ F3 : HF, F3 = hup F2 (f + 3) (F2 f 5).toNatClampNeg a3 → ((vp_in (F3 f 5) 8) ∧ (∀ F4 : HF, F4 = hup F3 (f + 4) (F3 f 5).toNatClampNeg a4 → (∀ F5 : HF, F5 = hup F4 f 5 ((F4 f 5) + (nI 1)) → (K (nI 1) F5))))))))))) ∧ ((¬ a4 ≤ (nI 40)) → (K (nI 0) F))))))))))))))))))
set_option maxRecDepth 100000 in
set_option maxHeartbeats 4000000 in
theorem c_X1_takeBird {l : Launch} {D : va_G} {dA : Nat → ClassId} {ad : Nat → Nat} {R : List Nat} {F : HF} {f : Nat} {a1 : Int32} {a2 : Int32} {a3 : Int32} {a4 : Int32} {K : Int32 → HF → Prop} (hT : Fl R f) (h : wp_X1_takeBird K F f a1 a2 a3 a4) : MI l yX1_takeBird cX1_takeBird 5 .boolean rm_X1_takeBird D dA ad R F [.ref (ad f), .int a1, .int a2, .int a3, .int a4] K := by
  refine MI.of (own := RX1) (by decide) rfl (Nat.le_of_ble_eq_true rfl) ?_
  intro p e s m args below meth c A hA X hr
  unfold wp_X1_takeBird at h
  show J p l e rm_X1_takeBird s m args below meth c 5 D dA ad R A (QI D dA ad R A below args s K) F 0 [(0, .ref (ad f)), (1, .int a1), (2, .int a2), (3, .int a3), (4, .int a4)] []
  refine r_aload_n (pc := 0) X 0 dX1_takeBird_0 rfl rfl ?_
  refine fg_X1_30 (pc := 1) X hT.1 dX1_takeBird_1 ?_
  refine r_bipush (pc := 4) (v := (nI 8)) X dX1_takeBird_4 (by decide) ?_
  refine r_icmp_ge (pc := 6) (tgt := 51) X dX1_takeBird_6 (by decide) (fun hc => ?_) (fun hc => ?_)
  · replace h := h.1 hc
    refine r_iconst (pc := 51) (v := (nI 0)) X dX1_takeBird_51 (by decide) ?_
    exact r_zret (pc := 52) X hr dX1_takeBird_52 nb0 h
  · replace h := h.2 hc
    refine r_iload_n (pc := 9) X 1 dX1_takeBird_9 rfl rfl ?_
    refine r_iconst (pc := 10) (v := (nI 1)) X dX1_takeBird_10 (by decide) ?_
    refine r_icmp_lt (pc := 11) (tgt := 51) X dX1_takeBird_11 (by decide) (fun hc => ?_) (fun hc => ?_)
    · replace h := h.1 hc
      refine r_iconst (pc := 51) (v := (nI 0)) X dX1_takeBird_51 (by decide) ?_
      exact r_zret (pc := 52) X hr dX1_takeBird_52 nb0 h
    · replace h := h.2 hc
      refine r_iload_n (pc := 14) X 1 dX1_takeBird_14 rfl rfl ?_
      refine r_bipush (pc := 15) (v := (nI 60)) X dX1_takeBird_15 (by decide) ?_
      refine r_icmp_gt (pc := 17) (tgt := 51) X dX1_takeBird_17 (by decide) (fun hc => ?_) (fun hc => ?_)
      · replace h := h.1 hc
        refine r_iconst (pc := 51) (v := (nI 0)) X dX1_takeBird_51 (by decide) ?_
        exact r_zret (pc := 52) X hr dX1_takeBird_52 nb0 h
      · replace h := h.2 hc
        refine r_iload_n (pc := 20) X 2 dX1_takeBird_20 rfl rfl ?_
        refine r_iconst (pc := 21) (v := (nI 1)) X dX1_takeBird_21 (by decide) ?_
        refine r_icmp_lt (pc := 22) (tgt := 51) X dX1_takeBird_22 (by decide) (fun hc => ?_) (fun hc => ?_)
        · replace h := h.1 hc
          refine r_iconst (pc := 51) (v := (nI 0)) X dX1_takeBird_51 (by decide) ?_
          exact r_zret (pc := 52) X hr dX1_takeBird_52 nb0 h
        · replace h := h.2 hc
          refine r_iload_n (pc := 25) X 2 dX1_takeBird_25 rfl rfl ?_
          refine r_iconst (pc := 26) (v := (nI 3)) X dX1_takeBird_26 (by decide) ?_
          refine r_icmp_gt (pc := 27) (tgt := 51) X dX1_takeBird_27 (by decide) (fun hc => ?_) (fun hc => ?_)
          · replace h := h.1 hc
            refine r_iconst (pc := 51) (v := (nI 0)) X dX1_takeBird_51 (by decide) ?_
            exact r_zret (pc := 52) X hr dX1_takeBird_52 nb0 h
          · replace h := h.2 hc
            refine r_iload_n (pc := 30) X 3 dX1_takeBird_30 rfl rfl ?_
            refine r_if_lt (pc := 31) (tgt := 51) X dX1_takeBird_31 (by decide) (fun hc => ?_) (fun hc => ?_)
            · replace h := h.1 hc
              refine r_iconst (pc := 51) (v := (nI 0)) X dX1_takeBird_51 (by decide) ?_
              exact r_zret (pc := 52) X hr dX1_takeBird_52 nb0 h
            · replace h := h.2 hc
              refine r_iload_n (pc := 34) X 3 dX1_takeBird_34 rfl rfl ?_
              refine r_iconst (pc := 35) (v := (nI 4)) X dX1_takeBird_35 (by decide) ?_
              refine r_icmp_gt (pc := 36) (tgt := 51) X dX1_takeBird_36 (by decide) (fun hc => ?_) (fun hc => ?_)
              · replace h := h.1 hc
                refine r_iconst (pc := 51) (v := (nI 0)) X dX1_takeBird_51 (by decide) ?_
                exact r_zret (pc := 52) X hr dX1_takeBird_52 nb0 h
              · replace h := h.2 hc
                refine r_iload (pc := 39) X 4 dX1_takeBird_39 rfl ?_
                refine r_if_lt (pc := 41) (tgt := 51) X dX1_takeBird_41 (by decide) (fun hc => ?_) (fun hc => ?_)
                · replace h := h.1 hc
                  refine r_iconst (pc := 51) (v := (nI 0)) X dX1_takeBird_51 (by decide) ?_
                  exact r_zret (pc := 52) X hr dX1_takeBird_52 nb0 h
                · replace h := h.2 hc
                  refine r_iload (pc := 44) X 4 dX1_takeBird_44 rfl ?_
                  refine r_bipush (pc := 46) (v := (nI 40)) X dX1_takeBird_46 (by decide) ?_
                  refine r_icmp_le (pc := 48) (tgt := 53) X dX1_takeBird_48 (by decide) (fun hc => ?_) (fun hc => ?_)
                  · replace h := h.1 hc
                    refine r_aload_n (pc := 53) X 0 dX1_takeBird_53 rfl rfl ?_
                    refine fg_X1_9 (pc := 54) X hT.1 dX1_takeBird_54 ?_
                    refine r_aload_n (pc := 57) X 0 dX1_takeBird_57 rfl rfl ?_
                    refine fg_X1_30 (pc := 58) X hT.1 dX1_takeBird_58 ?_
                    refine r_iload_n (pc := 61) X 1 dX1_takeBird_61 rfl rfl ?_
                    refine r_iast (pc := 62) X hT.2.1 h.1 dX1_takeBird_62 (fun F1 e1 => ?_)
                    replace h := h.2 F1 e1
                    refine r_aload_n (pc := 63) X 0 dX1_takeBird_63 rfl rfl ?_
                    refine fg_X1_15 (pc := 64) X hT.1 dX1_takeBird_64 ?_
                    refine r_aload_n (pc := 67) X 0 dX1_takeBird_67 rfl rfl ?_
                    refine fg_X1_30 (pc := 68) X hT.1 dX1_takeBird_68 ?_
                    refine r_iload_n (pc := 71) X 2 dX1_takeBird_71 rfl rfl ?_
                    refine r_iast (pc := 72) X hT.2.2.1 h.1 dX1_takeBird_72 (fun F2 e1 => ?_)
                    replace h := h.2 F2 e1
                    refine r_aload_n (pc := 73) X 0 dX1_takeBird_73 rfl rfl ?_
                    refine fg_X1_18 (pc := 74) X hT.1 dX1_takeBird_74 ?_
                    refine r_aload_n (pc := 77) X 0 dX1_takeBird_77 rfl rfl ?_
                    refine fg_X1_30 (pc := 78) X hT.1 dX1_takeBird_78 ?_
                    refine r_iload_n (pc := 81) X 3 dX1_takeBird_81 rfl rfl ?_
                    refine r_iast (pc := 82) X hT.2.2.2.1 h.1 dX1_takeBird_82 (fun F3 e1 => ?_)
                    replace h := h.2 F3 e1
                    refine r_aload_n (pc := 83) X 0 dX1_takeBird_83 rfl rfl ?_
                    refine fg_X1_21 (pc := 84) X hT.1 dX1_takeBird_84 ?_
                    refine r_aload_n (pc := 87) X 0 dX1_takeBird_87 rfl rfl ?_
                    refine fg_X1_30 (pc := 88) X hT.1 dX1_takeBird_88 ?_
                    refine r_iload (pc := 91) X 4 dX1_takeBird_91 rfl ?_
                    refine r_iast (pc := 93) X hT.2.2.2.2.1 h.1 dX1_takeBird_93 (fun F4 e1 => ?_)
                    replace h := h.2 F4 e1
                    refine r_aload_n (pc := 94) X 0 dX1_takeBird_94 rfl rfl ?_
                    refine r_dup (pc := 95) X dX1_takeBird_95 rfl ?_
                    refine fg_X1_30 (pc := 96) X hT.1 dX1_takeBird_96 ?_
                    refine r_iconst (pc := 99) (v := (nI 1)) X dX1_takeBird_99 (by decide) ?_
                    refine r_iadd (pc := 100) X dX1_takeBird_100 ?_
                    refine fp_X1_30 (pc := 101) X hT.1 dX1_takeBird_101 (fun F5 e1 => ?_)
                    replace h := h F5 e1
                    refine r_iconst (pc := 104) (v := (nI 1)) X dX1_takeBird_104 (by decide) ?_
                    exact r_zret (pc := 105) X hr dX1_takeBird_105 nb1 h
                  · replace h := h.2 hc
                    refine r_iconst (pc := 51) (v := (nI 0)) X dX1_takeBird_51 (by decide) ?_
                    exact r_zret (pc := 52) X hr dX1_takeBird_52 nb0 h
theorem dX1_takeLoad_0 : decode cX1_takeLoad 0 = .ok (.iload_n 1, 1) := by decide +kernel
theorem dX1_takeLoad_1 : decode cX1_takeLoad 1 = .ok (.iconst 1, 1) := by decide +kernel
theorem dX1_takeLoad_2 : decode cX1_takeLoad 2 = .ok (.if_icmp .lt 19, 3) := by decide +kernel
theorem dX1_takeLoad_5 : decode cX1_takeLoad 5 = .ok (.iload_n 1, 1) := by decide +kernel
theorem dX1_takeLoad_6 : decode cX1_takeLoad 6 = .ok (.bipush 40, 2) := by decide +kernel
theorem dX1_takeLoad_8 : decode cX1_takeLoad 8 = .ok (.if_icmp .gt 13, 3) := by decide +kernel
theorem dX1_takeLoad_11 : decode cX1_takeLoad 11 = .ok (.iload_n 2, 1) := by decide +kernel
theorem dX1_takeLoad_12 : decode cX1_takeLoad 12 = .ok (.ifCond .lt 9, 3) := by decide +kernel
theorem dX1_takeLoad_15 : decode cX1_takeLoad 15 = .ok (.iload_n 2, 1) := by decide +kernel
theorem dX1_takeLoad_16 : decode cX1_takeLoad 16 = .ok (.bipush 9, 2) := by decide +kernel
theorem dX1_takeLoad_18 : decode cX1_takeLoad 18 = .ok (.if_icmp .le 5, 3) := by decide +kernel
theorem dX1_takeLoad_21 : decode cX1_takeLoad 21 = .ok (.iconst 0, 1) := by decide +kernel
theorem dX1_takeLoad_22 : decode cX1_takeLoad 22 = .ok (.ireturn, 1) := by decide +kernel
theorem dX1_takeLoad_23 : decode cX1_takeLoad 23 = .ok (.aload_n 0, 1) := by decide +kernel
theorem dX1_takeLoad_24 : decode cX1_takeLoad 24 = .ok (.iload_n 1, 1) := by decide +kernel
theorem dX1_takeLoad_25 : decode cX1_takeLoad 25 = .ok (.putfield 40, 3) := by decide +kernel
theorem dX1_takeLoad_28 : decode cX1_takeLoad 28 = .ok (.aload_n 0, 1) := by decide +kernel
theorem dX1_takeLoad_29 : decode cX1_takeLoad 29 = .ok (.iload_n 2, 1) := by decide +kernel
theorem dX1_takeLoad_30 : decode cX1_takeLoad 30 = .ok (.putfield 43, 3) := by decide +kernel
theorem dX1_takeLoad_33 : decode cX1_takeLoad 33 = .ok (.iconst 1, 1) := by decide +kernel
theorem dX1_takeLoad_34 : decode cX1_takeLoad 34 = .ok (.ireturn, 1) := by decide +kernel
theorem hd_X1_takeLoad : yX1_takeLoad.cls = RX1 ∧ yX1_takeLoad.cls ≠ "java/lang/invoke/MethodHandle" ∧ yX1_takeLoad.cls ≠ "java/lang/invoke/VarHandle" ∧ (parseMethodDescriptor yX1_takeLoad.desc).map (fun d => d.parameters.length) = some 2 := by decide +kernel
abbrev rm_X1_takeLoad : Room := { frames := 0, cells := 0, slots := 0, locals := 0 }
def wp_X1_takeLoad (K : Int32 → HF → Prop) (F : HF) (f : Nat) (a1 : Int32) (a2 : Int32) : Prop := ((a1 < (nI 1)) → (K (nI 0) F)) ∧ ((¬ a1 < (nI 1)) → ((((nI 40) < a1) → (K (nI 0) F)) ∧ ((¬ (nI 40) < a1) → (((a2 < (nI 0)) → (K (nI 0) F)) ∧ ((¬ a2 < (nI 0)) → (((a2 ≤ (nI 9)) → (∀ F1 : HF, F1 = hup F f 8 a1 → (∀ F2 : HF, F2 = hup F1 f 9 a2 → (K (nI 1) F2)))) ∧ ((¬ a2 ≤ (nI 9)) → (K (nI 0) F))))))))
set_option maxRecDepth 100000 in
set_option maxHeartbeats 4000000 in
theorem c_X1_takeLoad {l : Launch} {D : va_G} {dA : Nat → ClassId} {ad : Nat → Nat} {R : List Nat} {F : HF} {f : Nat} {a1 : Int32} {a2 : Int32} {K : Int32 → HF → Prop} (hT : Fl R f) (h : wp_X1_takeLoad K F f a1 a2) : MI l yX1_takeLoad cX1_takeLoad 3 .boolean rm_X1_takeLoad D dA ad R F [.ref (ad f), .int a1, .int a2] K := by
  refine MI.of (own := RX1) (by decide) rfl (Nat.le_of_ble_eq_true rfl) ?_
  intro p e s m args below meth c A hA X hr
  unfold wp_X1_takeLoad at h
  show J p l e rm_X1_takeLoad s m args below meth c 3 D dA ad R A (QI D dA ad R A below args s K) F 0 [(0, .ref (ad f)), (1, .int a1), (2, .int a2)] []
  refine r_iload_n (pc := 0) X 1 dX1_takeLoad_0 rfl rfl ?_
  refine r_iconst (pc := 1) (v := (nI 1)) X dX1_takeLoad_1 (by decide) ?_
  refine r_icmp_lt (pc := 2) (tgt := 21) X dX1_takeLoad_2 (by decide) (fun hc => ?_) (fun hc => ?_)
  · replace h := h.1 hc
    refine r_iconst (pc := 21) (v := (nI 0)) X dX1_takeLoad_21 (by decide) ?_
    exact r_zret (pc := 22) X hr dX1_takeLoad_22 nb0 h
  · replace h := h.2 hc
    refine r_iload_n (pc := 5) X 1 dX1_takeLoad_5 rfl rfl ?_
    refine r_bipush (pc := 6) (v := (nI 40)) X dX1_takeLoad_6 (by decide) ?_
    refine r_icmp_gt (pc := 8) (tgt := 21) X dX1_takeLoad_8 (by decide) (fun hc => ?_) (fun hc => ?_)
    · replace h := h.1 hc
      refine r_iconst (pc := 21) (v := (nI 0)) X dX1_takeLoad_21 (by decide) ?_
      exact r_zret (pc := 22) X hr dX1_takeLoad_22 nb0 h
    · replace h := h.2 hc
      refine r_iload_n (pc := 11) X 2 dX1_takeLoad_11 rfl rfl ?_
      refine r_if_lt (pc := 12) (tgt := 21) X dX1_takeLoad_12 (by decide) (fun hc => ?_) (fun hc => ?_)
      · replace h := h.1 hc
        refine r_iconst (pc := 21) (v := (nI 0)) X dX1_takeLoad_21 (by decide) ?_
        exact r_zret (pc := 22) X hr dX1_takeLoad_22 nb0 h
      · replace h := h.2 hc
        refine r_iload_n (pc := 15) X 2 dX1_takeLoad_15 rfl rfl ?_
        refine r_bipush (pc := 16) (v := (nI 9)) X dX1_takeLoad_16 (by decide) ?_
        refine r_icmp_le (pc := 18) (tgt := 23) X dX1_takeLoad_18 (by decide) (fun hc => ?_) (fun hc => ?_)
        · replace h := h.1 hc
          refine r_aload_n (pc := 23) X 0 dX1_takeLoad_23 rfl rfl ?_
          refine r_iload_n (pc := 24) X 1 dX1_takeLoad_24 rfl rfl ?_
          refine fp_X1_40 (pc := 25) X hT.1 dX1_takeLoad_25 (fun F1 e1 => ?_)
          replace h := h F1 e1
          refine r_aload_n (pc := 28) X 0 dX1_takeLoad_28 rfl rfl ?_
          refine r_iload_n (pc := 29) X 2 dX1_takeLoad_29 rfl rfl ?_
          refine fp_X1_43 (pc := 30) X hT.1 dX1_takeLoad_30 (fun F2 e1 => ?_)
          replace h := h F2 e1
          refine r_iconst (pc := 33) (v := (nI 1)) X dX1_takeLoad_33 (by decide) ?_
          exact r_zret (pc := 34) X hr dX1_takeLoad_34 nb1 h
        · replace h := h.2 hc
          refine r_iconst (pc := 21) (v := (nI 0)) X dX1_takeLoad_21 (by decide) ?_
          exact r_zret (pc := 22) X hr dX1_takeLoad_22 nb0 h
theorem dX1_takeRiver_0 : decode cX1_takeRiver 0 = .ok (.iload_n 1, 1) := by decide +kernel
theorem dX1_takeRiver_1 : decode cX1_takeRiver 1 = .ok (.iconst 1, 1) := by decide +kernel
theorem dX1_takeRiver_2 : decode cX1_takeRiver 2 = .ok (.if_icmp .lt 9, 3) := by decide +kernel
theorem dX1_takeRiver_5 : decode cX1_takeRiver 5 = .ok (.iload_n 1, 1) := by decide +kernel
theorem dX1_takeRiver_6 : decode cX1_takeRiver 6 = .ok (.bipush 9, 2) := by decide +kernel
theorem dX1_takeRiver_8 : decode cX1_takeRiver 8 = .ok (.if_icmp .le 5, 3) := by decide +kernel
theorem dX1_takeRiver_11 : decode cX1_takeRiver 11 = .ok (.iconst 0, 1) := by decide +kernel
theorem dX1_takeRiver_12 : decode cX1_takeRiver 12 = .ok (.ireturn, 1) := by decide +kernel
theorem dX1_takeRiver_13 : decode cX1_takeRiver 13 = .ok (.aload_n 0, 1) := by decide +kernel
theorem dX1_takeRiver_14 : decode cX1_takeRiver 14 = .ok (.iload_n 1, 1) := by decide +kernel
theorem dX1_takeRiver_15 : decode cX1_takeRiver 15 = .ok (.putfield 37, 3) := by decide +kernel
theorem dX1_takeRiver_18 : decode cX1_takeRiver 18 = .ok (.iconst 1, 1) := by decide +kernel
theorem dX1_takeRiver_19 : decode cX1_takeRiver 19 = .ok (.ireturn, 1) := by decide +kernel
theorem hd_X1_takeRiver : yX1_takeRiver.cls = RX1 ∧ yX1_takeRiver.cls ≠ "java/lang/invoke/MethodHandle" ∧ yX1_takeRiver.cls ≠ "java/lang/invoke/VarHandle" ∧ (parseMethodDescriptor yX1_takeRiver.desc).map (fun d => d.parameters.length) = some 1 := by decide +kernel
abbrev rm_X1_takeRiver : Room := { frames := 0, cells := 0, slots := 0, locals := 0 }
def wp_X1_takeRiver (K : Int32 → HF → Prop) (F : HF) (f : Nat) (a1 : Int32) : Prop := ((a1 < (nI 1)) → (K (nI 0) F)) ∧ ((¬ a1 < (nI 1)) → (((a1 ≤ (nI 9)) → (∀ F1 : HF, F1 = hup F f 7 a1 → (K (nI 1) F1))) ∧ ((¬ a1 ≤ (nI 9)) → (K (nI 0) F))))
set_option maxRecDepth 100000 in
set_option maxHeartbeats 4000000 in
theorem c_X1_takeRiver {l : Launch} {D : va_G} {dA : Nat → ClassId} {ad : Nat → Nat} {R : List Nat} {F : HF} {f : Nat} {a1 : Int32} {K : Int32 → HF → Prop} (hT : Fl R f) (h : wp_X1_takeRiver K F f a1) : MI l yX1_takeRiver cX1_takeRiver 2 .boolean rm_X1_takeRiver D dA ad R F [.ref (ad f), .int a1] K := by
  refine MI.of (own := RX1) (by decide) rfl (Nat.le_of_ble_eq_true rfl) ?_
  intro p e s m args below meth c A hA X hr
  unfold wp_X1_takeRiver at h
  show J p l e rm_X1_takeRiver s m args below meth c 2 D dA ad R A (QI D dA ad R A below args s K) F 0 [(0, .ref (ad f)), (1, .int a1)] []
  refine r_iload_n (pc := 0) X 1 dX1_takeRiver_0 rfl rfl ?_
  refine r_iconst (pc := 1) (v := (nI 1)) X dX1_takeRiver_1 (by decide) ?_
  refine r_icmp_lt (pc := 2) (tgt := 11) X dX1_takeRiver_2 (by decide) (fun hc => ?_) (fun hc => ?_)
  · replace h := h.1 hc
    refine r_iconst (pc := 11) (v := (nI 0)) X dX1_takeRiver_11 (by decide) ?_
    exact r_zret (pc := 12) X hr dX1_takeRiver_12 nb0 h
  · replace h := h.2 hc
    refine r_iload_n (pc := 5) X 1 dX1_takeRiver_5 rfl rfl ?_
    refine r_bipush (pc := 6) (v := (nI 9)) X dX1_takeRiver_6 (by decide) ?_
    refine r_icmp_le (pc := 8) (tgt := 13) X dX1_takeRiver_8 (by decide) (fun hc => ?_) (fun hc => ?_)
    · replace h := h.1 hc
      refine r_aload_n (pc := 13) X 0 dX1_takeRiver_13 rfl rfl ?_
      refine r_iload_n (pc := 14) X 1 dX1_takeRiver_14 rfl rfl ?_
      refine fp_X1_37 (pc := 15) X hT.1 dX1_takeRiver_15 (fun F1 e1 => ?_)
      replace h := h F1 e1
      refine r_iconst (pc := 18) (v := (nI 1)) X dX1_takeRiver_18 (by decide) ?_
      exact r_zret (pc := 19) X hr dX1_takeRiver_19 nb1 h
    · replace h := h.2 hc
      refine r_iconst (pc := 11) (v := (nI 0)) X dX1_takeRiver_11 (by decide) ?_
      exact r_zret (pc := 12) X hr dX1_takeRiver_12 nb0 h
theorem dX1_takeWind_0 : decode cX1_takeWind 0 = .ok (.aload_n 0, 1) := by decide +kernel
theorem dX1_takeWind_1 : decode cX1_takeWind 1 = .ok (.getfield 34, 3) := by decide +kernel
theorem dX1_takeWind_4 : decode cX1_takeWind 4 = .ok (.bipush 8, 2) := by decide +kernel
theorem dX1_takeWind_6 : decode cX1_takeWind 6 = .ok (.if_icmp .ge 13, 3) := by decide +kernel
theorem dX1_takeWind_9 : decode cX1_takeWind 9 = .ok (.iload_n 1, 1) := by decide +kernel
theorem dX1_takeWind_10 : decode cX1_takeWind 10 = .ok (.ifCond .lt 9, 3) := by decide +kernel
theorem dX1_takeWind_13 : decode cX1_takeWind 13 = .ok (.iload_n 1, 1) := by decide +kernel
theorem dX1_takeWind_14 : decode cX1_takeWind 14 = .ok (.bipush 20, 2) := by decide +kernel
theorem dX1_takeWind_16 : decode cX1_takeWind 16 = .ok (.if_icmp .le 5, 3) := by decide +kernel
theorem dX1_takeWind_19 : decode cX1_takeWind 19 = .ok (.iconst 0, 1) := by decide +kernel
theorem dX1_takeWind_20 : decode cX1_takeWind 20 = .ok (.ireturn, 1) := by decide +kernel
theorem dX1_takeWind_21 : decode cX1_takeWind 21 = .ok (.aload_n 0, 1) := by decide +kernel
theorem dX1_takeWind_22 : decode cX1_takeWind 22 = .ok (.getfield 24, 3) := by decide +kernel
theorem dX1_takeWind_25 : decode cX1_takeWind 25 = .ok (.aload_n 0, 1) := by decide +kernel
theorem dX1_takeWind_26 : decode cX1_takeWind 26 = .ok (.getfield 34, 3) := by decide +kernel
theorem dX1_takeWind_29 : decode cX1_takeWind 29 = .ok (.iload_n 1, 1) := by decide +kernel
theorem dX1_takeWind_30 : decode cX1_takeWind 30 = .ok (.iastore, 1) := by decide +kernel
theorem dX1_takeWind_31 : decode cX1_takeWind 31 = .ok (.aload_n 0, 1) := by decide +kernel
theorem dX1_takeWind_32 : decode cX1_takeWind 32 = .ok (.dup, 1) := by decide +kernel
theorem dX1_takeWind_33 : decode cX1_takeWind 33 = .ok (.getfield 34, 3) := by decide +kernel
theorem dX1_takeWind_36 : decode cX1_takeWind 36 = .ok (.iconst 1, 1) := by decide +kernel
theorem dX1_takeWind_37 : decode cX1_takeWind 37 = .ok (.iadd, 1) := by decide +kernel
theorem dX1_takeWind_38 : decode cX1_takeWind 38 = .ok (.putfield 34, 3) := by decide +kernel
theorem dX1_takeWind_41 : decode cX1_takeWind 41 = .ok (.iconst 1, 1) := by decide +kernel
theorem dX1_takeWind_42 : decode cX1_takeWind 42 = .ok (.ireturn, 1) := by decide +kernel
theorem hd_X1_takeWind : yX1_takeWind.cls = RX1 ∧ yX1_takeWind.cls ≠ "java/lang/invoke/MethodHandle" ∧ yX1_takeWind.cls ≠ "java/lang/invoke/VarHandle" ∧ (parseMethodDescriptor yX1_takeWind.desc).map (fun d => d.parameters.length) = some 1 := by decide +kernel
abbrev rm_X1_takeWind : Room := { frames := 0, cells := 0, slots := 0, locals := 0 }
def wp_X1_takeWind (K : Int32 → HF → Prop) (F : HF) (f : Nat) (a1 : Int32) : Prop := (((nI 8) ≤ (F f 6)) → (K (nI 0) F)) ∧ ((¬ (nI 8) ≤ (F f 6)) → (((a1 < (nI 0)) → (K (nI 0) F)) ∧ ((¬ a1 < (nI 0)) → (((a1 ≤ (nI 20)) → ((vp_in (F f 6) 8) ∧ (∀ F1 : HF, F1 = hup F (f + 5) (F f 6).toNatClampNeg a1 → (∀ F2 : HF, F2 = hup F1 f 6 ((F1 f 6) + (nI 1)) → (K (nI 1) F2))))) ∧ ((¬ a1 ≤ (nI 20)) → (K (nI 0) F))))))
set_option maxRecDepth 100000 in
set_option maxHeartbeats 4000000 in
theorem c_X1_takeWind {l : Launch} {D : va_G} {dA : Nat → ClassId} {ad : Nat → Nat} {R : List Nat} {F : HF} {f : Nat} {a1 : Int32} {K : Int32 → HF → Prop} (hT : Fl R f) (h : wp_X1_takeWind K F f a1) : MI l yX1_takeWind cX1_takeWind 2 .boolean rm_X1_takeWind D dA ad R F [.ref (ad f), .int a1] K := by
  refine MI.of (own := RX1) (by decide) rfl (Nat.le_of_ble_eq_true rfl) ?_
  intro p e s m args below meth c A hA X hr
  unfold wp_X1_takeWind at h
  show J p l e rm_X1_takeWind s m args below meth c 2 D dA ad R A (QI D dA ad R A below args s K) F 0 [(0, .ref (ad f)), (1, .int a1)] []
  refine r_aload_n (pc := 0) X 0 dX1_takeWind_0 rfl rfl ?_
  refine fg_X1_34 (pc := 1) X hT.1 dX1_takeWind_1 ?_
  refine r_bipush (pc := 4) (v := (nI 8)) X dX1_takeWind_4 (by decide) ?_
  refine r_icmp_ge (pc := 6) (tgt := 19) X dX1_takeWind_6 (by decide) (fun hc => ?_) (fun hc => ?_)
  · replace h := h.1 hc
    refine r_iconst (pc := 19) (v := (nI 0)) X dX1_takeWind_19 (by decide) ?_
    exact r_zret (pc := 20) X hr dX1_takeWind_20 nb0 h
  · replace h := h.2 hc
    refine r_iload_n (pc := 9) X 1 dX1_takeWind_9 rfl rfl ?_
    refine r_if_lt (pc := 10) (tgt := 19) X dX1_takeWind_10 (by decide) (fun hc => ?_) (fun hc => ?_)
    · replace h := h.1 hc
      refine r_iconst (pc := 19) (v := (nI 0)) X dX1_takeWind_19 (by decide) ?_
      exact r_zret (pc := 20) X hr dX1_takeWind_20 nb0 h
    · replace h := h.2 hc
      refine r_iload_n (pc := 13) X 1 dX1_takeWind_13 rfl rfl ?_
      refine r_bipush (pc := 14) (v := (nI 20)) X dX1_takeWind_14 (by decide) ?_
      refine r_icmp_le (pc := 16) (tgt := 21) X dX1_takeWind_16 (by decide) (fun hc => ?_) (fun hc => ?_)
      · replace h := h.1 hc
        refine r_aload_n (pc := 21) X 0 dX1_takeWind_21 rfl rfl ?_
        refine fg_X1_24 (pc := 22) X hT.1 dX1_takeWind_22 ?_
        refine r_aload_n (pc := 25) X 0 dX1_takeWind_25 rfl rfl ?_
        refine fg_X1_34 (pc := 26) X hT.1 dX1_takeWind_26 ?_
        refine r_iload_n (pc := 29) X 1 dX1_takeWind_29 rfl rfl ?_
        refine r_iast (pc := 30) X hT.2.2.2.2.2 h.1 dX1_takeWind_30 (fun F1 e1 => ?_)
        replace h := h.2 F1 e1
        refine r_aload_n (pc := 31) X 0 dX1_takeWind_31 rfl rfl ?_
        refine r_dup (pc := 32) X dX1_takeWind_32 rfl ?_
        refine fg_X1_34 (pc := 33) X hT.1 dX1_takeWind_33 ?_
        refine r_iconst (pc := 36) (v := (nI 1)) X dX1_takeWind_36 (by decide) ?_
        refine r_iadd (pc := 37) X dX1_takeWind_37 ?_
        refine fp_X1_34 (pc := 38) X hT.1 dX1_takeWind_38 (fun F2 e1 => ?_)
        replace h := h F2 e1
        refine r_iconst (pc := 41) (v := (nI 1)) X dX1_takeWind_41 (by decide) ?_
        exact r_zret (pc := 42) X hr dX1_takeWind_42 nb1 h
      · replace h := h.2 hc
        refine r_iconst (pc := 19) (v := (nI 0)) X dX1_takeWind_19 (by decide) ?_
        exact r_zret (pc := 20) X hr dX1_takeWind_20 nb0 h
theorem dX1_take_0 : decode cX1_take 0 = .ok (.aload_n 2, 1) := by decide +kernel
theorem dX1_take_1 : decode cX1_take 1 = .ok (.arraylength, 1) := by decide +kernel
theorem dX1_take_2 : decode cX1_take 2 = .ok (.iconst 4, 1) := by decide +kernel
theorem dX1_take_3 : decode cX1_take 3 = .ok (.if_icmp .ge 5, 3) := by decide +kernel
theorem dX1_take_6 : decode cX1_take 6 = .ok (.iconst 0, 1) := by decide +kernel
theorem dX1_take_7 : decode cX1_take 7 = .ok (.ireturn, 1) := by decide +kernel
theorem dX1_take_8 : decode cX1_take 8 = .ok (.iload_n 1, 1) := by decide +kernel
theorem dX1_take_9 : decode cX1_take 9 = .ok (.lookupswitch 87 #[(98, 43), (108, 76), (114, 60), (119, 68)], 43) := by decide +kernel
theorem dX1_take_52 : decode cX1_take 52 = .ok (.aload_n 0, 1) := by decide +kernel
theorem dX1_take_53 : decode cX1_take 53 = .ok (.aload_n 2, 1) := by decide +kernel
theorem dX1_take_54 : decode cX1_take 54 = .ok (.iconst 0, 1) := by decide +kernel
theorem dX1_take_55 : decode cX1_take 55 = .ok (.iaload, 1) := by decide +kernel
theorem dX1_take_56 : decode cX1_take 56 = .ok (.aload_n 2, 1) := by decide +kernel
theorem dX1_take_57 : decode cX1_take 57 = .ok (.iconst 1, 1) := by decide +kernel
theorem dX1_take_58 : decode cX1_take 58 = .ok (.iaload, 1) := by decide +kernel
theorem dX1_take_59 : decode cX1_take 59 = .ok (.aload_n 2, 1) := by decide +kernel
theorem dX1_take_60 : decode cX1_take 60 = .ok (.iconst 2, 1) := by decide +kernel
theorem dX1_take_61 : decode cX1_take 61 = .ok (.iaload, 1) := by decide +kernel
theorem dX1_take_62 : decode cX1_take 62 = .ok (.aload_n 2, 1) := by decide +kernel
theorem dX1_take_63 : decode cX1_take 63 = .ok (.iconst 3, 1) := by decide +kernel
theorem dX1_take_64 : decode cX1_take 64 = .ok (.iaload, 1) := by decide +kernel
theorem dX1_take_65 : decode cX1_take 65 = .ok (.invokevirtual 52, 3) := by decide +kernel
theorem dX1_take_68 : decode cX1_take 68 = .ok (.ireturn, 1) := by decide +kernel
theorem dX1_take_69 : decode cX1_take 69 = .ok (.aload_n 0, 1) := by decide +kernel
theorem dX1_take_70 : decode cX1_take 70 = .ok (.aload_n 2, 1) := by decide +kernel
theorem dX1_take_71 : decode cX1_take 71 = .ok (.iconst 0, 1) := by decide +kernel
theorem dX1_take_72 : decode cX1_take 72 = .ok (.iaload, 1) := by decide +kernel
theorem dX1_take_73 : decode cX1_take 73 = .ok (.invokevirtual 56, 3) := by decide +kernel
theorem dX1_take_76 : decode cX1_take 76 = .ok (.ireturn, 1) := by decide +kernel
theorem dX1_take_77 : decode cX1_take 77 = .ok (.aload_n 0, 1) := by decide +kernel
theorem dX1_take_78 : decode cX1_take 78 = .ok (.aload_n 2, 1) := by decide +kernel
theorem dX1_take_79 : decode cX1_take 79 = .ok (.iconst 0, 1) := by decide +kernel
theorem dX1_take_80 : decode cX1_take 80 = .ok (.iaload, 1) := by decide +kernel
theorem dX1_take_81 : decode cX1_take 81 = .ok (.invokevirtual 60, 3) := by decide +kernel
theorem dX1_take_84 : decode cX1_take 84 = .ok (.ireturn, 1) := by decide +kernel
theorem dX1_take_85 : decode cX1_take 85 = .ok (.aload_n 0, 1) := by decide +kernel
theorem dX1_take_86 : decode cX1_take 86 = .ok (.aload_n 2, 1) := by decide +kernel
theorem dX1_take_87 : decode cX1_take 87 = .ok (.iconst 0, 1) := by decide +kernel
theorem dX1_take_88 : decode cX1_take 88 = .ok (.iaload, 1) := by decide +kernel
theorem dX1_take_89 : decode cX1_take 89 = .ok (.aload_n 2, 1) := by decide +kernel
theorem dX1_take_90 : decode cX1_take 90 = .ok (.iconst 1, 1) := by decide +kernel
theorem dX1_take_91 : decode cX1_take 91 = .ok (.iaload, 1) := by decide +kernel
theorem dX1_take_92 : decode cX1_take 92 = .ok (.invokevirtual 63, 3) := by decide +kernel
theorem dX1_take_95 : decode cX1_take 95 = .ok (.ireturn, 1) := by decide +kernel
theorem dX1_take_96 : decode cX1_take 96 = .ok (.iconst 0, 1) := by decide +kernel
theorem dX1_take_97 : decode cX1_take 97 = .ok (.ireturn, 1) := by decide +kernel
theorem hd_X1_take : yX1_take.cls = RX1 ∧ yX1_take.cls ≠ "java/lang/invoke/MethodHandle" ∧ yX1_take.cls ≠ "java/lang/invoke/VarHandle" ∧ (parseMethodDescriptor yX1_take.desc).map (fun d => d.parameters.length) = some 2 := by decide +kernel
abbrev rm_X1_take : Room := { frames := 1, cells := 0, slots := 0, locals := 24 }
def wp_X1_take (K : Int32 → HF → Prop) (F : HF) (f : Nat) (r2 : Nat) (z2 : Nat) (a1 : Int32) : Prop := (((nI 4) ≤ (nI z2)) → ((((a1 = (nI 98)) → ((vp_in (nI 0) z2) ∧ ((vp_in (nI 1) z2) ∧ ((vp_in (nI 2) z2) ∧ ((vp_in (nI 3) z2) ∧ (wp_X1_takeBird (fun x1 F1 => (x1 = nI 0 ∨ x1 = nI 1) ∧ K x1 F1) F f (F r2 (nI 0).toNatClampNeg) (F r2 (nI 1).toNatClampNeg) (F r2 (nI 2).toNatClampNeg) (F r2 (nI 3).toNatClampNeg)))))))) ∧ (((a1 = (nI 108)) → ((vp_in (nI 0) z2) ∧ ((vp_in (nI 1) z2) ∧ (wp_X1_takeLoad (fun x2 F2 => (x2 = nI 0 ∨ x2 = nI 1) ∧ K x2 F2) F f (F r2 (nI 0).toNatClampNeg) (F r2 (nI 1).toNatClampNeg)))))) ∧ (((a1 = (nI 114)) → ((vp_in (nI 0) z2) ∧ (wp_X1_takeRiver (fun x3 F3 => (x3 = nI 0 ∨ x3 = nI 1) ∧ K x3 F3) F f (F r2 (nI 0).toNatClampNeg))))) ∧ (((a1 = (nI 119)) → ((vp_in (nI 0) z2) ∧ (wp_X1_takeWind (fun x4 F4 => (x4 = nI 0 ∨ x4 = nI 1) ∧ K x4 F4) F f (F r2 (nI 0).toNatClampNeg))))) ∧ ((¬ a1 = (nI 98)) → (¬ a1 = (nI 108)) → (¬ a1 = (nI 114)) → (¬ a1 = (nI 119)) → (K (nI 0) F)))) ∧ ((¬ (nI 4) ≤ (nI z2)) → (K (nI 0) F))
set_option maxRecDepth 100000 in
set_option maxHeartbeats 4000000 in
theorem c_X1_take {l : Launch} {D : va_G} {dA : Nat → ClassId} {ad : Nat → Nat} {R : List Nat} {F : HF} {f : Nat} {r2 : Nat} {z2 : Nat} {a1 : Int32} {K : Int32 → HF → Prop} (hT : Fl R f) (hr2 : IA R r2 z2) (h : wp_X1_take K F f r2 z2 a1) : MI l yX1_take cX1_take 3 .boolean rm_X1_take D dA ad R F [.ref (ad f), .int a1, .ref (ad r2)] K := by
  refine MI.of (own := RX1) (by decide) rfl (Nat.le_of_ble_eq_true rfl) ?_
  intro p e s m args below meth c A hA X hr
  unfold wp_X1_take at h
  show J p l e rm_X1_take s m args below meth c 3 D dA ad R A (QI D dA ad R A below args s K) F 0 [(0, .ref (ad f)), (1, .int a1), (2, .ref (ad r2))] []
  refine r_aload_n (pc := 0) X 2 dX1_take_0 rfl rfl ?_
  refine r_alen (pc := 1) (v := (nI z2)) X (Or.inl hr2) rfl dX1_take_1 ?_
  refine r_iconst (pc := 2) (v := (nI 4)) X dX1_take_2 (by decide) ?_
  refine r_icmp_ge (pc := 3) (tgt := 8) X dX1_take_3 (by decide) (fun hc => ?_) (fun hc => ?_)
  · replace h := h.1 hc
    refine r_iload_n (pc := 8) X 1 dX1_take_8 rfl rfl ?_
    by_cases hc98 : a1 = (nI 98)
    · replace h := h.1 hc98
      refine r_lookup (pc := 9) (off := 43) (tgt := 52) X dX1_take_9 (by decide) (by rw [hc98]; decide) (by decide) ?_
      refine r_aload_n (pc := 52) X 0 dX1_take_52 rfl rfl ?_
      refine r_aload_n (pc := 53) X 2 dX1_take_53 rfl rfl ?_
      refine r_iconst (pc := 54) (v := (nI 0)) X dX1_take_54 (by decide) ?_
      refine r_iald (pc := 55) X hr2 h.1 dX1_take_55 ?_
      replace h := h.2
      refine r_aload_n (pc := 56) X 2 dX1_take_56 rfl rfl ?_
      refine r_iconst (pc := 57) (v := (nI 1)) X dX1_take_57 (by decide) ?_
      refine r_iald (pc := 58) X hr2 h.1 dX1_take_58 ?_
      replace h := h.2
      refine r_aload_n (pc := 59) X 2 dX1_take_59 rfl rfl ?_
      refine r_iconst (pc := 60) (v := (nI 2)) X dX1_take_60 (by decide) ?_
      refine r_iald (pc := 61) X hr2 h.1 dX1_take_61 ?_
      replace h := h.2
      refine r_aload_n (pc := 62) X 2 dX1_take_62 rfl rfl ?_
      refine r_iconst (pc := 63) (v := (nI 3)) X dX1_take_63 (by decide) ?_
      refine r_iald (pc := 64) X hr2 h.1 dX1_take_64 ?_
      replace h := h.2
      refine r_callIV (pc := 65) (As := [.int (F r2 (nI 0).toNatClampNeg), .int (F r2 (nI 1).toNatClampNeg), .int (F r2 (nI 2).toNatClampNeg), .int (F r2 (nI 3).toNatClampNeg)]) (st := []) X hA (c_X1_takeBird hT h) g_X1_52 cl_X1 hT.1 hd_X1_takeBird rfl rfl rfl ⟨Nat.le_of_ble_eq_true rfl, Nat.le_of_ble_eq_true rfl⟩ rfl (Nat.le_of_ble_eq_true rfl) dX1_take_65 (fun x1 F1 h => ?_)
      exact r_zret (pc := 68) X hr dX1_take_68 (nbz h.1) h.2
    · replace h := h.2
      by_cases hc108 : a1 = (nI 108)
      · replace h := h.1 hc108
        refine r_lookup (pc := 9) (off := 76) (tgt := 85) X dX1_take_9 (by decide) (by rw [hc108]; decide) (by decide) ?_
        refine r_aload_n (pc := 85) X 0 dX1_take_85 rfl rfl ?_
        refine r_aload_n (pc := 86) X 2 dX1_take_86 rfl rfl ?_
        refine r_iconst (pc := 87) (v := (nI 0)) X dX1_take_87 (by decide) ?_
        refine r_iald (pc := 88) X hr2 h.1 dX1_take_88 ?_
        replace h := h.2
        refine r_aload_n (pc := 89) X 2 dX1_take_89 rfl rfl ?_
        refine r_iconst (pc := 90) (v := (nI 1)) X dX1_take_90 (by decide) ?_
        refine r_iald (pc := 91) X hr2 h.1 dX1_take_91 ?_
        replace h := h.2
        refine r_callIV (pc := 92) (As := [.int (F r2 (nI 0).toNatClampNeg), .int (F r2 (nI 1).toNatClampNeg)]) (st := []) X hA (c_X1_takeLoad hT h) g_X1_63 cl_X1 hT.1 hd_X1_takeLoad rfl rfl rfl ⟨Nat.le_of_ble_eq_true rfl, Nat.le_of_ble_eq_true rfl⟩ rfl (Nat.le_of_ble_eq_true rfl) dX1_take_92 (fun x2 F2 h => ?_)
        exact r_zret (pc := 95) X hr dX1_take_95 (nbz h.1) h.2
      · replace h := h.2
        by_cases hc114 : a1 = (nI 114)
        · replace h := h.1 hc114
          refine r_lookup (pc := 9) (off := 60) (tgt := 69) X dX1_take_9 (by decide) (by rw [hc114]; decide) (by decide) ?_
          refine r_aload_n (pc := 69) X 0 dX1_take_69 rfl rfl ?_
          refine r_aload_n (pc := 70) X 2 dX1_take_70 rfl rfl ?_
          refine r_iconst (pc := 71) (v := (nI 0)) X dX1_take_71 (by decide) ?_
          refine r_iald (pc := 72) X hr2 h.1 dX1_take_72 ?_
          replace h := h.2
          refine r_callIV (pc := 73) (As := [.int (F r2 (nI 0).toNatClampNeg)]) (st := []) X hA (c_X1_takeRiver hT h) g_X1_56 cl_X1 hT.1 hd_X1_takeRiver rfl rfl rfl ⟨Nat.le_of_ble_eq_true rfl, Nat.le_of_ble_eq_true rfl⟩ rfl (Nat.le_of_ble_eq_true rfl) dX1_take_73 (fun x3 F3 h => ?_)
          exact r_zret (pc := 76) X hr dX1_take_76 (nbz h.1) h.2
        · replace h := h.2
          by_cases hc119 : a1 = (nI 119)
          · replace h := h.1 hc119
            refine r_lookup (pc := 9) (off := 68) (tgt := 77) X dX1_take_9 (by decide) (by rw [hc119]; decide) (by decide) ?_
            refine r_aload_n (pc := 77) X 0 dX1_take_77 rfl rfl ?_
            refine r_aload_n (pc := 78) X 2 dX1_take_78 rfl rfl ?_
            refine r_iconst (pc := 79) (v := (nI 0)) X dX1_take_79 (by decide) ?_
            refine r_iald (pc := 80) X hr2 h.1 dX1_take_80 ?_
            replace h := h.2
            refine r_callIV (pc := 81) (As := [.int (F r2 (nI 0).toNatClampNeg)]) (st := []) X hA (c_X1_takeWind hT h) g_X1_60 cl_X1 hT.1 hd_X1_takeWind rfl rfl rfl ⟨Nat.le_of_ble_eq_true rfl, Nat.le_of_ble_eq_true rfl⟩ rfl (Nat.le_of_ble_eq_true rfl) dX1_take_81 (fun x4 F4 h => ?_)
            exact r_zret (pc := 84) X hr dX1_take_84 (nbz h.1) h.2
          · replace h := h.2
            replace h := h hc98 hc108 hc114 hc119
            refine r_lookup (pc := 9) (off := 87) (tgt := 96) X dX1_take_9 (by decide) (by rw [lv_osw hc98 (by decide), lv_osw hc108 (by decide), lv_osw hc114 (by decide), lv_osw hc119 (by decide)]; rfl) (by decide) ?_
            refine r_iconst (pc := 96) (v := (nI 0)) X dX1_take_96 (by decide) ?_
            exact r_zret (pc := 97) X hr dX1_take_97 nb0 h
  · replace h := h.2 hc
    refine r_iconst (pc := 6) (v := (nI 0)) X dX1_take_6 (by decide) ?_
    exact r_zret (pc := 7) X hr dX1_take_7 nb0 h
theorem dX1_birds_0 : decode cX1_birds 0 = .ok (.aload_n 0, 1) := by decide +kernel
theorem dX1_birds_1 : decode cX1_birds 1 = .ok (.getfield 30, 3) := by decide +kernel
theorem dX1_birds_4 : decode cX1_birds 4 = .ok (.ireturn, 1) := by decide +kernel
theorem hd_X1_birds : yX1_birds.cls = RX1 ∧ yX1_birds.cls ≠ "java/lang/invoke/MethodHandle" ∧ yX1_birds.cls ≠ "java/lang/invoke/VarHandle" ∧ (parseMethodDescriptor yX1_birds.desc).map (fun d => d.parameters.length) = some 0 := by decide +kernel
abbrev rm_X1_birds : Room := { frames := 0, cells := 0, slots := 0, locals := 0 }
def wp_X1_birds (K : Int32 → HF → Prop) (F : HF) (f : Nat) : Prop := K (F f 5) F
set_option maxRecDepth 100000 in
set_option maxHeartbeats 4000000 in
theorem c_X1_birds {l : Launch} {D : va_G} {dA : Nat → ClassId} {ad : Nat → Nat} {R : List Nat} {F : HF} {f : Nat} {K : Int32 → HF → Prop} (hT : Fl R f) (h : wp_X1_birds K F f) : MI l yX1_birds cX1_birds 1 .int rm_X1_birds D dA ad R F [.ref (ad f)] K := by
  refine MI.of (own := RX1) (by decide) rfl (Nat.le_of_ble_eq_true rfl) ?_
  intro p e s m args below meth c A hA X hr
  unfold wp_X1_birds at h
  show J p l e rm_X1_birds s m args below meth c 1 D dA ad R A (QI D dA ad R A below args s K) F 0 [(0, .ref (ad f))] []
  refine r_aload_n (pc := 0) X 0 dX1_birds_0 rfl rfl ?_
  refine fg_X1_30 (pc := 1) X hT.1 dX1_birds_1 ?_
  exact r_iret (pc := 4) X hr dX1_birds_4 h
theorem dX1_width_0 : decode cX1_width 0 = .ok (.aload_n 0, 1) := by decide +kernel
theorem dX1_width_1 : decode cX1_width 1 = .ok (.getfield 37, 3) := by decide +kernel
theorem dX1_width_4 : decode cX1_width 4 = .ok (.ireturn, 1) := by decide +kernel
theorem hd_X1_width : yX1_width.cls = RX1 ∧ yX1_width.cls ≠ "java/lang/invoke/MethodHandle" ∧ yX1_width.cls ≠ "java/lang/invoke/VarHandle" ∧ (parseMethodDescriptor yX1_width.desc).map (fun d => d.parameters.length) = some 0 := by decide +kernel
abbrev rm_X1_width : Room := { frames := 0, cells := 0, slots := 0, locals := 0 }
def wp_X1_width (K : Int32 → HF → Prop) (F : HF) (f : Nat) : Prop := K (F f 7) F
set_option maxRecDepth 100000 in
set_option maxHeartbeats 4000000 in
theorem c_X1_width {l : Launch} {D : va_G} {dA : Nat → ClassId} {ad : Nat → Nat} {R : List Nat} {F : HF} {f : Nat} {K : Int32 → HF → Prop} (hT : Fl R f) (h : wp_X1_width K F f) : MI l yX1_width cX1_width 1 .int rm_X1_width D dA ad R F [.ref (ad f)] K := by
  refine MI.of (own := RX1) (by decide) rfl (Nat.le_of_ble_eq_true rfl) ?_
  intro p e s m args below meth c A hA X hr
  unfold wp_X1_width at h
  show J p l e rm_X1_width s m args below meth c 1 D dA ad R A (QI D dA ad R A below args s K) F 0 [(0, .ref (ad f))] []
  refine r_aload_n (pc := 0) X 0 dX1_width_0 rfl rfl ?_
  refine fg_X1_37 (pc := 1) X hT.1 dX1_width_1 ?_
  exact r_iret (pc := 4) X hr dX1_width_4 h
theorem dX1_strengthOf_0 : decode cX1_strengthOf 0 = .ok (.iload_n 1, 1) := by decide +kernel
theorem dX1_strengthOf_1 : decode cX1_strengthOf 1 = .ok (.ifCond .lt 20, 3) := by decide +kernel
theorem dX1_strengthOf_4 : decode cX1_strengthOf 4 = .ok (.iload_n 1, 1) := by decide +kernel
theorem dX1_strengthOf_5 : decode cX1_strengthOf 5 = .ok (.aload_n 0, 1) := by decide +kernel
theorem dX1_strengthOf_6 : decode cX1_strengthOf 6 = .ok (.getfield 30, 3) := by decide +kernel
theorem dX1_strengthOf_9 : decode cX1_strengthOf 9 = .ok (.if_icmp .ge 12, 3) := by decide +kernel
theorem dX1_strengthOf_12 : decode cX1_strengthOf 12 = .ok (.aload_n 0, 1) := by decide +kernel
theorem dX1_strengthOf_13 : decode cX1_strengthOf 13 = .ok (.getfield 9, 3) := by decide +kernel
theorem dX1_strengthOf_16 : decode cX1_strengthOf 16 = .ok (.iload_n 1, 1) := by decide +kernel
theorem dX1_strengthOf_17 : decode cX1_strengthOf 17 = .ok (.iaload, 1) := by decide +kernel
theorem dX1_strengthOf_18 : decode cX1_strengthOf 18 = .ok (.goto 4, 3) := by decide +kernel
theorem dX1_strengthOf_21 : decode cX1_strengthOf 21 = .ok (.iconst 0, 1) := by decide +kernel
theorem dX1_strengthOf_22 : decode cX1_strengthOf 22 = .ok (.ireturn, 1) := by decide +kernel
theorem hd_X1_strengthOf : yX1_strengthOf.cls = RX1 ∧ yX1_strengthOf.cls ≠ "java/lang/invoke/MethodHandle" ∧ yX1_strengthOf.cls ≠ "java/lang/invoke/VarHandle" ∧ (parseMethodDescriptor yX1_strengthOf.desc).map (fun d => d.parameters.length) = some 1 := by decide +kernel
abbrev rm_X1_strengthOf : Room := { frames := 0, cells := 0, slots := 0, locals := 0 }
def wp_X1_strengthOf (K : Int32 → HF → Prop) (F : HF) (f : Nat) (a1 : Int32) : Prop := ((a1 < (nI 0)) → (K (nI 0) F)) ∧ ((¬ a1 < (nI 0)) → ((((F f 5) ≤ a1) → (K (nI 0) F)) ∧ ((¬ (F f 5) ≤ a1) → ((vp_in a1 8) ∧ (K (F (f + 1) a1.toNatClampNeg) F)))))
set_option maxRecDepth 100000 in
set_option maxHeartbeats 4000000 in
theorem c_X1_strengthOf {l : Launch} {D : va_G} {dA : Nat → ClassId} {ad : Nat → Nat} {R : List Nat} {F : HF} {f : Nat} {a1 : Int32} {K : Int32 → HF → Prop} (hT : Fl R f) (h : wp_X1_strengthOf K F f a1) : MI l yX1_strengthOf cX1_strengthOf 2 .int rm_X1_strengthOf D dA ad R F [.ref (ad f), .int a1] K := by
  refine MI.of (own := RX1) (by decide) rfl (Nat.le_of_ble_eq_true rfl) ?_
  intro p e s m args below meth c A hA X hr
  unfold wp_X1_strengthOf at h
  show J p l e rm_X1_strengthOf s m args below meth c 2 D dA ad R A (QI D dA ad R A below args s K) F 0 [(0, .ref (ad f)), (1, .int a1)] []
  refine r_iload_n (pc := 0) X 1 dX1_strengthOf_0 rfl rfl ?_
  refine r_if_lt (pc := 1) (tgt := 21) X dX1_strengthOf_1 (by decide) (fun hc => ?_) (fun hc => ?_)
  · replace h := h.1 hc
    refine r_iconst (pc := 21) (v := (nI 0)) X dX1_strengthOf_21 (by decide) ?_
    exact r_iret (pc := 22) X hr dX1_strengthOf_22 h
  · replace h := h.2 hc
    refine r_iload_n (pc := 4) X 1 dX1_strengthOf_4 rfl rfl ?_
    refine r_aload_n (pc := 5) X 0 dX1_strengthOf_5 rfl rfl ?_
    refine fg_X1_30 (pc := 6) X hT.1 dX1_strengthOf_6 ?_
    refine r_icmp_ge (pc := 9) (tgt := 21) X dX1_strengthOf_9 (by decide) (fun hc => ?_) (fun hc => ?_)
    · replace h := h.1 hc
      refine r_iconst (pc := 21) (v := (nI 0)) X dX1_strengthOf_21 (by decide) ?_
      exact r_iret (pc := 22) X hr dX1_strengthOf_22 h
    · replace h := h.2 hc
      refine r_aload_n (pc := 12) X 0 dX1_strengthOf_12 rfl rfl ?_
      refine fg_X1_9 (pc := 13) X hT.1 dX1_strengthOf_13 ?_
      refine r_iload_n (pc := 16) X 1 dX1_strengthOf_16 rfl rfl ?_
      refine r_iald (pc := 17) X hT.2.1 h.1 dX1_strengthOf_17 ?_
      replace h := h.2
      refine r_goto (pc := 18) (tgt := 22) X dX1_strengthOf_18 (by decide) ?_
      exact r_iret (pc := 22) X hr dX1_strengthOf_22 h
theorem dX1_lengthOf_0 : decode cX1_lengthOf 0 = .ok (.iload_n 1, 1) := by decide +kernel
theorem dX1_lengthOf_1 : decode cX1_lengthOf 1 = .ok (.ifCond .lt 20, 3) := by decide +kernel
theorem dX1_lengthOf_4 : decode cX1_lengthOf 4 = .ok (.iload_n 1, 1) := by decide +kernel
theorem dX1_lengthOf_5 : decode cX1_lengthOf 5 = .ok (.aload_n 0, 1) := by decide +kernel
theorem dX1_lengthOf_6 : decode cX1_lengthOf 6 = .ok (.getfield 30, 3) := by decide +kernel
theorem dX1_lengthOf_9 : decode cX1_lengthOf 9 = .ok (.if_icmp .ge 12, 3) := by decide +kernel
theorem dX1_lengthOf_12 : decode cX1_lengthOf 12 = .ok (.aload_n 0, 1) := by decide +kernel
theorem dX1_lengthOf_13 : decode cX1_lengthOf 13 = .ok (.getfield 15, 3) := by decide +kernel
theorem dX1_lengthOf_16 : decode cX1_lengthOf 16 = .ok (.iload_n 1, 1) := by decide +kernel
theorem dX1_lengthOf_17 : decode cX1_lengthOf 17 = .ok (.iaload, 1) := by decide +kernel
theorem dX1_lengthOf_18 : decode cX1_lengthOf 18 = .ok (.goto 4, 3) := by decide +kernel
theorem dX1_lengthOf_21 : decode cX1_lengthOf 21 = .ok (.iconst 0, 1) := by decide +kernel
theorem dX1_lengthOf_22 : decode cX1_lengthOf 22 = .ok (.ireturn, 1) := by decide +kernel
theorem hd_X1_lengthOf : yX1_lengthOf.cls = RX1 ∧ yX1_lengthOf.cls ≠ "java/lang/invoke/MethodHandle" ∧ yX1_lengthOf.cls ≠ "java/lang/invoke/VarHandle" ∧ (parseMethodDescriptor yX1_lengthOf.desc).map (fun d => d.parameters.length) = some 1 := by decide +kernel
abbrev rm_X1_lengthOf : Room := { frames := 0, cells := 0, slots := 0, locals := 0 }
def wp_X1_lengthOf (K : Int32 → HF → Prop) (F : HF) (f : Nat) (a1 : Int32) : Prop := ((a1 < (nI 0)) → (K (nI 0) F)) ∧ ((¬ a1 < (nI 0)) → ((((F f 5) ≤ a1) → (K (nI 0) F)) ∧ ((¬ (F f 5) ≤ a1) → ((vp_in a1 8) ∧ (K (F (f + 2) a1.toNatClampNeg) F)))))
set_option maxRecDepth 100000 in
set_option maxHeartbeats 4000000 in
theorem c_X1_lengthOf {l : Launch} {D : va_G} {dA : Nat → ClassId} {ad : Nat → Nat} {R : List Nat} {F : HF} {f : Nat} {a1 : Int32} {K : Int32 → HF → Prop} (hT : Fl R f) (h : wp_X1_lengthOf K F f a1) : MI l yX1_lengthOf cX1_lengthOf 2 .int rm_X1_lengthOf D dA ad R F [.ref (ad f), .int a1] K := by
  refine MI.of (own := RX1) (by decide) rfl (Nat.le_of_ble_eq_true rfl) ?_
  intro p e s m args below meth c A hA X hr
  unfold wp_X1_lengthOf at h
  show J p l e rm_X1_lengthOf s m args below meth c 2 D dA ad R A (QI D dA ad R A below args s K) F 0 [(0, .ref (ad f)), (1, .int a1)] []
  refine r_iload_n (pc := 0) X 1 dX1_lengthOf_0 rfl rfl ?_
  refine r_if_lt (pc := 1) (tgt := 21) X dX1_lengthOf_1 (by decide) (fun hc => ?_) (fun hc => ?_)
  · replace h := h.1 hc
    refine r_iconst (pc := 21) (v := (nI 0)) X dX1_lengthOf_21 (by decide) ?_
    exact r_iret (pc := 22) X hr dX1_lengthOf_22 h
  · replace h := h.2 hc
    refine r_iload_n (pc := 4) X 1 dX1_lengthOf_4 rfl rfl ?_
    refine r_aload_n (pc := 5) X 0 dX1_lengthOf_5 rfl rfl ?_
    refine fg_X1_30 (pc := 6) X hT.1 dX1_lengthOf_6 ?_
    refine r_icmp_ge (pc := 9) (tgt := 21) X dX1_lengthOf_9 (by decide) (fun hc => ?_) (fun hc => ?_)
    · replace h := h.1 hc
      refine r_iconst (pc := 21) (v := (nI 0)) X dX1_lengthOf_21 (by decide) ?_
      exact r_iret (pc := 22) X hr dX1_lengthOf_22 h
    · replace h := h.2 hc
      refine r_aload_n (pc := 12) X 0 dX1_lengthOf_12 rfl rfl ?_
      refine fg_X1_15 (pc := 13) X hT.1 dX1_lengthOf_13 ?_
      refine r_iload_n (pc := 16) X 1 dX1_lengthOf_16 rfl rfl ?_
      refine r_iald (pc := 17) X hT.2.2.1 h.1 dX1_lengthOf_17 ?_
      replace h := h.2
      refine r_goto (pc := 18) (tgt := 22) X dX1_lengthOf_18 (by decide) ?_
      exact r_iret (pc := 22) X hr dX1_lengthOf_22 h
theorem dX1_kindOf_0 : decode cX1_kindOf 0 = .ok (.iload_n 1, 1) := by decide +kernel
theorem dX1_kindOf_1 : decode cX1_kindOf 1 = .ok (.ifCond .lt 20, 3) := by decide +kernel
theorem dX1_kindOf_4 : decode cX1_kindOf 4 = .ok (.iload_n 1, 1) := by decide +kernel
theorem dX1_kindOf_5 : decode cX1_kindOf 5 = .ok (.aload_n 0, 1) := by decide +kernel
theorem dX1_kindOf_6 : decode cX1_kindOf 6 = .ok (.getfield 30, 3) := by decide +kernel
theorem dX1_kindOf_9 : decode cX1_kindOf 9 = .ok (.if_icmp .ge 12, 3) := by decide +kernel
theorem dX1_kindOf_12 : decode cX1_kindOf 12 = .ok (.aload_n 0, 1) := by decide +kernel
theorem dX1_kindOf_13 : decode cX1_kindOf 13 = .ok (.getfield 18, 3) := by decide +kernel
theorem dX1_kindOf_16 : decode cX1_kindOf 16 = .ok (.iload_n 1, 1) := by decide +kernel
theorem dX1_kindOf_17 : decode cX1_kindOf 17 = .ok (.iaload, 1) := by decide +kernel
theorem dX1_kindOf_18 : decode cX1_kindOf 18 = .ok (.goto 5, 3) := by decide +kernel
theorem dX1_kindOf_21 : decode cX1_kindOf 21 = .ok (.bipush (-4), 2) := by decide +kernel
theorem dX1_kindOf_23 : decode cX1_kindOf 23 = .ok (.ireturn, 1) := by decide +kernel
theorem hd_X1_kindOf : yX1_kindOf.cls = RX1 ∧ yX1_kindOf.cls ≠ "java/lang/invoke/MethodHandle" ∧ yX1_kindOf.cls ≠ "java/lang/invoke/VarHandle" ∧ (parseMethodDescriptor yX1_kindOf.desc).map (fun d => d.parameters.length) = some 1 := by decide +kernel
abbrev rm_X1_kindOf : Room := { frames := 0, cells := 0, slots := 0, locals := 0 }
def wp_X1_kindOf (K : Int32 → HF → Prop) (F : HF) (f : Nat) (a1 : Int32) : Prop := ((a1 < (nI 0)) → (K (-4 : Int32) F)) ∧ ((¬ a1 < (nI 0)) → ((((F f 5) ≤ a1) → (K (-4 : Int32) F)) ∧ ((¬ (F f 5) ≤ a1) → ((vp_in a1 8) ∧ (K (F (f + 3) a1.toNatClampNeg) F)))))
set_option maxRecDepth 100000 in
set_option maxHeartbeats 4000000 in
theorem c_X1_kindOf {l : Launch} {D : va_G} {dA : Nat → ClassId} {ad : Nat → Nat} {R : List Nat} {F : HF} {f : Nat} {a1 : Int32} {K : Int32 → HF → Prop} (hT : Fl R f) (h : wp_X1_kindOf K F f a1) : MI l yX1_kindOf cX1_kindOf 2 .int rm_X1_kindOf D dA ad R F [.ref (ad f), .int a1] K := by
  refine MI.of (own := RX1) (by decide) rfl (Nat.le_of_ble_eq_true rfl) ?_
  intro p e s m args below meth c A hA X hr
  unfold wp_X1_kindOf at h
  show J p l e rm_X1_kindOf s m args below meth c 2 D dA ad R A (QI D dA ad R A below args s K) F 0 [(0, .ref (ad f)), (1, .int a1)] []
  refine r_iload_n (pc := 0) X 1 dX1_kindOf_0 rfl rfl ?_
  refine r_if_lt (pc := 1) (tgt := 21) X dX1_kindOf_1 (by decide) (fun hc => ?_) (fun hc => ?_)
  · replace h := h.1 hc
    refine r_bipush (pc := 21) (v := (-4 : Int32)) X dX1_kindOf_21 (by decide) ?_
    exact r_iret (pc := 23) X hr dX1_kindOf_23 h
  · replace h := h.2 hc
    refine r_iload_n (pc := 4) X 1 dX1_kindOf_4 rfl rfl ?_
    refine r_aload_n (pc := 5) X 0 dX1_kindOf_5 rfl rfl ?_
    refine fg_X1_30 (pc := 6) X hT.1 dX1_kindOf_6 ?_
    refine r_icmp_ge (pc := 9) (tgt := 21) X dX1_kindOf_9 (by decide) (fun hc => ?_) (fun hc => ?_)
    · replace h := h.1 hc
      refine r_bipush (pc := 21) (v := (-4 : Int32)) X dX1_kindOf_21 (by decide) ?_
      exact r_iret (pc := 23) X hr dX1_kindOf_23 h
    · replace h := h.2 hc
      refine r_aload_n (pc := 12) X 0 dX1_kindOf_12 rfl rfl ?_
      refine fg_X1_18 (pc := 13) X hT.1 dX1_kindOf_13 ?_
      refine r_iload_n (pc := 16) X 1 dX1_kindOf_16 rfl rfl ?_
      refine r_iald (pc := 17) X hT.2.2.2.1 h.1 dX1_kindOf_17 ?_
      replace h := h.2
      refine r_goto (pc := 18) (tgt := 23) X dX1_kindOf_18 (by decide) ?_
      exact r_iret (pc := 23) X hr dX1_kindOf_23 h
theorem dX1_woodOf_0 : decode cX1_woodOf 0 = .ok (.iload_n 1, 1) := by decide +kernel
theorem dX1_woodOf_1 : decode cX1_woodOf 1 = .ok (.ifCond .lt 20, 3) := by decide +kernel
theorem dX1_woodOf_4 : decode cX1_woodOf 4 = .ok (.iload_n 1, 1) := by decide +kernel
theorem dX1_woodOf_5 : decode cX1_woodOf 5 = .ok (.aload_n 0, 1) := by decide +kernel
theorem dX1_woodOf_6 : decode cX1_woodOf 6 = .ok (.getfield 30, 3) := by decide +kernel
theorem dX1_woodOf_9 : decode cX1_woodOf 9 = .ok (.if_icmp .ge 12, 3) := by decide +kernel
theorem dX1_woodOf_12 : decode cX1_woodOf 12 = .ok (.aload_n 0, 1) := by decide +kernel
theorem dX1_woodOf_13 : decode cX1_woodOf 13 = .ok (.getfield 21, 3) := by decide +kernel
theorem dX1_woodOf_16 : decode cX1_woodOf 16 = .ok (.iload_n 1, 1) := by decide +kernel
theorem dX1_woodOf_17 : decode cX1_woodOf 17 = .ok (.iaload, 1) := by decide +kernel
theorem dX1_woodOf_18 : decode cX1_woodOf 18 = .ok (.goto 4, 3) := by decide +kernel
theorem dX1_woodOf_21 : decode cX1_woodOf 21 = .ok (.iconst 0, 1) := by decide +kernel
theorem dX1_woodOf_22 : decode cX1_woodOf 22 = .ok (.ireturn, 1) := by decide +kernel
theorem hd_X1_woodOf : yX1_woodOf.cls = RX1 ∧ yX1_woodOf.cls ≠ "java/lang/invoke/MethodHandle" ∧ yX1_woodOf.cls ≠ "java/lang/invoke/VarHandle" ∧ (parseMethodDescriptor yX1_woodOf.desc).map (fun d => d.parameters.length) = some 1 := by decide +kernel
abbrev rm_X1_woodOf : Room := { frames := 0, cells := 0, slots := 0, locals := 0 }
def wp_X1_woodOf (K : Int32 → HF → Prop) (F : HF) (f : Nat) (a1 : Int32) : Prop := ((a1 < (nI 0)) → (K (nI 0) F)) ∧ ((¬ a1 < (nI 0)) → ((((F f 5) ≤ a1) → (K (nI 0) F)) ∧ ((¬ (F f 5) ≤ a1) → ((vp_in a1 8) ∧ (K (F (f + 4) a1.toNatClampNeg) F)))))
set_option maxRecDepth 100000 in
set_option maxHeartbeats 4000000 in
theorem c_X1_woodOf {l : Launch} {D : va_G} {dA : Nat → ClassId} {ad : Nat → Nat} {R : List Nat} {F : HF} {f : Nat} {a1 : Int32} {K : Int32 → HF → Prop} (hT : Fl R f) (h : wp_X1_woodOf K F f a1) : MI l yX1_woodOf cX1_woodOf 2 .int rm_X1_woodOf D dA ad R F [.ref (ad f), .int a1] K := by
  refine MI.of (own := RX1) (by decide) rfl (Nat.le_of_ble_eq_true rfl) ?_
  intro p e s m args below meth c A hA X hr
  unfold wp_X1_woodOf at h
  show J p l e rm_X1_woodOf s m args below meth c 2 D dA ad R A (QI D dA ad R A below args s K) F 0 [(0, .ref (ad f)), (1, .int a1)] []
  refine r_iload_n (pc := 0) X 1 dX1_woodOf_0 rfl rfl ?_
  refine r_if_lt (pc := 1) (tgt := 21) X dX1_woodOf_1 (by decide) (fun hc => ?_) (fun hc => ?_)
  · replace h := h.1 hc
    refine r_iconst (pc := 21) (v := (nI 0)) X dX1_woodOf_21 (by decide) ?_
    exact r_iret (pc := 22) X hr dX1_woodOf_22 h
  · replace h := h.2 hc
    refine r_iload_n (pc := 4) X 1 dX1_woodOf_4 rfl rfl ?_
    refine r_aload_n (pc := 5) X 0 dX1_woodOf_5 rfl rfl ?_
    refine fg_X1_30 (pc := 6) X hT.1 dX1_woodOf_6 ?_
    refine r_icmp_ge (pc := 9) (tgt := 21) X dX1_woodOf_9 (by decide) (fun hc => ?_) (fun hc => ?_)
    · replace h := h.1 hc
      refine r_iconst (pc := 21) (v := (nI 0)) X dX1_woodOf_21 (by decide) ?_
      exact r_iret (pc := 22) X hr dX1_woodOf_22 h
    · replace h := h.2 hc
      refine r_aload_n (pc := 12) X 0 dX1_woodOf_12 rfl rfl ?_
      refine fg_X1_21 (pc := 13) X hT.1 dX1_woodOf_13 ?_
      refine r_iload_n (pc := 16) X 1 dX1_woodOf_16 rfl rfl ?_
      refine r_iald (pc := 17) X hT.2.2.2.2.1 h.1 dX1_woodOf_17 ?_
      replace h := h.2
      refine r_goto (pc := 18) (tgt := 22) X dX1_woodOf_18 (by decide) ?_
      exact r_iret (pc := 22) X hr dX1_woodOf_22 h
theorem dX1_windIn_0 : decode cX1_windIn 0 = .ok (.iload_n 1, 1) := by decide +kernel
theorem dX1_windIn_1 : decode cX1_windIn 1 = .ok (.ifCond .lt 10, 3) := by decide +kernel
theorem dX1_windIn_4 : decode cX1_windIn 4 = .ok (.aload_n 0, 1) := by decide +kernel
theorem dX1_windIn_5 : decode cX1_windIn 5 = .ok (.getfield 34, 3) := by decide +kernel
theorem dX1_windIn_8 : decode cX1_windIn 8 = .ok (.ifCond .ne 7, 3) := by decide +kernel
theorem dX1_windIn_11 : decode cX1_windIn 11 = .ok (.iconst 0, 1) := by decide +kernel
theorem dX1_windIn_12 : decode cX1_windIn 12 = .ok (.goto 14, 3) := by decide +kernel
theorem dX1_windIn_15 : decode cX1_windIn 15 = .ok (.aload_n 0, 1) := by decide +kernel
theorem dX1_windIn_16 : decode cX1_windIn 16 = .ok (.getfield 24, 3) := by decide +kernel
theorem dX1_windIn_19 : decode cX1_windIn 19 = .ok (.iload_n 1, 1) := by decide +kernel
theorem dX1_windIn_20 : decode cX1_windIn 20 = .ok (.aload_n 0, 1) := by decide +kernel
theorem dX1_windIn_21 : decode cX1_windIn 21 = .ok (.getfield 34, 3) := by decide +kernel
theorem dX1_windIn_24 : decode cX1_windIn 24 = .ok (.irem, 1) := by decide +kernel
theorem dX1_windIn_25 : decode cX1_windIn 25 = .ok (.iaload, 1) := by decide +kernel
theorem dX1_windIn_26 : decode cX1_windIn 26 = .ok (.ireturn, 1) := by decide +kernel
theorem hd_X1_windIn : yX1_windIn.cls = RX1 ∧ yX1_windIn.cls ≠ "java/lang/invoke/MethodHandle" ∧ yX1_windIn.cls ≠ "java/lang/invoke/VarHandle" ∧ (parseMethodDescriptor yX1_windIn.desc).map (fun d => d.parameters.length) = some 1 := by decide +kernel
abbrev rm_X1_windIn : Room := { frames := 0, cells := 0, slots := 0, locals := 0 }
def wp_X1_windIn (K : Int32 → HF → Prop) (F : HF) (f : Nat) (a1 : Int32) : Prop := ((a1 < (nI 0)) → (K (nI 0) F)) ∧ ((¬ a1 < (nI 0)) → (((¬ (F f 6) = (nI 0)) → ((¬ (F f 6) = (nI 0)) ∧ ((vp_in (a1 - a1 / (F f 6) * (F f 6)) 8) ∧ (K (F (f + 5) (a1 - a1 / (F f 6) * (F f 6)).toNatClampNeg) F)))) ∧ (((F f 6) = (nI 0)) → (K (nI 0) F))))
set_option maxRecDepth 100000 in
set_option maxHeartbeats 4000000 in
theorem c_X1_windIn {l : Launch} {D : va_G} {dA : Nat → ClassId} {ad : Nat → Nat} {R : List Nat} {F : HF} {f : Nat} {a1 : Int32} {K : Int32 → HF → Prop} (hT : Fl R f) (h : wp_X1_windIn K F f a1) : MI l yX1_windIn cX1_windIn 2 .int rm_X1_windIn D dA ad R F [.ref (ad f), .int a1] K := by
  refine MI.of (own := RX1) (by decide) rfl (Nat.le_of_ble_eq_true rfl) ?_
  intro p e s m args below meth c A hA X hr
  unfold wp_X1_windIn at h
  show J p l e rm_X1_windIn s m args below meth c 2 D dA ad R A (QI D dA ad R A below args s K) F 0 [(0, .ref (ad f)), (1, .int a1)] []
  refine r_iload_n (pc := 0) X 1 dX1_windIn_0 rfl rfl ?_
  refine r_if_lt (pc := 1) (tgt := 11) X dX1_windIn_1 (by decide) (fun hc => ?_) (fun hc => ?_)
  · replace h := h.1 hc
    refine r_iconst (pc := 11) (v := (nI 0)) X dX1_windIn_11 (by decide) ?_
    refine r_goto (pc := 12) (tgt := 26) X dX1_windIn_12 (by decide) ?_
    exact r_iret (pc := 26) X hr dX1_windIn_26 h
  · replace h := h.2 hc
    refine r_aload_n (pc := 4) X 0 dX1_windIn_4 rfl rfl ?_
    refine fg_X1_34 (pc := 5) X hT.1 dX1_windIn_5 ?_
    refine r_if_ne (pc := 8) (tgt := 15) X dX1_windIn_8 (by decide) (fun hc => ?_) (fun hc => ?_)
    · replace h := h.1 hc
      refine r_aload_n (pc := 15) X 0 dX1_windIn_15 rfl rfl ?_
      refine fg_X1_24 (pc := 16) X hT.1 dX1_windIn_16 ?_
      refine r_iload_n (pc := 19) X 1 dX1_windIn_19 rfl rfl ?_
      refine r_aload_n (pc := 20) X 0 dX1_windIn_20 rfl rfl ?_
      refine fg_X1_34 (pc := 21) X hT.1 dX1_windIn_21 ?_
      refine r_irem (pc := 24) X dX1_windIn_24 h.1 ?_
      replace h := h.2
      refine r_iald (pc := 25) X hT.2.2.2.2.2 h.1 dX1_windIn_25 ?_
      replace h := h.2
      exact r_iret (pc := 26) X hr dX1_windIn_26 h
    · replace h := h.2 hc
      refine r_iconst (pc := 11) (v := (nI 0)) X dX1_windIn_11 (by decide) ?_
      refine r_goto (pc := 12) (tgt := 26) X dX1_windIn_12 (by decide) ?_
      exact r_iret (pc := 26) X hr dX1_windIn_26 h
theorem dX1_weightIn_0 : decode cX1_weightIn 0 = .ok (.aload_n 0, 1) := by decide +kernel
theorem dX1_weightIn_1 : decode cX1_weightIn 1 = .ok (.getfield 40, 3) := by decide +kernel
theorem dX1_weightIn_4 : decode cX1_weightIn 4 = .ok (.aload_n 0, 1) := by decide +kernel
theorem dX1_weightIn_5 : decode cX1_weightIn 5 = .ok (.getfield 43, 3) := by decide +kernel
theorem dX1_weightIn_8 : decode cX1_weightIn 8 = .ok (.iload_n 1, 1) := by decide +kernel
theorem dX1_weightIn_9 : decode cX1_weightIn 9 = .ok (.imul, 1) := by decide +kernel
theorem dX1_weightIn_10 : decode cX1_weightIn 10 = .ok (.iadd, 1) := by decide +kernel
theorem dX1_weightIn_11 : decode cX1_weightIn 11 = .ok (.ireturn, 1) := by decide +kernel
theorem hd_X1_weightIn : yX1_weightIn.cls = RX1 ∧ yX1_weightIn.cls ≠ "java/lang/invoke/MethodHandle" ∧ yX1_weightIn.cls ≠ "java/lang/invoke/VarHandle" ∧ (parseMethodDescriptor yX1_weightIn.desc).map (fun d => d.parameters.length) = some 1 := by decide +kernel
abbrev rm_X1_weightIn : Room := { frames := 0, cells := 0, slots := 0, locals := 0 }
def wp_X1_weightIn (K : Int32 → HF → Prop) (F : HF) (f : Nat) (a1 : Int32) : Prop := K ((F f 8) + ((F f 9) * a1)) F
set_option maxRecDepth 100000 in
set_option maxHeartbeats 4000000 in
theorem c_X1_weightIn {l : Launch} {D : va_G} {dA : Nat → ClassId} {ad : Nat → Nat} {R : List Nat} {F : HF} {f : Nat} {a1 : Int32} {K : Int32 → HF → Prop} (hT : Fl R f) (h : wp_X1_weightIn K F f a1) : MI l yX1_weightIn cX1_weightIn 2 .int rm_X1_weightIn D dA ad R F [.ref (ad f), .int a1] K := by
  refine MI.of (own := RX1) (by decide) rfl (Nat.le_of_ble_eq_true rfl) ?_
  intro p e s m args below meth c A hA X hr
  unfold wp_X1_weightIn at h
  show J p l e rm_X1_weightIn s m args below meth c 2 D dA ad R A (QI D dA ad R A below args s K) F 0 [(0, .ref (ad f)), (1, .int a1)] []
  refine r_aload_n (pc := 0) X 0 dX1_weightIn_0 rfl rfl ?_
  refine fg_X1_40 (pc := 1) X hT.1 dX1_weightIn_1 ?_
  refine r_aload_n (pc := 4) X 0 dX1_weightIn_4 rfl rfl ?_
  refine fg_X1_43 (pc := 5) X hT.1 dX1_weightIn_5 ?_
  refine r_iload_n (pc := 8) X 1 dX1_weightIn_8 rfl rfl ?_
  refine r_imul (pc := 9) X dX1_weightIn_9 ?_
  refine r_iadd (pc := 10) X dX1_weightIn_10 ?_
  exact r_iret (pc := 11) X hr dX1_weightIn_11 h
theorem dX1_hasCrow_0 : decode cX1_hasCrow 0 = .ok (.iconst 0, 1) := by decide +kernel
theorem dX1_hasCrow_1 : decode cX1_hasCrow 1 = .ok (.istore_n 1, 1) := by decide +kernel
theorem dX1_hasCrow_2 : decode cX1_hasCrow 2 = .ok (.iload_n 1, 1) := by decide +kernel
theorem dX1_hasCrow_3 : decode cX1_hasCrow 3 = .ok (.aload_n 0, 1) := by decide +kernel
theorem dX1_hasCrow_4 : decode cX1_hasCrow 4 = .ok (.getfield 30, 3) := by decide +kernel
theorem dX1_hasCrow_7 : decode cX1_hasCrow 7 = .ok (.if_icmp .ge 21, 3) := by decide +kernel
theorem dX1_hasCrow_10 : decode cX1_hasCrow 10 = .ok (.aload_n 0, 1) := by decide +kernel
theorem dX1_hasCrow_11 : decode cX1_hasCrow 11 = .ok (.getfield 18, 3) := by decide +kernel
theorem dX1_hasCrow_14 : decode cX1_hasCrow 14 = .ok (.iload_n 1, 1) := by decide +kernel
theorem dX1_hasCrow_15 : decode cX1_hasCrow 15 = .ok (.iaload, 1) := by decide +kernel
theorem dX1_hasCrow_16 : decode cX1_hasCrow 16 = .ok (.iconst 1, 1) := by decide +kernel
theorem dX1_hasCrow_17 : decode cX1_hasCrow 17 = .ok (.if_icmp .ne 5, 3) := by decide +kernel
theorem dX1_hasCrow_20 : decode cX1_hasCrow 20 = .ok (.iconst 1, 1) := by decide +kernel
theorem dX1_hasCrow_21 : decode cX1_hasCrow 21 = .ok (.ireturn, 1) := by decide +kernel
theorem dX1_hasCrow_22 : decode cX1_hasCrow 22 = .ok (.iinc 1 1, 3) := by decide +kernel
theorem dX1_hasCrow_25 : decode cX1_hasCrow 25 = .ok (.goto (-23), 3) := by decide +kernel
theorem dX1_hasCrow_28 : decode cX1_hasCrow 28 = .ok (.iconst 0, 1) := by decide +kernel
theorem dX1_hasCrow_29 : decode cX1_hasCrow 29 = .ok (.ireturn, 1) := by decide +kernel
theorem hd_X1_hasCrow : yX1_hasCrow.cls = RX1 ∧ yX1_hasCrow.cls ≠ "java/lang/invoke/MethodHandle" ∧ yX1_hasCrow.cls ≠ "java/lang/invoke/VarHandle" ∧ (parseMethodDescriptor yX1_hasCrow.desc).map (fun d => d.parameters.length) = some 0 := by decide +kernel
abbrev rm_X1_hasCrow : Room := { frames := 0, cells := 0, slots := 0, locals := 0 }
def wp_X1_hasCrow_2 (K : Int32 → HF → Prop) (f : Nat) : Nat → HF → Int32 → Prop
  | 0 => fun _ _ => False
  | n2_ + 1 => fun F v1 => (((F f 5) ≤ v1) → (K (nI 0) F)) ∧ ((¬ (F f 5) ≤ v1) → ((vp_in v1 8) ∧ (((¬ (F (f + 3) v1.toNatClampNeg) = (nI 1)) → (wp_X1_hasCrow_2 K f  n2_ F (v1 + (nI 1)))) ∧ (((F (f + 3) v1.toNatClampNeg) = (nI 1)) → (K (nI 1) F)))))
set_option maxRecDepth 100000 in
set_option maxHeartbeats 4000000 in
theorem k_X1_hasCrow_2 {p : Program} {l : Launch} {e : Env} {s : State} {m : MethodId} {args : Array Value} {below : List Frame} {meth : Method} {c : Code} {D : va_G} {dA : Nat → ClassId} {ad : Nat → Nat} {R : List Nat} {A : Nat → Prop} {K : Int32 → HF → Prop} {f : Nat} (X : Cx p s m args meth c cX1_hasCrow 2 RX1 D dA) (hA : ∀ q, s.heap.size ≤ q → A q) (hr : meth.sig.returnType = some .boolean) (hT : Fl R f) : ∀ (n_ : Nat) (F : HF) (v1 : Int32), wp_X1_hasCrow_2 K f n_ F v1 → J p l e rm_X1_hasCrow s m args below meth c 2 D dA ad R A (QI D dA ad R A below args s K) F 2 [(0, .ref (ad f)), (1, .int v1)] [] := by
  intro n_
  induction n_ with
  | zero => intro F v1 h; exact h.elim
  | succ n_ ih =>
    intro F v1 h
    unfold wp_X1_hasCrow_2 at h
    refine r_iload_n (pc := 2) X 1 dX1_hasCrow_2 rfl rfl ?_
    refine r_aload_n (pc := 3) X 0 dX1_hasCrow_3 rfl rfl ?_
    refine fg_X1_30 (pc := 4) X hT.1 dX1_hasCrow_4 ?_
    refine r_icmp_ge (pc := 7) (tgt := 28) X dX1_hasCrow_7 (by decide) (fun hc => ?_) (fun hc => ?_)
    · replace h := h.1 hc
      refine r_iconst (pc := 28) (v := (nI 0)) X dX1_hasCrow_28 (by decide) ?_
      exact r_zret (pc := 29) X hr dX1_hasCrow_29 nb0 h
    · replace h := h.2 hc
      refine r_aload_n (pc := 10) X 0 dX1_hasCrow_10 rfl rfl ?_
      refine fg_X1_18 (pc := 11) X hT.1 dX1_hasCrow_11 ?_
      refine r_iload_n (pc := 14) X 1 dX1_hasCrow_14 rfl rfl ?_
      refine r_iald (pc := 15) X hT.2.2.2.1 h.1 dX1_hasCrow_15 ?_
      replace h := h.2
      refine r_iconst (pc := 16) (v := (nI 1)) X dX1_hasCrow_16 (by decide) ?_
      refine r_icmp_ne (pc := 17) (tgt := 22) X dX1_hasCrow_17 (by decide) (fun hc => ?_) (fun hc => ?_)
      · replace h := h.1 hc
        refine r_iinc (pc := 22) (v := (v1 + (nI 1))) X 1 [(1, .int (v1 + (nI 1))), (0, .ref (ad f))] dX1_hasCrow_22 rfl rfl (by decide) rfl ?_
        refine r_goto (pc := 25) (tgt := 2) X dX1_hasCrow_25 (by decide) ?_
        refine r_sub [1, 0] rfl ?_
        exact ih _ _ h
      · replace h := h.2 hc
        refine r_iconst (pc := 20) (v := (nI 1)) X dX1_hasCrow_20 (by decide) ?_
        exact r_zret (pc := 21) X hr dX1_hasCrow_21 nb1 h
def wp_X1_hasCrow (K : Int32 → HF → Prop) (F : HF) (f : Nat) : Prop := ∃ m_, wp_X1_hasCrow_2 K f  m_ F (nI 0)
set_option maxRecDepth 100000 in
set_option maxHeartbeats 4000000 in
theorem c_X1_hasCrow {l : Launch} {D : va_G} {dA : Nat → ClassId} {ad : Nat → Nat} {R : List Nat} {F : HF} {f : Nat} {K : Int32 → HF → Prop} (hT : Fl R f) (h : wp_X1_hasCrow K F f) : MI l yX1_hasCrow cX1_hasCrow 2 .boolean rm_X1_hasCrow D dA ad R F [.ref (ad f)] K := by
  refine MI.of (own := RX1) (by decide) rfl (Nat.le_of_ble_eq_true rfl) ?_
  intro p e s m args below meth c A hA X hr
  unfold wp_X1_hasCrow at h
  show J p l e rm_X1_hasCrow s m args below meth c 2 D dA ad R A (QI D dA ad R A below args s K) F 0 [(0, .ref (ad f))] []
  refine r_iconst (pc := 0) (v := (nI 0)) X dX1_hasCrow_0 (by decide) ?_
  refine r_istore_n (pc := 1) X [(1, .int (nI 0)), (0, .ref (ad f))] dX1_hasCrow_1 rfl (by decide) rfl ?_
  refine r_sub [1, 0] rfl ?_
  obtain ⟨n1, h⟩ := h
  exact k_X1_hasCrow_2 X hA hr hT  n1 _ _ h
