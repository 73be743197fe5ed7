theorem dX3_length_0 : decode cX3_length 0 = .ok (.aload_n 0, 1) := by decide +kernel
theorem dX3_length_1 : decode cX3_length 1 = .ok (.getfield 19, 3) := by decide +kernel
theorem dX3_length_4 : decode cX3_length 4 = .ok (.ireturn, 1) := by decide +kernel
theorem hd_X3_length : yX3_length.cls = RX3 ∧ yX3_length.cls ≠ "java/lang/invoke/MethodHandle" ∧ yX3_length.cls ≠ "java/lang/invoke/VarHandle" ∧ (parseMethodDescriptor yX3_length.desc).map (fun d => d.parameters.length) = some 0 := by decide +kernel
abbrev rm_X3_length : Room := { frames := 0, cells := 0, slots := 0, locals := 0 }
def wp_X3_length (K : Int32 → HF → Prop) (F : HF) : Prop := K (F 1 2) F
set_option maxRecDepth 100000 in
set_option maxHeartbeats 4000000 in
theorem c_X3_length {l : Launch} {D : va_G} {dA : Nat → ClassId} {ad : Nat → Nat} {R : List Nat} {F : HF} {K : Int32 → HF → Prop} (hT : Sc R) (h : wp_X3_length K F ) : MI l yX3_length cX3_length 1 .int rm_X3_length D dA ad R F [.ref (ad 1)] K := by
  refine MI.of (own := RX3) (by decide) rfl (Nat.le_of_ble_eq_true rfl) ?_
  intro p e s m args below meth c A hA X hr
  unfold wp_X3_length at h
  show J p l e rm_X3_length s m args below meth c 1 D dA ad R A (QI D dA ad R A below args s K) F 0 [(0, .ref (ad 1))] []
  refine r_aload_n (pc := 0) X 0 dX3_length_0 rfl rfl ?_
  refine fg_X3_19 (pc := 1) X hT.1 dX3_length_1 ?_
  exact r_iret (pc := 4) X hr dX3_length_4 h
theorem dX3_clear_0 : decode cX3_clear 0 = .ok (.aload_n 0, 1) := by decide +kernel
theorem dX3_clear_1 : decode cX3_clear 1 = .ok (.iconst 0, 1) := by decide +kernel
theorem dX3_clear_2 : decode cX3_clear 2 = .ok (.putfield 19, 3) := by decide +kernel
theorem dX3_clear_5 : decode cX3_clear 5 = .ok (.return_, 1) := by decide +kernel
theorem hd_X3_clear : yX3_clear.cls = RX3 ∧ yX3_clear.cls ≠ "java/lang/invoke/MethodHandle" ∧ yX3_clear.cls ≠ "java/lang/invoke/VarHandle" ∧ (parseMethodDescriptor yX3_clear.desc).map (fun d => d.parameters.length) = some 0 := by decide +kernel
abbrev rm_X3_clear : Room := { frames := 0, cells := 0, slots := 0, locals := 0 }
def wp_X3_clear (K : HF → Prop) (F : HF) : Prop := ∀ F1 : HF, F1 = hup F 1 2 (nI 0) → (K F1)
set_option maxRecDepth 100000 in
set_option maxHeartbeats 4000000 in
theorem c_X3_clear {l : Launch} {D : va_G} {dA : Nat → ClassId} {ad : Nat → Nat} {R : List Nat} {F : HF} {K : HF → Prop} (hT : Sc R) (h : wp_X3_clear K F ) : MV l yX3_clear cX3_clear 1 rm_X3_clear D dA ad R F [.ref (ad 1)] K := by
  refine MV.of (own := RX3) (by decide) rfl (Nat.le_of_ble_eq_true rfl) ?_
  intro p e s m args below meth c A hA X hr
  unfold wp_X3_clear at h
  show J p l e rm_X3_clear s m args below meth c 1 D dA ad R A (QV D dA ad R A below args s K) F 0 [(0, .ref (ad 1))] []
  refine r_aload_n (pc := 0) X 0 dX3_clear_0 rfl rfl ?_
  refine r_iconst (pc := 1) (v := (nI 0)) X dX3_clear_1 (by decide) ?_
  refine fp_X3_19 (pc := 2) X hT.1 dX3_clear_2 (fun F1 e1 => ?_)
  replace h := h F1 e1
  exact r_vret (pc := 5) X hr dX3_clear_5 h
theorem dX3_append_0 : decode cX3_append 0 = .ok (.aload_n 0, 1) := by decide +kernel
theorem dX3_append_1 : decode cX3_append 1 = .ok (.getfield 19, 3) := by decide +kernel
theorem dX3_append_4 : decode cX3_append 4 = .ok (.aload_n 0, 1) := by decide +kernel
theorem dX3_append_5 : decode cX3_append 5 = .ok (.getfield 9, 3) := by decide +kernel
theorem dX3_append_8 : decode cX3_append 8 = .ok (.arraylength, 1) := by decide +kernel
theorem dX3_append_9 : decode cX3_append 9 = .ok (.if_icmp .lt 5, 3) := by decide +kernel
theorem dX3_append_12 : decode cX3_append 12 = .ok (.iconst 0, 1) := by decide +kernel
theorem dX3_append_13 : decode cX3_append 13 = .ok (.ireturn, 1) := by decide +kernel
theorem dX3_append_14 : decode cX3_append 14 = .ok (.aload_n 0, 1) := by decide +kernel
theorem dX3_append_15 : decode cX3_append 15 = .ok (.getfield 9, 3) := by decide +kernel
theorem dX3_append_18 : decode cX3_append 18 = .ok (.aload_n 0, 1) := by decide +kernel
theorem dX3_append_19 : decode cX3_append 19 = .ok (.getfield 19, 3) := by decide +kernel
theorem dX3_append_22 : decode cX3_append 22 = .ok (.iload_n 1, 1) := by decide +kernel
theorem dX3_append_23 : decode cX3_append 23 = .ok (.i2c, 1) := by decide +kernel
theorem dX3_append_24 : decode cX3_append 24 = .ok (.castore, 1) := by decide +kernel
theorem dX3_append_25 : decode cX3_append 25 = .ok (.aload_n 0, 1) := by decide +kernel
theorem dX3_append_26 : decode cX3_append 26 = .ok (.dup, 1) := by decide +kernel
theorem dX3_append_27 : decode cX3_append 27 = .ok (.getfield 19, 3) := by decide +kernel
theorem dX3_append_30 : decode cX3_append 30 = .ok (.iconst 1, 1) := by decide +kernel
theorem dX3_append_31 : decode cX3_append 31 = .ok (.iadd, 1) := by decide +kernel
theorem dX3_append_32 : decode cX3_append 32 = .ok (.putfield 19, 3) := by decide +kernel
theorem dX3_append_35 : decode cX3_append 35 = .ok (.iconst 1, 1) := by decide +kernel
theorem dX3_append_36 : decode cX3_append 36 = .ok (.ireturn, 1) := by decide +kernel
theorem hd_X3_append : yX3_append.cls = RX3 ∧ yX3_append.cls ≠ "java/lang/invoke/MethodHandle" ∧ yX3_append.cls ≠ "java/lang/invoke/VarHandle" ∧ (parseMethodDescriptor yX3_append.desc).map (fun d => d.parameters.length) = some 1 := by decide +kernel
abbrev rm_X3_append : Room := { frames := 0, cells := 0, slots := 0, locals := 0 }
def wp_X3_append (K : Int32 → HF → Prop) (F : HF) (a1 : Int32) : Prop := (((F 1 2) < (nI 200)) → ((vp_in (F 1 2) 200) ∧ (∀ F1 : HF, F1 = hup F 2 (F 1 2).toNatClampNeg (vp_nar .char ((a1).toUInt32 % 65536).toInt32) → (∀ F2 : HF, F2 = hup F1 1 2 ((F1 1 2) + (nI 1)) → (K (nI 1) F2))))) ∧ ((¬ (F 1 2) < (nI 200)) → (K (nI 0) F))
set_option maxRecDepth 100000 in
set_option maxHeartbeats 4000000 in
theorem c_X3_append {l : Launch} {D : va_G} {dA : Nat → ClassId} {ad : Nat → Nat} {R : List Nat} {F : HF} {a1 : Int32} {K : Int32 → HF → Prop} (hT : Sc R) (h : wp_X3_append K F a1) : MI l yX3_append cX3_append 2 .boolean rm_X3_append D dA ad R F [.ref (ad 1), .int a1] K := by
  refine MI.of (own := RX3) (by decide) rfl (Nat.le_of_ble_eq_true rfl) ?_
  intro p e s m args below meth c A hA X hr
  unfold wp_X3_append at h
  show J p l e rm_X3_append s m args below meth c 2 D dA ad R A (QI D dA ad R A below args s K) F 0 [(0, .ref (ad 1)), (1, .int a1)] []
  refine r_aload_n (pc := 0) X 0 dX3_append_0 rfl rfl ?_
  refine fg_X3_19 (pc := 1) X hT.1 dX3_append_1 ?_
  refine r_aload_n (pc := 4) X 0 dX3_append_4 rfl rfl ?_
  refine fg_X3_9 (pc := 5) X hT.1 dX3_append_5 ?_
  refine r_alen (pc := 8) (v := (nI 200)) X (Or.inr (Or.inl hT.2.1)) rfl dX3_append_8 ?_
  refine r_icmp_lt (pc := 9) (tgt := 14) X dX3_append_9 (by decide) (fun hc => ?_) (fun hc => ?_)
  · replace h := h.1 hc
    refine r_aload_n (pc := 14) X 0 dX3_append_14 rfl rfl ?_
    refine fg_X3_9 (pc := 15) X hT.1 dX3_append_15 ?_
    refine r_aload_n (pc := 18) X 0 dX3_append_18 rfl rfl ?_
    refine fg_X3_19 (pc := 19) X hT.1 dX3_append_19 ?_
    refine r_iload_n (pc := 22) X 1 dX3_append_22 rfl rfl ?_
    refine r_i2c (pc := 23) X dX3_append_23 rfl ?_
    refine r_cast (pc := 24) X hT.2.1 h.1 dX3_append_24 (fun F1 e1 => ?_)
    replace h := h.2 F1 e1
    refine r_aload_n (pc := 25) X 0 dX3_append_25 rfl rfl ?_
    refine r_dup (pc := 26) X dX3_append_26 rfl ?_
    refine fg_X3_19 (pc := 27) X hT.1 dX3_append_27 ?_
    refine r_iconst (pc := 30) (v := (nI 1)) X dX3_append_30 (by decide) ?_
    refine r_iadd (pc := 31) X dX3_append_31 ?_
    refine fp_X3_19 (pc := 32) X hT.1 dX3_append_32 (fun F2 e1 => ?_)
    replace h := h F2 e1
    refine r_iconst (pc := 35) (v := (nI 1)) X dX3_append_35 (by decide) ?_
    exact r_zret (pc := 36) X hr dX3_append_36 nb1 h
  · replace h := h.2 hc
    refine r_iconst (pc := 12) (v := (nI 0)) X dX3_append_12 (by decide) ?_
    exact r_zret (pc := 13) X hr dX3_append_13 nb0 h
theorem dX3_letterAt_0 : decode cX3_letterAt 0 = .ok (.iload_n 1, 1) := by decide +kernel
theorem dX3_letterAt_1 : decode cX3_letterAt 1 = .ok (.ifCond .lt 29, 3) := by decide +kernel
theorem dX3_letterAt_4 : decode cX3_letterAt 4 = .ok (.iload_n 1, 1) := by decide +kernel
theorem dX3_letterAt_5 : decode cX3_letterAt 5 = .ok (.aload_n 0, 1) := by decide +kernel
theorem dX3_letterAt_6 : decode cX3_letterAt 6 = .ok (.getfield 19, 3) := by decide +kernel
theorem dX3_letterAt_9 : decode cX3_letterAt 9 = .ok (.if_icmp .ge 21, 3) := by decide +kernel
theorem dX3_letterAt_12 : decode cX3_letterAt 12 = .ok (.iload_n 1, 1) := by decide +kernel
theorem dX3_letterAt_13 : decode cX3_letterAt 13 = .ok (.aload_n 0, 1) := by decide +kernel
theorem dX3_letterAt_14 : decode cX3_letterAt 14 = .ok (.getfield 9, 3) := by decide +kernel
theorem dX3_letterAt_17 : decode cX3_letterAt 17 = .ok (.arraylength, 1) := by decide +kernel
theorem dX3_letterAt_18 : decode cX3_letterAt 18 = .ok (.if_icmp .ge 12, 3) := by decide +kernel
theorem dX3_letterAt_21 : decode cX3_letterAt 21 = .ok (.aload_n 0, 1) := by decide +kernel
theorem dX3_letterAt_22 : decode cX3_letterAt 22 = .ok (.getfield 9, 3) := by decide +kernel
theorem dX3_letterAt_25 : decode cX3_letterAt 25 = .ok (.iload_n 1, 1) := by decide +kernel
theorem dX3_letterAt_26 : decode cX3_letterAt 26 = .ok (.caload, 1) := by decide +kernel
theorem dX3_letterAt_27 : decode cX3_letterAt 27 = .ok (.goto 4, 3) := by decide +kernel
theorem dX3_letterAt_30 : decode cX3_letterAt 30 = .ok (.iconst 0, 1) := by decide +kernel
theorem dX3_letterAt_31 : decode cX3_letterAt 31 = .ok (.ireturn, 1) := by decide +kernel
theorem hd_X3_letterAt : yX3_letterAt.cls = RX3 ∧ yX3_letterAt.cls ≠ "java/lang/invoke/MethodHandle" ∧ yX3_letterAt.cls ≠ "java/lang/invoke/VarHandle" ∧ (parseMethodDescriptor yX3_letterAt.desc).map (fun d => d.parameters.length) = some 1 := by decide +kernel
abbrev rm_X3_letterAt : Room := { frames := 0, cells := 0, slots := 0, locals := 0 }
def wp_X3_letterAt (K : Int32 → HF → Prop) (F : HF) (a1 : Int32) : Prop := ((a1 < (nI 0)) → ((narrow .char (.int (nI 0)) = .int (nI 0)) ∧ K (nI 0) F)) ∧ ((¬ a1 < (nI 0)) → ((((F 1 2) ≤ a1) → ((narrow .char (.int (nI 0)) = .int (nI 0)) ∧ K (nI 0) F)) ∧ ((¬ (F 1 2) ≤ a1) → ((((nI 200) ≤ a1) → ((narrow .char (.int (nI 0)) = .int (nI 0)) ∧ K (nI 0) F)) ∧ ((¬ (nI 200) ≤ a1) → ((vp_in a1 200) ∧ ((narrow .char (.int (F 2 a1.toNatClampNeg)) = .int (F 2 a1.toNatClampNeg)) ∧ K (F 2 a1.toNatClampNeg) F)))))))
set_option maxRecDepth 100000 in
set_option maxHeartbeats 4000000 in
theorem c_X3_letterAt {l : Launch} {D : va_G} {dA : Nat → ClassId} {ad : Nat → Nat} {R : List Nat} {F : HF} {a1 : Int32} {K : Int32 → HF → Prop} (hT : Sc R) (h : wp_X3_letterAt K F a1) : MI l yX3_letterAt cX3_letterAt 2 .char rm_X3_letterAt D dA ad R F [.ref (ad 1), .int a1] K := by
  refine MI.of (own := RX3) (by decide) rfl (Nat.le_of_ble_eq_true rfl) ?_
  intro p e s m args below meth c A hA X hr
  unfold wp_X3_letterAt at h
  show J p l e rm_X3_letterAt s m args below meth c 2 D dA ad R A (QI D dA ad R A below args s K) F 0 [(0, .ref (ad 1)), (1, .int a1)] []
  refine r_iload_n (pc := 0) X 1 dX3_letterAt_0 rfl rfl ?_
  refine r_if_lt (pc := 1) (tgt := 30) X dX3_letterAt_1 (by decide) (fun hc => ?_) (fun hc => ?_)
  · replace h := h.1 hc
    refine r_iconst (pc := 30) (v := (nI 0)) X dX3_letterAt_30 (by decide) ?_
    exact r_zret (pc := 31) X hr dX3_letterAt_31 h.1 h.2
  · replace h := h.2 hc
    refine r_iload_n (pc := 4) X 1 dX3_letterAt_4 rfl rfl ?_
    refine r_aload_n (pc := 5) X 0 dX3_letterAt_5 rfl rfl ?_
    refine fg_X3_19 (pc := 6) X hT.1 dX3_letterAt_6 ?_
    refine r_icmp_ge (pc := 9) (tgt := 30) X dX3_letterAt_9 (by decide) (fun hc => ?_) (fun hc => ?_)
    · replace h := h.1 hc
      refine r_iconst (pc := 30) (v := (nI 0)) X dX3_letterAt_30 (by decide) ?_
      exact r_zret (pc := 31) X hr dX3_letterAt_31 h.1 h.2
    · replace h := h.2 hc
      refine r_iload_n (pc := 12) X 1 dX3_letterAt_12 rfl rfl ?_
      refine r_aload_n (pc := 13) X 0 dX3_letterAt_13 rfl rfl ?_
      refine fg_X3_9 (pc := 14) X hT.1 dX3_letterAt_14 ?_
      refine r_alen (pc := 17) (v := (nI 200)) X (Or.inr (Or.inl hT.2.1)) rfl dX3_letterAt_17 ?_
      refine r_icmp_ge (pc := 18) (tgt := 30) X dX3_letterAt_18 (by decide) (fun hc => ?_) (fun hc => ?_)
      · replace h := h.1 hc
        refine r_iconst (pc := 30) (v := (nI 0)) X dX3_letterAt_30 (by decide) ?_
        exact r_zret (pc := 31) X hr dX3_letterAt_31 h.1 h.2
      · replace h := h.2 hc
        refine r_aload_n (pc := 21) X 0 dX3_letterAt_21 rfl rfl ?_
        refine fg_X3_9 (pc := 22) X hT.1 dX3_letterAt_22 ?_
        refine r_iload_n (pc := 25) X 1 dX3_letterAt_25 rfl rfl ?_
        refine r_cald (pc := 26) X hT.2.1 h.1 dX3_letterAt_26 ?_
        replace h := h.2
        refine r_goto (pc := 27) (tgt := 31) X dX3_letterAt_27 (by decide) ?_
        exact r_zret (pc := 31) X hr dX3_letterAt_31 h.1 h.2
theorem dX3_isFigure_0 : decode cX3_isFigure 0 = .ok (.iload_n 0, 1) := by decide +kernel
theorem dX3_isFigure_1 : decode cX3_isFigure 1 = .ok (.bipush 48, 2) := by decide +kernel
theorem dX3_isFigure_3 : decode cX3_isFigure 3 = .ok (.if_icmp .lt 13, 3) := by decide +kernel
theorem dX3_isFigure_6 : decode cX3_isFigure 6 = .ok (.iload_n 0, 1) := by decide +kernel
theorem dX3_isFigure_7 : decode cX3_isFigure 7 = .ok (.bipush 57, 2) := by decide +kernel
theorem dX3_isFigure_9 : decode cX3_isFigure 9 = .ok (.if_icmp .gt 7, 3) := by decide +kernel
theorem dX3_isFigure_12 : decode cX3_isFigure 12 = .ok (.iconst 1, 1) := by decide +kernel
theorem dX3_isFigure_13 : decode cX3_isFigure 13 = .ok (.goto 4, 3) := by decide +kernel
theorem dX3_isFigure_16 : decode cX3_isFigure 16 = .ok (.iconst 0, 1) := by decide +kernel
theorem dX3_isFigure_17 : decode cX3_isFigure 17 = .ok (.ireturn, 1) := by decide +kernel
theorem hd_X3_isFigure : yX3_isFigure.cls = RX3 ∧ yX3_isFigure.cls ≠ "java/lang/invoke/MethodHandle" ∧ yX3_isFigure.cls ≠ "java/lang/invoke/VarHandle" ∧ (parseMethodDescriptor yX3_isFigure.desc).map (fun d => d.parameters.length) = some 1 := by decide +kernel
abbrev rm_X3_isFigure : Room := { frames := 0, cells := 0, slots := 0, locals := 0 }
def wp_X3_isFigure (K : Int32 → HF → Prop) (F : HF) (a1 : Int32) : Prop := ((a1 < (nI 48)) → (K (nI 0) F)) ∧ ((¬ a1 < (nI 48)) → ((((nI 57) < a1) → (K (nI 0) F)) ∧ ((¬ (nI 57) < a1) → (K (nI 1) F))))
set_option maxRecDepth 100000 in
set_option maxHeartbeats 4000000 in
theorem c_X3_isFigure {l : Launch} {D : va_G} {dA : Nat → ClassId} {ad : Nat → Nat} {R : List Nat} {F : HF} {a1 : Int32} {K : Int32 → HF → Prop} (h : wp_X3_isFigure K F a1) : MI l yX3_isFigure cX3_isFigure 1 .boolean rm_X3_isFigure D dA ad R F [.int a1] K := by
  refine MI.of (own := RX3) (by decide) rfl (Nat.le_of_ble_eq_true rfl) ?_
  intro p e s m args below meth c A hA X hr
  unfold wp_X3_isFigure at h
  show J p l e rm_X3_isFigure s m args below meth c 1 D dA ad R A (QI D dA ad R A below args s K) F 0 [(0, .int a1)] []
  refine r_iload_n (pc := 0) X 0 dX3_isFigure_0 rfl rfl ?_
  refine r_bipush (pc := 1) (v := (nI 48)) X dX3_isFigure_1 (by decide) ?_
  refine r_icmp_lt (pc := 3) (tgt := 16) X dX3_isFigure_3 (by decide) (fun hc => ?_) (fun hc => ?_)
  · replace h := h.1 hc
    refine r_iconst (pc := 16) (v := (nI 0)) X dX3_isFigure_16 (by decide) ?_
    exact r_zret (pc := 17) X hr dX3_isFigure_17 nb0 h
  · replace h := h.2 hc
    refine r_iload_n (pc := 6) X 0 dX3_isFigure_6 rfl rfl ?_
    refine r_bipush (pc := 7) (v := (nI 57)) X dX3_isFigure_7 (by decide) ?_
    refine r_icmp_gt (pc := 9) (tgt := 16) X dX3_isFigure_9 (by decide) (fun hc => ?_) (fun hc => ?_)
    · replace h := h.1 hc
      refine r_iconst (pc := 16) (v := (nI 0)) X dX3_isFigure_16 (by decide) ?_
      exact r_zret (pc := 17) X hr dX3_isFigure_17 nb0 h
    · replace h := h.2 hc
      refine r_iconst (pc := 12) (v := (nI 1)) X dX3_isFigure_12 (by decide) ?_
      refine r_goto (pc := 13) (tgt := 17) X dX3_isFigure_13 (by decide) ?_
      exact r_zret (pc := 17) X hr dX3_isFigure_17 nb1 h
theorem dX3_figuresFrom_0 : decode cX3_figuresFrom 0 = .ok (.aload_n 0, 1) := by decide +kernel
theorem dX3_figuresFrom_1 : decode cX3_figuresFrom 1 = .ok (.iload_n 1, 1) := by decide +kernel
theorem dX3_figuresFrom_2 : decode cX3_figuresFrom 2 = .ok (.invokevirtual 32, 3) := by decide +kernel
theorem dX3_figuresFrom_5 : decode cX3_figuresFrom 5 = .ok (.invokestatic 51, 3) := by decide +kernel
theorem dX3_figuresFrom_8 : decode cX3_figuresFrom 8 = .ok (.ifCond .ne 5, 3) := by decide +kernel
theorem dX3_figuresFrom_11 : decode cX3_figuresFrom 11 = .ok (.iconst 0, 1) := by decide +kernel
theorem dX3_figuresFrom_12 : decode cX3_figuresFrom 12 = .ok (.ireturn, 1) := by decide +kernel
theorem dX3_figuresFrom_13 : decode cX3_figuresFrom 13 = .ok (.aload_n 0, 1) := by decide +kernel
theorem dX3_figuresFrom_14 : decode cX3_figuresFrom 14 = .ok (.iload_n 1, 1) := by decide +kernel
theorem dX3_figuresFrom_15 : decode cX3_figuresFrom 15 = .ok (.iconst 1, 1) := by decide +kernel
theorem dX3_figuresFrom_16 : decode cX3_figuresFrom 16 = .ok (.iadd, 1) := by decide +kernel
theorem dX3_figuresFrom_17 : decode cX3_figuresFrom 17 = .ok (.invokevirtual 32, 3) := by decide +kernel
theorem dX3_figuresFrom_20 : decode cX3_figuresFrom 20 = .ok (.invokestatic 51, 3) := by decide +kernel
theorem dX3_figuresFrom_23 : decode cX3_figuresFrom 23 = .ok (.ifCond .eq 7, 3) := by decide +kernel
theorem dX3_figuresFrom_26 : decode cX3_figuresFrom 26 = .ok (.iconst 2, 1) := by decide +kernel
theorem dX3_figuresFrom_27 : decode cX3_figuresFrom 27 = .ok (.goto 4, 3) := by decide +kernel
theorem dX3_figuresFrom_30 : decode cX3_figuresFrom 30 = .ok (.iconst 1, 1) := by decide +kernel
theorem dX3_figuresFrom_31 : decode cX3_figuresFrom 31 = .ok (.ireturn, 1) := by decide +kernel
theorem hd_X3_figuresFrom : yX3_figuresFrom.cls = RX3 ∧ yX3_figuresFrom.cls ≠ "java/lang/invoke/MethodHandle" ∧ yX3_figuresFrom.cls ≠ "java/lang/invoke/VarHandle" ∧ (parseMethodDescriptor yX3_figuresFrom.desc).map (fun d => d.parameters.length) = some 1 := by decide +kernel
abbrev rm_X3_figuresFrom : Room := { frames := 1, cells := 0, slots := 0, locals := 21 }
def wp_X3_figuresFrom (K : Int32 → HF → Prop) (F : HF) (a1 : Int32) : Prop := wp_X3_letterAt (fun x1 F1 => wp_X3_isFigure (fun x2 F2 => ((¬ x2 = (nI 0)) → (wp_X3_letterAt (fun x3 F3 => wp_X3_isFigure (fun x4 F4 => ((x4 = (nI 0)) → (K (nI 1) F4)) ∧ ((¬ x4 = (nI 0)) → (K (nI 2) F4))) F3 x3) F2 (a1 + (nI 1)))) ∧ ((x2 = (nI 0)) → (K (nI 0) F2))) F1 x1) F a1
set_option maxRecDepth 100000 in
set_option maxHeartbeats 4000000 in
theorem c_X3_figuresFrom {l : Launch} {D : va_G} {dA : Nat → ClassId} {ad : Nat → Nat} {R : List Nat} {F : HF} {a1 : Int32} {K : Int32 → HF → Prop} (hT : Sc R) (h : wp_X3_figuresFrom K F a1) : MI l yX3_figuresFrom cX3_figuresFrom 2 .int rm_X3_figuresFrom D dA ad R F [.ref (ad 1), .int a1] K := by
  refine MI.of (own := RX3) (by decide) rfl (Nat.le_of_ble_eq_true rfl) ?_
  intro p e s m args below meth c A hA X hr
  unfold wp_X3_figuresFrom at h
  show J p l e rm_X3_figuresFrom s m args below meth c 2 D dA ad R A (QI D dA ad R A below args s K) F 0 [(0, .ref (ad 1)), (1, .int a1)] []
  refine r_aload_n (pc := 0) X 0 dX3_figuresFrom_0 rfl rfl ?_
  refine r_iload_n (pc := 1) X 1 dX3_figuresFrom_1 rfl rfl ?_
  refine r_callIV (pc := 2) (As := [.int a1]) (st := []) X hA (c_X3_letterAt hT h) g_X3_32 cl_X3 hT.1 hd_X3_letterAt rfl rfl rfl ⟨Nat.le_of_ble_eq_true rfl, Nat.le_of_ble_eq_true rfl⟩ rfl (Nat.le_of_ble_eq_true rfl) dX3_figuresFrom_2 (fun x1 F1 h => ?_)
  refine r_callIS (pc := 5) (As := [.int x1]) (st := []) X hA (c_X3_isFigure  h) g_X3_51 hd_X3_isFigure rfl rfl rfl ⟨Nat.le_of_ble_eq_true rfl, Nat.le_of_ble_eq_true rfl⟩ rfl (Nat.le_of_ble_eq_true rfl) dX3_figuresFrom_5 (fun x2 F2 h => ?_)
  refine r_if_ne (pc := 8) (tgt := 13) X dX3_figuresFrom_8 (by decide) (fun hc => ?_) (fun hc => ?_)
  · replace h := h.1 hc
    refine r_aload_n (pc := 13) X 0 dX3_figuresFrom_13 rfl rfl ?_
    refine r_iload_n (pc := 14) X 1 dX3_figuresFrom_14 rfl rfl ?_
    refine r_iconst (pc := 15) (v := (nI 1)) X dX3_figuresFrom_15 (by decide) ?_
    refine r_iadd (pc := 16) X dX3_figuresFrom_16 ?_
    refine r_callIV (pc := 17) (As := [.int (a1 + (nI 1))]) (st := []) X hA (c_X3_letterAt hT h) g_X3_32 cl_X3 hT.1 hd_X3_letterAt rfl rfl rfl ⟨Nat.le_of_ble_eq_true rfl, Nat.le_of_ble_eq_true rfl⟩ rfl (Nat.le_of_ble_eq_true rfl) dX3_figuresFrom_17 (fun x3 F3 h => ?_)
    refine r_callIS (pc := 20) (As := [.int x3]) (st := []) X hA (c_X3_isFigure  h) g_X3_51 hd_X3_isFigure rfl rfl rfl ⟨Nat.le_of_ble_eq_true rfl, Nat.le_of_ble_eq_true rfl⟩ rfl (Nat.le_of_ble_eq_true rfl) dX3_figuresFrom_20 (fun x4 F4 h => ?_)
    refine r_if_eq (pc := 23) (tgt := 30) X dX3_figuresFrom_23 (by decide) (fun hc => ?_) (fun hc => ?_)
    · replace h := h.1 hc
      refine r_iconst (pc := 30) (v := (nI 1)) X dX3_figuresFrom_30 (by decide) ?_
      exact r_iret (pc := 31) X hr dX3_figuresFrom_31 h
    · replace h := h.2 hc
      refine r_iconst (pc := 26) (v := (nI 2)) X dX3_figuresFrom_26 (by decide) ?_
      refine r_goto (pc := 27) (tgt := 31) X dX3_figuresFrom_27 (by decide) ?_
      exact r_iret (pc := 31) X hr dX3_figuresFrom_31 h
  · replace h := h.2 hc
    refine r_iconst (pc := 11) (v := (nI 0)) X dX3_figuresFrom_11 (by decide) ?_
    exact r_iret (pc := 12) X hr dX3_figuresFrom_12 h
theorem dX3_numberAt_0 : decode cX3_numberAt 0 = .ok (.iconst 0, 1) := by decide +kernel
theorem dX3_numberAt_1 : decode cX3_numberAt 1 = .ok (.istore_n 3, 1) := by decide +kernel
theorem dX3_numberAt_2 : decode cX3_numberAt 2 = .ok (.iconst 0, 1) := by decide +kernel
theorem dX3_numberAt_3 : decode cX3_numberAt 3 = .ok (.istore 4, 2) := by decide +kernel
theorem dX3_numberAt_5 : decode cX3_numberAt 5 = .ok (.iload 4, 2) := by decide +kernel
theorem dX3_numberAt_7 : decode cX3_numberAt 7 = .ok (.iload_n 2, 1) := by decide +kernel
theorem dX3_numberAt_8 : decode cX3_numberAt 8 = .ok (.if_icmp .ge 26, 3) := by decide +kernel
theorem dX3_numberAt_11 : decode cX3_numberAt 11 = .ok (.iload_n 3, 1) := by decide +kernel
theorem dX3_numberAt_12 : decode cX3_numberAt 12 = .ok (.bipush 10, 2) := by decide +kernel
theorem dX3_numberAt_14 : decode cX3_numberAt 14 = .ok (.imul, 1) := by decide +kernel
theorem dX3_numberAt_15 : decode cX3_numberAt 15 = .ok (.aload_n 0, 1) := by decide +kernel
theorem dX3_numberAt_16 : decode cX3_numberAt 16 = .ok (.iload_n 1, 1) := by decide +kernel
theorem dX3_numberAt_17 : decode cX3_numberAt 17 = .ok (.iload 4, 2) := by decide +kernel
theorem dX3_numberAt_19 : decode cX3_numberAt 19 = .ok (.iadd, 1) := by decide +kernel
theorem dX3_numberAt_20 : decode cX3_numberAt 20 = .ok (.invokevirtual 32, 3) := by decide +kernel
theorem dX3_numberAt_23 : decode cX3_numberAt 23 = .ok (.bipush 48, 2) := by decide +kernel
theorem dX3_numberAt_25 : decode cX3_numberAt 25 = .ok (.isub, 1) := by decide +kernel
theorem dX3_numberAt_26 : decode cX3_numberAt 26 = .ok (.iadd, 1) := by decide +kernel
theorem dX3_numberAt_27 : decode cX3_numberAt 27 = .ok (.istore_n 3, 1) := by decide +kernel
theorem dX3_numberAt_28 : decode cX3_numberAt 28 = .ok (.iinc 4 1, 3) := by decide +kernel
theorem dX3_numberAt_31 : decode cX3_numberAt 31 = .ok (.goto (-26), 3) := by decide +kernel
theorem dX3_numberAt_34 : decode cX3_numberAt 34 = .ok (.iload_n 3, 1) := by decide +kernel
theorem dX3_numberAt_35 : decode cX3_numberAt 35 = .ok (.ireturn, 1) := by decide +kernel
theorem hd_X3_numberAt : yX3_numberAt.cls = RX3 ∧ yX3_numberAt.cls ≠ "java/lang/invoke/MethodHandle" ∧ yX3_numberAt.cls ≠ "java/lang/invoke/VarHandle" ∧ (parseMethodDescriptor yX3_numberAt.desc).map (fun d => d.parameters.length) = some 2 := by decide +kernel
abbrev rm_X3_numberAt : Room := { frames := 1, cells := 0, slots := 0, locals := 21 }
def wp_X3_numberAt_5 (K : Int32 → HF → Prop) : Nat → HF → Int32 → Int32 → Int32 → Int32 → Prop
  | 0 => fun _ _ _ _ _ => False
  | n5_ + 1 => fun F v1 v2 v3 v4 => ((v2 ≤ v4) → (K v3 F)) ∧ ((¬ v2 ≤ v4) → (wp_X3_letterAt (fun x1 F101 => wp_X3_numberAt_5 K  n5_ F101 v1 v2 ((v3 * (nI 10)) + (x1 - (nI 48))) (v4 + (nI 1))) F (v1 + v4)))
set_option maxRecDepth 100000 in
set_option maxHeartbeats 4000000 in
theorem k_X3_numberAt_5 {p : Program} {l : Launch} {e : Env} {s : State} {m : MethodId} {args : Array Value} {below : List Frame} {meth : Method} {c : Code} {D : va_G} {dA : Nat → ClassId} {ad : Nat → Nat} {R : List Nat} {A : Nat → Prop} {K : Int32 → HF → Prop} (X : Cx p s m args meth c cX3_numberAt 5 RX3 D dA) (hA : ∀ q, s.heap.size ≤ q → A q) (hr : meth.sig.returnType = some .int) (hT : Sc R) : ∀ (n_ : Nat) (F : HF) (v1 : Int32) (v2 : Int32) (v3 : Int32) (v4 : Int32), wp_X3_numberAt_5 K  n_ F v1 v2 v3 v4 → J p l e rm_X3_numberAt s m args below meth c 5 D dA ad R A (QI D dA ad R A below args s K) F 5 [(0, .ref (ad 1)), (1, .int v1), (2, .int v2), (3, .int v3), (4, .int v4)] [] := by
  intro n_
  induction n_ with
  | zero => intro F v1 v2 v3 v4 h; exact h.elim
  | succ n_ ih =>
    intro F v1 v2 v3 v4 h
    unfold wp_X3_numberAt_5 at h
    refine r_iload (pc := 5) X 4 dX3_numberAt_5 rfl ?_
    refine r_iload_n (pc := 7) X 2 dX3_numberAt_7 rfl rfl ?_
    refine r_icmp_ge (pc := 8) (tgt := 34) X dX3_numberAt_8 (by decide) (fun hc => ?_) (fun hc => ?_)
    · replace h := h.1 hc
      refine r_iload_n (pc := 34) X 3 dX3_numberAt_34 rfl rfl ?_
      exact r_iret (pc := 35) X hr dX3_numberAt_35 h
    · replace h := h.2 hc
      refine r_iload_n (pc := 11) X 3 dX3_numberAt_11 rfl rfl ?_
      refine r_bipush (pc := 12) (v := (nI 10)) X dX3_numberAt_12 (by decide) ?_
      refine r_imul (pc := 14) X dX3_numberAt_14 ?_
      refine r_aload_n (pc := 15) X 0 dX3_numberAt_15 rfl rfl ?_
      refine r_iload_n (pc := 16) X 1 dX3_numberAt_16 rfl rfl ?_
      refine r_iload (pc := 17) X 4 dX3_numberAt_17 rfl ?_
      refine r_iadd (pc := 19) X dX3_numberAt_19 ?_
      refine r_callIV (pc := 20) (As := [.int (v1 + v4)]) (st := [.int (v3 * (nI 10))]) X hA (c_X3_letterAt hT h) g_X3_32 cl_X3 hT.1 hd_X3_letterAt rfl rfl rfl ⟨Nat.le_of_ble_eq_true rfl, Nat.le_of_ble_eq_true rfl⟩ rfl (Nat.le_of_ble_eq_true rfl) dX3_numberAt_20 (fun x1 F101 h => ?_)
      refine r_bipush (pc := 23) (v := (nI 48)) X dX3_numberAt_23 (by decide) ?_
      refine r_isub (pc := 25) X dX3_numberAt_25 ?_
      refine r_iadd (pc := 26) X dX3_numberAt_26 ?_
      refine r_istore_n (pc := 27) X [(3, .int ((v3 * (nI 10)) + (x1 - (nI 48)))), (0, .ref (ad 1)), (1, .int v1), (2, .int v2), (4, .int v4)] dX3_numberAt_27 rfl (by decide) rfl ?_
      refine r_iinc (pc := 28) (v := (v4 + (nI 1))) X 4 [(4, .int (v4 + (nI 1))), (3, .int ((v3 * (nI 10)) + (x1 - (nI 48)))), (0, .ref (ad 1)), (1, .int v1), (2, .int v2)] dX3_numberAt_28 rfl rfl (by decide) rfl ?_
      refine r_goto (pc := 31) (tgt := 5) X dX3_numberAt_31 (by decide) ?_
      refine r_sub [2, 3, 4, 1, 0] rfl ?_
      exact ih _ _ _ _ _ h
def wp_X3_numberAt (K : Int32 → HF → Prop) (F : HF) (a1 : Int32) (a2 : Int32) : Prop := ∃ m_, wp_X3_numberAt_5 K  m_ F a1 a2 (nI 0) (nI 0)
set_option maxRecDepth 100000 in
set_option maxHeartbeats 4000000 in
theorem c_X3_numberAt {l : Launch} {D : va_G} {dA : Nat → ClassId} {ad : Nat → Nat} {R : List Nat} {F : HF} {a1 : Int32} {a2 : Int32} {K : Int32 → HF → Prop} (hT : Sc R) (h : wp_X3_numberAt K F a1 a2) : MI l yX3_numberAt cX3_numberAt 5 .int rm_X3_numberAt D dA ad R F [.ref (ad 1), .int a1, .int a2] K := by
  refine MI.of (own := RX3) (by decide) rfl (Nat.le_of_ble_eq_true rfl) ?_
  intro p e s m args below meth c A hA X hr
  unfold wp_X3_numberAt at h
  show J p l e rm_X3_numberAt s m args below meth c 5 D dA ad R A (QI D dA ad R A below args s K) F 0 [(0, .ref (ad 1)), (1, .int a1), (2, .int a2)] []
  refine r_iconst (pc := 0) (v := (nI 0)) X dX3_numberAt_0 (by decide) ?_
  refine r_istore_n (pc := 1) X [(3, .int (nI 0)), (0, .ref (ad 1)), (1, .int a1), (2, .int a2)] dX3_numberAt_1 rfl (by decide) rfl ?_
  refine r_iconst (pc := 2) (v := (nI 0)) X dX3_numberAt_2 (by decide) ?_
  refine r_istore (pc := 3) X [(4, .int (nI 0)), (3, .int (nI 0)), (0, .ref (ad 1)), (1, .int a1), (2, .int a2)] dX3_numberAt_3 (by decide) rfl ?_
  refine r_sub [2, 3, 4, 1, 0] rfl ?_
  obtain ⟨n1, h⟩ := h
  exact k_X3_numberAt_5 X hA hr hT  n1 _ _ _ _ _ h
theorem dX3_numbersBehind_0 : decode cX3_numbersBehind 0 = .ok (.iload_n 0, 1) := by decide +kernel
theorem dX3_numbersBehind_1 : decode cX3_numbersBehind 1 = .ok (.lookupswitch 51 #[(98, 43), (108, 45), (114, 47), (119, 49)], 43) := by decide +kernel
theorem dX3_numbersBehind_44 : decode cX3_numbersBehind 44 = .ok (.iconst 4, 1) := by decide +kernel
theorem dX3_numbersBehind_45 : decode cX3_numbersBehind 45 = .ok (.ireturn, 1) := by decide +kernel
theorem dX3_numbersBehind_46 : decode cX3_numbersBehind 46 = .ok (.iconst 2, 1) := by decide +kernel
theorem dX3_numbersBehind_47 : decode cX3_numbersBehind 47 = .ok (.ireturn, 1) := by decide +kernel
theorem dX3_numbersBehind_48 : decode cX3_numbersBehind 48 = .ok (.iconst 1, 1) := by decide +kernel
theorem dX3_numbersBehind_49 : decode cX3_numbersBehind 49 = .ok (.ireturn, 1) := by decide +kernel
theorem dX3_numbersBehind_50 : decode cX3_numbersBehind 50 = .ok (.iconst 1, 1) := by decide +kernel
theorem dX3_numbersBehind_51 : decode cX3_numbersBehind 51 = .ok (.ireturn, 1) := by decide +kernel
theorem dX3_numbersBehind_52 : decode cX3_numbersBehind 52 = .ok (.iconst 0, 1) := by decide +kernel
theorem dX3_numbersBehind_53 : decode cX3_numbersBehind 53 = .ok (.ireturn, 1) := by decide +kernel
theorem hd_X3_numbersBehind : yX3_numbersBehind.cls = RX3 ∧ yX3_numbersBehind.cls ≠ "java/lang/invoke/MethodHandle" ∧ yX3_numbersBehind.cls ≠ "java/lang/invoke/VarHandle" ∧ (parseMethodDescriptor yX3_numbersBehind.desc).map (fun d => d.parameters.length) = some 1 := by decide +kernel
abbrev rm_X3_numbersBehind : Room := { frames := 0, cells := 0, slots := 0, locals := 0 }
def wp_X3_numbersBehind (K : Int32 → HF → Prop) (F : HF) (a1 : Int32) : Prop := (((a1 = (nI 98)) → (K (nI 4) F))) ∧ (((a1 = (nI 108)) → (K (nI 2) F))) ∧ (((a1 = (nI 114)) → (K (nI 1) F))) ∧ (((a1 = (nI 119)) → (K (nI 1) F))) ∧ ((¬ a1 = (nI 98)) → (¬ a1 = (nI 108)) → (¬ a1 = (nI 114)) → (¬ a1 = (nI 119)) → (K (nI 0) F))
set_option maxRecDepth 100000 in
set_option maxHeartbeats 4000000 in
theorem c_X3_numbersBehind {l : Launch} {D : va_G} {dA : Nat → ClassId} {ad : Nat → Nat} {R : List Nat} {F : HF} {a1 : Int32} {K : Int32 → HF → Prop} (h : wp_X3_numbersBehind K F a1) : MI l yX3_numbersBehind cX3_numbersBehind 1 .int rm_X3_numbersBehind D dA ad R F [.int a1] K := by
  refine MI.of (own := RX3) (by decide) rfl (Nat.le_of_ble_eq_true rfl) ?_
  intro p e s m args below meth c A hA X hr
  unfold wp_X3_numbersBehind at h
  show J p l e rm_X3_numbersBehind s m args below meth c 1 D dA ad R A (QI D dA ad R A below args s K) F 0 [(0, .int a1)] []
  refine r_iload_n (pc := 0) X 0 dX3_numbersBehind_0 rfl rfl ?_
  by_cases hc98 : a1 = (nI 98)
  · replace h := h.1 hc98
    refine r_lookup (pc := 1) (off := 43) (tgt := 44) X dX3_numbersBehind_1 (by decide) (by rw [hc98]; decide) (by decide) ?_
    refine r_iconst (pc := 44) (v := (nI 4)) X dX3_numbersBehind_44 (by decide) ?_
    exact r_iret (pc := 45) X hr dX3_numbersBehind_45 h
  · replace h := h.2
    by_cases hc108 : a1 = (nI 108)
    · replace h := h.1 hc108
      refine r_lookup (pc := 1) (off := 45) (tgt := 46) X dX3_numbersBehind_1 (by decide) (by rw [hc108]; decide) (by decide) ?_
      refine r_iconst (pc := 46) (v := (nI 2)) X dX3_numbersBehind_46 (by decide) ?_
      exact r_iret (pc := 47) X hr dX3_numbersBehind_47 h
    · replace h := h.2
      by_cases hc114 : a1 = (nI 114)
      · replace h := h.1 hc114
        refine r_lookup (pc := 1) (off := 47) (tgt := 48) X dX3_numbersBehind_1 (by decide) (by rw [hc114]; decide) (by decide) ?_
        refine r_iconst (pc := 48) (v := (nI 1)) X dX3_numbersBehind_48 (by decide) ?_
        exact r_iret (pc := 49) X hr dX3_numbersBehind_49 h
      · replace h := h.2
        by_cases hc119 : a1 = (nI 119)
        · replace h := h.1 hc119
          refine r_lookup (pc := 1) (off := 49) (tgt := 50) X dX3_numbersBehind_1 (by decide) (by rw [hc119]; decide) (by decide) ?_
          refine r_iconst (pc := 50) (v := (nI 1)) X dX3_numbersBehind_50 (by decide) ?_
          exact r_iret (pc := 51) X hr dX3_numbersBehind_51 h
        · replace h := h.2
          replace h := h hc98 hc108 hc114 hc119
          refine r_lookup (pc := 1) (off := 51) (tgt := 52) X dX3_numbersBehind_1 (by decide) (by rw [lv_osw hc98 (by decide), lv_osw hc108 (by decide), lv_osw hc114 (by decide), lv_osw hc119 (by decide)]; rfl) (by decide) ?_
          refine r_iconst (pc := 52) (v := (nI 0)) X dX3_numbersBehind_52 (by decide) ?_
          exact r_iret (pc := 53) X hr dX3_numbersBehind_53 h
theorem dX3_readItem_0 : decode cX3_readItem 0 = .ok (.aload_n 0, 1) := by decide +kernel
theorem dX3_readItem_1 : decode cX3_readItem 1 = .ok (.iload_n 1, 1) := by decide +kernel
theorem dX3_readItem_2 : decode cX3_readItem 2 = .ok (.invokevirtual 32, 3) := by decide +kernel
theorem dX3_readItem_5 : decode cX3_readItem 5 = .ok (.invokestatic 40, 3) := by decide +kernel
theorem dX3_readItem_8 : decode cX3_readItem 8 = .ok (.istore_n 2, 1) := by decide +kernel
theorem dX3_readItem_9 : decode cX3_readItem 9 = .ok (.iload_n 1, 1) := by decide +kernel
theorem dX3_readItem_10 : decode cX3_readItem 10 = .ok (.iconst 1, 1) := by decide +kernel
theorem dX3_readItem_11 : decode cX3_readItem 11 = .ok (.iadd, 1) := by decide +kernel
theorem dX3_readItem_12 : decode cX3_readItem 12 = .ok (.istore_n 3, 1) := by decide +kernel
theorem dX3_readItem_13 : decode cX3_readItem 13 = .ok (.iconst 0, 1) := by decide +kernel
theorem dX3_readItem_14 : decode cX3_readItem 14 = .ok (.istore 4, 2) := by decide +kernel
theorem dX3_readItem_16 : decode cX3_readItem 16 = .ok (.iload 4, 2) := by decide +kernel
theorem dX3_readItem_18 : decode cX3_readItem 18 = .ok (.iload_n 2, 1) := by decide +kernel
theorem dX3_readItem_19 : decode cX3_readItem 19 = .ok (.if_icmp .ge 82, 3) := by decide +kernel
theorem dX3_readItem_22 : decode cX3_readItem 22 = .ok (.iload 4, 2) := by decide +kernel
theorem dX3_readItem_24 : decode cX3_readItem 24 = .ok (.aload_n 0, 1) := by decide +kernel
theorem dX3_readItem_25 : decode cX3_readItem 25 = .ok (.getfield 15, 3) := by decide +kernel
theorem dX3_readItem_28 : decode cX3_readItem 28 = .ok (.arraylength, 1) := by decide +kernel
theorem dX3_readItem_29 : decode cX3_readItem 29 = .ok (.if_icmp .ge 72, 3) := by decide +kernel
theorem dX3_readItem_32 : decode cX3_readItem 32 = .ok (.aload_n 0, 1) := by decide +kernel
theorem dX3_readItem_33 : decode cX3_readItem 33 = .ok (.iload_n 3, 1) := by decide +kernel
theorem dX3_readItem_34 : decode cX3_readItem 34 = .ok (.invokevirtual 44, 3) := by decide +kernel
theorem dX3_readItem_37 : decode cX3_readItem 37 = .ok (.istore 5, 2) := by decide +kernel
theorem dX3_readItem_39 : decode cX3_readItem 39 = .ok (.iload 5, 2) := by decide +kernel
theorem dX3_readItem_41 : decode cX3_readItem 41 = .ok (.ifCond .ne 6, 3) := by decide +kernel
theorem dX3_readItem_44 : decode cX3_readItem 44 = .ok (.bipush (-4), 2) := by decide +kernel
theorem dX3_readItem_46 : decode cX3_readItem 46 = .ok (.ireturn, 1) := by decide +kernel
theorem dX3_readItem_47 : decode cX3_readItem 47 = .ok (.aload_n 0, 1) := by decide +kernel
theorem dX3_readItem_48 : decode cX3_readItem 48 = .ok (.getfield 15, 3) := by decide +kernel
theorem dX3_readItem_51 : decode cX3_readItem 51 = .ok (.iload 4, 2) := by decide +kernel
theorem dX3_readItem_53 : decode cX3_readItem 53 = .ok (.aload_n 0, 1) := by decide +kernel
theorem dX3_readItem_54 : decode cX3_readItem 54 = .ok (.iload_n 3, 1) := by decide +kernel
theorem dX3_readItem_55 : decode cX3_readItem 55 = .ok (.iload 5, 2) := by decide +kernel
theorem dX3_readItem_57 : decode cX3_readItem 57 = .ok (.invokevirtual 47, 3) := by decide +kernel
theorem dX3_readItem_60 : decode cX3_readItem 60 = .ok (.iastore, 1) := by decide +kernel
theorem dX3_readItem_61 : decode cX3_readItem 61 = .ok (.iload_n 3, 1) := by decide +kernel
theorem dX3_readItem_62 : decode cX3_readItem 62 = .ok (.iload 5, 2) := by decide +kernel
theorem dX3_readItem_64 : decode cX3_readItem 64 = .ok (.iadd, 1) := by decide +kernel
theorem dX3_readItem_65 : decode cX3_readItem 65 = .ok (.istore_n 3, 1) := by decide +kernel
theorem dX3_readItem_66 : decode cX3_readItem 66 = .ok (.aload_n 0, 1) := by decide +kernel
theorem dX3_readItem_67 : decode cX3_readItem 67 = .ok (.iload_n 3, 1) := by decide +kernel
theorem dX3_readItem_68 : decode cX3_readItem 68 = .ok (.invokevirtual 32, 3) := by decide +kernel
theorem dX3_readItem_71 : decode cX3_readItem 71 = .ok (.iload 4, 2) := by decide +kernel
theorem dX3_readItem_73 : decode cX3_readItem 73 = .ok (.iload_n 2, 1) := by decide +kernel
theorem dX3_readItem_74 : decode cX3_readItem 74 = .ok (.iconst 1, 1) := by decide +kernel
theorem dX3_readItem_75 : decode cX3_readItem 75 = .ok (.isub, 1) := by decide +kernel
theorem dX3_readItem_76 : decode cX3_readItem 76 = .ok (.if_icmp .ne 8, 3) := by decide +kernel
theorem dX3_readItem_79 : decode cX3_readItem 79 = .ok (.bipush 59, 2) := by decide +kernel
theorem dX3_readItem_81 : decode cX3_readItem 81 = .ok (.goto 5, 3) := by decide +kernel
theorem dX3_readItem_84 : decode cX3_readItem 84 = .ok (.bipush 44, 2) := by decide +kernel
theorem dX3_readItem_86 : decode cX3_readItem 86 = .ok (.if_icmp .eq 6, 3) := by decide +kernel
theorem dX3_readItem_89 : decode cX3_readItem 89 = .ok (.bipush (-4), 2) := by decide +kernel
theorem dX3_readItem_91 : decode cX3_readItem 91 = .ok (.ireturn, 1) := by decide +kernel
theorem dX3_readItem_92 : decode cX3_readItem 92 = .ok (.iinc 3 1, 3) := by decide +kernel
theorem dX3_readItem_95 : decode cX3_readItem 95 = .ok (.iinc 4 1, 3) := by decide +kernel
theorem dX3_readItem_98 : decode cX3_readItem 98 = .ok (.goto (-82), 3) := by decide +kernel
theorem dX3_readItem_101 : decode cX3_readItem 101 = .ok (.iload_n 2, 1) := by decide +kernel
theorem dX3_readItem_102 : decode cX3_readItem 102 = .ok (.ifCond .ne 8, 3) := by decide +kernel
theorem dX3_readItem_105 : decode cX3_readItem 105 = .ok (.bipush (-4), 2) := by decide +kernel
theorem dX3_readItem_107 : decode cX3_readItem 107 = .ok (.goto 4, 3) := by decide +kernel
theorem dX3_readItem_110 : decode cX3_readItem 110 = .ok (.iload_n 3, 1) := by decide +kernel
theorem dX3_readItem_111 : decode cX3_readItem 111 = .ok (.ireturn, 1) := by decide +kernel
theorem hd_X3_readItem : yX3_readItem.cls = RX3 ∧ yX3_readItem.cls ≠ "java/lang/invoke/MethodHandle" ∧ yX3_readItem.cls ≠ "java/lang/invoke/VarHandle" ∧ (parseMethodDescriptor yX3_readItem.desc).map (fun d => d.parameters.length) = some 1 := by decide +kernel
abbrev rm_X3_readItem : Room := { frames := 2, cells := 0, slots := 0, locals := 45 }
def wp_X3_readItem_101 (K : Int32 → HF → Prop) (F : HF) (v2 : Int32) (v3 : Int32) : Prop := ((¬ v2 = (nI 0)) → (K v3 F)) ∧ ((v2 = (nI 0)) → (K (-4 : Int32) F))
set_option maxRecDepth 100000 in
set_option maxHeartbeats 4000000 in
theorem k_X3_readItem_101 {p : Program} {l : Launch} {e : Env} {s : State} {m : MethodId} {args : Array Value} {below : List Frame} {meth : Method} {c : Code} {D : va_G} {dA : Nat → ClassId} {ad : Nat → Nat} {R : List Nat} {A : Nat → Prop} {K : Int32 → HF → Prop} (X : Cx p s m args meth c cX3_readItem 6 RX3 D dA) (hA : ∀ q, s.heap.size ≤ q → A q) (hr : meth.sig.returnType = some .int) (hT : Sc R) : ∀ (F : HF) (v2 : Int32) (v3 : Int32), wp_X3_readItem_101 K  F v2 v3 → J p l e rm_X3_readItem s m args below meth c 6 D dA ad R A (QI D dA ad R A below args s K) F 101 [(2, .int v2), (3, .int v3)] [] := by
  intro F v2 v3 h
  unfold wp_X3_readItem_101 at h
  refine r_iload_n (pc := 101) X 0 dX3_readItem_101 rfl rfl ?_
  refine r_if_ne (pc := 102) (tgt := 110) X dX3_readItem_102 (by decide) (fun hc => ?_) (fun hc => ?_)
  · replace h := h.1 hc
    refine r_iload_n (pc := 110) X 1 dX3_readItem_110 rfl rfl ?_
    exact r_iret (pc := 111) X hr dX3_readItem_111 h
  · replace h := h.2 hc
    refine r_bipush (pc := 105) (v := (-4 : Int32)) X dX3_readItem_105 (by decide) ?_
    refine r_goto (pc := 107) (tgt := 111) X dX3_readItem_107 (by decide) ?_
    exact r_iret (pc := 111) X hr dX3_readItem_111 h
def wp_X3_readItem_86 (K : Int32 → HF → Prop) (L16 : HF → Int32 → Int32 → Int32 → Prop) (F : HF) (v2 : Int32) (v3 : Int32) (v4 : Int32) (s0 : Int32) (s1 : Int32) : Prop := ((s0 = s1) → (L16 F v2 (v3 + (nI 1)) (v4 + (nI 1)))) ∧ ((¬ s0 = s1) → (K (-4 : Int32) F))
set_option maxRecDepth 100000 in
set_option maxHeartbeats 4000000 in
theorem k_X3_readItem_86 {p : Program} {l : Launch} {e : Env} {s : State} {m : MethodId} {args : Array Value} {below : List Frame} {meth : Method} {c : Code} {D : va_G} {dA : Nat → ClassId} {ad : Nat → Nat} {R : List Nat} {A : Nat → Prop} {K : Int32 → HF → Prop} {L16 : HF → Int32 → Int32 → Int32 → Prop} (X : Cx p s m args meth c cX3_readItem 6 RX3 D dA) (hA : ∀ q, s.heap.size ≤ q → A q) (hr : meth.sig.returnType = some .int) (hT : Sc R) (hL16 : ∀ (F : HF) (v2 : Int32) (v3 : Int32) (v4 : Int32), L16 F v2 v3 v4 → J p l e rm_X3_readItem s m args below meth c 6 D dA ad R A (QI D dA ad R A below args s K) F 16 [(0, .ref (ad 1)), (2, .int v2), (3, .int v3), (4, .int v4)] []) : ∀ (F : HF) (v2 : Int32) (v3 : Int32) (v4 : Int32) (s0 : Int32) (s1 : Int32), wp_X3_readItem_86 K L16  F v2 v3 v4 s0 s1 → J p l e rm_X3_readItem s m args below meth c 6 D dA ad R A (QI D dA ad R A below args s K) F 86 [(0, .ref (ad 1)), (2, .int v2), (3, .int v3), (4, .int v4)] [.int s1, .int s0] := by
  intro F v2 v3 v4 s0 s1 h
  unfold wp_X3_readItem_86 at h
  refine r_icmp_eq (pc := 86) (tgt := 92) X dX3_readItem_86 (by decide) (fun hc => ?_) (fun hc => ?_)
  · replace h := h.1 hc
    refine r_iinc (pc := 92) (v := (v3 + (nI 1))) X 2 [(3, .int (v3 + (nI 1))), (0, .ref (ad 1)), (2, .int v2), (4, .int v4)] dX3_readItem_92 rfl rfl (by decide) rfl ?_
    refine r_iinc (pc := 95) (v := (v4 + (nI 1))) X 3 [(4, .int (v4 + (nI 1))), (3, .int (v3 + (nI 1))), (0, .ref (ad 1)), (2, .int v2)] dX3_readItem_95 rfl rfl (by decide) rfl ?_
    refine r_goto (pc := 98) (tgt := 16) X dX3_readItem_98 (by decide) ?_
    refine r_sub [2, 3, 1, 0] rfl ?_
    exact hL16 _ _ _ _ h
  · replace h := h.2 hc
    refine r_bipush (pc := 89) (v := (-4 : Int32)) X dX3_readItem_89 (by decide) ?_
    exact r_iret (pc := 91) X hr dX3_readItem_91 h
def wp_X3_readItem_16 (K : Int32 → HF → Prop) : Nat → HF → Int32 → Int32 → Int32 → Prop
  | 0 => fun _ _ _ _ => False
  | n16_ + 1 => fun F v2 v3 v4 => ((v2 ≤ v4) → (wp_X3_readItem_101 K  F v2 v3)) ∧ ((¬ v2 ≤ v4) → ((((nI 4) ≤ v4) → (wp_X3_readItem_101 K  F v2 v3)) ∧ ((¬ (nI 4) ≤ v4) → (wp_X3_figuresFrom (fun x3 F203 => ((¬ x3 = (nI 0)) → (wp_X3_numberAt (fun x4 F204 => (vp_in v4 4) ∧ (∀ F205 : HF, F205 = hup F204 3 v4.toNatClampNeg x4 → (wp_X3_letterAt (fun x5 F206 => ((¬ v4 = (v2 - (nI 1))) → (wp_X3_readItem_86 K (wp_X3_readItem_16 K n16_)  F206 v2 (v3 + x3) v4 x5 (nI 44))) ∧ ((v4 = (v2 - (nI 1))) → (wp_X3_readItem_86 K (wp_X3_readItem_16 K n16_)  F206 v2 (v3 + x3) v4 x5 (nI 59)))) F205 (v3 + x3)))) F203 v3 x3)) ∧ ((x3 = (nI 0)) → (K (-4 : Int32) F203))) F v3))))
set_option maxRecDepth 100000 in
set_option maxHeartbeats 4000000 in
theorem k_X3_readItem_16 {p : Program} {l : Launch} {e : Env} {s : State} {m : MethodId} {args : Array Value} {below : List Frame} {meth : Method} {c : Code} {D : va_G} {dA : Nat → ClassId} {ad : Nat → Nat} {R : List Nat} {A : Nat → Prop} {K : Int32 → HF → Prop} (X : Cx p s m args meth c cX3_readItem 6 RX3 D dA) (hA : ∀ q, s.heap.size ≤ q → A q) (hr : meth.sig.returnType = some .int) (hT : Sc R) : ∀ (n_ : Nat) (F : HF) (v2 : Int32) (v3 : Int32) (v4 : Int32), wp_X3_readItem_16 K  n_ F v2 v3 v4 → J p l e rm_X3_readItem s m args below meth c 6 D dA ad R A (QI D dA ad R A below args s K) F 16 [(0, .ref (ad 1)), (2, .int v2), (3, .int v3), (4, .int v4)] [] := by
  intro n_
  induction n_ with
  | zero => intro F v2 v3 v4 h; exact h.elim
  | succ n_ ih =>
    intro F v2 v3 v4 h
    unfold wp_X3_readItem_16 at h
    refine r_iload (pc := 16) X 3 dX3_readItem_16 rfl ?_
    refine r_iload_n (pc := 18) X 1 dX3_readItem_18 rfl rfl ?_
    refine r_icmp_ge (pc := 19) (tgt := 101) X dX3_readItem_19 (by decide) (fun hc => ?_) (fun hc => ?_)
    · replace h := h.1 hc
      refine r_sub [1, 2] rfl ?_
      exact k_X3_readItem_101 X hA hr hT  _ _ _ h
    · replace h := h.2 hc
      refine r_iload (pc := 22) X 3 dX3_readItem_22 rfl ?_
      refine r_aload_n (pc := 24) X 0 dX3_readItem_24 rfl rfl ?_
      refine fg_X3_15 (pc := 25) X hT.1 dX3_readItem_25 ?_
      refine r_alen (pc := 28) (v := (nI 4)) X (Or.inl hT.2.2) rfl dX3_readItem_28 ?_
      refine r_icmp_ge (pc := 29) (tgt := 101) X dX3_readItem_29 (by decide) (fun hc => ?_) (fun hc => ?_)
      · replace h := h.1 hc
        refine r_sub [1, 2] rfl ?_
        exact k_X3_readItem_101 X hA hr hT  _ _ _ h
      · replace h := h.2 hc
        refine r_aload_n (pc := 32) X 0 dX3_readItem_32 rfl rfl ?_
        refine r_iload_n (pc := 33) X 2 dX3_readItem_33 rfl rfl ?_
        refine r_callIV (pc := 34) (As := [.int v3]) (st := []) X hA (c_X3_figuresFrom hT h) g_X3_44 cl_X3 hT.1 hd_X3_figuresFrom rfl rfl rfl ⟨Nat.le_of_ble_eq_true rfl, Nat.le_of_ble_eq_true rfl⟩ rfl (Nat.le_of_ble_eq_true rfl) dX3_readItem_34 (fun x3 F203 h => ?_)
        refine r_istore (pc := 37) X [(5, .int x3), (0, .ref (ad 1)), (2, .int v2), (3, .int v3), (4, .int v4)] dX3_readItem_37 (by decide) rfl ?_
        refine r_iload (pc := 39) X 0 dX3_readItem_39 rfl ?_
        refine r_if_ne (pc := 41) (tgt := 47) X dX3_readItem_41 (by decide) (fun hc => ?_) (fun hc => ?_)
        · replace h := h.1 hc
          refine r_aload_n (pc := 47) X 1 dX3_readItem_47 rfl rfl ?_
          refine fg_X3_15 (pc := 48) X hT.1 dX3_readItem_48 ?_
          refine r_iload (pc := 51) X 4 dX3_readItem_51 rfl ?_
          refine r_aload_n (pc := 53) X 1 dX3_readItem_53 rfl rfl ?_
          refine r_iload_n (pc := 54) X 3 dX3_readItem_54 rfl rfl ?_
          refine r_iload (pc := 55) X 0 dX3_readItem_55 rfl ?_
          refine r_callIV (pc := 57) (As := [.int v3, .int x3]) (st := [.int v4, .ref (ad 3)]) X hA (c_X3_numberAt hT h) g_X3_47 cl_X3 hT.1 hd_X3_numberAt rfl rfl rfl ⟨Nat.le_of_ble_eq_true rfl, Nat.le_of_ble_eq_true rfl⟩ rfl (Nat.le_of_ble_eq_true rfl) dX3_readItem_57 (fun x4 F204 h => ?_)
          refine r_iast (pc := 60) X hT.2.2 h.1 dX3_readItem_60 (fun F205 e1 => ?_)
          replace h := h.2 F205 e1
          refine r_iload_n (pc := 61) X 3 dX3_readItem_61 rfl rfl ?_
          refine r_iload (pc := 62) X 0 dX3_readItem_62 rfl ?_
          refine r_iadd (pc := 64) X dX3_readItem_64 ?_
          refine r_istore_n (pc := 65) X [(3, .int (v3 + x3)), (5, .int x3), (0, .ref (ad 1)), (2, .int v2), (4, .int v4)] dX3_readItem_65 rfl (by decide) rfl ?_
          refine r_aload_n (pc := 66) X 2 dX3_readItem_66 rfl rfl ?_
          refine r_iload_n (pc := 67) X 0 dX3_readItem_67 rfl rfl ?_
          refine r_callIV (pc := 68) (As := [.int (v3 + x3)]) (st := []) X hA (c_X3_letterAt hT h) g_X3_32 cl_X3 hT.1 hd_X3_letterAt rfl rfl rfl ⟨Nat.le_of_ble_eq_true rfl, Nat.le_of_ble_eq_true rfl⟩ rfl (Nat.le_of_ble_eq_true rfl) dX3_readItem_68 (fun x5 F206 h => ?_)
          refine r_iload (pc := 71) X 4 dX3_readItem_71 rfl ?_
          refine r_iload_n (pc := 73) X 3 dX3_readItem_73 rfl rfl ?_
          refine r_iconst (pc := 74) (v := (nI 1)) X dX3_readItem_74 (by decide) ?_
          refine r_isub (pc := 75) X dX3_readItem_75 ?_
          refine r_icmp_ne (pc := 76) (tgt := 84) X dX3_readItem_76 (by decide) (fun hc => ?_) (fun hc => ?_)
          · replace h := h.1 hc
            refine r_bipush (pc := 84) (v := (nI 44)) X dX3_readItem_84 (by decide) ?_
            refine r_sub [2, 3, 0, 4] rfl ?_
            exact k_X3_readItem_86 X hA hr hT ih _ _ _ _ _ _ h
          · replace h := h.2 hc
            refine r_bipush (pc := 79) (v := (nI 59)) X dX3_readItem_79 (by decide) ?_
            refine r_goto (pc := 81) (tgt := 86) X dX3_readItem_81 (by decide) ?_
            refine r_sub [2, 3, 0, 4] rfl ?_
            exact k_X3_readItem_86 X hA hr hT ih _ _ _ _ _ _ h
        · replace h := h.2 hc
          refine r_bipush (pc := 44) (v := (-4 : Int32)) X dX3_readItem_44 (by decide) ?_
          exact r_iret (pc := 46) X hr dX3_readItem_46 h
def wp_X3_readItem (K : Int32 → HF → Prop) (F : HF) (a1 : Int32) : Prop := wp_X3_letterAt (fun x1 F1 => wp_X3_numbersBehind (fun x2 F2 => ∃ m_, wp_X3_readItem_16 K  m_ F2 x2 (a1 + (nI 1)) (nI 0)) F1 x1) F a1
set_option maxRecDepth 100000 in
set_option maxHeartbeats 4000000 in
theorem c_X3_readItem {l : Launch} {D : va_G} {dA : Nat → ClassId} {ad : Nat → Nat} {R : List Nat} {F : HF} {a1 : Int32} {K : Int32 → HF → Prop} (hT : Sc R) (h : wp_X3_readItem K F a1) : MI l yX3_readItem cX3_readItem 6 .int rm_X3_readItem D dA ad R F [.ref (ad 1), .int a1] K := by
  refine MI.of (own := RX3) (by decide) rfl (Nat.le_of_ble_eq_true rfl) ?_
  intro p e s m args below meth c A hA X hr
  unfold wp_X3_readItem at h
  show J p l e rm_X3_readItem s m args below meth c 6 D dA ad R A (QI D dA ad R A below args s K) F 0 [(0, .ref (ad 1)), (1, .int a1)] []
  refine r_aload_n (pc := 0) X 0 dX3_readItem_0 rfl rfl ?_
  refine r_iload_n (pc := 1) X 1 dX3_readItem_1 rfl rfl ?_
  refine r_callIV (pc := 2) (As := [.int a1]) (st := []) X hA (c_X3_letterAt hT h) g_X3_32 cl_X3 hT.1 hd_X3_letterAt rfl rfl rfl ⟨Nat.le_of_ble_eq_true rfl, Nat.le_of_ble_eq_true rfl⟩ rfl (Nat.le_of_ble_eq_true rfl) dX3_readItem_2 (fun x1 F1 h => ?_)
  refine r_callIS (pc := 5) (As := [.int x1]) (st := []) X hA (c_X3_numbersBehind  h) g_X3_40 hd_X3_numbersBehind rfl rfl rfl ⟨Nat.le_of_ble_eq_true rfl, Nat.le_of_ble_eq_true rfl⟩ rfl (Nat.le_of_ble_eq_true rfl) dX3_readItem_5 (fun x2 F2 h => ?_)
  refine r_istore_n (pc := 8) X [(2, .int x2), (0, .ref (ad 1)), (1, .int a1)] dX3_readItem_8 rfl (by decide) rfl ?_
  refine r_iload_n (pc := 9) X 2 dX3_readItem_9 rfl rfl ?_
  refine r_iconst (pc := 10) (v := (nI 1)) X dX3_readItem_10 (by decide) ?_
  refine r_iadd (pc := 11) X dX3_readItem_11 ?_
  refine r_istore_n (pc := 12) X [(3, .int (a1 + (nI 1))), (2, .int x2), (0, .ref (ad 1)), (1, .int a1)] dX3_readItem_12 rfl (by decide) rfl ?_
  refine r_iconst (pc := 13) (v := (nI 0)) X dX3_readItem_13 (by decide) ?_
  refine r_istore (pc := 14) X [(4, .int (nI 0)), (3, .int (a1 + (nI 1))), (2, .int x2), (0, .ref (ad 1)), (1, .int a1)] dX3_readItem_14 (by decide) rfl ?_
  refine r_sub [3, 2, 1, 0] rfl ?_
  obtain ⟨n1, h⟩ := h
  exact k_X3_readItem_16 X hA hr hT  n1 _ _ _ _ h
theorem dX3_readInto_0 : decode cX3_readInto 0 = .ok (.aload_n 1, 1) := by decide +kernel
theorem dX3_readInto_1 : decode cX3_readInto 1 = .ok (.invokevirtual 23, 3) := by decide +kernel
theorem dX3_readInto_4 : decode cX3_readInto 4 = .ok (.iconst 0, 1) := by decide +kernel
theorem dX3_readInto_5 : decode cX3_readInto 5 = .ok (.istore_n 2, 1) := by decide +kernel
theorem dX3_readInto_6 : decode cX3_readInto 6 = .ok (.iload_n 2, 1) := by decide +kernel
theorem dX3_readInto_7 : decode cX3_readInto 7 = .ok (.aload_n 0, 1) := by decide +kernel
theorem dX3_readInto_8 : decode cX3_readInto 8 = .ok (.getfield 19, 3) := by decide +kernel
theorem dX3_readInto_11 : decode cX3_readInto 11 = .ok (.if_icmp .ge 37, 3) := by decide +kernel
theorem dX3_readInto_14 : decode cX3_readInto 14 = .ok (.aload_n 0, 1) := by decide +kernel
theorem dX3_readInto_15 : decode cX3_readInto 15 = .ok (.iload_n 2, 1) := by decide +kernel
theorem dX3_readInto_16 : decode cX3_readInto 16 = .ok (.invokevirtual 28, 3) := by decide +kernel
theorem dX3_readInto_19 : decode cX3_readInto 19 = .ok (.istore_n 3, 1) := by decide +kernel
theorem dX3_readInto_20 : decode cX3_readInto 20 = .ok (.iload_n 3, 1) := by decide +kernel
theorem dX3_readInto_21 : decode cX3_readInto 21 = .ok (.iload_n 2, 1) := by decide +kernel
theorem dX3_readInto_22 : decode cX3_readInto 22 = .ok (.if_icmp .le 19, 3) := by decide +kernel
theorem dX3_readInto_25 : decode cX3_readInto 25 = .ok (.aload_n 1, 1) := by decide +kernel
theorem dX3_readInto_26 : decode cX3_readInto 26 = .ok (.aload_n 0, 1) := by decide +kernel
theorem dX3_readInto_27 : decode cX3_readInto 27 = .ok (.iload_n 2, 1) := by decide +kernel
theorem dX3_readInto_28 : decode cX3_readInto 28 = .ok (.invokevirtual 32, 3) := by decide +kernel
theorem dX3_readInto_31 : decode cX3_readInto 31 = .ok (.aload_n 0, 1) := by decide +kernel
theorem dX3_readInto_32 : decode cX3_readInto 32 = .ok (.getfield 15, 3) := by decide +kernel
theorem dX3_readInto_35 : decode cX3_readInto 35 = .ok (.invokevirtual 36, 3) := by decide +kernel
theorem dX3_readInto_38 : decode cX3_readInto 38 = .ok (.ifCond .ne 5, 3) := by decide +kernel
theorem dX3_readInto_41 : decode cX3_readInto 41 = .ok (.iload_n 2, 1) := by decide +kernel
theorem dX3_readInto_42 : decode cX3_readInto 42 = .ok (.ireturn, 1) := by decide +kernel
theorem dX3_readInto_43 : decode cX3_readInto 43 = .ok (.iload_n 3, 1) := by decide +kernel
theorem dX3_readInto_44 : decode cX3_readInto 44 = .ok (.istore_n 2, 1) := by decide +kernel
theorem dX3_readInto_45 : decode cX3_readInto 45 = .ok (.goto (-39), 3) := by decide +kernel
theorem dX3_readInto_48 : decode cX3_readInto 48 = .ok (.bipush (-4), 2) := by decide +kernel
theorem dX3_readInto_50 : decode cX3_readInto 50 = .ok (.ireturn, 1) := by decide +kernel
theorem hd_X3_readInto : yX3_readInto.cls = RX3 ∧ yX3_readInto.cls ≠ "java/lang/invoke/MethodHandle" ∧ yX3_readInto.cls ≠ "java/lang/invoke/VarHandle" ∧ (parseMethodDescriptor yX3_readInto.desc).map (fun d => d.parameters.length) = some 1 := by decide +kernel
abbrev rm_X3_readInto : Room := { frames := 3, cells := 0, slots := 0, locals := 70 }
def wp_X3_readInto_6 (K : Int32 → HF → Prop) (r1 : Nat) : Nat → HF → Int32 → Prop
  | 0 => fun _ _ => False
  | n6_ + 1 => fun F v2 => (((F 1 2) ≤ v2) → (K (-4 : Int32) F)) ∧ ((¬ (F 1 2) ≤ v2) → (wp_X3_readItem (fun x1 F102 => ((x1 ≤ v2) → (K v2 F102)) ∧ ((¬ x1 ≤ v2) → (wp_X3_letterAt (fun x2 F103 => wp_X1_take (fun x3 F104 => ((¬ x3 = (nI 0)) → (wp_X3_readInto_6 K r1  n6_ F104 x1)) ∧ ((x3 = (nI 0)) → (K v2 F104))) F103 r1 3 4 x2) F102 v2))) F v2))
set_option maxRecDepth 100000 in
set_option maxHeartbeats 4000000 in
theorem k_X3_readInto_6 {p : Program} {l : Launch} {e : Env} {s : State} {m : MethodId} {args : Array Value} {below : List Frame} {meth : Method} {c : Code} {D : va_G} {dA : Nat → ClassId} {ad : Nat → Nat} {R : List Nat} {A : Nat → Prop} {K : Int32 → HF → Prop} {r1 : Nat} (X : Cx p s m args meth c cX3_readInto 4 RX3 D dA) (hA : ∀ q, s.heap.size ≤ q → A q) (hr : meth.sig.returnType = some .int) (hT : Sc R) (hr1 : Fl R r1) : ∀ (n_ : Nat) (F : HF) (v2 : Int32), wp_X3_readInto_6 K r1 n_ F v2 → J p l e rm_X3_readInto s m args below meth c 4 D dA ad R A (QI D dA ad R A below args s K) F 6 [(0, .ref (ad 1)), (1, .ref (ad r1)), (2, .int v2)] [] := by
  intro n_
  induction n_ with
  | zero => intro F v2 h; exact h.elim
  | succ n_ ih =>
    intro F v2 h
    unfold wp_X3_readInto_6 at h
    refine r_iload_n (pc := 6) X 2 dX3_readInto_6 rfl rfl ?_
    refine r_aload_n (pc := 7) X 0 dX3_readInto_7 rfl rfl ?_
    refine fg_X3_19 (pc := 8) X hT.1 dX3_readInto_8 ?_
    refine r_icmp_ge (pc := 11) (tgt := 48) X dX3_readInto_11 (by decide) (fun hc => ?_) (fun hc => ?_)
    · replace h := h.1 hc
      refine r_bipush (pc := 48) (v := (-4 : Int32)) X dX3_readInto_48 (by decide) ?_
      exact r_iret (pc := 50) X hr dX3_readInto_50 h
    · replace h := h.2 hc
      refine r_aload_n (pc := 14) X 0 dX3_readInto_14 rfl rfl ?_
      refine r_iload_n (pc := 15) X 2 dX3_readInto_15 rfl rfl ?_
      refine r_callIV (pc := 16) (As := [.int v2]) (st := []) X hA (c_X3_readItem hT h) g_X3_28 cl_X3 hT.1 hd_X3_readItem rfl rfl rfl ⟨Nat.le_of_ble_eq_true rfl, Nat.le_of_ble_eq_true rfl⟩ rfl (Nat.le_of_ble_eq_true rfl) dX3_readInto_16 (fun x1 F102 h => ?_)
      refine r_istore_n (pc := 19) X [(3, .int x1), (0, .ref (ad 1)), (1, .ref (ad r1)), (2, .int v2)] dX3_readInto_19 rfl (by decide) rfl ?_
      refine r_iload_n (pc := 20) X 0 dX3_readInto_20 rfl rfl ?_
      refine r_iload_n (pc := 21) X 3 dX3_readInto_21 rfl rfl ?_
      refine r_icmp_le (pc := 22) (tgt := 41) X dX3_readInto_22 (by decide) (fun hc => ?_) (fun hc => ?_)
      · replace h := h.1 hc
        refine r_iload_n (pc := 41) X 3 dX3_readInto_41 rfl rfl ?_
        exact r_iret (pc := 42) X hr dX3_readInto_42 h
      · replace h := h.2 hc
        refine r_aload_n (pc := 25) X 2 dX3_readInto_25 rfl rfl ?_
        refine r_aload_n (pc := 26) X 1 dX3_readInto_26 rfl rfl ?_
        refine r_iload_n (pc := 27) X 3 dX3_readInto_27 rfl rfl ?_
        refine r_callIV (pc := 28) (As := [.int v2]) (st := [.ref (ad r1)]) X hA (c_X3_letterAt hT h) g_X3_32 cl_X3 hT.1 hd_X3_letterAt rfl rfl rfl ⟨Nat.le_of_ble_eq_true rfl, Nat.le_of_ble_eq_true rfl⟩ rfl (Nat.le_of_ble_eq_true rfl) dX3_readInto_28 (fun x2 F103 h => ?_)
        refine r_aload_n (pc := 31) X 1 dX3_readInto_31 rfl rfl ?_
        refine fg_X3_15 (pc := 32) X hT.1 dX3_readInto_32 ?_
        refine r_callIV (pc := 35) (As := [.int x2, .ref (ad 3)]) (st := []) X hA (c_X1_take hr1 hT.2.2 h) g_X3_36 cl_X1 hr1.1 hd_X1_take rfl rfl rfl ⟨Nat.le_of_ble_eq_true rfl, Nat.le_of_ble_eq_true rfl⟩ rfl (Nat.le_of_ble_eq_true rfl) dX3_readInto_35 (fun x3 F104 h => ?_)
        refine r_if_ne (pc := 38) (tgt := 43) X dX3_readInto_38 (by decide) (fun hc => ?_) (fun hc => ?_)
        · replace h := h.1 hc
          refine r_iload_n (pc := 43) X 0 dX3_readInto_43 rfl rfl ?_
          refine r_istore_n (pc := 44) X [(2, .int x1), (3, .int x1), (0, .ref (ad 1)), (1, .ref (ad r1))] dX3_readInto_44 rfl (by decide) rfl ?_
          refine r_goto (pc := 45) (tgt := 6) X dX3_readInto_45 (by decide) ?_
          refine r_sub [2, 3, 0] rfl ?_
          exact ih _ _ h
        · replace h := h.2 hc
          refine r_iload_n (pc := 41) X 3 dX3_readInto_41 rfl rfl ?_
          exact r_iret (pc := 42) X hr dX3_readInto_42 h
def wp_X3_readInto (K : Int32 → HF → Prop) (F : HF) (r1 : Nat) : Prop := wp_X1_clear (fun F1 => ∃ m_, wp_X3_readInto_6 K r1  m_ F1 (nI 0)) F r1
set_option maxRecDepth 100000 in
set_option maxHeartbeats 4000000 in
theorem c_X3_readInto {l : Launch} {D : va_G} {dA : Nat → ClassId} {ad : Nat → Nat} {R : List Nat} {F : HF} {r1 : Nat} {K : Int32 → HF → Prop} (hT : Sc R) (hr1 : Fl R r1) (h : wp_X3_readInto K F r1) : MI l yX3_readInto cX3_readInto 4 .int rm_X3_readInto D dA ad R F [.ref (ad 1), .ref (ad r1)] K := by
  refine MI.of (own := RX3) (by decide) rfl (Nat.le_of_ble_eq_true rfl) ?_
  intro p e s m args below meth c A hA X hr
  unfold wp_X3_readInto at h
  show J p l e rm_X3_readInto s m args below meth c 4 D dA ad R A (QI D dA ad R A below args s K) F 0 [(0, .ref (ad 1)), (1, .ref (ad r1))] []
  refine r_aload_n (pc := 0) X 1 dX3_readInto_0 rfl rfl ?_
  refine r_callVV (pc := 1) (As := []) (st := []) X hA (c_X1_clear hr1 h) g_X3_23 cl_X1 hr1.1 hd_X1_clear rfl rfl rfl ⟨Nat.le_of_ble_eq_true rfl, Nat.le_of_ble_eq_true rfl⟩ rfl (Nat.le_of_ble_eq_true rfl) dX3_readInto_1 (fun F1 h => ?_)
  refine r_iconst (pc := 4) (v := (nI 0)) X dX3_readInto_4 (by decide) ?_
  refine r_istore_n (pc := 5) X [(2, .int (nI 0)), (0, .ref (ad 1)), (1, .ref (ad r1))] dX3_readInto_5 rfl (by decide) rfl ?_
  refine r_sub [1, 2, 0] rfl ?_
  obtain ⟨n1, h⟩ := h
  exact k_X3_readInto_6 X hA hr hT hr1  n1 _ _ h
