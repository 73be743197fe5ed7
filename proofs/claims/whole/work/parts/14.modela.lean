theorem dX7_layBird_0 : decode cX7_layBird 0 = .ok (.aload_n 0, 1) := by decide +kernel
theorem dX7_layBird_1 : decode cX7_layBird 1 = .ok (.getfield 26, 3) := by decide +kernel
theorem dX7_layBird_4 : decode cX7_layBird 4 = .ok (.iconst 4, 1) := by decide +kernel
theorem dX7_layBird_5 : decode cX7_layBird 5 = .ok (.iload_n 1, 1) := by decide +kernel
theorem dX7_layBird_6 : decode cX7_layBird 6 = .ok (.imul, 1) := by decide +kernel
theorem dX7_layBird_7 : decode cX7_layBird 7 = .ok (.iload_n 2, 1) := by decide +kernel
theorem dX7_layBird_8 : decode cX7_layBird 8 = .ok (.iastore, 1) := by decide +kernel
theorem dX7_layBird_9 : decode cX7_layBird 9 = .ok (.aload_n 0, 1) := by decide +kernel
theorem dX7_layBird_10 : decode cX7_layBird 10 = .ok (.getfield 26, 3) := by decide +kernel
theorem dX7_layBird_13 : decode cX7_layBird 13 = .ok (.iconst 4, 1) := by decide +kernel
theorem dX7_layBird_14 : decode cX7_layBird 14 = .ok (.iload_n 1, 1) := by decide +kernel
theorem dX7_layBird_15 : decode cX7_layBird 15 = .ok (.imul, 1) := by decide +kernel
theorem dX7_layBird_16 : decode cX7_layBird 16 = .ok (.iconst 1, 1) := by decide +kernel
theorem dX7_layBird_17 : decode cX7_layBird 17 = .ok (.iadd, 1) := by decide +kernel
theorem dX7_layBird_18 : decode cX7_layBird 18 = .ok (.iload_n 3, 1) := by decide +kernel
theorem dX7_layBird_19 : decode cX7_layBird 19 = .ok (.iastore, 1) := by decide +kernel
theorem dX7_layBird_20 : decode cX7_layBird 20 = .ok (.aload_n 0, 1) := by decide +kernel
theorem dX7_layBird_21 : decode cX7_layBird 21 = .ok (.getfield 26, 3) := by decide +kernel
theorem dX7_layBird_24 : decode cX7_layBird 24 = .ok (.iconst 4, 1) := by decide +kernel
theorem dX7_layBird_25 : decode cX7_layBird 25 = .ok (.iload_n 1, 1) := by decide +kernel
theorem dX7_layBird_26 : decode cX7_layBird 26 = .ok (.imul, 1) := by decide +kernel
theorem dX7_layBird_27 : decode cX7_layBird 27 = .ok (.iconst 2, 1) := by decide +kernel
theorem dX7_layBird_28 : decode cX7_layBird 28 = .ok (.iadd, 1) := by decide +kernel
theorem dX7_layBird_29 : decode cX7_layBird 29 = .ok (.iload 4, 2) := by decide +kernel
theorem dX7_layBird_31 : decode cX7_layBird 31 = .ok (.iastore, 1) := by decide +kernel
theorem dX7_layBird_32 : decode cX7_layBird 32 = .ok (.aload_n 0, 1) := by decide +kernel
theorem dX7_layBird_33 : decode cX7_layBird 33 = .ok (.getfield 26, 3) := by decide +kernel
theorem dX7_layBird_36 : decode cX7_layBird 36 = .ok (.iconst 4, 1) := by decide +kernel
theorem dX7_layBird_37 : decode cX7_layBird 37 = .ok (.iload_n 1, 1) := by decide +kernel
theorem dX7_layBird_38 : decode cX7_layBird 38 = .ok (.imul, 1) := by decide +kernel
theorem dX7_layBird_39 : decode cX7_layBird 39 = .ok (.iconst 3, 1) := by decide +kernel
theorem dX7_layBird_40 : decode cX7_layBird 40 = .ok (.iadd, 1) := by decide +kernel
theorem dX7_layBird_41 : decode cX7_layBird 41 = .ok (.iload 5, 2) := by decide +kernel
theorem dX7_layBird_43 : decode cX7_layBird 43 = .ok (.iastore, 1) := by decide +kernel
theorem dX7_layBird_44 : decode cX7_layBird 44 = .ok (.return_, 1) := by decide +kernel
theorem hd_X7_layBird : yX7_layBird.cls = RX7 ∧ yX7_layBird.cls ≠ "java/lang/invoke/MethodHandle" ∧ yX7_layBird.cls ≠ "java/lang/invoke/VarHandle" ∧ (parseMethodDescriptor yX7_layBird.desc).map (fun d => d.parameters.length) = some 5 := by decide +kernel
abbrev rm_X7_layBird : Room := { frames := 0, cells := 0, slots := 0, locals := 0 }
def wp_X7_layBird (K : HF → Prop) (F : HF) (a1 : Int32) (a2 : Int32) (a3 : Int32) (a4 : Int32) (a5 : Int32) : Prop := (vp_in ((nI 4) * a1) 32) ∧ (∀ F1 : HF, F1 = hup F 114 ((nI 4) * a1).toNatClampNeg a2 → ((vp_in (((nI 4) * a1) + (nI 1)) 32) ∧ (∀ F2 : HF, F2 = hup F1 114 (((nI 4) * a1) + (nI 1)).toNatClampNeg a3 → ((vp_in (((nI 4) * a1) + (nI 2)) 32) ∧ (∀ F3 : HF, F3 = hup F2 114 (((nI 4) * a1) + (nI 2)).toNatClampNeg a4 → ((vp_in (((nI 4) * a1) + (nI 3)) 32) ∧ (∀ F4 : HF, F4 = hup F3 114 (((nI 4) * a1) + (nI 3)).toNatClampNeg a5 → (K F4))))))))
set_option maxRecDepth 100000 in
set_option maxHeartbeats 4000000 in
theorem c_X7_layBird {l : Launch} {D : va_G} {dA : Nat → ClassId} {ad : Nat → Nat} {R : List Nat} {F : HF} {a1 : Int32} {a2 : Int32} {a3 : Int32} {a4 : Int32} {a5 : Int32} {K : HF → Prop} (hT : Md R) (h : wp_X7_layBird K F a1 a2 a3 a4 a5) : MV l yX7_layBird cX7_layBird 6 rm_X7_layBird D dA ad R F [.ref (ad 100), .int a1, .int a2, .int a3, .int a4, .int a5] K := by
  refine MV.of (own := RX7) (by decide) rfl (Nat.le_of_ble_eq_true rfl) ?_
  intro p e s m args below meth c A hA X hr
  unfold wp_X7_layBird at h
  show J p l e rm_X7_layBird s m args below meth c 6 D dA ad R A (QV D dA ad R A below args s K) F 0 [(0, .ref (ad 100)), (1, .int a1), (2, .int a2), (3, .int a3), (4, .int a4), (5, .int a5)] []
  refine r_aload_n (pc := 0) X 0 dX7_layBird_0 rfl rfl ?_
  refine fg_X7_26 (pc := 1) X hT.1 dX7_layBird_1 ?_
  refine r_iconst (pc := 4) (v := (nI 4)) X dX7_layBird_4 (by decide) ?_
  refine r_iload_n (pc := 5) X 1 dX7_layBird_5 rfl rfl ?_
  refine r_imul (pc := 6) X dX7_layBird_6 ?_
  refine r_iload_n (pc := 7) X 2 dX7_layBird_7 rfl rfl ?_
  refine r_iast (pc := 8) X hT.2.2.2.2.2.1 h.1 dX7_layBird_8 (fun F1 e1 => ?_)
  replace h := h.2 F1 e1
  refine r_aload_n (pc := 9) X 0 dX7_layBird_9 rfl rfl ?_
  refine fg_X7_26 (pc := 10) X hT.1 dX7_layBird_10 ?_
  refine r_iconst (pc := 13) (v := (nI 4)) X dX7_layBird_13 (by decide) ?_
  refine r_iload_n (pc := 14) X 1 dX7_layBird_14 rfl rfl ?_
  refine r_imul (pc := 15) X dX7_layBird_15 ?_
  refine r_iconst (pc := 16) (v := (nI 1)) X dX7_layBird_16 (by decide) ?_
  refine r_iadd (pc := 17) X dX7_layBird_17 ?_
  refine r_iload_n (pc := 18) X 3 dX7_layBird_18 rfl rfl ?_
  refine r_iast (pc := 19) X hT.2.2.2.2.2.1 h.1 dX7_layBird_19 (fun F2 e1 => ?_)
  replace h := h.2 F2 e1
  refine r_aload_n (pc := 20) X 0 dX7_layBird_20 rfl rfl ?_
  refine fg_X7_26 (pc := 21) X hT.1 dX7_layBird_21 ?_
  refine r_iconst (pc := 24) (v := (nI 4)) X dX7_layBird_24 (by decide) ?_
  refine r_iload_n (pc := 25) X 1 dX7_layBird_25 rfl rfl ?_
  refine r_imul (pc := 26) X dX7_layBird_26 ?_
  refine r_iconst (pc := 27) (v := (nI 2)) X dX7_layBird_27 (by decide) ?_
  refine r_iadd (pc := 28) X dX7_layBird_28 ?_
  refine r_iload (pc := 29) X 4 dX7_layBird_29 rfl ?_
  refine r_iast (pc := 31) X hT.2.2.2.2.2.1 h.1 dX7_layBird_31 (fun F3 e1 => ?_)
  replace h := h.2 F3 e1
  refine r_aload_n (pc := 32) X 0 dX7_layBird_32 rfl rfl ?_
  refine fg_X7_26 (pc := 33) X hT.1 dX7_layBird_33 ?_
  refine r_iconst (pc := 36) (v := (nI 4)) X dX7_layBird_36 (by decide) ?_
  refine r_iload_n (pc := 37) X 1 dX7_layBird_37 rfl rfl ?_
  refine r_imul (pc := 38) X dX7_layBird_38 ?_
  refine r_iconst (pc := 39) (v := (nI 3)) X dX7_layBird_39 (by decide) ?_
  refine r_iadd (pc := 40) X dX7_layBird_40 ?_
  refine r_iload (pc := 41) X 5 dX7_layBird_41 rfl ?_
  refine r_iast (pc := 43) X hT.2.2.2.2.2.1 h.1 dX7_layBird_43 (fun F4 e1 => ?_)
  replace h := h.2 F4 e1
  exact r_vret (pc := 44) X hr dX7_layBird_44 h
theorem dX7_in_0 : decode cX7_in 0 = .ok (.iload_n 0, 1) := by decide +kernel
theorem dX7_in_1 : decode cX7_in 1 = .ok (.iload_n 1, 1) := by decide +kernel
theorem dX7_in_2 : decode cX7_in 2 = .ok (.if_icmp .lt 12, 3) := by decide +kernel
theorem dX7_in_5 : decode cX7_in 5 = .ok (.iload_n 0, 1) := by decide +kernel
theorem dX7_in_6 : decode cX7_in 6 = .ok (.iload_n 2, 1) := by decide +kernel
theorem dX7_in_7 : decode cX7_in 7 = .ok (.if_icmp .gt 7, 3) := by decide +kernel
theorem dX7_in_10 : decode cX7_in 10 = .ok (.iconst 1, 1) := by decide +kernel
theorem dX7_in_11 : decode cX7_in 11 = .ok (.goto 4, 3) := by decide +kernel
theorem dX7_in_14 : decode cX7_in 14 = .ok (.iconst 0, 1) := by decide +kernel
theorem dX7_in_15 : decode cX7_in 15 = .ok (.ireturn, 1) := by decide +kernel
theorem hd_X7_in : yX7_in.cls = RX7 ∧ yX7_in.cls ≠ "java/lang/invoke/MethodHandle" ∧ yX7_in.cls ≠ "java/lang/invoke/VarHandle" ∧ (parseMethodDescriptor yX7_in.desc).map (fun d => d.parameters.length) = some 3 := by decide +kernel
abbrev rm_X7_in : Room := { frames := 0, cells := 0, slots := 0, locals := 0 }
def wp_X7_in (K : Int32 → HF → Prop) (F : HF) (a1 : Int32) (a2 : Int32) (a3 : Int32) : Prop := ((a1 < a2) → (K (nI 0) F)) ∧ ((¬ a1 < a2) → (((a3 < a1) → (K (nI 0) F)) ∧ ((¬ a3 < a1) → (K (nI 1) F))))
set_option maxRecDepth 100000 in
set_option maxHeartbeats 4000000 in
theorem c_X7_in {l : Launch} {D : va_G} {dA : Nat → ClassId} {ad : Nat → Nat} {R : List Nat} {F : HF} {a1 : Int32} {a2 : Int32} {a3 : Int32} {K : Int32 → HF → Prop} (h : wp_X7_in K F a1 a2 a3) : MI l yX7_in cX7_in 3 .boolean rm_X7_in D dA ad R F [.int a1, .int a2, .int a3] K := by
  refine MI.of (own := RX7) (by decide) rfl (Nat.le_of_ble_eq_true rfl) ?_
  intro p e s m args below meth c A hA X hr
  unfold wp_X7_in at h
  show J p l e rm_X7_in s m args below meth c 3 D dA ad R A (QI D dA ad R A below args s K) F 0 [(0, .int a1), (1, .int a2), (2, .int a3)] []
  refine r_iload_n (pc := 0) X 0 dX7_in_0 rfl rfl ?_
  refine r_iload_n (pc := 1) X 1 dX7_in_1 rfl rfl ?_
  refine r_icmp_lt (pc := 2) (tgt := 14) X dX7_in_2 (by decide) (fun hc => ?_) (fun hc => ?_)
  · replace h := h.1 hc
    refine r_iconst (pc := 14) (v := (nI 0)) X dX7_in_14 (by decide) ?_
    exact r_zret (pc := 15) X hr dX7_in_15 nb0 h
  · replace h := h.2 hc
    refine r_iload_n (pc := 5) X 0 dX7_in_5 rfl rfl ?_
    refine r_iload_n (pc := 6) X 2 dX7_in_6 rfl rfl ?_
    refine r_icmp_gt (pc := 7) (tgt := 14) X dX7_in_7 (by decide) (fun hc => ?_) (fun hc => ?_)
    · replace h := h.1 hc
      refine r_iconst (pc := 14) (v := (nI 0)) X dX7_in_14 (by decide) ?_
      exact r_zret (pc := 15) X hr dX7_in_15 nb0 h
    · replace h := h.2 hc
      refine r_iconst (pc := 10) (v := (nI 1)) X dX7_in_10 (by decide) ?_
      refine r_goto (pc := 11) (tgt := 15) X dX7_in_11 (by decide) ?_
      exact r_zret (pc := 15) X hr dX7_in_15 nb1 h
theorem dX7_has_0 : decode cX7_has 0 = .ok (.iload_n 0, 1) := by decide +kernel
theorem dX7_has_1 : decode cX7_has 1 = .ok (.iload_n 1, 1) := by decide +kernel
theorem dX7_has_2 : decode cX7_has 2 = .ok (.ishr, 1) := by decide +kernel
theorem dX7_has_3 : decode cX7_has 3 = .ok (.iconst 1, 1) := by decide +kernel
theorem dX7_has_4 : decode cX7_has 4 = .ok (.iand, 1) := by decide +kernel
theorem dX7_has_5 : decode cX7_has 5 = .ok (.iconst 1, 1) := by decide +kernel
theorem dX7_has_6 : decode cX7_has 6 = .ok (.if_icmp .ne 7, 3) := by decide +kernel
theorem dX7_has_9 : decode cX7_has 9 = .ok (.iconst 1, 1) := by decide +kernel
theorem dX7_has_10 : decode cX7_has 10 = .ok (.goto 4, 3) := by decide +kernel
theorem dX7_has_13 : decode cX7_has 13 = .ok (.iconst 0, 1) := by decide +kernel
theorem dX7_has_14 : decode cX7_has 14 = .ok (.ireturn, 1) := by decide +kernel
theorem hd_X7_has : yX7_has.cls = RX7 ∧ yX7_has.cls ≠ "java/lang/invoke/MethodHandle" ∧ yX7_has.cls ≠ "java/lang/invoke/VarHandle" ∧ (parseMethodDescriptor yX7_has.desc).map (fun d => d.parameters.length) = some 2 := by decide +kernel
abbrev rm_X7_has : Room := { frames := 0, cells := 0, slots := 0, locals := 0 }
def wp_X7_has (K : Int32 → HF → Prop) (F : HF) (a1 : Int32) (a2 : Int32) : Prop := ((¬ ((a1 >>> (a2 &&& 31)) &&& (nI 1)) = (nI 1)) → (K (nI 0) F)) ∧ ((((a1 >>> (a2 &&& 31)) &&& (nI 1)) = (nI 1)) → (K (nI 1) F))
set_option maxRecDepth 100000 in
set_option maxHeartbeats 4000000 in
theorem c_X7_has {l : Launch} {D : va_G} {dA : Nat → ClassId} {ad : Nat → Nat} {R : List Nat} {F : HF} {a1 : Int32} {a2 : Int32} {K : Int32 → HF → Prop} (h : wp_X7_has K F a1 a2) : MI l yX7_has cX7_has 2 .boolean rm_X7_has D dA ad R F [.int a1, .int a2] K := by
  refine MI.of (own := RX7) (by decide) rfl (Nat.le_of_ble_eq_true rfl) ?_
  intro p e s m args below meth c A hA X hr
  unfold wp_X7_has at h
  show J p l e rm_X7_has s m args below meth c 2 D dA ad R A (QI D dA ad R A below args s K) F 0 [(0, .int a1), (1, .int a2)] []
  refine r_iload_n (pc := 0) X 0 dX7_has_0 rfl rfl ?_
  refine r_iload_n (pc := 1) X 1 dX7_has_1 rfl rfl ?_
  refine r_ishr (pc := 2) X dX7_has_2 ?_
  refine r_iconst (pc := 3) (v := (nI 1)) X dX7_has_3 (by decide) ?_
  refine r_iand (pc := 4) X dX7_has_4 ?_
  refine r_iconst (pc := 5) (v := (nI 1)) X dX7_has_5 (by decide) ?_
  refine r_icmp_ne (pc := 6) (tgt := 13) X dX7_has_6 (by decide) (fun hc => ?_) (fun hc => ?_)
  · replace h := h.1 hc
    refine r_iconst (pc := 13) (v := (nI 0)) X dX7_has_13 (by decide) ?_
    exact r_zret (pc := 14) X hr dX7_has_14 nb0 h
  · replace h := h.2 hc
    refine r_iconst (pc := 9) (v := (nI 1)) X dX7_has_9 (by decide) ?_
    refine r_goto (pc := 10) (tgt := 14) X dX7_has_10 (by decide) ?_
    exact r_zret (pc := 14) X hr dX7_has_14 nb1 h
theorem dX7_begin_0 : decode cX7_begin 0 = .ok (.iconst 0, 1) := by decide +kernel
theorem dX7_begin_1 : decode cX7_begin 1 = .ok (.istore_n 1, 1) := by decide +kernel
theorem dX7_begin_2 : decode cX7_begin 2 = .ok (.iload_n 1, 1) := by decide +kernel
theorem dX7_begin_3 : decode cX7_begin 3 = .ok (.bipush 21, 2) := by decide +kernel
theorem dX7_begin_5 : decode cX7_begin 5 = .ok (.if_icmp .ge 16, 3) := by decide +kernel
theorem dX7_begin_8 : decode cX7_begin 8 = .ok (.aload_n 0, 1) := by decide +kernel
theorem dX7_begin_9 : decode cX7_begin 9 = .ok (.getfield 44, 3) := by decide +kernel
theorem dX7_begin_12 : decode cX7_begin 12 = .ok (.iload_n 1, 1) := by decide +kernel
theorem dX7_begin_13 : decode cX7_begin 13 = .ok (.iconst 0, 1) := by decide +kernel
theorem dX7_begin_14 : decode cX7_begin 14 = .ok (.iastore, 1) := by decide +kernel
theorem dX7_begin_15 : decode cX7_begin 15 = .ok (.iinc 1 1, 3) := by decide +kernel
theorem dX7_begin_18 : decode cX7_begin 18 = .ok (.goto (-16), 3) := by decide +kernel
theorem dX7_begin_21 : decode cX7_begin 21 = .ok (.aload_n 0, 1) := by decide +kernel
theorem dX7_begin_22 : decode cX7_begin 22 = .ok (.getfield 44, 3) := by decide +kernel
theorem dX7_begin_25 : decode cX7_begin 25 = .ok (.iconst 3, 1) := by decide +kernel
theorem dX7_begin_26 : decode cX7_begin 26 = .ok (.iconst (-1), 1) := by decide +kernel
theorem dX7_begin_27 : decode cX7_begin 27 = .ok (.iastore, 1) := by decide +kernel
theorem dX7_begin_28 : decode cX7_begin 28 = .ok (.aload_n 0, 1) := by decide +kernel
theorem dX7_begin_29 : decode cX7_begin 29 = .ok (.iconst 0, 1) := by decide +kernel
theorem dX7_begin_30 : decode cX7_begin 30 = .ok (.putfield 78, 3) := by decide +kernel
theorem dX7_begin_33 : decode cX7_begin 33 = .ok (.aload_n 0, 1) := by decide +kernel
theorem dX7_begin_34 : decode cX7_begin 34 = .ok (.iconst 0, 1) := by decide +kernel
theorem dX7_begin_35 : decode cX7_begin 35 = .ok (.putfield 81, 3) := by decide +kernel
theorem dX7_begin_38 : decode cX7_begin 38 = .ok (.aload_n 0, 1) := by decide +kernel
theorem dX7_begin_39 : decode cX7_begin 39 = .ok (.iconst 0, 1) := by decide +kernel
theorem dX7_begin_40 : decode cX7_begin 40 = .ok (.putfield 84, 3) := by decide +kernel
theorem dX7_begin_43 : decode cX7_begin 43 = .ok (.return_, 1) := by decide +kernel
theorem hd_X7_begin : yX7_begin.cls = RX7 ∧ yX7_begin.cls ≠ "java/lang/invoke/MethodHandle" ∧ yX7_begin.cls ≠ "java/lang/invoke/VarHandle" ∧ (parseMethodDescriptor yX7_begin.desc).map (fun d => d.parameters.length) = some 0 := by decide +kernel
abbrev rm_X7_begin : Room := { frames := 0, cells := 0, slots := 0, locals := 0 }
def wp_X7_begin_2 (K : HF → Prop) : Nat → HF → Int32 → Prop
  | 0 => fun _ _ => False
  | n2_ + 1 => fun F v1 => (((nI 21) ≤ v1) → ((vp_in (nI 3) 21) ∧ (∀ F101 : HF, F101 = hup F 120 (nI 3).toNatClampNeg (-1 : Int32) → (∀ F102 : HF, F102 = hup F101 100 23 (nI 0) → (∀ F103 : HF, F103 = hup F102 100 25 (nI 0) → (∀ F104 : HF, F104 = hup F103 100 27 (nI 0) → (K F104))))))) ∧ ((¬ (nI 21) ≤ v1) → ((vp_in v1 21) ∧ (∀ F105 : HF, F105 = hup F 120 v1.toNatClampNeg (nI 0) → (wp_X7_begin_2 K  n2_ F105 (v1 + (nI 1))))))
set_option maxRecDepth 100000 in
set_option maxHeartbeats 4000000 in
theorem k_X7_begin_2 {p : Program} {l : Launch} {e : Env} {s : State} {m : MethodId} {args : Array Value} {below : List Frame} {meth : Method} {c : Code} {D : va_G} {dA : Nat → ClassId} {ad : Nat → Nat} {R : List Nat} {A : Nat → Prop} {K : HF → Prop} (X : Cx p s m args meth c cX7_begin 2 RX7 D dA) (hA : ∀ q, s.heap.size ≤ q → A q) (hr : meth.sig.returnType = none) (hT : Md R) : ∀ (n_ : Nat) (F : HF) (v1 : Int32), wp_X7_begin_2 K  n_ F v1 → J p l e rm_X7_begin s m args below meth c 2 D dA ad R A (QV D dA ad R A below args s K) F 2 [(0, .ref (ad 100)), (1, .int v1)] [] := by
  intro n_
  induction n_ with
  | zero => intro F v1 h; exact h.elim
  | succ n_ ih =>
    intro F v1 h
    unfold wp_X7_begin_2 at h
    refine r_iload_n (pc := 2) X 1 dX7_begin_2 rfl rfl ?_
    refine r_bipush (pc := 3) (v := (nI 21)) X dX7_begin_3 (by decide) ?_
    refine r_icmp_ge (pc := 5) (tgt := 21) X dX7_begin_5 (by decide) (fun hc => ?_) (fun hc => ?_)
    · replace h := h.1 hc
      refine r_aload_n (pc := 21) X 0 dX7_begin_21 rfl rfl ?_
      refine fg_X7_44 (pc := 22) X hT.1 dX7_begin_22 ?_
      refine r_iconst (pc := 25) (v := (nI 3)) X dX7_begin_25 (by decide) ?_
      refine r_iconst (pc := 26) (v := (-1 : Int32)) X dX7_begin_26 (by decide) ?_
      refine r_iast (pc := 27) X hT.2.2.2.2.2.2.2.1 h.1 dX7_begin_27 (fun F101 e1 => ?_)
      replace h := h.2 F101 e1
      refine r_aload_n (pc := 28) X 0 dX7_begin_28 rfl rfl ?_
      refine r_iconst (pc := 29) (v := (nI 0)) X dX7_begin_29 (by decide) ?_
      refine fp_X7_78 (pc := 30) X hT.1 dX7_begin_30 (fun F102 e1 => ?_)
      replace h := h F102 e1
      refine r_aload_n (pc := 33) X 0 dX7_begin_33 rfl rfl ?_
      refine r_iconst (pc := 34) (v := (nI 0)) X dX7_begin_34 (by decide) ?_
      refine fp_X7_81 (pc := 35) X hT.1 dX7_begin_35 (fun F103 e1 => ?_)
      replace h := h F103 e1
      refine r_aload_n (pc := 38) X 0 dX7_begin_38 rfl rfl ?_
      refine r_iconst (pc := 39) (v := (nI 0)) X dX7_begin_39 (by decide) ?_
      refine fp_X7_84 (pc := 40) X hT.1 dX7_begin_40 (fun F104 e1 => ?_)
      replace h := h F104 e1
      exact r_vret (pc := 43) X hr dX7_begin_43 h
    · replace h := h.2 hc
      refine r_aload_n (pc := 8) X 0 dX7_begin_8 rfl rfl ?_
      refine fg_X7_44 (pc := 9) X hT.1 dX7_begin_9 ?_
      refine r_iload_n (pc := 12) X 1 dX7_begin_12 rfl rfl ?_
      refine r_iconst (pc := 13) (v := (nI 0)) X dX7_begin_13 (by decide) ?_
      refine r_iast (pc := 14) X hT.2.2.2.2.2.2.2.1 h.1 dX7_begin_14 (fun F105 e1 => ?_)
      replace h := h.2 F105 e1
      refine r_iinc (pc := 15) (v := (v1 + (nI 1))) X 1 [(1, .int (v1 + (nI 1))), (0, .ref (ad 100))] dX7_begin_15 rfl rfl (by decide) rfl ?_
      refine r_goto (pc := 18) (tgt := 2) X dX7_begin_18 (by decide) ?_
      refine r_sub [1, 0] rfl ?_
      exact ih _ _ h
def wp_X7_begin (K : HF → Prop) (F : HF) : Prop := ∃ m_, wp_X7_begin_2 K  m_ F (nI 0)
set_option maxRecDepth 100000 in
set_option maxHeartbeats 4000000 in
theorem c_X7_begin {l : Launch} {D : va_G} {dA : Nat → ClassId} {ad : Nat → Nat} {R : List Nat} {F : HF} {K : HF → Prop} (hT : Md R) (h : wp_X7_begin K F ) : MV l yX7_begin cX7_begin 2 rm_X7_begin D dA ad R F [.ref (ad 100)] K := by
  refine MV.of (own := RX7) (by decide) rfl (Nat.le_of_ble_eq_true rfl) ?_
  intro p e s m args below meth c A hA X hr
  unfold wp_X7_begin at h
  show J p l e rm_X7_begin s m args below meth c 2 D dA ad R A (QV D dA ad R A below args s K) F 0 [(0, .ref (ad 100))] []
  refine r_iconst (pc := 0) (v := (nI 0)) X dX7_begin_0 (by decide) ?_
  refine r_istore_n (pc := 1) X [(1, .int (nI 0)), (0, .ref (ad 100))] dX7_begin_1 rfl (by decide) rfl ?_
  refine r_sub [1, 0] rfl ?_
  obtain ⟨n1, h⟩ := h
  exact k_X7_begin_2 X hA hr hT  n1 _ _ h
theorem dX7_write_0 : decode cX7_write 0 = .ok (.iload_n 1, 1) := by decide +kernel
theorem dX7_write_1 : decode cX7_write 1 = .ok (.bipush 32, 2) := by decide +kernel
theorem dX7_write_3 : decode cX7_write 3 = .ok (.bipush 126, 2) := by decide +kernel
theorem dX7_write_5 : decode cX7_write 5 = .ok (.invokestatic 87, 3) := by decide +kernel
theorem dX7_write_8 : decode cX7_write 8 = .ok (.ifCond .ne 5, 3) := by decide +kernel
theorem dX7_write_11 : decode cX7_write 11 = .ok (.iconst (-1), 1) := by decide +kernel
theorem dX7_write_12 : decode cX7_write 12 = .ok (.ireturn, 1) := by decide +kernel
theorem dX7_write_13 : decode cX7_write 13 = .ok (.aload_n 0, 1) := by decide +kernel
theorem dX7_write_14 : decode cX7_write 14 = .ok (.getfield 91, 3) := by decide +kernel
theorem dX7_write_17 : decode cX7_write 17 = .ok (.sipush 200, 3) := by decide +kernel
theorem dX7_write_20 : decode cX7_write 20 = .ok (.if_icmp .ne 6, 3) := by decide +kernel
theorem dX7_write_23 : decode cX7_write 23 = .ok (.bipush (-3), 2) := by decide +kernel
theorem dX7_write_25 : decode cX7_write 25 = .ok (.ireturn, 1) := by decide +kernel
theorem dX7_write_26 : decode cX7_write 26 = .ok (.aload_n 0, 1) := by decide +kernel
theorem dX7_write_27 : decode cX7_write 27 = .ok (.getfield 7, 3) := by decide +kernel
theorem dX7_write_30 : decode cX7_write 30 = .ok (.aload_n 0, 1) := by decide +kernel
theorem dX7_write_31 : decode cX7_write 31 = .ok (.getfield 91, 3) := by decide +kernel
theorem dX7_write_34 : decode cX7_write 34 = .ok (.iload_n 1, 1) := by decide +kernel
theorem dX7_write_35 : decode cX7_write 35 = .ok (.iastore, 1) := by decide +kernel
theorem dX7_write_36 : decode cX7_write 36 = .ok (.aload_n 0, 1) := by decide +kernel
theorem dX7_write_37 : decode cX7_write 37 = .ok (.dup, 1) := by decide +kernel
theorem dX7_write_38 : decode cX7_write 38 = .ok (.getfield 91, 3) := by decide +kernel
theorem dX7_write_41 : decode cX7_write 41 = .ok (.iconst 1, 1) := by decide +kernel
theorem dX7_write_42 : decode cX7_write 42 = .ok (.iadd, 1) := by decide +kernel
theorem dX7_write_43 : decode cX7_write 43 = .ok (.putfield 91, 3) := by decide +kernel
theorem dX7_write_46 : decode cX7_write 46 = .ok (.aload_n 0, 1) := by decide +kernel
theorem dX7_write_47 : decode cX7_write 47 = .ok (.getfield 91, 3) := by decide +kernel
theorem dX7_write_50 : decode cX7_write 50 = .ok (.ireturn, 1) := by decide +kernel
theorem hd_X7_write : yX7_write.cls = RX7 ∧ yX7_write.cls ≠ "java/lang/invoke/MethodHandle" ∧ yX7_write.cls ≠ "java/lang/invoke/VarHandle" ∧ (parseMethodDescriptor yX7_write.desc).map (fun d => d.parameters.length) = some 1 := by decide +kernel
abbrev rm_X7_write : Room := { frames := 1, cells := 0, slots := 0, locals := 22 }
def wp_X7_write (K : Int32 → HF → Prop) (F : HF) (a1 : Int32) : Prop := wp_X7_in (fun x1 F1 => ((¬ x1 = (nI 0)) → (((¬ (F1 100 0) = (nI 200)) → ((vp_in (F1 100 0) 200) ∧ (∀ F2 : HF, F2 = hup F1 101 (F1 100 0).toNatClampNeg a1 → (∀ F3 : HF, F3 = hup F2 100 0 ((F2 100 0) + (nI 1)) → (K (F3 100 0) F3))))) ∧ (((F1 100 0) = (nI 200)) → (K (-3 : Int32) F1)))) ∧ ((x1 = (nI 0)) → (K (-1 : Int32) F1))) F a1 (nI 32) (nI 126)
set_option maxRecDepth 100000 in
set_option maxHeartbeats 4000000 in
theorem c_X7_write {l : Launch} {D : va_G} {dA : Nat → ClassId} {ad : Nat → Nat} {R : List Nat} {F : HF} {a1 : Int32} {K : Int32 → HF → Prop} (hT : Md R) (h : wp_X7_write K F a1) : MI l yX7_write cX7_write 2 .int rm_X7_write D dA ad R F [.ref (ad 100), .int a1] K := by
  refine MI.of (own := RX7) (by decide) rfl (Nat.le_of_ble_eq_true rfl) ?_
  intro p e s m args below meth c A hA X hr
  unfold wp_X7_write at h
  show J p l e rm_X7_write s m args below meth c 2 D dA ad R A (QI D dA ad R A below args s K) F 0 [(0, .ref (ad 100)), (1, .int a1)] []
  refine r_iload_n (pc := 0) X 1 dX7_write_0 rfl rfl ?_
  refine r_bipush (pc := 1) (v := (nI 32)) X dX7_write_1 (by decide) ?_
  refine r_bipush (pc := 3) (v := (nI 126)) X dX7_write_3 (by decide) ?_
  refine r_callIS (pc := 5) (As := [.int a1, .int (nI 32), .int (nI 126)]) (st := []) X hA (c_X7_in  h) g_X7_87 hd_X7_in rfl rfl rfl ⟨Nat.le_of_ble_eq_true rfl, Nat.le_of_ble_eq_true rfl⟩ rfl (Nat.le_of_ble_eq_true rfl) dX7_write_5 (fun x1 F1 h => ?_)
  refine r_if_ne (pc := 8) (tgt := 13) X dX7_write_8 (by decide) (fun hc => ?_) (fun hc => ?_)
  · replace h := h.1 hc
    refine r_aload_n (pc := 13) X 0 dX7_write_13 rfl rfl ?_
    refine fg_X7_91 (pc := 14) X hT.1 dX7_write_14 ?_
    refine r_sipush (pc := 17) (v := (nI 200)) X dX7_write_17 (by decide) ?_
    refine r_icmp_ne (pc := 20) (tgt := 26) X dX7_write_20 (by decide) (fun hc => ?_) (fun hc => ?_)
    · replace h := h.1 hc
      refine r_aload_n (pc := 26) X 0 dX7_write_26 rfl rfl ?_
      refine fg_X7_7 (pc := 27) X hT.1 dX7_write_27 ?_
      refine r_aload_n (pc := 30) X 0 dX7_write_30 rfl rfl ?_
      refine fg_X7_91 (pc := 31) X hT.1 dX7_write_31 ?_
      refine r_iload_n (pc := 34) X 1 dX7_write_34 rfl rfl ?_
      refine r_iast (pc := 35) X hT.2.1 h.1 dX7_write_35 (fun F2 e1 => ?_)
      replace h := h.2 F2 e1
      refine r_aload_n (pc := 36) X 0 dX7_write_36 rfl rfl ?_
      refine r_dup (pc := 37) X dX7_write_37 rfl ?_
      refine fg_X7_91 (pc := 38) X hT.1 dX7_write_38 ?_
      refine r_iconst (pc := 41) (v := (nI 1)) X dX7_write_41 (by decide) ?_
      refine r_iadd (pc := 42) X dX7_write_42 ?_
      refine fp_X7_91 (pc := 43) X hT.1 dX7_write_43 (fun F3 e1 => ?_)
      replace h := h F3 e1
      refine r_aload_n (pc := 46) X 0 dX7_write_46 rfl rfl ?_
      refine fg_X7_91 (pc := 47) X hT.1 dX7_write_47 ?_
      exact r_iret (pc := 50) X hr dX7_write_50 h
    · replace h := h.2 hc
      refine r_bipush (pc := 23) (v := (-3 : Int32)) X dX7_write_23 (by decide) ?_
      exact r_iret (pc := 25) X hr dX7_write_25 h
  · replace h := h.2 hc
    refine r_iconst (pc := 11) (v := (-1 : Int32)) X dX7_write_11 (by decide) ?_
    exact r_iret (pc := 12) X hr dX7_write_12 h
theorem dX7_wipe_0 : decode cX7_wipe 0 = .ok (.aload_n 0, 1) := by decide +kernel
theorem dX7_wipe_1 : decode cX7_wipe 1 = .ok (.getfield 91, 3) := by decide +kernel
theorem dX7_wipe_4 : decode cX7_wipe 4 = .ok (.istore_n 1, 1) := by decide +kernel
theorem dX7_wipe_5 : decode cX7_wipe 5 = .ok (.aload_n 0, 1) := by decide +kernel
theorem dX7_wipe_6 : decode cX7_wipe 6 = .ok (.iconst 0, 1) := by decide +kernel
theorem dX7_wipe_7 : decode cX7_wipe 7 = .ok (.putfield 91, 3) := by decide +kernel
theorem dX7_wipe_10 : decode cX7_wipe 10 = .ok (.iload_n 1, 1) := by decide +kernel
theorem dX7_wipe_11 : decode cX7_wipe 11 = .ok (.ireturn, 1) := by decide +kernel
theorem hd_X7_wipe : yX7_wipe.cls = RX7 ∧ yX7_wipe.cls ≠ "java/lang/invoke/MethodHandle" ∧ yX7_wipe.cls ≠ "java/lang/invoke/VarHandle" ∧ (parseMethodDescriptor yX7_wipe.desc).map (fun d => d.parameters.length) = some 0 := by decide +kernel
abbrev rm_X7_wipe : Room := { frames := 0, cells := 0, slots := 0, locals := 0 }
def wp_X7_wipe (K : Int32 → HF → Prop) (F : HF) : Prop := ∀ F1 : HF, F1 = hup F 100 0 (nI 0) → (K (F 100 0) F1)
set_option maxRecDepth 100000 in
set_option maxHeartbeats 4000000 in
theorem c_X7_wipe {l : Launch} {D : va_G} {dA : Nat → ClassId} {ad : Nat → Nat} {R : List Nat} {F : HF} {K : Int32 → HF → Prop} (hT : Md R) (h : wp_X7_wipe K F ) : MI l yX7_wipe cX7_wipe 2 .int rm_X7_wipe D dA ad R F [.ref (ad 100)] K := by
  refine MI.of (own := RX7) (by decide) rfl (Nat.le_of_ble_eq_true rfl) ?_
  intro p e s m args below meth c A hA X hr
  unfold wp_X7_wipe at h
  show J p l e rm_X7_wipe s m args below meth c 2 D dA ad R A (QI D dA ad R A below args s K) F 0 [(0, .ref (ad 100))] []
  refine r_aload_n (pc := 0) X 0 dX7_wipe_0 rfl rfl ?_
  refine fg_X7_91 (pc := 1) X hT.1 dX7_wipe_1 ?_
  refine r_istore_n (pc := 4) X [(1, .int (F 100 0)), (0, .ref (ad 100))] dX7_wipe_4 rfl (by decide) rfl ?_
  refine r_aload_n (pc := 5) X 1 dX7_wipe_5 rfl rfl ?_
  refine r_iconst (pc := 6) (v := (nI 0)) X dX7_wipe_6 (by decide) ?_
  refine fp_X7_91 (pc := 7) X hT.1 dX7_wipe_7 (fun F1 e1 => ?_)
  replace h := h F1 e1
  refine r_iload_n (pc := 10) X 0 dX7_wipe_10 rfl rfl ?_
  exact r_iret (pc := 11) X hr dX7_wipe_11 h
theorem dX7_letterAt_0 : decode cX7_letterAt 0 = .ok (.iload_n 1, 1) := by decide +kernel
theorem dX7_letterAt_1 : decode cX7_letterAt 1 = .ok (.aload_n 0, 1) := by decide +kernel
theorem dX7_letterAt_2 : decode cX7_letterAt 2 = .ok (.getfield 91, 3) := by decide +kernel
theorem dX7_letterAt_5 : decode cX7_letterAt 5 = .ok (.if_icmp .ge 12, 3) := by decide +kernel
theorem dX7_letterAt_8 : decode cX7_letterAt 8 = .ok (.aload_n 0, 1) := by decide +kernel
theorem dX7_letterAt_9 : decode cX7_letterAt 9 = .ok (.getfield 7, 3) := by decide +kernel
theorem dX7_letterAt_12 : decode cX7_letterAt 12 = .ok (.iload_n 1, 1) := by decide +kernel
theorem dX7_letterAt_13 : decode cX7_letterAt 13 = .ok (.iaload, 1) := by decide +kernel
theorem dX7_letterAt_14 : decode cX7_letterAt 14 = .ok (.goto 4, 3) := by decide +kernel
theorem dX7_letterAt_17 : decode cX7_letterAt 17 = .ok (.iconst (-1), 1) := by decide +kernel
theorem dX7_letterAt_18 : decode cX7_letterAt 18 = .ok (.ireturn, 1) := by decide +kernel
theorem hd_X7_letterAt : yX7_letterAt.cls = RX7 ∧ yX7_letterAt.cls ≠ "java/lang/invoke/MethodHandle" ∧ yX7_letterAt.cls ≠ "java/lang/invoke/VarHandle" ∧ (parseMethodDescriptor yX7_letterAt.desc).map (fun d => d.parameters.length) = some 1 := by decide +kernel
abbrev rm_X7_letterAt : Room := { frames := 0, cells := 0, slots := 0, locals := 0 }
def wp_X7_letterAt (K : Int32 → HF → Prop) (F : HF) (a1 : Int32) : Prop := (((F 100 0) ≤ a1) → (K (-1 : Int32) F)) ∧ ((¬ (F 100 0) ≤ a1) → ((vp_in a1 200) ∧ (K (F 101 a1.toNatClampNeg) F)))
set_option maxRecDepth 100000 in
set_option maxHeartbeats 4000000 in
theorem c_X7_letterAt {l : Launch} {D : va_G} {dA : Nat → ClassId} {ad : Nat → Nat} {R : List Nat} {F : HF} {a1 : Int32} {K : Int32 → HF → Prop} (hT : Md R) (h : wp_X7_letterAt K F a1) : MI l yX7_letterAt cX7_letterAt 2 .int rm_X7_letterAt D dA ad R F [.ref (ad 100), .int a1] K := by
  refine MI.of (own := RX7) (by decide) rfl (Nat.le_of_ble_eq_true rfl) ?_
  intro p e s m args below meth c A hA X hr
  unfold wp_X7_letterAt at h
  show J p l e rm_X7_letterAt s m args below meth c 2 D dA ad R A (QI D dA ad R A below args s K) F 0 [(0, .ref (ad 100)), (1, .int a1)] []
  refine r_iload_n (pc := 0) X 1 dX7_letterAt_0 rfl rfl ?_
  refine r_aload_n (pc := 1) X 0 dX7_letterAt_1 rfl rfl ?_
  refine fg_X7_91 (pc := 2) X hT.1 dX7_letterAt_2 ?_
  refine r_icmp_ge (pc := 5) (tgt := 17) X dX7_letterAt_5 (by decide) (fun hc => ?_) (fun hc => ?_)
  · replace h := h.1 hc
    refine r_iconst (pc := 17) (v := (-1 : Int32)) X dX7_letterAt_17 (by decide) ?_
    exact r_iret (pc := 18) X hr dX7_letterAt_18 h
  · replace h := h.2 hc
    refine r_aload_n (pc := 8) X 0 dX7_letterAt_8 rfl rfl ?_
    refine fg_X7_7 (pc := 9) X hT.1 dX7_letterAt_9 ?_
    refine r_iload_n (pc := 12) X 1 dX7_letterAt_12 rfl rfl ?_
    refine r_iald (pc := 13) X hT.2.1 h.1 dX7_letterAt_13 ?_
    replace h := h.2
    refine r_goto (pc := 14) (tgt := 18) X dX7_letterAt_14 (by decide) ?_
    exact r_iret (pc := 18) X hr dX7_letterAt_18 h
theorem dX7_isRow_0 : decode cX7_isRow 0 = .ok (.aload_n 0, 1) := by decide +kernel
theorem dX7_isRow_1 : decode cX7_isRow 1 = .ok (.iconst 0, 1) := by decide +kernel
theorem dX7_isRow_2 : decode cX7_isRow 2 = .ok (.putfield 94, 3) := by decide +kernel
theorem dX7_isRow_5 : decode cX7_isRow 5 = .ok (.aload_n 0, 1) := by decide +kernel
theorem dX7_isRow_6 : decode cX7_isRow 6 = .ok (.getfield 94, 3) := by decide +kernel
theorem dX7_isRow_9 : decode cX7_isRow 9 = .ok (.iload_n 1, 1) := by decide +kernel
theorem dX7_isRow_10 : decode cX7_isRow 10 = .ok (.if_icmp .ge 139, 3) := by decide +kernel
theorem dX7_isRow_13 : decode cX7_isRow 13 = .ok (.iconst 0, 1) := by decide +kernel
theorem dX7_isRow_14 : decode cX7_isRow 14 = .ok (.istore_n 2, 1) := by decide +kernel
theorem dX7_isRow_15 : decode cX7_isRow 15 = .ok (.aload_n 0, 1) := by decide +kernel
theorem dX7_isRow_16 : decode cX7_isRow 16 = .ok (.getfield 97, 3) := by decide +kernel
theorem dX7_isRow_19 : decode cX7_isRow 19 = .ok (.istore_n 3, 1) := by decide +kernel
theorem dX7_isRow_20 : decode cX7_isRow 20 = .ok (.aload_n 0, 1) := by decide +kernel
theorem dX7_isRow_21 : decode cX7_isRow 21 = .ok (.getfield 97, 3) := by decide +kernel
theorem dX7_isRow_24 : decode cX7_isRow 24 = .ok (.iload_n 3, 1) := by decide +kernel
theorem dX7_isRow_25 : decode cX7_isRow 25 = .ok (.iconst 2, 1) := by decide +kernel
theorem dX7_isRow_26 : decode cX7_isRow 26 = .ok (.iadd, 1) := by decide +kernel
theorem dX7_isRow_27 : decode cX7_isRow 27 = .ok (.if_icmp .ge 51, 3) := by decide +kernel
theorem dX7_isRow_30 : decode cX7_isRow 30 = .ok (.aload_n 0, 1) := by decide +kernel
theorem dX7_isRow_31 : decode cX7_isRow 31 = .ok (.aload_n 0, 1) := by decide +kernel
theorem dX7_isRow_32 : decode cX7_isRow 32 = .ok (.getfield 97, 3) := by decide +kernel
theorem dX7_isRow_35 : decode cX7_isRow 35 = .ok (.invokevirtual 100, 3) := by decide +kernel
theorem dX7_isRow_38 : decode cX7_isRow 38 = .ok (.bipush 48, 2) := by decide +kernel
theorem dX7_isRow_40 : decode cX7_isRow 40 = .ok (.bipush 57, 2) := by decide +kernel
theorem dX7_isRow_42 : decode cX7_isRow 42 = .ok (.invokestatic 87, 3) := by decide +kernel
theorem dX7_isRow_45 : decode cX7_isRow 45 = .ok (.ifCond .eq 33, 3) := by decide +kernel
theorem dX7_isRow_48 : decode cX7_isRow 48 = .ok (.bipush 10, 2) := by decide +kernel
theorem dX7_isRow_50 : decode cX7_isRow 50 = .ok (.iload_n 2, 1) := by decide +kernel
theorem dX7_isRow_51 : decode cX7_isRow 51 = .ok (.imul, 1) := by decide +kernel
theorem dX7_isRow_52 : decode cX7_isRow 52 = .ok (.aload_n 0, 1) := by decide +kernel
theorem dX7_isRow_53 : decode cX7_isRow 53 = .ok (.aload_n 0, 1) := by decide +kernel
theorem dX7_isRow_54 : decode cX7_isRow 54 = .ok (.getfield 97, 3) := by decide +kernel
theorem dX7_isRow_57 : decode cX7_isRow 57 = .ok (.invokevirtual 100, 3) := by decide +kernel
theorem dX7_isRow_60 : decode cX7_isRow 60 = .ok (.iadd, 1) := by decide +kernel
theorem dX7_isRow_61 : decode cX7_isRow 61 = .ok (.bipush 48, 2) := by decide +kernel
theorem dX7_isRow_63 : decode cX7_isRow 63 = .ok (.isub, 1) := by decide +kernel
theorem dX7_isRow_64 : decode cX7_isRow 64 = .ok (.istore_n 2, 1) := by decide +kernel
theorem dX7_isRow_65 : decode cX7_isRow 65 = .ok (.aload_n 0, 1) := by decide +kernel
theorem dX7_isRow_66 : decode cX7_isRow 66 = .ok (.dup, 1) := by decide +kernel
theorem dX7_isRow_67 : decode cX7_isRow 67 = .ok (.getfield 97, 3) := by decide +kernel
theorem dX7_isRow_70 : decode cX7_isRow 70 = .ok (.iconst 1, 1) := by decide +kernel
theorem dX7_isRow_71 : decode cX7_isRow 71 = .ok (.iadd, 1) := by decide +kernel
theorem dX7_isRow_72 : decode cX7_isRow 72 = .ok (.putfield 97, 3) := by decide +kernel
theorem dX7_isRow_75 : decode cX7_isRow 75 = .ok (.goto (-55), 3) := by decide +kernel
theorem dX7_isRow_78 : decode cX7_isRow 78 = .ok (.aload_n 0, 1) := by decide +kernel
theorem dX7_isRow_79 : decode cX7_isRow 79 = .ok (.getfield 97, 3) := by decide +kernel
theorem dX7_isRow_82 : decode cX7_isRow 82 = .ok (.iload_n 3, 1) := by decide +kernel
theorem dX7_isRow_83 : decode cX7_isRow 83 = .ok (.if_icmp .eq 31, 3) := by decide +kernel
theorem dX7_isRow_86 : decode cX7_isRow 86 = .ok (.aload_n 0, 1) := by decide +kernel
theorem dX7_isRow_87 : decode cX7_isRow 87 = .ok (.aload_n 0, 1) := by decide +kernel
theorem dX7_isRow_88 : decode cX7_isRow 88 = .ok (.getfield 97, 3) := by decide +kernel
theorem dX7_isRow_91 : decode cX7_isRow 91 = .ok (.invokevirtual 100, 3) := by decide +kernel
theorem dX7_isRow_94 : decode cX7_isRow 94 = .ok (.aload_n 0, 1) := by decide +kernel
theorem dX7_isRow_95 : decode cX7_isRow 95 = .ok (.getfield 94, 3) := by decide +kernel
theorem dX7_isRow_98 : decode cX7_isRow 98 = .ok (.iload_n 1, 1) := by decide +kernel
theorem dX7_isRow_99 : decode cX7_isRow 99 = .ok (.iconst 1, 1) := by decide +kernel
theorem dX7_isRow_100 : decode cX7_isRow 100 = .ok (.isub, 1) := by decide +kernel
theorem dX7_isRow_101 : decode cX7_isRow 101 = .ok (.if_icmp .ne 8, 3) := by decide +kernel
theorem dX7_isRow_104 : decode cX7_isRow 104 = .ok (.bipush 59, 2) := by decide +kernel
theorem dX7_isRow_106 : decode cX7_isRow 106 = .ok (.goto 5, 3) := by decide +kernel
theorem dX7_isRow_109 : decode cX7_isRow 109 = .ok (.bipush 44, 2) := by decide +kernel
theorem dX7_isRow_111 : decode cX7_isRow 111 = .ok (.if_icmp .eq 5, 3) := by decide +kernel
theorem dX7_isRow_114 : decode cX7_isRow 114 = .ok (.iconst 0, 1) := by decide +kernel
theorem dX7_isRow_115 : decode cX7_isRow 115 = .ok (.ireturn, 1) := by decide +kernel
theorem dX7_isRow_116 : decode cX7_isRow 116 = .ok (.aload_n 0, 1) := by decide +kernel
theorem dX7_isRow_117 : decode cX7_isRow 117 = .ok (.dup, 1) := by decide +kernel
theorem dX7_isRow_118 : decode cX7_isRow 118 = .ok (.getfield 97, 3) := by decide +kernel
theorem dX7_isRow_121 : decode cX7_isRow 121 = .ok (.iconst 1, 1) := by decide +kernel
theorem dX7_isRow_122 : decode cX7_isRow 122 = .ok (.iadd, 1) := by decide +kernel
theorem dX7_isRow_123 : decode cX7_isRow 123 = .ok (.putfield 97, 3) := by decide +kernel
theorem dX7_isRow_126 : decode cX7_isRow 126 = .ok (.aload_n 0, 1) := by decide +kernel
theorem dX7_isRow_127 : decode cX7_isRow 127 = .ok (.getfield 13, 3) := by decide +kernel
theorem dX7_isRow_130 : decode cX7_isRow 130 = .ok (.aload_n 0, 1) := by decide +kernel
theorem dX7_isRow_131 : decode cX7_isRow 131 = .ok (.getfield 94, 3) := by decide +kernel
theorem dX7_isRow_134 : decode cX7_isRow 134 = .ok (.iload_n 2, 1) := by decide +kernel
theorem dX7_isRow_135 : decode cX7_isRow 135 = .ok (.iastore, 1) := by decide +kernel
theorem dX7_isRow_136 : decode cX7_isRow 136 = .ok (.aload_n 0, 1) := by decide +kernel
theorem dX7_isRow_137 : decode cX7_isRow 137 = .ok (.dup, 1) := by decide +kernel
theorem dX7_isRow_138 : decode cX7_isRow 138 = .ok (.getfield 94, 3) := by decide +kernel
theorem dX7_isRow_141 : decode cX7_isRow 141 = .ok (.iconst 1, 1) := by decide +kernel
theorem dX7_isRow_142 : decode cX7_isRow 142 = .ok (.iadd, 1) := by decide +kernel
theorem dX7_isRow_143 : decode cX7_isRow 143 = .ok (.putfield 94, 3) := by decide +kernel
theorem dX7_isRow_146 : decode cX7_isRow 146 = .ok (.goto (-141), 3) := by decide +kernel
theorem dX7_isRow_149 : decode cX7_isRow 149 = .ok (.iconst 1, 1) := by decide +kernel
theorem dX7_isRow_150 : decode cX7_isRow 150 = .ok (.ireturn, 1) := by decide +kernel
theorem hd_X7_isRow : yX7_isRow.cls = RX7 ∧ yX7_isRow.cls ≠ "java/lang/invoke/MethodHandle" ∧ yX7_isRow.cls ≠ "java/lang/invoke/VarHandle" ∧ (parseMethodDescriptor yX7_isRow.desc).map (fun d => d.parameters.length) = some 1 := by decide +kernel
abbrev rm_X7_isRow : Room := { frames := 1, cells := 0, slots := 0, locals := 22 }
def wp_X7_isRow_111 (K : Int32 → HF → Prop) (L5 : HF → Int32 → Prop) (F : HF) (v1 : Int32) (v2 : Int32) (s0 : Int32) (s1 : Int32) : Prop := ((s0 = s1) → (∀ F403 : HF, F403 = hup F 100 2 ((F 100 2) + (nI 1)) → ((vp_in (F403 100 4) 4) ∧ (∀ F404 : HF, F404 = hup F403 103 (F403 100 4).toNatClampNeg v2 → (∀ F405 : HF, F405 = hup F404 100 4 ((F404 100 4) + (nI 1)) → (L5 F405 v1)))))) ∧ ((¬ s0 = s1) → (K (nI 0) F))
set_option maxRecDepth 100000 in
set_option maxHeartbeats 4000000 in
theorem k_X7_isRow_111 {p : Program} {l : Launch} {e : Env} {s : State} {m : MethodId} {args : Array Value} {below : List Frame} {meth : Method} {c : Code} {D : va_G} {dA : Nat → ClassId} {ad : Nat → Nat} {R : List Nat} {A : Nat → Prop} {K : Int32 → HF → Prop} {L5 : HF → Int32 → Prop} (X : Cx p s m args meth c cX7_isRow 4 RX7 D dA) (hA : ∀ q, s.heap.size ≤ q → A q) (hr : meth.sig.returnType = some .boolean) (hT : Md R) (hL5 : ∀ (F : HF) (v1 : Int32), L5 F v1 → J p l e rm_X7_isRow s m args below meth c 4 D dA ad R A (QI D dA ad R A below args s K) F 5 [(0, .ref (ad 100)), (1, .int v1)] []) : ∀ (F : HF) (v1 : Int32) (v2 : Int32) (s0 : Int32) (s1 : Int32), wp_X7_isRow_111 K L5  F v1 v2 s0 s1 → J p l e rm_X7_isRow s m args below meth c 4 D dA ad R A (QI D dA ad R A below args s K) F 111 [(0, .ref (ad 100)), (1, .int v1), (2, .int v2)] [.int s1, .int s0] := by
  intro F v1 v2 s0 s1 h
  unfold wp_X7_isRow_111 at h
  refine r_icmp_eq (pc := 111) (tgt := 116) X dX7_isRow_111 (by decide) (fun hc => ?_) (fun hc => ?_)
  · replace h := h.1 hc
    refine r_aload_n (pc := 116) X 0 dX7_isRow_116 rfl rfl ?_
    refine r_dup (pc := 117) X dX7_isRow_117 rfl ?_
    refine fg_X7_97 (pc := 118) X hT.1 dX7_isRow_118 ?_
    refine r_iconst (pc := 121) (v := (nI 1)) X dX7_isRow_121 (by decide) ?_
    refine r_iadd (pc := 122) X dX7_isRow_122 ?_
    refine fp_X7_97 (pc := 123) X hT.1 dX7_isRow_123 (fun F403 e1 => ?_)
    replace h := h F403 e1
    refine r_aload_n (pc := 126) X 0 dX7_isRow_126 rfl rfl ?_
    refine fg_X7_13 (pc := 127) X hT.1 dX7_isRow_127 ?_
    refine r_aload_n (pc := 130) X 0 dX7_isRow_130 rfl rfl ?_
    refine fg_X7_94 (pc := 131) X hT.1 dX7_isRow_131 ?_
    refine r_iload_n (pc := 134) X 2 dX7_isRow_134 rfl rfl ?_
    refine r_iast (pc := 135) X hT.2.2.1 h.1 dX7_isRow_135 (fun F404 e1 => ?_)
    replace h := h.2 F404 e1
    refine r_aload_n (pc := 136) X 0 dX7_isRow_136 rfl rfl ?_
    refine r_dup (pc := 137) X dX7_isRow_137 rfl ?_
    refine fg_X7_94 (pc := 138) X hT.1 dX7_isRow_138 ?_
    refine r_iconst (pc := 141) (v := (nI 1)) X dX7_isRow_141 (by decide) ?_
    refine r_iadd (pc := 142) X dX7_isRow_142 ?_
    refine fp_X7_94 (pc := 143) X hT.1 dX7_isRow_143 (fun F405 e1 => ?_)
    replace h := h F405 e1
    refine r_goto (pc := 146) (tgt := 5) X dX7_isRow_146 (by decide) ?_
    refine r_sub [0, 1] rfl ?_
    exact hL5 _ _ h
  · replace h := h.2 hc
    refine r_iconst (pc := 114) (v := (nI 0)) X dX7_isRow_114 (by decide) ?_
    exact r_zret (pc := 115) X hr dX7_isRow_115 nb0 h
def wp_X7_isRow_78 (K : Int32 → HF → Prop) (L5 : HF → Int32 → Prop) (F : HF) (v1 : Int32) (v2 : Int32) (v3 : Int32) : Prop := (((F 100 2) = v3) → (K (nI 0) F)) ∧ ((¬ (F 100 2) = v3) → (wp_X7_letterAt (fun x1 F302 => ((¬ (F302 100 4) = (v1 - (nI 1))) → (wp_X7_isRow_111 K L5  F302 v1 v2 x1 (nI 44))) ∧ (((F302 100 4) = (v1 - (nI 1))) → (wp_X7_isRow_111 K L5  F302 v1 v2 x1 (nI 59)))) F (F 100 2)))
set_option maxRecDepth 100000 in
set_option maxHeartbeats 4000000 in
theorem k_X7_isRow_78 {p : Program} {l : Launch} {e : Env} {s : State} {m : MethodId} {args : Array Value} {below : List Frame} {meth : Method} {c : Code} {D : va_G} {dA : Nat → ClassId} {ad : Nat → Nat} {R : List Nat} {A : Nat → Prop} {K : Int32 → HF → Prop} {L5 : HF → Int32 → Prop} (X : Cx p s m args meth c cX7_isRow 4 RX7 D dA) (hA : ∀ q, s.heap.size ≤ q → A q) (hr : meth.sig.returnType = some .boolean) (hT : Md R) (hL5 : ∀ (F : HF) (v1 : Int32), L5 F v1 → J p l e rm_X7_isRow s m args below meth c 4 D dA ad R A (QI D dA ad R A below args s K) F 5 [(0, .ref (ad 100)), (1, .int v1)] []) : ∀ (F : HF) (v1 : Int32) (v2 : Int32) (v3 : Int32), wp_X7_isRow_78 K L5  F v1 v2 v3 → J p l e rm_X7_isRow s m args below meth c 4 D dA ad R A (QI D dA ad R A below args s K) F 78 [(0, .ref (ad 100)), (1, .int v1), (2, .int v2), (3, .int v3)] [] := by
  intro F v1 v2 v3 h
  unfold wp_X7_isRow_78 at h
  refine r_aload_n (pc := 78) X 0 dX7_isRow_78 rfl rfl ?_
  refine fg_X7_97 (pc := 79) X hT.1 dX7_isRow_79 ?_
  refine r_iload_n (pc := 82) X 3 dX7_isRow_82 rfl rfl ?_
  refine r_icmp_eq (pc := 83) (tgt := 114) X dX7_isRow_83 (by decide) (fun hc => ?_) (fun hc => ?_)
  · replace h := h.1 hc
    refine r_iconst (pc := 114) (v := (nI 0)) X dX7_isRow_114 (by decide) ?_
    exact r_zret (pc := 115) X hr dX7_isRow_115 nb0 h
  · replace h := h.2 hc
    refine r_aload_n (pc := 86) X 0 dX7_isRow_86 rfl rfl ?_
    refine r_aload_n (pc := 87) X 0 dX7_isRow_87 rfl rfl ?_
    refine fg_X7_97 (pc := 88) X hT.1 dX7_isRow_88 ?_
    refine r_callIV (pc := 91) (As := [.int (F 100 2)]) (st := []) X hA (c_X7_letterAt hT h) g_X7_100 cl_X7 hT.1 hd_X7_letterAt rfl rfl rfl ⟨Nat.le_of_ble_eq_true rfl, Nat.le_of_ble_eq_true rfl⟩ rfl (Nat.le_of_ble_eq_true rfl) dX7_isRow_91 (fun x1 F302 h => ?_)
    refine r_aload_n (pc := 94) X 0 dX7_isRow_94 rfl rfl ?_
    refine fg_X7_94 (pc := 95) X hT.1 dX7_isRow_95 ?_
    refine r_iload_n (pc := 98) X 1 dX7_isRow_98 rfl rfl ?_
    refine r_iconst (pc := 99) (v := (nI 1)) X dX7_isRow_99 (by decide) ?_
    refine r_isub (pc := 100) X dX7_isRow_100 ?_
    refine r_icmp_ne (pc := 101) (tgt := 109) X dX7_isRow_101 (by decide) (fun hc => ?_) (fun hc => ?_)
    · replace h := h.1 hc
      refine r_bipush (pc := 109) (v := (nI 44)) X dX7_isRow_109 (by decide) ?_
      refine r_sub [0, 1, 2] rfl ?_
      exact k_X7_isRow_111 X hA hr hT hL5 _ _ _ _ _ h
    · replace h := h.2 hc
      refine r_bipush (pc := 104) (v := (nI 59)) X dX7_isRow_104 (by decide) ?_
      refine r_goto (pc := 106) (tgt := 111) X dX7_isRow_106 (by decide) ?_
      refine r_sub [0, 1, 2] rfl ?_
      exact k_X7_isRow_111 X hA hr hT hL5 _ _ _ _ _ h
def wp_X7_isRow_20 (K : Int32 → HF → Prop) (L5 : HF → Int32 → Prop) : Nat → HF → Int32 → Int32 → Int32 → Prop
  | 0 => fun _ _ _ _ => False
  | n20_ + 1 => fun F v1 v2 v3 => (((v3 + (nI 2)) ≤ (F 100 2)) → (wp_X7_isRow_78 K L5  F v1 v2 v3)) ∧ ((¬ (v3 + (nI 2)) ≤ (F 100 2)) → (wp_X7_letterAt (fun x2 F406 => wp_X7_in (fun x3 F407 => ((x3 = (nI 0)) → (wp_X7_isRow_78 K L5  F407 v1 v2 v3)) ∧ ((¬ x3 = (nI 0)) → (wp_X7_letterAt (fun x4 F408 => ∀ F409 : HF, F409 = hup F408 100 2 ((F408 100 2) + (nI 1)) → (wp_X7_isRow_20 K L5  n20_ F409 v1 ((((nI 10) * v2) + x4) - (nI 48)) v3)) F407 (F407 100 2)))) F406 x2 (nI 48) (nI 57)) F (F 100 2)))
set_option maxRecDepth 100000 in
set_option maxHeartbeats 4000000 in
theorem k_X7_isRow_20 {p : Program} {l : Launch} {e : Env} {s : State} {m : MethodId} {args : Array Value} {below : List Frame} {meth : Method} {c : Code} {D : va_G} {dA : Nat → ClassId} {ad : Nat → Nat} {R : List Nat} {A : Nat → Prop} {K : Int32 → HF → Prop} {L5 : HF → Int32 → Prop} (X : Cx p s m args meth c cX7_isRow 4 RX7 D dA) (hA : ∀ q, s.heap.size ≤ q → A q) (hr : meth.sig.returnType = some .boolean) (hT : Md R) (hL5 : ∀ (F : HF) (v1 : Int32), L5 F v1 → J p l e rm_X7_isRow s m args below meth c 4 D dA ad R A (QI D dA ad R A below args s K) F 5 [(0, .ref (ad 100)), (1, .int v1)] []) : ∀ (n_ : Nat) (F : HF) (v1 : Int32) (v2 : Int32) (v3 : Int32), wp_X7_isRow_20 K L5  n_ F v1 v2 v3 → J p l e rm_X7_isRow s m args below meth c 4 D dA ad R A (QI D dA ad R A below args s K) F 20 [(0, .ref (ad 100)), (1, .int v1), (2, .int v2), (3, .int v3)] [] := by
  intro n_
  induction n_ with
  | zero => intro F v1 v2 v3 h; exact h.elim
  | succ n_ ih =>
    intro F v1 v2 v3 h
    unfold wp_X7_isRow_20 at h
    refine r_aload_n (pc := 20) X 0 dX7_isRow_20 rfl rfl ?_
    refine fg_X7_97 (pc := 21) X hT.1 dX7_isRow_21 ?_
    refine r_iload_n (pc := 24) X 3 dX7_isRow_24 rfl rfl ?_
    refine r_iconst (pc := 25) (v := (nI 2)) X dX7_isRow_25 (by decide) ?_
    refine r_iadd (pc := 26) X dX7_isRow_26 ?_
    refine r_icmp_ge (pc := 27) (tgt := 78) X dX7_isRow_27 (by decide) (fun hc => ?_) (fun hc => ?_)
    · replace h := h.1 hc
      exact k_X7_isRow_78 X hA hr hT hL5 _ _ _ _ h
    · replace h := h.2 hc
      refine r_aload_n (pc := 30) X 0 dX7_isRow_30 rfl rfl ?_
      refine r_aload_n (pc := 31) X 0 dX7_isRow_31 rfl rfl ?_
      refine fg_X7_97 (pc := 32) X hT.1 dX7_isRow_32 ?_
      refine r_callIV (pc := 35) (As := [.int (F 100 2)]) (st := []) X hA (c_X7_letterAt hT h) g_X7_100 cl_X7 hT.1 hd_X7_letterAt rfl rfl rfl ⟨Nat.le_of_ble_eq_true rfl, Nat.le_of_ble_eq_true rfl⟩ rfl (Nat.le_of_ble_eq_true rfl) dX7_isRow_35 (fun x2 F406 h => ?_)
      refine r_bipush (pc := 38) (v := (nI 48)) X dX7_isRow_38 (by decide) ?_
      refine r_bipush (pc := 40) (v := (nI 57)) X dX7_isRow_40 (by decide) ?_
      refine r_callIS (pc := 42) (As := [.int x2, .int (nI 48), .int (nI 57)]) (st := []) X hA (c_X7_in  h) g_X7_87 hd_X7_in rfl rfl rfl ⟨Nat.le_of_ble_eq_true rfl, Nat.le_of_ble_eq_true rfl⟩ rfl (Nat.le_of_ble_eq_true rfl) dX7_isRow_42 (fun x3 F407 h => ?_)
      refine r_if_eq (pc := 45) (tgt := 78) X dX7_isRow_45 (by decide) (fun hc => ?_) (fun hc => ?_)
      · replace h := h.1 hc
        exact k_X7_isRow_78 X hA hr hT hL5 _ _ _ _ h
      · replace h := h.2 hc
        refine r_bipush (pc := 48) (v := (nI 10)) X dX7_isRow_48 (by decide) ?_
        refine r_iload_n (pc := 50) X 2 dX7_isRow_50 rfl rfl ?_
        refine r_imul (pc := 51) X dX7_isRow_51 ?_
        refine r_aload_n (pc := 52) X 0 dX7_isRow_52 rfl rfl ?_
        refine r_aload_n (pc := 53) X 0 dX7_isRow_53 rfl rfl ?_
        refine fg_X7_97 (pc := 54) X hT.1 dX7_isRow_54 ?_
        refine r_callIV (pc := 57) (As := [.int (F407 100 2)]) (st := [.int ((nI 10) * v2)]) X hA (c_X7_letterAt hT h) g_X7_100 cl_X7 hT.1 hd_X7_letterAt rfl rfl rfl ⟨Nat.le_of_ble_eq_true rfl, Nat.le_of_ble_eq_true rfl⟩ rfl (Nat.le_of_ble_eq_true rfl) dX7_isRow_57 (fun x4 F408 h => ?_)
        refine r_iadd (pc := 60) X dX7_isRow_60 ?_
        refine r_bipush (pc := 61) (v := (nI 48)) X dX7_isRow_61 (by decide) ?_
        refine r_isub (pc := 63) X dX7_isRow_63 ?_
        refine r_istore_n (pc := 64) X [(2, .int ((((nI 10) * v2) + x4) - (nI 48))), (0, .ref (ad 100)), (1, .int v1), (3, .int v3)] dX7_isRow_64 rfl (by decide) rfl ?_
        refine r_aload_n (pc := 65) X 1 dX7_isRow_65 rfl rfl ?_
        refine r_dup (pc := 66) X dX7_isRow_66 rfl ?_
        refine fg_X7_97 (pc := 67) X hT.1 dX7_isRow_67 ?_
        refine r_iconst (pc := 70) (v := (nI 1)) X dX7_isRow_70 (by decide) ?_
        refine r_iadd (pc := 71) X dX7_isRow_71 ?_
        refine fp_X7_97 (pc := 72) X hT.1 dX7_isRow_72 (fun F409 e1 => ?_)
        replace h := h F409 e1
        refine r_goto (pc := 75) (tgt := 20) X dX7_isRow_75 (by decide) ?_
        refine r_sub [1, 2, 0, 3] rfl ?_
        exact ih _ _ _ _ h
def wp_X7_isRow_5 (K : Int32 → HF → Prop) : Nat → HF → Int32 → Prop
  | 0 => fun _ _ => False
  | n5_ + 1 => fun F v1 => ((v1 ≤ (F 100 4)) → (K (nI 1) F)) ∧ ((¬ v1 ≤ (F 100 4)) → (∃ m_, wp_X7_isRow_20 K (wp_X7_isRow_5 K n5_)  m_ F v1 (nI 0) (F 100 2)))
set_option maxRecDepth 100000 in
set_option maxHeartbeats 4000000 in
theorem k_X7_isRow_5 {p : Program} {l : Launch} {e : Env} {s : State} {m : MethodId} {args : Array Value} {below : List Frame} {meth : Method} {c : Code} {D : va_G} {dA : Nat → ClassId} {ad : Nat → Nat} {R : List Nat} {A : Nat → Prop} {K : Int32 → HF → Prop} (X : Cx p s m args meth c cX7_isRow 4 RX7 D dA) (hA : ∀ q, s.heap.size ≤ q → A q) (hr : meth.sig.returnType = some .boolean) (hT : Md R) : ∀ (n_ : Nat) (F : HF) (v1 : Int32), wp_X7_isRow_5 K  n_ F v1 → J p l e rm_X7_isRow s m args below meth c 4 D dA ad R A (QI D dA ad R A below args s K) F 5 [(0, .ref (ad 100)), (1, .int v1)] [] := by
  intro n_
  induction n_ with
  | zero => intro F v1 h; exact h.elim
  | succ n_ ih =>
    intro F v1 h
    unfold wp_X7_isRow_5 at h
    refine r_aload_n (pc := 5) X 0 dX7_isRow_5 rfl rfl ?_
    refine fg_X7_94 (pc := 6) X hT.1 dX7_isRow_6 ?_
    refine r_iload_n (pc := 9) X 1 dX7_isRow_9 rfl rfl ?_
    refine r_icmp_ge (pc := 10) (tgt := 149) X dX7_isRow_10 (by decide) (fun hc => ?_) (fun hc => ?_)
    · replace h := h.1 hc
      refine r_iconst (pc := 149) (v := (nI 1)) X dX7_isRow_149 (by decide) ?_
      exact r_zret (pc := 150) X hr dX7_isRow_150 nb1 h
    · replace h := h.2 hc
      refine r_iconst (pc := 13) (v := (nI 0)) X dX7_isRow_13 (by decide) ?_
      refine r_istore_n (pc := 14) X [(2, .int (nI 0)), (0, .ref (ad 100)), (1, .int v1)] dX7_isRow_14 rfl (by decide) rfl ?_
      refine r_aload_n (pc := 15) X 1 dX7_isRow_15 rfl rfl ?_
      refine fg_X7_97 (pc := 16) X hT.1 dX7_isRow_16 ?_
      refine r_istore_n (pc := 19) X [(3, .int (F 100 2)), (2, .int (nI 0)), (0, .ref (ad 100)), (1, .int v1)] dX7_isRow_19 rfl (by decide) rfl ?_
      refine r_sub [2, 3, 1, 0] rfl ?_
      obtain ⟨n1, h⟩ := h
      exact k_X7_isRow_20 X hA hr hT ih n1 _ _ _ _ h
def wp_X7_isRow (K : Int32 → HF → Prop) (F : HF) (a1 : Int32) : Prop := ∀ F1 : HF, F1 = hup F 100 4 (nI 0) → (∃ m_, wp_X7_isRow_5 K  m_ F1 a1)
set_option maxRecDepth 100000 in
set_option maxHeartbeats 4000000 in
theorem c_X7_isRow {l : Launch} {D : va_G} {dA : Nat → ClassId} {ad : Nat → Nat} {R : List Nat} {F : HF} {a1 : Int32} {K : Int32 → HF → Prop} (hT : Md R) (h : wp_X7_isRow K F a1) : MI l yX7_isRow cX7_isRow 4 .boolean rm_X7_isRow D dA ad R F [.ref (ad 100), .int a1] K := by
  refine MI.of (own := RX7) (by decide) rfl (Nat.le_of_ble_eq_true rfl) ?_
  intro p e s m args below meth c A hA X hr
  unfold wp_X7_isRow at h
  show J p l e rm_X7_isRow s m args below meth c 4 D dA ad R A (QI D dA ad R A below args s K) F 0 [(0, .ref (ad 100)), (1, .int a1)] []
  refine r_aload_n (pc := 0) X 0 dX7_isRow_0 rfl rfl ?_
  refine r_iconst (pc := 1) (v := (nI 0)) X dX7_isRow_1 (by decide) ?_
  refine fp_X7_94 (pc := 2) X hT.1 dX7_isRow_2 (fun F1 e1 => ?_)
  replace h := h F1 e1
  obtain ⟨n1, h⟩ := h
  exact k_X7_isRow_5 X hA hr hT  n1 _ _ h
theorem dX7_isItem_0 : decode cX7_isItem 0 = .ok (.aload_n 0, 1) := by decide +kernel
theorem dX7_isItem_1 : decode cX7_isItem 1 = .ok (.aload_n 0, 1) := by decide +kernel
theorem dX7_isItem_2 : decode cX7_isItem 2 = .ok (.getfield 97, 3) := by decide +kernel
theorem dX7_isItem_5 : decode cX7_isItem 5 = .ok (.invokevirtual 100, 3) := by decide +kernel
theorem dX7_isItem_8 : decode cX7_isItem 8 = .ok (.istore_n 1, 1) := by decide +kernel
theorem dX7_isItem_9 : decode cX7_isItem 9 = .ok (.aload_n 0, 1) := by decide +kernel
theorem dX7_isItem_10 : decode cX7_isItem 10 = .ok (.dup, 1) := by decide +kernel
theorem dX7_isItem_11 : decode cX7_isItem 11 = .ok (.getfield 97, 3) := by decide +kernel
theorem dX7_isItem_14 : decode cX7_isItem 14 = .ok (.iconst 1, 1) := by decide +kernel
theorem dX7_isItem_15 : decode cX7_isItem 15 = .ok (.iadd, 1) := by decide +kernel
theorem dX7_isItem_16 : decode cX7_isItem 16 = .ok (.putfield 97, 3) := by decide +kernel
theorem dX7_isItem_19 : decode cX7_isItem 19 = .ok (.iload_n 1, 1) := by decide +kernel
theorem dX7_isItem_20 : decode cX7_isItem 20 = .ok (.bipush 98, 2) := by decide +kernel
theorem dX7_isItem_22 : decode cX7_isItem 22 = .ok (.if_icmp .ne 124, 3) := by decide +kernel
theorem dX7_isItem_25 : decode cX7_isItem 25 = .ok (.aload_n 0, 1) := by decide +kernel
theorem dX7_isItem_26 : decode cX7_isItem 26 = .ok (.getfield 104, 3) := by decide +kernel
theorem dX7_isItem_29 : decode cX7_isItem 29 = .ok (.bipush 8, 2) := by decide +kernel
theorem dX7_isItem_31 : decode cX7_isItem 31 = .ok (.if_icmp .ge 65, 3) := by decide +kernel
theorem dX7_isItem_34 : decode cX7_isItem 34 = .ok (.aload_n 0, 1) := by decide +kernel
theorem dX7_isItem_35 : decode cX7_isItem 35 = .ok (.iconst 4, 1) := by decide +kernel
theorem dX7_isItem_36 : decode cX7_isItem 36 = .ok (.invokevirtual 107, 3) := by decide +kernel
theorem dX7_isItem_39 : decode cX7_isItem 39 = .ok (.ifCond .eq 57, 3) := by decide +kernel
theorem dX7_isItem_42 : decode cX7_isItem 42 = .ok (.aload_n 0, 1) := by decide +kernel
theorem dX7_isItem_43 : decode cX7_isItem 43 = .ok (.getfield 13, 3) := by decide +kernel
theorem dX7_isItem_46 : decode cX7_isItem 46 = .ok (.iconst 0, 1) := by decide +kernel
theorem dX7_isItem_47 : decode cX7_isItem 47 = .ok (.iaload, 1) := by decide +kernel
theorem dX7_isItem_48 : decode cX7_isItem 48 = .ok (.iconst 1, 1) := by decide +kernel
theorem dX7_isItem_49 : decode cX7_isItem 49 = .ok (.bipush 60, 2) := by decide +kernel
theorem dX7_isItem_51 : decode cX7_isItem 51 = .ok (.invokestatic 87, 3) := by decide +kernel
theorem dX7_isItem_54 : decode cX7_isItem 54 = .ok (.ifCond .eq 42, 3) := by decide +kernel
theorem dX7_isItem_57 : decode cX7_isItem 57 = .ok (.aload_n 0, 1) := by decide +kernel
theorem dX7_isItem_58 : decode cX7_isItem 58 = .ok (.getfield 13, 3) := by decide +kernel
theorem dX7_isItem_61 : decode cX7_isItem 61 = .ok (.iconst 1, 1) := by decide +kernel
theorem dX7_isItem_62 : decode cX7_isItem 62 = .ok (.iaload, 1) := by decide +kernel
theorem dX7_isItem_63 : decode cX7_isItem 63 = .ok (.iconst 1, 1) := by decide +kernel
theorem dX7_isItem_64 : decode cX7_isItem 64 = .ok (.iconst 3, 1) := by decide +kernel
theorem dX7_isItem_65 : decode cX7_isItem 65 = .ok (.invokestatic 87, 3) := by decide +kernel
theorem dX7_isItem_68 : decode cX7_isItem 68 = .ok (.ifCond .eq 28, 3) := by decide +kernel
theorem dX7_isItem_71 : decode cX7_isItem 71 = .ok (.aload_n 0, 1) := by decide +kernel
theorem dX7_isItem_72 : decode cX7_isItem 72 = .ok (.getfield 13, 3) := by decide +kernel
theorem dX7_isItem_75 : decode cX7_isItem 75 = .ok (.iconst 2, 1) := by decide +kernel
theorem dX7_isItem_76 : decode cX7_isItem 76 = .ok (.iaload, 1) := by decide +kernel
theorem dX7_isItem_77 : decode cX7_isItem 77 = .ok (.iconst 5, 1) := by decide +kernel
theorem dX7_isItem_78 : decode cX7_isItem 78 = .ok (.if_icmp .ge 18, 3) := by decide +kernel
theorem dX7_isItem_81 : decode cX7_isItem 81 = .ok (.aload_n 0, 1) := by decide +kernel
theorem dX7_isItem_82 : decode cX7_isItem 82 = .ok (.getfield 13, 3) := by decide +kernel
theorem dX7_isItem_85 : decode cX7_isItem 85 = .ok (.iconst 3, 1) := by decide +kernel
theorem dX7_isItem_86 : decode cX7_isItem 86 = .ok (.iaload, 1) := by decide +kernel
theorem dX7_isItem_87 : decode cX7_isItem 87 = .ok (.bipush 41, 2) := by decide +kernel
theorem dX7_isItem_89 : decode cX7_isItem 89 = .ok (.if_icmp .ge 7, 3) := by decide +kernel
theorem dX7_isItem_92 : decode cX7_isItem 92 = .ok (.iconst 1, 1) := by decide +kernel
theorem dX7_isItem_93 : decode cX7_isItem 93 = .ok (.goto 4, 3) := by decide +kernel
theorem dX7_isItem_96 : decode cX7_isItem 96 = .ok (.iconst 0, 1) := by decide +kernel
theorem dX7_isItem_97 : decode cX7_isItem 97 = .ok (.istore_n 2, 1) := by decide +kernel
theorem dX7_isItem_98 : decode cX7_isItem 98 = .ok (.iconst 0, 1) := by decide +kernel
theorem dX7_isItem_99 : decode cX7_isItem 99 = .ok (.istore_n 3, 1) := by decide +kernel
theorem dX7_isItem_100 : decode cX7_isItem 100 = .ok (.iload_n 3, 1) := by decide +kernel
theorem dX7_isItem_101 : decode cX7_isItem 101 = .ok (.iconst 4, 1) := by decide +kernel
theorem dX7_isItem_102 : decode cX7_isItem 102 = .ok (.if_icmp .ge 32, 3) := by decide +kernel
theorem dX7_isItem_105 : decode cX7_isItem 105 = .ok (.iload_n 2, 1) := by decide +kernel
theorem dX7_isItem_106 : decode cX7_isItem 106 = .ok (.ifCond .eq 28, 3) := by decide +kernel
theorem dX7_isItem_109 : decode cX7_isItem 109 = .ok (.aload_n 0, 1) := by decide +kernel
theorem dX7_isItem_110 : decode cX7_isItem 110 = .ok (.getfield 16, 3) := by decide +kernel
theorem dX7_isItem_113 : decode cX7_isItem 113 = .ok (.iconst 4, 1) := by decide +kernel
theorem dX7_isItem_114 : decode cX7_isItem 114 = .ok (.aload_n 0, 1) := by decide +kernel
theorem dX7_isItem_115 : decode cX7_isItem 115 = .ok (.getfield 104, 3) := by decide +kernel
theorem dX7_isItem_118 : decode cX7_isItem 118 = .ok (.imul, 1) := by decide +kernel
theorem dX7_isItem_119 : decode cX7_isItem 119 = .ok (.iload_n 3, 1) := by decide +kernel
theorem dX7_isItem_120 : decode cX7_isItem 120 = .ok (.iadd, 1) := by decide +kernel
theorem dX7_isItem_121 : decode cX7_isItem 121 = .ok (.aload_n 0, 1) := by decide +kernel
theorem dX7_isItem_122 : decode cX7_isItem 122 = .ok (.getfield 13, 3) := by decide +kernel
theorem dX7_isItem_125 : decode cX7_isItem 125 = .ok (.iload_n 3, 1) := by decide +kernel
theorem dX7_isItem_126 : decode cX7_isItem 126 = .ok (.iaload, 1) := by decide +kernel
theorem dX7_isItem_127 : decode cX7_isItem 127 = .ok (.iastore, 1) := by decide +kernel
theorem dX7_isItem_128 : decode cX7_isItem 128 = .ok (.iinc 3 1, 3) := by decide +kernel
theorem dX7_isItem_131 : decode cX7_isItem 131 = .ok (.goto (-31), 3) := by decide +kernel
theorem dX7_isItem_134 : decode cX7_isItem 134 = .ok (.aload_n 0, 1) := by decide +kernel
theorem dX7_isItem_135 : decode cX7_isItem 135 = .ok (.dup, 1) := by decide +kernel
theorem dX7_isItem_136 : decode cX7_isItem 136 = .ok (.getfield 104, 3) := by decide +kernel
theorem dX7_isItem_139 : decode cX7_isItem 139 = .ok (.iconst 1, 1) := by decide +kernel
theorem dX7_isItem_140 : decode cX7_isItem 140 = .ok (.iadd, 1) := by decide +kernel
theorem dX7_isItem_141 : decode cX7_isItem 141 = .ok (.putfield 104, 3) := by decide +kernel
theorem dX7_isItem_144 : decode cX7_isItem 144 = .ok (.iload_n 2, 1) := by decide +kernel
theorem dX7_isItem_145 : decode cX7_isItem 145 = .ok (.ireturn, 1) := by decide +kernel
theorem dX7_isItem_146 : decode cX7_isItem 146 = .ok (.iload_n 1, 1) := by decide +kernel
theorem dX7_isItem_147 : decode cX7_isItem 147 = .ok (.bipush 119, 2) := by decide +kernel
theorem dX7_isItem_149 : decode cX7_isItem 149 = .ok (.if_icmp .ne 68, 3) := by decide +kernel
theorem dX7_isItem_152 : decode cX7_isItem 152 = .ok (.aload_n 0, 1) := by decide +kernel
theorem dX7_isItem_153 : decode cX7_isItem 153 = .ok (.getfield 111, 3) := by decide +kernel
theorem dX7_isItem_156 : decode cX7_isItem 156 = .ok (.bipush 8, 2) := by decide +kernel
theorem dX7_isItem_158 : decode cX7_isItem 158 = .ok (.if_icmp .ge 26, 3) := by decide +kernel
theorem dX7_isItem_161 : decode cX7_isItem 161 = .ok (.aload_n 0, 1) := by decide +kernel
theorem dX7_isItem_162 : decode cX7_isItem 162 = .ok (.iconst 1, 1) := by decide +kernel
theorem dX7_isItem_163 : decode cX7_isItem 163 = .ok (.invokevirtual 107, 3) := by decide +kernel
theorem dX7_isItem_166 : decode cX7_isItem 166 = .ok (.ifCond .eq 18, 3) := by decide +kernel
theorem dX7_isItem_169 : decode cX7_isItem 169 = .ok (.aload_n 0, 1) := by decide +kernel
theorem dX7_isItem_170 : decode cX7_isItem 170 = .ok (.getfield 13, 3) := by decide +kernel
theorem dX7_isItem_173 : decode cX7_isItem 173 = .ok (.iconst 0, 1) := by decide +kernel
theorem dX7_isItem_174 : decode cX7_isItem 174 = .ok (.iaload, 1) := by decide +kernel
theorem dX7_isItem_175 : decode cX7_isItem 175 = .ok (.bipush 21, 2) := by decide +kernel
theorem dX7_isItem_177 : decode cX7_isItem 177 = .ok (.if_icmp .ge 7, 3) := by decide +kernel
theorem dX7_isItem_180 : decode cX7_isItem 180 = .ok (.iconst 1, 1) := by decide +kernel
theorem dX7_isItem_181 : decode cX7_isItem 181 = .ok (.goto 4, 3) := by decide +kernel
theorem dX7_isItem_184 : decode cX7_isItem 184 = .ok (.iconst 0, 1) := by decide +kernel
theorem dX7_isItem_185 : decode cX7_isItem 185 = .ok (.istore_n 2, 1) := by decide +kernel
theorem dX7_isItem_186 : decode cX7_isItem 186 = .ok (.iload_n 2, 1) := by decide +kernel
theorem dX7_isItem_187 : decode cX7_isItem 187 = .ok (.ifCond .eq 18, 3) := by decide +kernel
theorem dX7_isItem_190 : decode cX7_isItem 190 = .ok (.aload_n 0, 1) := by decide +kernel
theorem dX7_isItem_191 : decode cX7_isItem 191 = .ok (.getfield 19, 3) := by decide +kernel
theorem dX7_isItem_194 : decode cX7_isItem 194 = .ok (.aload_n 0, 1) := by decide +kernel
theorem dX7_isItem_195 : decode cX7_isItem 195 = .ok (.getfield 111, 3) := by decide +kernel
theorem dX7_isItem_198 : decode cX7_isItem 198 = .ok (.aload_n 0, 1) := by decide +kernel
theorem dX7_isItem_199 : decode cX7_isItem 199 = .ok (.getfield 13, 3) := by decide +kernel
theorem dX7_isItem_202 : decode cX7_isItem 202 = .ok (.iconst 0, 1) := by decide +kernel
theorem dX7_isItem_203 : decode cX7_isItem 203 = .ok (.iaload, 1) := by decide +kernel
theorem dX7_isItem_204 : decode cX7_isItem 204 = .ok (.iastore, 1) := by decide +kernel
theorem dX7_isItem_205 : decode cX7_isItem 205 = .ok (.aload_n 0, 1) := by decide +kernel
theorem dX7_isItem_206 : decode cX7_isItem 206 = .ok (.dup, 1) := by decide +kernel
theorem dX7_isItem_207 : decode cX7_isItem 207 = .ok (.getfield 111, 3) := by decide +kernel
theorem dX7_isItem_210 : decode cX7_isItem 210 = .ok (.iconst 1, 1) := by decide +kernel
theorem dX7_isItem_211 : decode cX7_isItem 211 = .ok (.iadd, 1) := by decide +kernel
theorem dX7_isItem_212 : decode cX7_isItem 212 = .ok (.putfield 111, 3) := by decide +kernel
theorem dX7_isItem_215 : decode cX7_isItem 215 = .ok (.iload_n 2, 1) := by decide +kernel
theorem dX7_isItem_216 : decode cX7_isItem 216 = .ok (.ireturn, 1) := by decide +kernel
theorem dX7_isItem_217 : decode cX7_isItem 217 = .ok (.iload_n 1, 1) := by decide +kernel
theorem dX7_isItem_218 : decode cX7_isItem 218 = .ok (.bipush 114, 2) := by decide +kernel
theorem dX7_isItem_220 : decode cX7_isItem 220 = .ok (.if_icmp .ne 44, 3) := by decide +kernel
theorem dX7_isItem_223 : decode cX7_isItem 223 = .ok (.aload_n 0, 1) := by decide +kernel
theorem dX7_isItem_224 : decode cX7_isItem 224 = .ok (.iconst 1, 1) := by decide +kernel
theorem dX7_isItem_225 : decode cX7_isItem 225 = .ok (.invokevirtual 107, 3) := by decide +kernel
theorem dX7_isItem_228 : decode cX7_isItem 228 = .ok (.ifCond .eq 22, 3) := by decide +kernel
theorem dX7_isItem_231 : decode cX7_isItem 231 = .ok (.aload_n 0, 1) := by decide +kernel
theorem dX7_isItem_232 : decode cX7_isItem 232 = .ok (.getfield 13, 3) := by decide +kernel
theorem dX7_isItem_235 : decode cX7_isItem 235 = .ok (.iconst 0, 1) := by decide +kernel
theorem dX7_isItem_236 : decode cX7_isItem 236 = .ok (.iaload, 1) := by decide +kernel
theorem dX7_isItem_237 : decode cX7_isItem 237 = .ok (.iconst 1, 1) := by decide +kernel
theorem dX7_isItem_238 : decode cX7_isItem 238 = .ok (.bipush 9, 2) := by decide +kernel
theorem dX7_isItem_240 : decode cX7_isItem 240 = .ok (.invokestatic 87, 3) := by decide +kernel
theorem dX7_isItem_243 : decode cX7_isItem 243 = .ok (.ifCond .eq 7, 3) := by decide +kernel
theorem dX7_isItem_246 : decode cX7_isItem 246 = .ok (.iconst 1, 1) := by decide +kernel
theorem dX7_isItem_247 : decode cX7_isItem 247 = .ok (.goto 4, 3) := by decide +kernel
theorem dX7_isItem_250 : decode cX7_isItem 250 = .ok (.iconst 0, 1) := by decide +kernel
theorem dX7_isItem_251 : decode cX7_isItem 251 = .ok (.istore_n 2, 1) := by decide +kernel
theorem dX7_isItem_252 : decode cX7_isItem 252 = .ok (.aload_n 0, 1) := by decide +kernel
theorem dX7_isItem_253 : decode cX7_isItem 253 = .ok (.aload_n 0, 1) := by decide +kernel
theorem dX7_isItem_254 : decode cX7_isItem 254 = .ok (.getfield 13, 3) := by decide +kernel
theorem dX7_isItem_257 : decode cX7_isItem 257 = .ok (.iconst 0, 1) := by decide +kernel
theorem dX7_isItem_258 : decode cX7_isItem 258 = .ok (.iaload, 1) := by decide +kernel
theorem dX7_isItem_259 : decode cX7_isItem 259 = .ok (.putfield 114, 3) := by decide +kernel
theorem dX7_isItem_262 : decode cX7_isItem 262 = .ok (.iload_n 2, 1) := by decide +kernel
theorem dX7_isItem_263 : decode cX7_isItem 263 = .ok (.ireturn, 1) := by decide +kernel
theorem dX7_isItem_264 : decode cX7_isItem 264 = .ok (.iload_n 1, 1) := by decide +kernel
theorem dX7_isItem_265 : decode cX7_isItem 265 = .ok (.bipush 108, 2) := by decide +kernel
theorem dX7_isItem_267 : decode cX7_isItem 267 = .ok (.if_icmp .ne 37, 3) := by decide +kernel
theorem dX7_isItem_270 : decode cX7_isItem 270 = .ok (.aload_n 0, 1) := by decide +kernel
theorem dX7_isItem_271 : decode cX7_isItem 271 = .ok (.iconst 2, 1) := by decide +kernel
theorem dX7_isItem_272 : decode cX7_isItem 272 = .ok (.invokevirtual 107, 3) := by decide +kernel
theorem dX7_isItem_275 : decode cX7_isItem 275 = .ok (.ifCond .eq 29, 3) := by decide +kernel
theorem dX7_isItem_278 : decode cX7_isItem 278 = .ok (.aload_n 0, 1) := by decide +kernel
theorem dX7_isItem_279 : decode cX7_isItem 279 = .ok (.getfield 13, 3) := by decide +kernel
theorem dX7_isItem_282 : decode cX7_isItem 282 = .ok (.iconst 0, 1) := by decide +kernel
theorem dX7_isItem_283 : decode cX7_isItem 283 = .ok (.iaload, 1) := by decide +kernel
theorem dX7_isItem_284 : decode cX7_isItem 284 = .ok (.iconst 1, 1) := by decide +kernel
theorem dX7_isItem_285 : decode cX7_isItem 285 = .ok (.bipush 40, 2) := by decide +kernel
theorem dX7_isItem_287 : decode cX7_isItem 287 = .ok (.invokestatic 87, 3) := by decide +kernel
theorem dX7_isItem_290 : decode cX7_isItem 290 = .ok (.ifCond .eq 14, 3) := by decide +kernel
theorem dX7_isItem_293 : decode cX7_isItem 293 = .ok (.aload_n 0, 1) := by decide +kernel
theorem dX7_isItem_294 : decode cX7_isItem 294 = .ok (.getfield 13, 3) := by decide +kernel
theorem dX7_isItem_297 : decode cX7_isItem 297 = .ok (.iconst 1, 1) := by decide +kernel
theorem dX7_isItem_298 : decode cX7_isItem 298 = .ok (.iaload, 1) := by decide +kernel
theorem dX7_isItem_299 : decode cX7_isItem 299 = .ok (.bipush 9, 2) := by decide +kernel
theorem dX7_isItem_301 : decode cX7_isItem 301 = .ok (.if_icmp .le 5, 3) := by decide +kernel
theorem dX7_isItem_304 : decode cX7_isItem 304 = .ok (.iconst 0, 1) := by decide +kernel
theorem dX7_isItem_305 : decode cX7_isItem 305 = .ok (.ireturn, 1) := by decide +kernel
theorem dX7_isItem_306 : decode cX7_isItem 306 = .ok (.aload_n 0, 1) := by decide +kernel
theorem dX7_isItem_307 : decode cX7_isItem 307 = .ok (.aload_n 0, 1) := by decide +kernel
theorem dX7_isItem_308 : decode cX7_isItem 308 = .ok (.getfield 13, 3) := by decide +kernel
theorem dX7_isItem_311 : decode cX7_isItem 311 = .ok (.iconst 0, 1) := by decide +kernel
theorem dX7_isItem_312 : decode cX7_isItem 312 = .ok (.iaload, 1) := by decide +kernel
theorem dX7_isItem_313 : decode cX7_isItem 313 = .ok (.putfield 117, 3) := by decide +kernel
theorem dX7_isItem_316 : decode cX7_isItem 316 = .ok (.aload_n 0, 1) := by decide +kernel
theorem dX7_isItem_317 : decode cX7_isItem 317 = .ok (.aload_n 0, 1) := by decide +kernel
theorem dX7_isItem_318 : decode cX7_isItem 318 = .ok (.getfield 13, 3) := by decide +kernel
theorem dX7_isItem_321 : decode cX7_isItem 321 = .ok (.iconst 1, 1) := by decide +kernel
theorem dX7_isItem_322 : decode cX7_isItem 322 = .ok (.iaload, 1) := by decide +kernel
theorem dX7_isItem_323 : decode cX7_isItem 323 = .ok (.putfield 120, 3) := by decide +kernel
theorem dX7_isItem_326 : decode cX7_isItem 326 = .ok (.iconst 1, 1) := by decide +kernel
theorem dX7_isItem_327 : decode cX7_isItem 327 = .ok (.ireturn, 1) := by decide +kernel
theorem hd_X7_isItem : yX7_isItem.cls = RX7 ∧ yX7_isItem.cls ≠ "java/lang/invoke/MethodHandle" ∧ yX7_isItem.cls ≠ "java/lang/invoke/VarHandle" ∧ (parseMethodDescriptor yX7_isItem.desc).map (fun d => d.parameters.length) = some 0 := by decide +kernel
abbrev rm_X7_isItem : Room := { frames := 2, cells := 0, slots := 0, locals := 45 }
def wp_X7_isItem_251 (K : Int32 → HF → Prop) (F : HF) (s0 : Int32) : Prop := (vp_in (nI 0) 4) ∧ (∀ F208 : HF, F208 = hup F 100 10 (F 103 (nI 0).toNatClampNeg) → ((s0 = nI 0 ∨ s0 = nI 1) ∧ K s0 F208))
set_option maxRecDepth 100000 in
set_option maxHeartbeats 4000000 in
theorem k_X7_isItem_251 {p : Program} {l : Launch} {e : Env} {s : State} {m : MethodId} {args : Array Value} {below : List Frame} {meth : Method} {c : Code} {D : va_G} {dA : Nat → ClassId} {ad : Nat → Nat} {R : List Nat} {A : Nat → Prop} {K : Int32 → HF → Prop} (X : Cx p s m args meth c cX7_isItem 4 RX7 D dA) (hA : ∀ q, s.heap.size ≤ q → A q) (hr : meth.sig.returnType = some .boolean) (hT : Md R) : ∀ (F : HF) (s0 : Int32), wp_X7_isItem_251 K  F s0 → J p l e rm_X7_isItem s m args below meth c 4 D dA ad R A (QI D dA ad R A below args s K) F 251 [(0, .ref (ad 100))] [.int s0] := by
  intro F s0 h
  unfold wp_X7_isItem_251 at h
  refine r_istore_n (pc := 251) X [(2, .int s0), (0, .ref (ad 100))] dX7_isItem_251 rfl (by decide) rfl ?_
  refine r_aload_n (pc := 252) X 1 dX7_isItem_252 rfl rfl ?_
  refine r_aload_n (pc := 253) X 1 dX7_isItem_253 rfl rfl ?_
  refine fg_X7_13 (pc := 254) X hT.1 dX7_isItem_254 ?_
  refine r_iconst (pc := 257) (v := (nI 0)) X dX7_isItem_257 (by decide) ?_
  refine r_iald (pc := 258) X hT.2.2.1 h.1 dX7_isItem_258 ?_
  replace h := h.2
  refine fp_X7_114 (pc := 259) X hT.1 dX7_isItem_259 (fun F208 e1 => ?_)
  replace h := h F208 e1
  refine r_iload_n (pc := 262) X 0 dX7_isItem_262 rfl rfl ?_
  exact r_zret (pc := 263) X hr dX7_isItem_263 (nbz h.1) h.2
def wp_X7_isItem_250 (K : Int32 → HF → Prop) (F : HF) : Prop := wp_X7_isItem_251 K  F (nI 0)
set_option maxRecDepth 100000 in
set_option maxHeartbeats 4000000 in
theorem k_X7_isItem_250 {p : Program} {l : Launch} {e : Env} {s : State} {m : MethodId} {args : Array Value} {below : List Frame} {meth : Method} {c : Code} {D : va_G} {dA : Nat → ClassId} {ad : Nat → Nat} {R : List Nat} {A : Nat → Prop} {K : Int32 → HF → Prop} (X : Cx p s m args meth c cX7_isItem 4 RX7 D dA) (hA : ∀ q, s.heap.size ≤ q → A q) (hr : meth.sig.returnType = some .boolean) (hT : Md R) : ∀ (F : HF), wp_X7_isItem_250 K  F  → J p l e rm_X7_isItem s m args below meth c 4 D dA ad R A (QI D dA ad R A below args s K) F 250 [(0, .ref (ad 100))] [] := by
  intro F  h
  unfold wp_X7_isItem_250 at h
  refine r_iconst (pc := 250) (v := (nI 0)) X dX7_isItem_250 (by decide) ?_
  exact k_X7_isItem_251 X hA hr hT  _ _ h
def wp_X7_isItem_205 (K : Int32 → HF → Prop) (F : HF) (v2 : Int32) : Prop := ∀ F510 : HF, F510 = hup F 100 7 ((F 100 7) + (nI 1)) → ((v2 = nI 0 ∨ v2 = nI 1) ∧ K v2 F510)
set_option maxRecDepth 100000 in
set_option maxHeartbeats 4000000 in
theorem k_X7_isItem_205 {p : Program} {l : Launch} {e : Env} {s : State} {m : MethodId} {args : Array Value} {below : List Frame} {meth : Method} {c : Code} {D : va_G} {dA : Nat → ClassId} {ad : Nat → Nat} {R : List Nat} {A : Nat → Prop} {K : Int32 → HF → Prop} (X : Cx p s m args meth c cX7_isItem 4 RX7 D dA) (hA : ∀ q, s.heap.size ≤ q → A q) (hr : meth.sig.returnType = some .boolean) (hT : Md R) : ∀ (F : HF) (v2 : Int32), wp_X7_isItem_205 K  F v2 → J p l e rm_X7_isItem s m args below meth c 4 D dA ad R A (QI D dA ad R A below args s K) F 205 [(0, .ref (ad 100)), (2, .int v2)] [] := by
  intro F v2 h
  unfold wp_X7_isItem_205 at h
  refine r_aload_n (pc := 205) X 0 dX7_isItem_205 rfl rfl ?_
  refine r_dup (pc := 206) X dX7_isItem_206 rfl ?_
  refine fg_X7_111 (pc := 207) X hT.1 dX7_isItem_207 ?_
  refine r_iconst (pc := 210) (v := (nI 1)) X dX7_isItem_210 (by decide) ?_
  refine r_iadd (pc := 211) X dX7_isItem_211 ?_
  refine fp_X7_111 (pc := 212) X hT.1 dX7_isItem_212 (fun F510 e1 => ?_)
  replace h := h F510 e1
  refine r_iload_n (pc := 215) X 1 dX7_isItem_215 rfl rfl ?_
  exact r_zret (pc := 216) X hr dX7_isItem_216 (nbz h.1) h.2
def wp_X7_isItem_185 (K : Int32 → HF → Prop) (F : HF) (s0 : Int32) : Prop := ((s0 = (nI 0)) → (wp_X7_isItem_205 K  F s0)) ∧ ((¬ s0 = (nI 0)) → ((vp_in (nI 0) 4) ∧ ((vp_in (F 100 7) 8) ∧ (∀ F511 : HF, F511 = hup F 109 (F 100 7).toNatClampNeg (F 103 (nI 0).toNatClampNeg) → (wp_X7_isItem_205 K  F511 s0)))))
set_option maxRecDepth 100000 in
set_option maxHeartbeats 4000000 in
theorem k_X7_isItem_185 {p : Program} {l : Launch} {e : Env} {s : State} {m : MethodId} {args : Array Value} {below : List Frame} {meth : Method} {c : Code} {D : va_G} {dA : Nat → ClassId} {ad : Nat → Nat} {R : List Nat} {A : Nat → Prop} {K : Int32 → HF → Prop} (X : Cx p s m args meth c cX7_isItem 4 RX7 D dA) (hA : ∀ q, s.heap.size ≤ q → A q) (hr : meth.sig.returnType = some .boolean) (hT : Md R) : ∀ (F : HF) (s0 : Int32), wp_X7_isItem_185 K  F s0 → J p l e rm_X7_isItem s m args below meth c 4 D dA ad R A (QI D dA ad R A below args s K) F 185 [(0, .ref (ad 100))] [.int s0] := by
  intro F s0 h
  unfold wp_X7_isItem_185 at h
  refine r_istore_n (pc := 185) X [(2, .int s0), (0, .ref (ad 100))] dX7_isItem_185 rfl (by decide) rfl ?_
  refine r_iload_n (pc := 186) X 0 dX7_isItem_186 rfl rfl ?_
  refine r_if_eq (pc := 187) (tgt := 205) X dX7_isItem_187 (by decide) (fun hc => ?_) (fun hc => ?_)
  · replace h := h.1 hc
    refine r_sub [1, 0] rfl ?_
    exact k_X7_isItem_205 X hA hr hT  _ _ h
  · replace h := h.2 hc
    refine r_aload_n (pc := 190) X 1 dX7_isItem_190 rfl rfl ?_
    refine fg_X7_19 (pc := 191) X hT.1 dX7_isItem_191 ?_
    refine r_aload_n (pc := 194) X 1 dX7_isItem_194 rfl rfl ?_
    refine fg_X7_111 (pc := 195) X hT.1 dX7_isItem_195 ?_
    refine r_aload_n (pc := 198) X 1 dX7_isItem_198 rfl rfl ?_
    refine fg_X7_13 (pc := 199) X hT.1 dX7_isItem_199 ?_
    refine r_iconst (pc := 202) (v := (nI 0)) X dX7_isItem_202 (by decide) ?_
    refine r_iald (pc := 203) X hT.2.2.1 h.1 dX7_isItem_203 ?_
    replace h := h.2
    refine r_iast (pc := 204) X hT.2.2.2.2.1 h.1 dX7_isItem_204 (fun F511 e1 => ?_)
    replace h := h.2 F511 e1
    refine r_sub [1, 0] rfl ?_
    exact k_X7_isItem_205 X hA hr hT  _ _ h
def wp_X7_isItem_184 (K : Int32 → HF → Prop) (F : HF) : Prop := wp_X7_isItem_185 K  F (nI 0)
set_option maxRecDepth 100000 in
set_option maxHeartbeats 4000000 in
theorem k_X7_isItem_184 {p : Program} {l : Launch} {e : Env} {s : State} {m : MethodId} {args : Array Value} {below : List Frame} {meth : Method} {c : Code} {D : va_G} {dA : Nat → ClassId} {ad : Nat → Nat} {R : List Nat} {A : Nat → Prop} {K : Int32 → HF → Prop} (X : Cx p s m args meth c cX7_isItem 4 RX7 D dA) (hA : ∀ q, s.heap.size ≤ q → A q) (hr : meth.sig.returnType = some .boolean) (hT : Md R) : ∀ (F : HF), wp_X7_isItem_184 K  F  → J p l e rm_X7_isItem s m args below meth c 4 D dA ad R A (QI D dA ad R A below args s K) F 184 [(0, .ref (ad 100))] [] := by
  intro F  h
  unfold wp_X7_isItem_184 at h
  refine r_iconst (pc := 184) (v := (nI 0)) X dX7_isItem_184 (by decide) ?_
  exact k_X7_isItem_185 X hA hr hT  _ _ h
def wp_X7_isItem_134 (K : Int32 → HF → Prop) (F : HF) (v2 : Int32) : Prop := ∀ F913 : HF, F913 = hup F 100 6 ((F 100 6) + (nI 1)) → ((v2 = nI 0 ∨ v2 = nI 1) ∧ K v2 F913)
set_option maxRecDepth 100000 in
set_option maxHeartbeats 4000000 in
theorem k_X7_isItem_134 {p : Program} {l : Launch} {e : Env} {s : State} {m : MethodId} {args : Array Value} {below : List Frame} {meth : Method} {c : Code} {D : va_G} {dA : Nat → ClassId} {ad : Nat → Nat} {R : List Nat} {A : Nat → Prop} {K : Int32 → HF → Prop} (X : Cx p s m args meth c cX7_isItem 4 RX7 D dA) (hA : ∀ q, s.heap.size ≤ q → A q) (hr : meth.sig.returnType = some .boolean) (hT : Md R) : ∀ (F : HF) (v2 : Int32), wp_X7_isItem_134 K  F v2 → J p l e rm_X7_isItem s m args below meth c 4 D dA ad R A (QI D dA ad R A below args s K) F 134 [(0, .ref (ad 100)), (2, .int v2)] [] := by
  intro F v2 h
  unfold wp_X7_isItem_134 at h
  refine r_aload_n (pc := 134) X 0 dX7_isItem_134 rfl rfl ?_
  refine r_dup (pc := 135) X dX7_isItem_135 rfl ?_
  refine fg_X7_104 (pc := 136) X hT.1 dX7_isItem_136 ?_
  refine r_iconst (pc := 139) (v := (nI 1)) X dX7_isItem_139 (by decide) ?_
  refine r_iadd (pc := 140) X dX7_isItem_140 ?_
  refine fp_X7_104 (pc := 141) X hT.1 dX7_isItem_141 (fun F913 e1 => ?_)
  replace h := h F913 e1
  refine r_iload_n (pc := 144) X 1 dX7_isItem_144 rfl rfl ?_
  exact r_zret (pc := 145) X hr dX7_isItem_145 (nbz h.1) h.2
def wp_X7_isItem_100 (K : Int32 → HF → Prop) : Nat → HF → Int32 → Int32 → Prop
  | 0 => fun _ _ _ => False
  | n100_ + 1 => fun F v2 v3 => (((nI 4) ≤ v3) → (wp_X7_isItem_134 K  F v2)) ∧ ((¬ (nI 4) ≤ v3) → (((v2 = (nI 0)) → (wp_X7_isItem_134 K  F v2)) ∧ ((¬ v2 = (nI 0)) → ((vp_in v3 4) ∧ ((vp_in (((nI 4) * (F 100 6)) + v3) 32) ∧ (∀ F914 : HF, F914 = hup F 108 (((nI 4) * (F 100 6)) + v3).toNatClampNeg (F 103 v3.toNatClampNeg) → (wp_X7_isItem_100 K  n100_ F914 v2 (v3 + (nI 1)))))))))
set_option maxRecDepth 100000 in
set_option maxHeartbeats 4000000 in
theorem k_X7_isItem_100 {p : Program} {l : Launch} {e : Env} {s : State} {m : MethodId} {args : Array Value} {below : List Frame} {meth : Method} {c : Code} {D : va_G} {dA : Nat → ClassId} {ad : Nat → Nat} {R : List Nat} {A : Nat → Prop} {K : Int32 → HF → Prop} (X : Cx p s m args meth c cX7_isItem 4 RX7 D dA) (hA : ∀ q, s.heap.size ≤ q → A q) (hr : meth.sig.returnType = some .boolean) (hT : Md R) : ∀ (n_ : Nat) (F : HF) (v2 : Int32) (v3 : Int32), wp_X7_isItem_100 K  n_ F v2 v3 → J p l e rm_X7_isItem s m args below meth c 4 D dA ad R A (QI D dA ad R A below args s K) F 100 [(0, .ref (ad 100)), (2, .int v2), (3, .int v3)] [] := by
  intro n_
  induction n_ with
  | zero => intro F v2 v3 h; exact h.elim
  | succ n_ ih =>
    intro F v2 v3 h
    unfold wp_X7_isItem_100 at h
    refine r_iload_n (pc := 100) X 2 dX7_isItem_100 rfl rfl ?_
    refine r_iconst (pc := 101) (v := (nI 4)) X dX7_isItem_101 (by decide) ?_
    refine r_icmp_ge (pc := 102) (tgt := 134) X dX7_isItem_102 (by decide) (fun hc => ?_) (fun hc => ?_)
    · replace h := h.1 hc
      refine r_sub [0, 1] rfl ?_
      exact k_X7_isItem_134 X hA hr hT  _ _ h
    · replace h := h.2 hc
      refine r_iload_n (pc := 105) X 1 dX7_isItem_105 rfl rfl ?_
      refine r_if_eq (pc := 106) (tgt := 134) X dX7_isItem_106 (by decide) (fun hc => ?_) (fun hc => ?_)
      · replace h := h.1 hc
        refine r_sub [0, 1] rfl ?_
        exact k_X7_isItem_134 X hA hr hT  _ _ h
      · replace h := h.2 hc
        refine r_aload_n (pc := 109) X 0 dX7_isItem_109 rfl rfl ?_
        refine fg_X7_16 (pc := 110) X hT.1 dX7_isItem_110 ?_
        refine r_iconst (pc := 113) (v := (nI 4)) X dX7_isItem_113 (by decide) ?_
        refine r_aload_n (pc := 114) X 0 dX7_isItem_114 rfl rfl ?_
        refine fg_X7_104 (pc := 115) X hT.1 dX7_isItem_115 ?_
        refine r_imul (pc := 118) X dX7_isItem_118 ?_
        refine r_iload_n (pc := 119) X 2 dX7_isItem_119 rfl rfl ?_
        refine r_iadd (pc := 120) X dX7_isItem_120 ?_
        refine r_aload_n (pc := 121) X 0 dX7_isItem_121 rfl rfl ?_
        refine fg_X7_13 (pc := 122) X hT.1 dX7_isItem_122 ?_
        refine r_iload_n (pc := 125) X 2 dX7_isItem_125 rfl rfl ?_
        refine r_iald (pc := 126) X hT.2.2.1 h.1 dX7_isItem_126 ?_
        replace h := h.2
        refine r_iast (pc := 127) X hT.2.2.2.1 h.1 dX7_isItem_127 (fun F914 e1 => ?_)
        replace h := h.2 F914 e1
        refine r_iinc (pc := 128) (v := (v3 + (nI 1))) X 2 [(3, .int (v3 + (nI 1))), (0, .ref (ad 100)), (2, .int v2)] dX7_isItem_128 rfl rfl (by decide) rfl ?_
        refine r_goto (pc := 131) (tgt := 100) X dX7_isItem_131 (by decide) ?_
        refine r_sub [1, 2, 0] rfl ?_
        exact ih _ _ _ h
def wp_X7_isItem_97 (K : Int32 → HF → Prop) (F : HF) (s0 : Int32) : Prop := ∃ m_, wp_X7_isItem_100 K  m_ F s0 (nI 0)
set_option maxRecDepth 100000 in
set_option maxHeartbeats 4000000 in
theorem k_X7_isItem_97 {p : Program} {l : Launch} {e : Env} {s : State} {m : MethodId} {args : Array Value} {below : List Frame} {meth : Method} {c : Code} {D : va_G} {dA : Nat → ClassId} {ad : Nat → Nat} {R : List Nat} {A : Nat → Prop} {K : Int32 → HF → Prop} (X : Cx p s m args meth c cX7_isItem 4 RX7 D dA) (hA : ∀ q, s.heap.size ≤ q → A q) (hr : meth.sig.returnType = some .boolean) (hT : Md R) : ∀ (F : HF) (s0 : Int32), wp_X7_isItem_97 K  F s0 → J p l e rm_X7_isItem s m args below meth c 4 D dA ad R A (QI D dA ad R A below args s K) F 97 [(0, .ref (ad 100))] [.int s0] := by
  intro F s0 h
  unfold wp_X7_isItem_97 at h
  refine r_istore_n (pc := 97) X [(2, .int s0), (0, .ref (ad 100))] dX7_isItem_97 rfl (by decide) rfl ?_
  refine r_iconst (pc := 98) (v := (nI 0)) X dX7_isItem_98 (by decide) ?_
  refine r_istore_n (pc := 99) X [(3, .int (nI 0)), (2, .int s0), (0, .ref (ad 100))] dX7_isItem_99 rfl (by decide) rfl ?_
  refine r_sub [2, 1, 0] rfl ?_
  obtain ⟨n1, h⟩ := h
  exact k_X7_isItem_100 X hA hr hT  n1 _ _ _ h
def wp_X7_isItem_96 (K : Int32 → HF → Prop) (F : HF) : Prop := wp_X7_isItem_97 K  F (nI 0)
set_option maxRecDepth 100000 in
set_option maxHeartbeats 4000000 in
theorem k_X7_isItem_96 {p : Program} {l : Launch} {e : Env} {s : State} {m : MethodId} {args : Array Value} {below : List Frame} {meth : Method} {c : Code} {D : va_G} {dA : Nat → ClassId} {ad : Nat → Nat} {R : List Nat} {A : Nat → Prop} {K : Int32 → HF → Prop} (X : Cx p s m args meth c cX7_isItem 4 RX7 D dA) (hA : ∀ q, s.heap.size ≤ q → A q) (hr : meth.sig.returnType = some .boolean) (hT : Md R) : ∀ (F : HF), wp_X7_isItem_96 K  F  → J p l e rm_X7_isItem s m args below meth c 4 D dA ad R A (QI D dA ad R A below args s K) F 96 [(0, .ref (ad 100))] [] := by
  intro F  h
  unfold wp_X7_isItem_96 at h
  refine r_iconst (pc := 96) (v := (nI 0)) X dX7_isItem_96 (by decide) ?_
  exact k_X7_isItem_97 X hA hr hT  _ _ h
def wp_X7_isItem (K : Int32 → HF → Prop) (F : HF) : Prop := wp_X7_letterAt (fun x1 F1 => ∀ F2 : HF, F2 = hup F1 100 2 ((F1 100 2) + (nI 1)) → (((¬ x1 = (nI 98)) → (((¬ x1 = (nI 119)) → (((¬ x1 = (nI 114)) → (((¬ x1 = (nI 108)) → (K (nI 0) F2)) ∧ ((x1 = (nI 108)) → (wp_X7_isRow (fun x2 F3 => ((x2 = (nI 0)) → (K (nI 0) F3)) ∧ ((¬ x2 = (nI 0)) → ((vp_in (nI 0) 4) ∧ (wp_X7_in (fun x3 F4 => ((x3 = (nI 0)) → (K (nI 0) F4)) ∧ ((¬ x3 = (nI 0)) → ((vp_in (nI 1) 4) ∧ ((((F4 103 (nI 1).toNatClampNeg) ≤ (nI 9)) → ((vp_in (nI 0) 4) ∧ (∀ F5 : HF, F5 = hup F4 100 11 (F4 103 (nI 0).toNatClampNeg) → ((vp_in (nI 1) 4) ∧ (∀ F6 : HF, F6 = hup F5 100 12 (F5 103 (nI 1).toNatClampNeg) → (K (nI 1) F6)))))) ∧ ((¬ (F4 103 (nI 1).toNatClampNeg) ≤ (nI 9)) → (K (nI 0) F4)))))) F3 (F3 103 (nI 0).toNatClampNeg) (nI 1) (nI 40))))) F2 (nI 2))))) ∧ ((x1 = (nI 114)) → (wp_X7_isRow (fun x4 F7 => ((x4 = (nI 0)) → (wp_X7_isItem_250 K  F7)) ∧ ((¬ x4 = (nI 0)) → ((vp_in (nI 0) 4) ∧ (wp_X7_in (fun x5 F209 => ((x5 = (nI 0)) → (wp_X7_isItem_250 K  F209)) ∧ ((¬ x5 = (nI 0)) → (wp_X7_isItem_251 K  F209 (nI 1)))) F7 (F7 103 (nI 0).toNatClampNeg) (nI 1) (nI 9))))) F2 (nI 1))))) ∧ ((x1 = (nI 119)) → ((((nI 8) ≤ (F2 100 7)) → (wp_X7_isItem_184 K  F2)) ∧ ((¬ (nI 8) ≤ (F2 100 7)) → (wp_X7_isRow (fun x6 F512 => ((x6 = (nI 0)) → (wp_X7_isItem_184 K  F512)) ∧ ((¬ x6 = (nI 0)) → ((vp_in (nI 0) 4) ∧ ((((nI 21) ≤ (F512 103 (nI 0).toNatClampNeg)) → (wp_X7_isItem_184 K  F512)) ∧ ((¬ (nI 21) ≤ (F512 103 (nI 0).toNatClampNeg)) → (wp_X7_isItem_185 K  F512 (nI 1))))))) F2 (nI 1))))))) ∧ ((x1 = (nI 98)) → ((((nI 8) ≤ (F2 100 6)) → (wp_X7_isItem_96 K  F2)) ∧ ((¬ (nI 8) ≤ (F2 100 6)) → (wp_X7_isRow (fun x7 F915 => ((x7 = (nI 0)) → (wp_X7_isItem_96 K  F915)) ∧ ((¬ x7 = (nI 0)) → ((vp_in (nI 0) 4) ∧ (wp_X7_in (fun x8 F916 => ((x8 = (nI 0)) → (wp_X7_isItem_96 K  F916)) ∧ ((¬ x8 = (nI 0)) → ((vp_in (nI 1) 4) ∧ (wp_X7_in (fun x9 F917 => ((x9 = (nI 0)) → (wp_X7_isItem_96 K  F917)) ∧ ((¬ x9 = (nI 0)) → ((vp_in (nI 2) 4) ∧ ((((nI 5) ≤ (F917 103 (nI 2).toNatClampNeg)) → (wp_X7_isItem_96 K  F917)) ∧ ((¬ (nI 5) ≤ (F917 103 (nI 2).toNatClampNeg)) → ((vp_in (nI 3) 4) ∧ ((((nI 41) ≤ (F917 103 (nI 3).toNatClampNeg)) → (wp_X7_isItem_96 K  F917)) ∧ ((¬ (nI 41) ≤ (F917 103 (nI 3).toNatClampNeg)) → (wp_X7_isItem_97 K  F917 (nI 1)))))))))) F916 (F916 103 (nI 1).toNatClampNeg) (nI 1) (nI 3))))) F915 (F915 103 (nI 0).toNatClampNeg) (nI 1) (nI 60))))) F2 (nI 4))))))) F (F 100 2)
set_option maxRecDepth 100000 in
set_option maxHeartbeats 4000000 in
theorem c_X7_isItem {l : Launch} {D : va_G} {dA : Nat → ClassId} {ad : Nat → Nat} {R : List Nat} {F : HF} {K : Int32 → HF → Prop} (hT : Md R) (h : wp_X7_isItem K F ) : MI l yX7_isItem cX7_isItem 4 .boolean rm_X7_isItem D dA ad R F [.ref (ad 100)] K := by
  refine MI.of (own := RX7) (by decide) rfl (Nat.le_of_ble_eq_true rfl) ?_
  intro p e s m args below meth c A hA X hr
  unfold wp_X7_isItem at h
  show J p l e rm_X7_isItem s m args below meth c 4 D dA ad R A (QI D dA ad R A below args s K) F 0 [(0, .ref (ad 100))] []
  refine r_aload_n (pc := 0) X 0 dX7_isItem_0 rfl rfl ?_
  refine r_aload_n (pc := 1) X 0 dX7_isItem_1 rfl rfl ?_
  refine fg_X7_97 (pc := 2) X hT.1 dX7_isItem_2 ?_
  refine r_callIV (pc := 5) (As := [.int (F 100 2)]) (st := []) X hA (c_X7_letterAt hT h) g_X7_100 cl_X7 hT.1 hd_X7_letterAt rfl rfl rfl ⟨Nat.le_of_ble_eq_true rfl, Nat.le_of_ble_eq_true rfl⟩ rfl (Nat.le_of_ble_eq_true rfl) dX7_isItem_5 (fun x1 F1 h => ?_)
  refine r_istore_n (pc := 8) X [(1, .int x1), (0, .ref (ad 100))] dX7_isItem_8 rfl (by decide) rfl ?_
  refine r_aload_n (pc := 9) X 1 dX7_isItem_9 rfl rfl ?_
  refine r_dup (pc := 10) X dX7_isItem_10 rfl ?_
  refine fg_X7_97 (pc := 11) X hT.1 dX7_isItem_11 ?_
  refine r_iconst (pc := 14) (v := (nI 1)) X dX7_isItem_14 (by decide) ?_
  refine r_iadd (pc := 15) X dX7_isItem_15 ?_
  refine fp_X7_97 (pc := 16) X hT.1 dX7_isItem_16 (fun F2 e1 => ?_)
  replace h := h F2 e1
  refine r_iload_n (pc := 19) X 0 dX7_isItem_19 rfl rfl ?_
  refine r_bipush (pc := 20) (v := (nI 98)) X dX7_isItem_20 (by decide) ?_
  refine r_icmp_ne (pc := 22) (tgt := 146) X dX7_isItem_22 (by decide) (fun hc => ?_) (fun hc => ?_)
  · replace h := h.1 hc
    refine r_iload_n (pc := 146) X 0 dX7_isItem_146 rfl rfl ?_
    refine r_bipush (pc := 147) (v := (nI 119)) X dX7_isItem_147 (by decide) ?_
    refine r_icmp_ne (pc := 149) (tgt := 217) X dX7_isItem_149 (by decide) (fun hc => ?_) (fun hc => ?_)
    · replace h := h.1 hc
      refine r_iload_n (pc := 217) X 0 dX7_isItem_217 rfl rfl ?_
      refine r_bipush (pc := 218) (v := (nI 114)) X dX7_isItem_218 (by decide) ?_
      refine r_icmp_ne (pc := 220) (tgt := 264) X dX7_isItem_220 (by decide) (fun hc => ?_) (fun hc => ?_)
      · replace h := h.1 hc
        refine r_iload_n (pc := 264) X 0 dX7_isItem_264 rfl rfl ?_
        refine r_bipush (pc := 265) (v := (nI 108)) X dX7_isItem_265 (by decide) ?_
        refine r_icmp_ne (pc := 267) (tgt := 304) X dX7_isItem_267 (by decide) (fun hc => ?_) (fun hc => ?_)
        · replace h := h.1 hc
          refine r_iconst (pc := 304) (v := (nI 0)) X dX7_isItem_304 (by decide) ?_
          exact r_zret (pc := 305) X hr dX7_isItem_305 nb0 h
        · replace h := h.2 hc
          refine r_aload_n (pc := 270) X 1 dX7_isItem_270 rfl rfl ?_
          refine r_iconst (pc := 271) (v := (nI 2)) X dX7_isItem_271 (by decide) ?_
          refine r_callIV (pc := 272) (As := [.int (nI 2)]) (st := []) X hA (c_X7_isRow hT h) g_X7_107 cl_X7 hT.1 hd_X7_isRow rfl rfl rfl ⟨Nat.le_of_ble_eq_true rfl, Nat.le_of_ble_eq_true rfl⟩ rfl (Nat.le_of_ble_eq_true rfl) dX7_isItem_272 (fun x2 F3 h => ?_)
          refine r_if_eq (pc := 275) (tgt := 304) X dX7_isItem_275 (by decide) (fun hc => ?_) (fun hc => ?_)
          · replace h := h.1 hc
            refine r_iconst (pc := 304) (v := (nI 0)) X dX7_isItem_304 (by decide) ?_
            exact r_zret (pc := 305) X hr dX7_isItem_305 nb0 h
          · replace h := h.2 hc
            refine r_aload_n (pc := 278) X 1 dX7_isItem_278 rfl rfl ?_
            refine fg_X7_13 (pc := 279) X hT.1 dX7_isItem_279 ?_
            refine r_iconst (pc := 282) (v := (nI 0)) X dX7_isItem_282 (by decide) ?_
            refine r_iald (pc := 283) X hT.2.2.1 h.1 dX7_isItem_283 ?_
            replace h := h.2
            refine r_iconst (pc := 284) (v := (nI 1)) X dX7_isItem_284 (by decide) ?_
            refine r_bipush (pc := 285) (v := (nI 40)) X dX7_isItem_285 (by decide) ?_
            refine r_callIS (pc := 287) (As := [.int (F3 103 (nI 0).toNatClampNeg), .int (nI 1), .int (nI 40)]) (st := []) X hA (c_X7_in  h) g_X7_87 hd_X7_in rfl rfl rfl ⟨Nat.le_of_ble_eq_true rfl, Nat.le_of_ble_eq_true rfl⟩ rfl (Nat.le_of_ble_eq_true rfl) dX7_isItem_287 (fun x3 F4 h => ?_)
            refine r_if_eq (pc := 290) (tgt := 304) X dX7_isItem_290 (by decide) (fun hc => ?_) (fun hc => ?_)
            · replace h := h.1 hc
              refine r_iconst (pc := 304) (v := (nI 0)) X dX7_isItem_304 (by decide) ?_
              exact r_zret (pc := 305) X hr dX7_isItem_305 nb0 h
            · replace h := h.2 hc
              refine r_aload_n (pc := 293) X 1 dX7_isItem_293 rfl rfl ?_
              refine fg_X7_13 (pc := 294) X hT.1 dX7_isItem_294 ?_
              refine r_iconst (pc := 297) (v := (nI 1)) X dX7_isItem_297 (by decide) ?_
              refine r_iald (pc := 298) X hT.2.2.1 h.1 dX7_isItem_298 ?_
              replace h := h.2
              refine r_bipush (pc := 299) (v := (nI 9)) X dX7_isItem_299 (by decide) ?_
              refine r_icmp_le (pc := 301) (tgt := 306) X dX7_isItem_301 (by decide) (fun hc => ?_) (fun hc => ?_)
              · replace h := h.1 hc
                refine r_aload_n (pc := 306) X 1 dX7_isItem_306 rfl rfl ?_
                refine r_aload_n (pc := 307) X 1 dX7_isItem_307 rfl rfl ?_
                refine fg_X7_13 (pc := 308) X hT.1 dX7_isItem_308 ?_
                refine r_iconst (pc := 311) (v := (nI 0)) X dX7_isItem_311 (by decide) ?_
                refine r_iald (pc := 312) X hT.2.2.1 h.1 dX7_isItem_312 ?_
                replace h := h.2
                refine fp_X7_117 (pc := 313) X hT.1 dX7_isItem_313 (fun F5 e1 => ?_)
                replace h := h F5 e1
                refine r_aload_n (pc := 316) X 1 dX7_isItem_316 rfl rfl ?_
                refine r_aload_n (pc := 317) X 1 dX7_isItem_317 rfl rfl ?_
                refine fg_X7_13 (pc := 318) X hT.1 dX7_isItem_318 ?_
                refine r_iconst (pc := 321) (v := (nI 1)) X dX7_isItem_321 (by decide) ?_
                refine r_iald (pc := 322) X hT.2.2.1 h.1 dX7_isItem_322 ?_
                replace h := h.2
                refine fp_X7_120 (pc := 323) X hT.1 dX7_isItem_323 (fun F6 e1 => ?_)
                replace h := h F6 e1
                refine r_iconst (pc := 326) (v := (nI 1)) X dX7_isItem_326 (by decide) ?_
                exact r_zret (pc := 327) X hr dX7_isItem_327 nb1 h
              · replace h := h.2 hc
                refine r_iconst (pc := 304) (v := (nI 0)) X dX7_isItem_304 (by decide) ?_
                exact r_zret (pc := 305) X hr dX7_isItem_305 nb0 h
      · replace h := h.2 hc
        refine r_aload_n (pc := 223) X 1 dX7_isItem_223 rfl rfl ?_
        refine r_iconst (pc := 224) (v := (nI 1)) X dX7_isItem_224 (by decide) ?_
        refine r_callIV (pc := 225) (As := [.int (nI 1)]) (st := []) X hA (c_X7_isRow hT h) g_X7_107 cl_X7 hT.1 hd_X7_isRow rfl rfl rfl ⟨Nat.le_of_ble_eq_true rfl, Nat.le_of_ble_eq_true rfl⟩ rfl (Nat.le_of_ble_eq_true rfl) dX7_isItem_225 (fun x4 F7 h => ?_)
        refine r_if_eq (pc := 228) (tgt := 250) X dX7_isItem_228 (by decide) (fun hc => ?_) (fun hc => ?_)
        · replace h := h.1 hc
          refine r_sub [1] rfl ?_
          exact k_X7_isItem_250 X hA hr hT  _ h
        · replace h := h.2 hc
          refine r_aload_n (pc := 231) X 1 dX7_isItem_231 rfl rfl ?_
          refine fg_X7_13 (pc := 232) X hT.1 dX7_isItem_232 ?_
          refine r_iconst (pc := 235) (v := (nI 0)) X dX7_isItem_235 (by decide) ?_
          refine r_iald (pc := 236) X hT.2.2.1 h.1 dX7_isItem_236 ?_
          replace h := h.2
          refine r_iconst (pc := 237) (v := (nI 1)) X dX7_isItem_237 (by decide) ?_
          refine r_bipush (pc := 238) (v := (nI 9)) X dX7_isItem_238 (by decide) ?_
          refine r_callIS (pc := 240) (As := [.int (F7 103 (nI 0).toNatClampNeg), .int (nI 1), .int (nI 9)]) (st := []) X hA (c_X7_in  h) g_X7_87 hd_X7_in rfl rfl rfl ⟨Nat.le_of_ble_eq_true rfl, Nat.le_of_ble_eq_true rfl⟩ rfl (Nat.le_of_ble_eq_true rfl) dX7_isItem_240 (fun x5 F209 h => ?_)
          refine r_if_eq (pc := 243) (tgt := 250) X dX7_isItem_243 (by decide) (fun hc => ?_) (fun hc => ?_)
          · replace h := h.1 hc
            refine r_sub [1] rfl ?_
            exact k_X7_isItem_250 X hA hr hT  _ h
          · replace h := h.2 hc
            refine r_iconst (pc := 246) (v := (nI 1)) X dX7_isItem_246 (by decide) ?_
            refine r_goto (pc := 247) (tgt := 251) X dX7_isItem_247 (by decide) ?_
            refine r_sub [1] rfl ?_
            exact k_X7_isItem_251 X hA hr hT  _ _ h
    · replace h := h.2 hc
      refine r_aload_n (pc := 152) X 1 dX7_isItem_152 rfl rfl ?_
      refine fg_X7_111 (pc := 153) X hT.1 dX7_isItem_153 ?_
      refine r_bipush (pc := 156) (v := (nI 8)) X dX7_isItem_156 (by decide) ?_
      refine r_icmp_ge (pc := 158) (tgt := 184) X dX7_isItem_158 (by decide) (fun hc => ?_) (fun hc => ?_)
      · replace h := h.1 hc
        refine r_sub [1] rfl ?_
        exact k_X7_isItem_184 X hA hr hT  _ h
      · replace h := h.2 hc
        refine r_aload_n (pc := 161) X 1 dX7_isItem_161 rfl rfl ?_
        refine r_iconst (pc := 162) (v := (nI 1)) X dX7_isItem_162 (by decide) ?_
        refine r_callIV (pc := 163) (As := [.int (nI 1)]) (st := []) X hA (c_X7_isRow hT h) g_X7_107 cl_X7 hT.1 hd_X7_isRow rfl rfl rfl ⟨Nat.le_of_ble_eq_true rfl, Nat.le_of_ble_eq_true rfl⟩ rfl (Nat.le_of_ble_eq_true rfl) dX7_isItem_163 (fun x6 F512 h => ?_)
        refine r_if_eq (pc := 166) (tgt := 184) X dX7_isItem_166 (by decide) (fun hc => ?_) (fun hc => ?_)
        · replace h := h.1 hc
          refine r_sub [1] rfl ?_
          exact k_X7_isItem_184 X hA hr hT  _ h
        · replace h := h.2 hc
          refine r_aload_n (pc := 169) X 1 dX7_isItem_169 rfl rfl ?_
          refine fg_X7_13 (pc := 170) X hT.1 dX7_isItem_170 ?_
          refine r_iconst (pc := 173) (v := (nI 0)) X dX7_isItem_173 (by decide) ?_
          refine r_iald (pc := 174) X hT.2.2.1 h.1 dX7_isItem_174 ?_
          replace h := h.2
          refine r_bipush (pc := 175) (v := (nI 21)) X dX7_isItem_175 (by decide) ?_
          refine r_icmp_ge (pc := 177) (tgt := 184) X dX7_isItem_177 (by decide) (fun hc => ?_) (fun hc => ?_)
          · replace h := h.1 hc
            refine r_sub [1] rfl ?_
            exact k_X7_isItem_184 X hA hr hT  _ h
          · replace h := h.2 hc
            refine r_iconst (pc := 180) (v := (nI 1)) X dX7_isItem_180 (by decide) ?_
            refine r_goto (pc := 181) (tgt := 185) X dX7_isItem_181 (by decide) ?_
            refine r_sub [1] rfl ?_
            exact k_X7_isItem_185 X hA hr hT  _ _ h
  · replace h := h.2 hc
    refine r_aload_n (pc := 25) X 1 dX7_isItem_25 rfl rfl ?_
    refine fg_X7_104 (pc := 26) X hT.1 dX7_isItem_26 ?_
    refine r_bipush (pc := 29) (v := (nI 8)) X dX7_isItem_29 (by decide) ?_
    refine r_icmp_ge (pc := 31) (tgt := 96) X dX7_isItem_31 (by decide) (fun hc => ?_) (fun hc => ?_)
    · replace h := h.1 hc
      refine r_sub [1] rfl ?_
      exact k_X7_isItem_96 X hA hr hT  _ h
    · replace h := h.2 hc
      refine r_aload_n (pc := 34) X 1 dX7_isItem_34 rfl rfl ?_
      refine r_iconst (pc := 35) (v := (nI 4)) X dX7_isItem_35 (by decide) ?_
      refine r_callIV (pc := 36) (As := [.int (nI 4)]) (st := []) X hA (c_X7_isRow hT h) g_X7_107 cl_X7 hT.1 hd_X7_isRow rfl rfl rfl ⟨Nat.le_of_ble_eq_true rfl, Nat.le_of_ble_eq_true rfl⟩ rfl (Nat.le_of_ble_eq_true rfl) dX7_isItem_36 (fun x7 F915 h => ?_)
      refine r_if_eq (pc := 39) (tgt := 96) X dX7_isItem_39 (by decide) (fun hc => ?_) (fun hc => ?_)
      · replace h := h.1 hc
        refine r_sub [1] rfl ?_
        exact k_X7_isItem_96 X hA hr hT  _ h
      · replace h := h.2 hc
        refine r_aload_n (pc := 42) X 1 dX7_isItem_42 rfl rfl ?_
        refine fg_X7_13 (pc := 43) X hT.1 dX7_isItem_43 ?_
        refine r_iconst (pc := 46) (v := (nI 0)) X dX7_isItem_46 (by decide) ?_
        refine r_iald (pc := 47) X hT.2.2.1 h.1 dX7_isItem_47 ?_
        replace h := h.2
        refine r_iconst (pc := 48) (v := (nI 1)) X dX7_isItem_48 (by decide) ?_
        refine r_bipush (pc := 49) (v := (nI 60)) X dX7_isItem_49 (by decide) ?_
        refine r_callIS (pc := 51) (As := [.int (F915 103 (nI 0).toNatClampNeg), .int (nI 1), .int (nI 60)]) (st := []) X hA (c_X7_in  h) g_X7_87 hd_X7_in rfl rfl rfl ⟨Nat.le_of_ble_eq_true rfl, Nat.le_of_ble_eq_true rfl⟩ rfl (Nat.le_of_ble_eq_true rfl) dX7_isItem_51 (fun x8 F916 h => ?_)
        refine r_if_eq (pc := 54) (tgt := 96) X dX7_isItem_54 (by decide) (fun hc => ?_) (fun hc => ?_)
        · replace h := h.1 hc
          refine r_sub [1] rfl ?_
          exact k_X7_isItem_96 X hA hr hT  _ h
        · replace h := h.2 hc
          refine r_aload_n (pc := 57) X 1 dX7_isItem_57 rfl rfl ?_
          refine fg_X7_13 (pc := 58) X hT.1 dX7_isItem_58 ?_
          refine r_iconst (pc := 61) (v := (nI 1)) X dX7_isItem_61 (by decide) ?_
          refine r_iald (pc := 62) X hT.2.2.1 h.1 dX7_isItem_62 ?_
          replace h := h.2
          refine r_iconst (pc := 63) (v := (nI 1)) X dX7_isItem_63 (by decide) ?_
          refine r_iconst (pc := 64) (v := (nI 3)) X dX7_isItem_64 (by decide) ?_
          refine r_callIS (pc := 65) (As := [.int (F916 103 (nI 1).toNatClampNeg), .int (nI 1), .int (nI 3)]) (st := []) X hA (c_X7_in  h) g_X7_87 hd_X7_in rfl rfl rfl ⟨Nat.le_of_ble_eq_true rfl, Nat.le_of_ble_eq_true rfl⟩ rfl (Nat.le_of_ble_eq_true rfl) dX7_isItem_65 (fun x9 F917 h => ?_)
          refine r_if_eq (pc := 68) (tgt := 96) X dX7_isItem_68 (by decide) (fun hc => ?_) (fun hc => ?_)
          · replace h := h.1 hc
            refine r_sub [1] rfl ?_
            exact k_X7_isItem_96 X hA hr hT  _ h
          · replace h := h.2 hc
            refine r_aload_n (pc := 71) X 1 dX7_isItem_71 rfl rfl ?_
            refine fg_X7_13 (pc := 72) X hT.1 dX7_isItem_72 ?_
            refine r_iconst (pc := 75) (v := (nI 2)) X dX7_isItem_75 (by decide) ?_
            refine r_iald (pc := 76) X hT.2.2.1 h.1 dX7_isItem_76 ?_
            replace h := h.2
            refine r_iconst (pc := 77) (v := (nI 5)) X dX7_isItem_77 (by decide) ?_
            refine r_icmp_ge (pc := 78) (tgt := 96) X dX7_isItem_78 (by decide) (fun hc => ?_) (fun hc => ?_)
            · replace h := h.1 hc
              refine r_sub [1] rfl ?_
              exact k_X7_isItem_96 X hA hr hT  _ h
            · replace h := h.2 hc
              refine r_aload_n (pc := 81) X 1 dX7_isItem_81 rfl rfl ?_
              refine fg_X7_13 (pc := 82) X hT.1 dX7_isItem_82 ?_
              refine r_iconst (pc := 85) (v := (nI 3)) X dX7_isItem_85 (by decide) ?_
              refine r_iald (pc := 86) X hT.2.2.1 h.1 dX7_isItem_86 ?_
              replace h := h.2
              refine r_bipush (pc := 87) (v := (nI 41)) X dX7_isItem_87 (by decide) ?_
              refine r_icmp_ge (pc := 89) (tgt := 96) X dX7_isItem_89 (by decide) (fun hc => ?_) (fun hc => ?_)
              · replace h := h.1 hc
                refine r_sub [1] rfl ?_
                exact k_X7_isItem_96 X hA hr hT  _ h
              · replace h := h.2 hc
                refine r_iconst (pc := 92) (v := (nI 1)) X dX7_isItem_92 (by decide) ?_
                refine r_goto (pc := 93) (tgt := 97) X dX7_isItem_93 (by decide) ?_
                refine r_sub [1] rfl ?_
                exact k_X7_isItem_97 X hA hr hT  _ _ h
theorem dX7_isRead_0 : decode cX7_isRead 0 = .ok (.aload_n 0, 1) := by decide +kernel
theorem dX7_isRead_1 : decode cX7_isRead 1 = .ok (.iconst 0, 1) := by decide +kernel
theorem dX7_isRead_2 : decode cX7_isRead 2 = .ok (.putfield 97, 3) := by decide +kernel
theorem dX7_isRead_5 : decode cX7_isRead 5 = .ok (.aload_n 0, 1) := by decide +kernel
theorem dX7_isRead_6 : decode cX7_isRead 6 = .ok (.iconst 0, 1) := by decide +kernel
theorem dX7_isRead_7 : decode cX7_isRead 7 = .ok (.putfield 104, 3) := by decide +kernel
theorem dX7_isRead_10 : decode cX7_isRead 10 = .ok (.aload_n 0, 1) := by decide +kernel
theorem dX7_isRead_11 : decode cX7_isRead 11 = .ok (.iconst 0, 1) := by decide +kernel
theorem dX7_isRead_12 : decode cX7_isRead 12 = .ok (.putfield 111, 3) := by decide +kernel
theorem dX7_isRead_15 : decode cX7_isRead 15 = .ok (.aload_n 0, 1) := by decide +kernel
theorem dX7_isRead_16 : decode cX7_isRead 16 = .ok (.iconst 5, 1) := by decide +kernel
theorem dX7_isRead_17 : decode cX7_isRead 17 = .ok (.putfield 114, 3) := by decide +kernel
theorem dX7_isRead_20 : decode cX7_isRead 20 = .ok (.aload_n 0, 1) := by decide +kernel
theorem dX7_isRead_21 : decode cX7_isRead 21 = .ok (.bipush 12, 2) := by decide +kernel
theorem dX7_isRead_23 : decode cX7_isRead 23 = .ok (.putfield 117, 3) := by decide +kernel
theorem dX7_isRead_26 : decode cX7_isRead 26 = .ok (.aload_n 0, 1) := by decide +kernel
theorem dX7_isRead_27 : decode cX7_isRead 27 = .ok (.iconst 1, 1) := by decide +kernel
theorem dX7_isRead_28 : decode cX7_isRead 28 = .ok (.putfield 120, 3) := by decide +kernel
theorem dX7_isRead_31 : decode cX7_isRead 31 = .ok (.aload_n 0, 1) := by decide +kernel
theorem dX7_isRead_32 : decode cX7_isRead 32 = .ok (.getfield 97, 3) := by decide +kernel
theorem dX7_isRead_35 : decode cX7_isRead 35 = .ok (.aload_n 0, 1) := by decide +kernel
theorem dX7_isRead_36 : decode cX7_isRead 36 = .ok (.getfield 91, 3) := by decide +kernel
theorem dX7_isRead_39 : decode cX7_isRead 39 = .ok (.if_icmp .ge 20, 3) := by decide +kernel
theorem dX7_isRead_42 : decode cX7_isRead 42 = .ok (.aload_n 0, 1) := by decide +kernel
theorem dX7_isRead_43 : decode cX7_isRead 43 = .ok (.aload_n 0, 1) := by decide +kernel
theorem dX7_isRead_44 : decode cX7_isRead 44 = .ok (.getfield 97, 3) := by decide +kernel
theorem dX7_isRead_47 : decode cX7_isRead 47 = .ok (.putfield 123, 3) := by decide +kernel
theorem dX7_isRead_50 : decode cX7_isRead 50 = .ok (.aload_n 0, 1) := by decide +kernel
theorem dX7_isRead_51 : decode cX7_isRead 51 = .ok (.invokevirtual 126, 3) := by decide +kernel
theorem dX7_isRead_54 : decode cX7_isRead 54 = .ok (.ifCond .ne (-23), 3) := by decide +kernel
theorem dX7_isRead_57 : decode cX7_isRead 57 = .ok (.iconst 0, 1) := by decide +kernel
theorem dX7_isRead_58 : decode cX7_isRead 58 = .ok (.ireturn, 1) := by decide +kernel
theorem dX7_isRead_59 : decode cX7_isRead 59 = .ok (.iconst 1, 1) := by decide +kernel
theorem dX7_isRead_60 : decode cX7_isRead 60 = .ok (.ireturn, 1) := by decide +kernel
theorem hd_X7_isRead : yX7_isRead.cls = RX7 ∧ yX7_isRead.cls ≠ "java/lang/invoke/MethodHandle" ∧ yX7_isRead.cls ≠ "java/lang/invoke/VarHandle" ∧ (parseMethodDescriptor yX7_isRead.desc).map (fun d => d.parameters.length) = some 0 := by decide +kernel
abbrev rm_X7_isRead : Room := { frames := 3, cells := 0, slots := 0, locals := 68 }
def wp_X7_isRead_31 (K : Int32 → HF → Prop) : Nat → HF → Prop
  | 0 => fun _  => False
  | n31_ + 1 => fun F  => (((F 100 0) ≤ (F 100 2)) → (K (nI 1) F)) ∧ ((¬ (F 100 0) ≤ (F 100 2)) → (∀ F107 : HF, F107 = hup F 100 5 (F 100 2) → (wp_X7_isItem (fun x1 F108 => ((¬ x1 = (nI 0)) → (wp_X7_isRead_31 K  n31_ F108)) ∧ ((x1 = (nI 0)) → (K (nI 0) F108))) F107 )))
set_option maxRecDepth 100000 in
set_option maxHeartbeats 4000000 in
theorem k_X7_isRead_31 {p : Program} {l : Launch} {e : Env} {s : State} {m : MethodId} {args : Array Value} {below : List Frame} {meth : Method} {c : Code} {D : va_G} {dA : Nat → ClassId} {ad : Nat → Nat} {R : List Nat} {A : Nat → Prop} {K : Int32 → HF → Prop} (X : Cx p s m args meth c cX7_isRead 1 RX7 D dA) (hA : ∀ q, s.heap.size ≤ q → A q) (hr : meth.sig.returnType = some .boolean) (hT : Md R) : ∀ (n_ : Nat) (F : HF), wp_X7_isRead_31 K  n_ F  → J p l e rm_X7_isRead s m args below meth c 1 D dA ad R A (QI D dA ad R A below args s K) F 31 [(0, .ref (ad 100))] [] := by
  intro n_
  induction n_ with
  | zero => intro F  h; exact h.elim
  | succ n_ ih =>
    intro F  h
    unfold wp_X7_isRead_31 at h
    refine r_aload_n (pc := 31) X 0 dX7_isRead_31 rfl rfl ?_
    refine fg_X7_97 (pc := 32) X hT.1 dX7_isRead_32 ?_
    refine r_aload_n (pc := 35) X 0 dX7_isRead_35 rfl rfl ?_
    refine fg_X7_91 (pc := 36) X hT.1 dX7_isRead_36 ?_
    refine r_icmp_ge (pc := 39) (tgt := 59) X dX7_isRead_39 (by decide) (fun hc => ?_) (fun hc => ?_)
    · replace h := h.1 hc
      refine r_iconst (pc := 59) (v := (nI 1)) X dX7_isRead_59 (by decide) ?_
      exact r_zret (pc := 60) X hr dX7_isRead_60 nb1 h
    · replace h := h.2 hc
      refine r_aload_n (pc := 42) X 0 dX7_isRead_42 rfl rfl ?_
      refine r_aload_n (pc := 43) X 0 dX7_isRead_43 rfl rfl ?_
      refine fg_X7_97 (pc := 44) X hT.1 dX7_isRead_44 ?_
      refine fp_X7_123 (pc := 47) X hT.1 dX7_isRead_47 (fun F107 e1 => ?_)
      replace h := h F107 e1
      refine r_aload_n (pc := 50) X 0 dX7_isRead_50 rfl rfl ?_
      refine r_callIV (pc := 51) (As := []) (st := []) X hA (c_X7_isItem hT h) g_X7_126 cl_X7 hT.1 hd_X7_isItem rfl rfl rfl ⟨Nat.le_of_ble_eq_true rfl, Nat.le_of_ble_eq_true rfl⟩ rfl (Nat.le_of_ble_eq_true rfl) dX7_isRead_51 (fun x1 F108 h => ?_)
      refine r_if_ne (pc := 54) (tgt := 31) X dX7_isRead_54 (by decide) (fun hc => ?_) (fun hc => ?_)
      · replace h := h.1 hc
        exact ih _ h
      · replace h := h.2 hc
        refine r_iconst (pc := 57) (v := (nI 0)) X dX7_isRead_57 (by decide) ?_
        exact r_zret (pc := 58) X hr dX7_isRead_58 nb0 h
def wp_X7_isRead (K : Int32 → HF → Prop) (F : HF) : Prop := ∀ F1 : HF, F1 = hup F 100 2 (nI 0) → (∀ F2 : HF, F2 = hup F1 100 6 (nI 0) → (∀ F3 : HF, F3 = hup F2 100 7 (nI 0) → (∀ F4 : HF, F4 = hup F3 100 10 (nI 5) → (∀ F5 : HF, F5 = hup F4 100 11 (nI 12) → (∀ F6 : HF, F6 = hup F5 100 12 (nI 1) → (∃ m_, wp_X7_isRead_31 K  m_ F6))))))
set_option maxRecDepth 100000 in
set_option maxHeartbeats 4000000 in
theorem c_X7_isRead {l : Launch} {D : va_G} {dA : Nat → ClassId} {ad : Nat → Nat} {R : List Nat} {F : HF} {K : Int32 → HF → Prop} (hT : Md R) (h : wp_X7_isRead K F ) : MI l yX7_isRead cX7_isRead 1 .boolean rm_X7_isRead D dA ad R F [.ref (ad 100)] K := by
  refine MI.of (own := RX7) (by decide) rfl (Nat.le_of_ble_eq_true rfl) ?_
  intro p e s m args below meth c A hA X hr
  unfold wp_X7_isRead at h
  show J p l e rm_X7_isRead s m args below meth c 1 D dA ad R A (QI D dA ad R A below args s K) F 0 [(0, .ref (ad 100))] []
  refine r_aload_n (pc := 0) X 0 dX7_isRead_0 rfl rfl ?_
  refine r_iconst (pc := 1) (v := (nI 0)) X dX7_isRead_1 (by decide) ?_
  refine fp_X7_97 (pc := 2) X hT.1 dX7_isRead_2 (fun F1 e1 => ?_)
  replace h := h F1 e1
  refine r_aload_n (pc := 5) X 0 dX7_isRead_5 rfl rfl ?_
  refine r_iconst (pc := 6) (v := (nI 0)) X dX7_isRead_6 (by decide) ?_
  refine fp_X7_104 (pc := 7) X hT.1 dX7_isRead_7 (fun F2 e1 => ?_)
  replace h := h F2 e1
  refine r_aload_n (pc := 10) X 0 dX7_isRead_10 rfl rfl ?_
  refine r_iconst (pc := 11) (v := (nI 0)) X dX7_isRead_11 (by decide) ?_
  refine fp_X7_111 (pc := 12) X hT.1 dX7_isRead_12 (fun F3 e1 => ?_)
  replace h := h F3 e1
  refine r_aload_n (pc := 15) X 0 dX7_isRead_15 rfl rfl ?_
  refine r_iconst (pc := 16) (v := (nI 5)) X dX7_isRead_16 (by decide) ?_
  refine fp_X7_114 (pc := 17) X hT.1 dX7_isRead_17 (fun F4 e1 => ?_)
  replace h := h F4 e1
  refine r_aload_n (pc := 20) X 0 dX7_isRead_20 rfl rfl ?_
  refine r_bipush (pc := 21) (v := (nI 12)) X dX7_isRead_21 (by decide) ?_
  refine fp_X7_117 (pc := 23) X hT.1 dX7_isRead_23 (fun F5 e1 => ?_)
  replace h := h F5 e1
  refine r_aload_n (pc := 26) X 0 dX7_isRead_26 rfl rfl ?_
  refine r_iconst (pc := 27) (v := (nI 1)) X dX7_isRead_27 (by decide) ?_
  refine fp_X7_120 (pc := 28) X hT.1 dX7_isRead_28 (fun F6 e1 => ?_)
  replace h := h F6 e1
  obtain ⟨n1, h⟩ := h
  exact k_X7_isRead_31 X hA hr hT  n1 _ h
theorem dX7_fault_0 : decode cX7_fault 0 = .ok (.aload_n 0, 1) := by decide +kernel
theorem dX7_fault_1 : decode cX7_fault 1 = .ok (.invokevirtual 130, 3) := by decide +kernel
theorem dX7_fault_4 : decode cX7_fault 4 = .ok (.ifCond .eq 8, 3) := by decide +kernel
theorem dX7_fault_7 : decode cX7_fault 7 = .ok (.bipush (-4), 2) := by decide +kernel
theorem dX7_fault_9 : decode cX7_fault 9 = .ok (.goto 7, 3) := by decide +kernel
theorem dX7_fault_12 : decode cX7_fault 12 = .ok (.aload_n 0, 1) := by decide +kernel
theorem dX7_fault_13 : decode cX7_fault 13 = .ok (.getfield 123, 3) := by decide +kernel
theorem dX7_fault_16 : decode cX7_fault 16 = .ok (.ireturn, 1) := by decide +kernel
theorem hd_X7_fault : yX7_fault.cls = RX7 ∧ yX7_fault.cls ≠ "java/lang/invoke/MethodHandle" ∧ yX7_fault.cls ≠ "java/lang/invoke/VarHandle" ∧ (parseMethodDescriptor yX7_fault.desc).map (fun d => d.parameters.length) = some 0 := by decide +kernel
abbrev rm_X7_fault : Room := { frames := 4, cells := 0, slots := 0, locals := 88 }
def wp_X7_fault (K : Int32 → HF → Prop) (F : HF) : Prop := wp_X7_isRead (fun x1 F1 => ((x1 = (nI 0)) → (K (F1 100 5) F1)) ∧ ((¬ x1 = (nI 0)) → (K (-4 : Int32) F1))) F 
set_option maxRecDepth 100000 in
set_option maxHeartbeats 4000000 in
theorem c_X7_fault {l : Launch} {D : va_G} {dA : Nat → ClassId} {ad : Nat → Nat} {R : List Nat} {F : HF} {K : Int32 → HF → Prop} (hT : Md R) (h : wp_X7_fault K F ) : MI l yX7_fault cX7_fault 1 .int rm_X7_fault D dA ad R F [.ref (ad 100)] K := by
  refine MI.of (own := RX7) (by decide) rfl (Nat.le_of_ble_eq_true rfl) ?_
  intro p e s m args below meth c A hA X hr
  unfold wp_X7_fault at h
  show J p l e rm_X7_fault s m args below meth c 1 D dA ad R A (QI D dA ad R A below args s K) F 0 [(0, .ref (ad 100))] []
  refine r_aload_n (pc := 0) X 0 dX7_fault_0 rfl rfl ?_
  refine r_callIV (pc := 1) (As := []) (st := []) X hA (c_X7_isRead hT h) g_X7_130 cl_X7 hT.1 hd_X7_isRead rfl rfl rfl ⟨Nat.le_of_ble_eq_true rfl, Nat.le_of_ble_eq_true rfl⟩ rfl (Nat.le_of_ble_eq_true rfl) dX7_fault_1 (fun x1 F1 h => ?_)
  refine r_if_eq (pc := 4) (tgt := 12) X dX7_fault_4 (by decide) (fun hc => ?_) (fun hc => ?_)
  · replace h := h.1 hc
    refine r_aload_n (pc := 12) X 0 dX7_fault_12 rfl rfl ?_
    refine fg_X7_123 (pc := 13) X hT.1 dX7_fault_13 ?_
    exact r_iret (pc := 16) X hr dX7_fault_16 h
  · replace h := h.2 hc
    refine r_bipush (pc := 7) (v := (-4 : Int32)) X dX7_fault_7 (by decide) ?_
    refine r_goto (pc := 9) (tgt := 16) X dX7_fault_9 (by decide) ?_
    exact r_iret (pc := 16) X hr dX7_fault_16 h
theorem dX7_lay_0 : decode cX7_lay 0 = .ok (.aload_n 0, 1) := by decide +kernel
theorem dX7_lay_1 : decode cX7_lay 1 = .ok (.invokevirtual 130, 3) := by decide +kernel
theorem dX7_lay_4 : decode cX7_lay 4 = .ok (.ifCond .eq 10, 3) := by decide +kernel
theorem dX7_lay_7 : decode cX7_lay 7 = .ok (.aload_n 0, 1) := by decide +kernel
theorem dX7_lay_8 : decode cX7_lay 8 = .ok (.getfield 104, 3) := by decide +kernel
theorem dX7_lay_11 : decode cX7_lay 11 = .ok (.ifCond .ne 6, 3) := by decide +kernel
theorem dX7_lay_14 : decode cX7_lay 14 = .ok (.bipush (-2), 2) := by decide +kernel
theorem dX7_lay_16 : decode cX7_lay 16 = .ok (.ireturn, 1) := by decide +kernel
theorem dX7_lay_17 : decode cX7_lay 17 = .ok (.aload_n 0, 1) := by decide +kernel
theorem dX7_lay_18 : decode cX7_lay 18 = .ok (.aload_n 0, 1) := by decide +kernel
theorem dX7_lay_19 : decode cX7_lay 19 = .ok (.getfield 104, 3) := by decide +kernel
theorem dX7_lay_22 : decode cX7_lay 22 = .ok (.putfield 22, 3) := by decide +kernel
theorem dX7_lay_25 : decode cX7_lay 25 = .ok (.iconst 0, 1) := by decide +kernel
theorem dX7_lay_26 : decode cX7_lay 26 = .ok (.istore_n 1, 1) := by decide +kernel
theorem dX7_lay_27 : decode cX7_lay 27 = .ok (.iload_n 1, 1) := by decide +kernel
theorem dX7_lay_28 : decode cX7_lay 28 = .ok (.iconst 4, 1) := by decide +kernel
theorem dX7_lay_29 : decode cX7_lay 29 = .ok (.aload_n 0, 1) := by decide +kernel
theorem dX7_lay_30 : decode cX7_lay 30 = .ok (.getfield 22, 3) := by decide +kernel
theorem dX7_lay_33 : decode cX7_lay 33 = .ok (.imul, 1) := by decide +kernel
theorem dX7_lay_34 : decode cX7_lay 34 = .ok (.if_icmp .ge 21, 3) := by decide +kernel
theorem dX7_lay_37 : decode cX7_lay 37 = .ok (.aload_n 0, 1) := by decide +kernel
theorem dX7_lay_38 : decode cX7_lay 38 = .ok (.getfield 26, 3) := by decide +kernel
theorem dX7_lay_41 : decode cX7_lay 41 = .ok (.iload_n 1, 1) := by decide +kernel
theorem dX7_lay_42 : decode cX7_lay 42 = .ok (.aload_n 0, 1) := by decide +kernel
theorem dX7_lay_43 : decode cX7_lay 43 = .ok (.getfield 16, 3) := by decide +kernel
theorem dX7_lay_46 : decode cX7_lay 46 = .ok (.iload_n 1, 1) := by decide +kernel
theorem dX7_lay_47 : decode cX7_lay 47 = .ok (.iaload, 1) := by decide +kernel
theorem dX7_lay_48 : decode cX7_lay 48 = .ok (.iastore, 1) := by decide +kernel
theorem dX7_lay_49 : decode cX7_lay 49 = .ok (.iinc 1 1, 3) := by decide +kernel
theorem dX7_lay_52 : decode cX7_lay 52 = .ok (.goto (-25), 3) := by decide +kernel
theorem dX7_lay_55 : decode cX7_lay 55 = .ok (.aload_n 0, 1) := by decide +kernel
theorem dX7_lay_56 : decode cX7_lay 56 = .ok (.aload_n 0, 1) := by decide +kernel
theorem dX7_lay_57 : decode cX7_lay 57 = .ok (.getfield 111, 3) := by decide +kernel
theorem dX7_lay_60 : decode cX7_lay 60 = .ok (.putfield 29, 3) := by decide +kernel
theorem dX7_lay_63 : decode cX7_lay 63 = .ok (.iconst 0, 1) := by decide +kernel
theorem dX7_lay_64 : decode cX7_lay 64 = .ok (.istore_n 1, 1) := by decide +kernel
theorem dX7_lay_65 : decode cX7_lay 65 = .ok (.iload_n 1, 1) := by decide +kernel
theorem dX7_lay_66 : decode cX7_lay 66 = .ok (.aload_n 0, 1) := by decide +kernel
theorem dX7_lay_67 : decode cX7_lay 67 = .ok (.getfield 29, 3) := by decide +kernel
theorem dX7_lay_70 : decode cX7_lay 70 = .ok (.if_icmp .ge 21, 3) := by decide +kernel
theorem dX7_lay_73 : decode cX7_lay 73 = .ok (.aload_n 0, 1) := by decide +kernel
theorem dX7_lay_74 : decode cX7_lay 74 = .ok (.getfield 32, 3) := by decide +kernel
theorem dX7_lay_77 : decode cX7_lay 77 = .ok (.iload_n 1, 1) := by decide +kernel
theorem dX7_lay_78 : decode cX7_lay 78 = .ok (.aload_n 0, 1) := by decide +kernel
theorem dX7_lay_79 : decode cX7_lay 79 = .ok (.getfield 19, 3) := by decide +kernel
theorem dX7_lay_82 : decode cX7_lay 82 = .ok (.iload_n 1, 1) := by decide +kernel
theorem dX7_lay_83 : decode cX7_lay 83 = .ok (.iaload, 1) := by decide +kernel
theorem dX7_lay_84 : decode cX7_lay 84 = .ok (.iastore, 1) := by decide +kernel
theorem dX7_lay_85 : decode cX7_lay 85 = .ok (.iinc 1 1, 3) := by decide +kernel
theorem dX7_lay_88 : decode cX7_lay 88 = .ok (.goto (-23), 3) := by decide +kernel
theorem dX7_lay_91 : decode cX7_lay 91 = .ok (.aload_n 0, 1) := by decide +kernel
theorem dX7_lay_92 : decode cX7_lay 92 = .ok (.aload_n 0, 1) := by decide +kernel
theorem dX7_lay_93 : decode cX7_lay 93 = .ok (.getfield 114, 3) := by decide +kernel
theorem dX7_lay_96 : decode cX7_lay 96 = .ok (.putfield 35, 3) := by decide +kernel
theorem dX7_lay_99 : decode cX7_lay 99 = .ok (.aload_n 0, 1) := by decide +kernel
theorem dX7_lay_100 : decode cX7_lay 100 = .ok (.aload_n 0, 1) := by decide +kernel
theorem dX7_lay_101 : decode cX7_lay 101 = .ok (.getfield 117, 3) := by decide +kernel
theorem dX7_lay_104 : decode cX7_lay 104 = .ok (.putfield 38, 3) := by decide +kernel
theorem dX7_lay_107 : decode cX7_lay 107 = .ok (.aload_n 0, 1) := by decide +kernel
theorem dX7_lay_108 : decode cX7_lay 108 = .ok (.aload_n 0, 1) := by decide +kernel
theorem dX7_lay_109 : decode cX7_lay 109 = .ok (.getfield 120, 3) := by decide +kernel
theorem dX7_lay_112 : decode cX7_lay 112 = .ok (.putfield 41, 3) := by decide +kernel
theorem dX7_lay_115 : decode cX7_lay 115 = .ok (.aload_n 0, 1) := by decide +kernel
theorem dX7_lay_116 : decode cX7_lay 116 = .ok (.invokevirtual 75, 3) := by decide +kernel
theorem dX7_lay_119 : decode cX7_lay 119 = .ok (.aload_n 0, 1) := by decide +kernel
theorem dX7_lay_120 : decode cX7_lay 120 = .ok (.getfield 22, 3) := by decide +kernel
theorem dX7_lay_123 : decode cX7_lay 123 = .ok (.ireturn, 1) := by decide +kernel
theorem hd_X7_lay : yX7_lay.cls = RX7 ∧ yX7_lay.cls ≠ "java/lang/invoke/MethodHandle" ∧ yX7_lay.cls ≠ "java/lang/invoke/VarHandle" ∧ (parseMethodDescriptor yX7_lay.desc).map (fun d => d.parameters.length) = some 0 := by decide +kernel
abbrev rm_X7_lay : Room := { frames := 4, cells := 0, slots := 0, locals := 88 }
def wp_X7_lay_65 (K : Int32 → HF → Prop) : Nat → HF → Int32 → Prop
  | 0 => fun _ _ => False
  | n65_ + 1 => fun F v1 => (((F 100 15) ≤ v1) → (∀ F204 : HF, F204 = hup F 100 17 (F 100 10) → (∀ F205 : HF, F205 = hup F204 100 18 (F204 100 11) → (∀ F206 : HF, F206 = hup F205 100 19 (F205 100 12) → (wp_X7_begin (fun F207 => K (F207 100 13) F207) F206 ))))) ∧ ((¬ (F 100 15) ≤ v1) → ((vp_in v1 8) ∧ ((vp_in v1 8) ∧ (∀ F208 : HF, F208 = hup F 116 v1.toNatClampNeg (F 109 v1.toNatClampNeg) → (wp_X7_lay_65 K  n65_ F208 (v1 + (nI 1)))))))
set_option maxRecDepth 100000 in
set_option maxHeartbeats 4000000 in
theorem k_X7_lay_65 {p : Program} {l : Launch} {e : Env} {s : State} {m : MethodId} {args : Array Value} {below : List Frame} {meth : Method} {c : Code} {D : va_G} {dA : Nat → ClassId} {ad : Nat → Nat} {R : List Nat} {A : Nat → Prop} {K : Int32 → HF → Prop} (X : Cx p s m args meth c cX7_lay 2 RX7 D dA) (hA : ∀ q, s.heap.size ≤ q → A q) (hr : meth.sig.returnType = some .int) (hT : Md R) : ∀ (n_ : Nat) (F : HF) (v1 : Int32), wp_X7_lay_65 K  n_ F v1 → J p l e rm_X7_lay s m args below meth c 2 D dA ad R A (QI D dA ad R A below args s K) F 65 [(0, .ref (ad 100)), (1, .int v1)] [] := by
  intro n_
  induction n_ with
  | zero => intro F v1 h; exact h.elim
  | succ n_ ih =>
    intro F v1 h
    unfold wp_X7_lay_65 at h
    refine r_iload_n (pc := 65) X 1 dX7_lay_65 rfl rfl ?_
    refine r_aload_n (pc := 66) X 0 dX7_lay_66 rfl rfl ?_
    refine fg_X7_29 (pc := 67) X hT.1 dX7_lay_67 ?_
    refine r_icmp_ge (pc := 70) (tgt := 91) X dX7_lay_70 (by decide) (fun hc => ?_) (fun hc => ?_)
    · replace h := h.1 hc
      refine r_aload_n (pc := 91) X 0 dX7_lay_91 rfl rfl ?_
      refine r_aload_n (pc := 92) X 0 dX7_lay_92 rfl rfl ?_
      refine fg_X7_114 (pc := 93) X hT.1 dX7_lay_93 ?_
      refine fp_X7_35 (pc := 96) X hT.1 dX7_lay_96 (fun F204 e1 => ?_)
      replace h := h F204 e1
      refine r_aload_n (pc := 99) X 0 dX7_lay_99 rfl rfl ?_
      refine r_aload_n (pc := 100) X 0 dX7_lay_100 rfl rfl ?_
      refine fg_X7_117 (pc := 101) X hT.1 dX7_lay_101 ?_
      refine fp_X7_38 (pc := 104) X hT.1 dX7_lay_104 (fun F205 e1 => ?_)
      replace h := h F205 e1
      refine r_aload_n (pc := 107) X 0 dX7_lay_107 rfl rfl ?_
      refine r_aload_n (pc := 108) X 0 dX7_lay_108 rfl rfl ?_
      refine fg_X7_120 (pc := 109) X hT.1 dX7_lay_109 ?_
      refine fp_X7_41 (pc := 112) X hT.1 dX7_lay_112 (fun F206 e1 => ?_)
      replace h := h F206 e1
      refine r_aload_n (pc := 115) X 0 dX7_lay_115 rfl rfl ?_
      refine r_callVV (pc := 116) (As := []) (st := []) X hA (c_X7_begin hT h) g_X7_75 cl_X7 hT.1 hd_X7_begin rfl rfl rfl ⟨Nat.le_of_ble_eq_true rfl, Nat.le_of_ble_eq_true rfl⟩ rfl (Nat.le_of_ble_eq_true rfl) dX7_lay_116 (fun F207 h => ?_)
      refine r_aload_n (pc := 119) X 0 dX7_lay_119 rfl rfl ?_
      refine fg_X7_22 (pc := 120) X hT.1 dX7_lay_120 ?_
      exact r_iret (pc := 123) X hr dX7_lay_123 h
    · replace h := h.2 hc
      refine r_aload_n (pc := 73) X 0 dX7_lay_73 rfl rfl ?_
      refine fg_X7_32 (pc := 74) X hT.1 dX7_lay_74 ?_
      refine r_iload_n (pc := 77) X 1 dX7_lay_77 rfl rfl ?_
      refine r_aload_n (pc := 78) X 0 dX7_lay_78 rfl rfl ?_
      refine fg_X7_19 (pc := 79) X hT.1 dX7_lay_79 ?_
      refine r_iload_n (pc := 82) X 1 dX7_lay_82 rfl rfl ?_
      refine r_iald (pc := 83) X hT.2.2.2.2.1 h.1 dX7_lay_83 ?_
      replace h := h.2
      refine r_iast (pc := 84) X hT.2.2.2.2.2.2.1 h.1 dX7_lay_84 (fun F208 e1 => ?_)
      replace h := h.2 F208 e1
      refine r_iinc (pc := 85) (v := (v1 + (nI 1))) X 1 [(1, .int (v1 + (nI 1))), (0, .ref (ad 100))] dX7_lay_85 rfl rfl (by decide) rfl ?_
      refine r_goto (pc := 88) (tgt := 65) X dX7_lay_88 (by decide) ?_
      refine r_sub [1, 0] rfl ?_
      exact ih _ _ h
def wp_X7_lay_27 (K : Int32 → HF → Prop) : Nat → HF → Int32 → Prop
  | 0 => fun _ _ => False
  | n27_ + 1 => fun F v1 => ((((nI 4) * (F 100 13)) ≤ v1) → (∀ F103 : HF, F103 = hup F 100 15 (F 100 7) → (∃ m_, wp_X7_lay_65 K  m_ F103 (nI 0)))) ∧ ((¬ ((nI 4) * (F 100 13)) ≤ v1) → ((vp_in v1 32) ∧ ((vp_in v1 32) ∧ (∀ F209 : HF, F209 = hup F 114 v1.toNatClampNeg (F 108 v1.toNatClampNeg) → (wp_X7_lay_27 K  n27_ F209 (v1 + (nI 1)))))))
set_option maxRecDepth 100000 in
set_option maxHeartbeats 4000000 in
theorem k_X7_lay_27 {p : Program} {l : Launch} {e : Env} {s : State} {m : MethodId} {args : Array Value} {below : List Frame} {meth : Method} {c : Code} {D : va_G} {dA : Nat → ClassId} {ad : Nat → Nat} {R : List Nat} {A : Nat → Prop} {K : Int32 → HF → Prop} (X : Cx p s m args meth c cX7_lay 2 RX7 D dA) (hA : ∀ q, s.heap.size ≤ q → A q) (hr : meth.sig.returnType = some .int) (hT : Md R) : ∀ (n_ : Nat) (F : HF) (v1 : Int32), wp_X7_lay_27 K  n_ F v1 → J p l e rm_X7_lay s m args below meth c 2 D dA ad R A (QI D dA ad R A below args s K) F 27 [(0, .ref (ad 100)), (1, .int v1)] [] := by
  intro n_
  induction n_ with
  | zero => intro F v1 h; exact h.elim
  | succ n_ ih =>
    intro F v1 h
    unfold wp_X7_lay_27 at h
    refine r_iload_n (pc := 27) X 1 dX7_lay_27 rfl rfl ?_
    refine r_iconst (pc := 28) (v := (nI 4)) X dX7_lay_28 (by decide) ?_
    refine r_aload_n (pc := 29) X 0 dX7_lay_29 rfl rfl ?_
    refine fg_X7_22 (pc := 30) X hT.1 dX7_lay_30 ?_
    refine r_imul (pc := 33) X dX7_lay_33 ?_
    refine r_icmp_ge (pc := 34) (tgt := 55) X dX7_lay_34 (by decide) (fun hc => ?_) (fun hc => ?_)
    · replace h := h.1 hc
      refine r_aload_n (pc := 55) X 0 dX7_lay_55 rfl rfl ?_
      refine r_aload_n (pc := 56) X 0 dX7_lay_56 rfl rfl ?_
      refine fg_X7_111 (pc := 57) X hT.1 dX7_lay_57 ?_
      refine fp_X7_29 (pc := 60) X hT.1 dX7_lay_60 (fun F103 e1 => ?_)
      replace h := h F103 e1
      refine r_iconst (pc := 63) (v := (nI 0)) X dX7_lay_63 (by decide) ?_
      refine r_istore_n (pc := 64) X [(1, .int (nI 0)), (0, .ref (ad 100))] dX7_lay_64 rfl (by decide) rfl ?_
      refine r_sub [1, 0] rfl ?_
      obtain ⟨n1, h⟩ := h
      exact k_X7_lay_65 X hA hr hT  n1 _ _ h
    · replace h := h.2 hc
      refine r_aload_n (pc := 37) X 0 dX7_lay_37 rfl rfl ?_
      refine fg_X7_26 (pc := 38) X hT.1 dX7_lay_38 ?_
      refine r_iload_n (pc := 41) X 1 dX7_lay_41 rfl rfl ?_
      refine r_aload_n (pc := 42) X 0 dX7_lay_42 rfl rfl ?_
      refine fg_X7_16 (pc := 43) X hT.1 dX7_lay_43 ?_
      refine r_iload_n (pc := 46) X 1 dX7_lay_46 rfl rfl ?_
      refine r_iald (pc := 47) X hT.2.2.2.1 h.1 dX7_lay_47 ?_
      replace h := h.2
      refine r_iast (pc := 48) X hT.2.2.2.2.2.1 h.1 dX7_lay_48 (fun F209 e1 => ?_)
      replace h := h.2 F209 e1
      refine r_iinc (pc := 49) (v := (v1 + (nI 1))) X 1 [(1, .int (v1 + (nI 1))), (0, .ref (ad 100))] dX7_lay_49 rfl rfl (by decide) rfl ?_
      refine r_goto (pc := 52) (tgt := 27) X dX7_lay_52 (by decide) ?_
      refine r_sub [1, 0] rfl ?_
      exact ih _ _ h
def wp_X7_lay (K : Int32 → HF → Prop) (F : HF) : Prop := wp_X7_isRead (fun x1 F1 => ((x1 = (nI 0)) → (K (-2 : Int32) F1)) ∧ ((¬ x1 = (nI 0)) → (((¬ (F1 100 6) = (nI 0)) → (∀ F2 : HF, F2 = hup F1 100 13 (F1 100 6) → (∃ m_, wp_X7_lay_27 K  m_ F2 (nI 0)))) ∧ (((F1 100 6) = (nI 0)) → (K (-2 : Int32) F1))))) F 
set_option maxRecDepth 100000 in
set_option maxHeartbeats 4000000 in
theorem c_X7_lay {l : Launch} {D : va_G} {dA : Nat → ClassId} {ad : Nat → Nat} {R : List Nat} {F : HF} {K : Int32 → HF → Prop} (hT : Md R) (h : wp_X7_lay K F ) : MI l yX7_lay cX7_lay 2 .int rm_X7_lay D dA ad R F [.ref (ad 100)] K := by
  refine MI.of (own := RX7) (by decide) rfl (Nat.le_of_ble_eq_true rfl) ?_
  intro p e s m args below meth c A hA X hr
  unfold wp_X7_lay at h
  show J p l e rm_X7_lay s m args below meth c 2 D dA ad R A (QI D dA ad R A below args s K) F 0 [(0, .ref (ad 100))] []
  refine r_aload_n (pc := 0) X 0 dX7_lay_0 rfl rfl ?_
  refine r_callIV (pc := 1) (As := []) (st := []) X hA (c_X7_isRead hT h) g_X7_130 cl_X7 hT.1 hd_X7_isRead rfl rfl rfl ⟨Nat.le_of_ble_eq_true rfl, Nat.le_of_ble_eq_true rfl⟩ rfl (Nat.le_of_ble_eq_true rfl) dX7_lay_1 (fun x1 F1 h => ?_)
  refine r_if_eq (pc := 4) (tgt := 14) X dX7_lay_4 (by decide) (fun hc => ?_) (fun hc => ?_)
  · replace h := h.1 hc
    refine r_bipush (pc := 14) (v := (-2 : Int32)) X dX7_lay_14 (by decide) ?_
    exact r_iret (pc := 16) X hr dX7_lay_16 h
  · replace h := h.2 hc
    refine r_aload_n (pc := 7) X 0 dX7_lay_7 rfl rfl ?_
    refine fg_X7_104 (pc := 8) X hT.1 dX7_lay_8 ?_
    refine r_if_ne (pc := 11) (tgt := 17) X dX7_lay_11 (by decide) (fun hc => ?_) (fun hc => ?_)
    · replace h := h.1 hc
      refine r_aload_n (pc := 17) X 0 dX7_lay_17 rfl rfl ?_
      refine r_aload_n (pc := 18) X 0 dX7_lay_18 rfl rfl ?_
      refine fg_X7_104 (pc := 19) X hT.1 dX7_lay_19 ?_
      refine fp_X7_22 (pc := 22) X hT.1 dX7_lay_22 (fun F2 e1 => ?_)
      replace h := h F2 e1
      refine r_iconst (pc := 25) (v := (nI 0)) X dX7_lay_25 (by decide) ?_
      refine r_istore_n (pc := 26) X [(1, .int (nI 0)), (0, .ref (ad 100))] dX7_lay_26 rfl (by decide) rfl ?_
      refine r_sub [1, 0] rfl ?_
      obtain ⟨n1, h⟩ := h
      exact k_X7_lay_27 X hA hr hT  n1 _ _ h
    · replace h := h.2 hc
      refine r_bipush (pc := 14) (v := (-2 : Int32)) X dX7_lay_14 (by decide) ?_
      exact r_iret (pc := 16) X hr dX7_lay_16 h
theorem dX7_isBird_0 : decode cX7_isBird 0 = .ok (.iload_n 1, 1) := by decide +kernel
theorem dX7_isBird_1 : decode cX7_isBird 1 = .ok (.iconst 0, 1) := by decide +kernel
theorem dX7_isBird_2 : decode cX7_isBird 2 = .ok (.aload_n 0, 1) := by decide +kernel
theorem dX7_isBird_3 : decode cX7_isBird 3 = .ok (.getfield 22, 3) := by decide +kernel
theorem dX7_isBird_6 : decode cX7_isBird 6 = .ok (.iconst 1, 1) := by decide +kernel
theorem dX7_isBird_7 : decode cX7_isBird 7 = .ok (.isub, 1) := by decide +kernel
theorem dX7_isBird_8 : decode cX7_isBird 8 = .ok (.invokestatic 87, 3) := by decide +kernel
theorem dX7_isBird_11 : decode cX7_isBird 11 = .ok (.ireturn, 1) := by decide +kernel
theorem hd_X7_isBird : yX7_isBird.cls = RX7 ∧ yX7_isBird.cls ≠ "java/lang/invoke/MethodHandle" ∧ yX7_isBird.cls ≠ "java/lang/invoke/VarHandle" ∧ (parseMethodDescriptor yX7_isBird.desc).map (fun d => d.parameters.length) = some 1 := by decide +kernel
abbrev rm_X7_isBird : Room := { frames := 1, cells := 0, slots := 0, locals := 22 }
def wp_X7_isBird (K : Int32 → HF → Prop) (F : HF) (a1 : Int32) : Prop := wp_X7_in (fun x1 F1 => (x1 = nI 0 ∨ x1 = nI 1) ∧ K x1 F1) F a1 (nI 0) ((F 100 13) - (nI 1))
set_option maxRecDepth 100000 in
set_option maxHeartbeats 4000000 in
theorem c_X7_isBird {l : Launch} {D : va_G} {dA : Nat → ClassId} {ad : Nat → Nat} {R : List Nat} {F : HF} {a1 : Int32} {K : Int32 → HF → Prop} (hT : Md R) (h : wp_X7_isBird K F a1) : MI l yX7_isBird cX7_isBird 2 .boolean rm_X7_isBird D dA ad R F [.ref (ad 100), .int a1] K := by
  refine MI.of (own := RX7) (by decide) rfl (Nat.le_of_ble_eq_true rfl) ?_
  intro p e s m args below meth c A hA X hr
  unfold wp_X7_isBird at h
  show J p l e rm_X7_isBird s m args below meth c 2 D dA ad R A (QI D dA ad R A below args s K) F 0 [(0, .ref (ad 100)), (1, .int a1)] []
  refine r_iload_n (pc := 0) X 1 dX7_isBird_0 rfl rfl ?_
  refine r_iconst (pc := 1) (v := (nI 0)) X dX7_isBird_1 (by decide) ?_
  refine r_aload_n (pc := 2) X 0 dX7_isBird_2 rfl rfl ?_
  refine fg_X7_22 (pc := 3) X hT.1 dX7_isBird_3 ?_
  refine r_iconst (pc := 6) (v := (nI 1)) X dX7_isBird_6 (by decide) ?_
  refine r_isub (pc := 7) X dX7_isBird_7 ?_
  refine r_callIS (pc := 8) (As := [.int a1, .int (nI 0), .int ((F 100 13) - (nI 1))]) (st := []) X hA (c_X7_in  h) g_X7_87 hd_X7_in rfl rfl rfl ⟨Nat.le_of_ble_eq_true rfl, Nat.le_of_ble_eq_true rfl⟩ rfl (Nat.le_of_ble_eq_true rfl) dX7_isBird_8 (fun x1 F1 h => ?_)
  exact r_zret (pc := 11) X hr dX7_isBird_11 (nbz h.1) h.2
theorem dX7_kindOf_0 : decode cX7_kindOf 0 = .ok (.aload_n 0, 1) := by decide +kernel
theorem dX7_kindOf_1 : decode cX7_kindOf 1 = .ok (.getfield 26, 3) := by decide +kernel
theorem dX7_kindOf_4 : decode cX7_kindOf 4 = .ok (.iconst 4, 1) := by decide +kernel
theorem dX7_kindOf_5 : decode cX7_kindOf 5 = .ok (.iload_n 1, 1) := by decide +kernel
theorem dX7_kindOf_6 : decode cX7_kindOf 6 = .ok (.imul, 1) := by decide +kernel
theorem dX7_kindOf_7 : decode cX7_kindOf 7 = .ok (.iconst 2, 1) := by decide +kernel
theorem dX7_kindOf_8 : decode cX7_kindOf 8 = .ok (.iadd, 1) := by decide +kernel
theorem dX7_kindOf_9 : decode cX7_kindOf 9 = .ok (.iaload, 1) := by decide +kernel
theorem dX7_kindOf_10 : decode cX7_kindOf 10 = .ok (.ireturn, 1) := by decide +kernel
theorem hd_X7_kindOf : yX7_kindOf.cls = RX7 ∧ yX7_kindOf.cls ≠ "java/lang/invoke/MethodHandle" ∧ yX7_kindOf.cls ≠ "java/lang/invoke/VarHandle" ∧ (parseMethodDescriptor yX7_kindOf.desc).map (fun d => d.parameters.length) = some 1 := by decide +kernel
abbrev rm_X7_kindOf : Room := { frames := 0, cells := 0, slots := 0, locals := 0 }
def wp_X7_kindOf (K : Int32 → HF → Prop) (F : HF) (a1 : Int32) : Prop := (vp_in (((nI 4) * a1) + (nI 2)) 32) ∧ (K (F 114 (((nI 4) * a1) + (nI 2)).toNatClampNeg) F)
set_option maxRecDepth 100000 in
set_option maxHeartbeats 4000000 in
theorem c_X7_kindOf {l : Launch} {D : va_G} {dA : Nat → ClassId} {ad : Nat → Nat} {R : List Nat} {F : HF} {a1 : Int32} {K : Int32 → HF → Prop} (hT : Md R) (h : wp_X7_kindOf K F a1) : MI l yX7_kindOf cX7_kindOf 2 .int rm_X7_kindOf D dA ad R F [.ref (ad 100), .int a1] K := by
  refine MI.of (own := RX7) (by decide) rfl (Nat.le_of_ble_eq_true rfl) ?_
  intro p e s m args below meth c A hA X hr
  unfold wp_X7_kindOf at h
  show J p l e rm_X7_kindOf s m args below meth c 2 D dA ad R A (QI D dA ad R A below args s K) F 0 [(0, .ref (ad 100)), (1, .int a1)] []
  refine r_aload_n (pc := 0) X 0 dX7_kindOf_0 rfl rfl ?_
  refine fg_X7_26 (pc := 1) X hT.1 dX7_kindOf_1 ?_
  refine r_iconst (pc := 4) (v := (nI 4)) X dX7_kindOf_4 (by decide) ?_
  refine r_iload_n (pc := 5) X 1 dX7_kindOf_5 rfl rfl ?_
  refine r_imul (pc := 6) X dX7_kindOf_6 ?_
  refine r_iconst (pc := 7) (v := (nI 2)) X dX7_kindOf_7 (by decide) ?_
  refine r_iadd (pc := 8) X dX7_kindOf_8 ?_
  refine r_iald (pc := 9) X hT.2.2.2.2.2.1 h.1 dX7_kindOf_9 ?_
  replace h := h.2
  exact r_iret (pc := 10) X hr dX7_kindOf_10 h
theorem dX7_placeIn_0 : decode cX7_placeIn 0 = .ok (.iconst 0, 1) := by decide +kernel
theorem dX7_placeIn_1 : decode cX7_placeIn 1 = .ok (.istore_n 2, 1) := by decide +kernel
theorem dX7_placeIn_2 : decode cX7_placeIn 2 = .ok (.iload_n 2, 1) := by decide +kernel
theorem dX7_placeIn_3 : decode cX7_placeIn 3 = .ok (.aload_n 0, 1) := by decide +kernel
theorem dX7_placeIn_4 : decode cX7_placeIn 4 = .ok (.getfield 44, 3) := by decide +kernel
theorem dX7_placeIn_7 : decode cX7_placeIn 7 = .ok (.iconst 0, 1) := by decide +kernel
theorem dX7_placeIn_8 : decode cX7_placeIn 8 = .ok (.iaload, 1) := by decide +kernel
theorem dX7_placeIn_9 : decode cX7_placeIn 9 = .ok (.if_icmp .ge 23, 3) := by decide +kernel
theorem dX7_placeIn_12 : decode cX7_placeIn 12 = .ok (.aload_n 0, 1) := by decide +kernel
theorem dX7_placeIn_13 : decode cX7_placeIn 13 = .ok (.getfield 44, 3) := by decide +kernel
theorem dX7_placeIn_16 : decode cX7_placeIn 16 = .ok (.iconst 5, 1) := by decide +kernel
theorem dX7_placeIn_17 : decode cX7_placeIn 17 = .ok (.iload_n 2, 1) := by decide +kernel
theorem dX7_placeIn_18 : decode cX7_placeIn 18 = .ok (.iadd, 1) := by decide +kernel
theorem dX7_placeIn_19 : decode cX7_placeIn 19 = .ok (.iaload, 1) := by decide +kernel
theorem dX7_placeIn_20 : decode cX7_placeIn 20 = .ok (.iload_n 1, 1) := by decide +kernel
theorem dX7_placeIn_21 : decode cX7_placeIn 21 = .ok (.if_icmp .ne 5, 3) := by decide +kernel
theorem dX7_placeIn_24 : decode cX7_placeIn 24 = .ok (.iload_n 2, 1) := by decide +kernel
theorem dX7_placeIn_25 : decode cX7_placeIn 25 = .ok (.ireturn, 1) := by decide +kernel
theorem dX7_placeIn_26 : decode cX7_placeIn 26 = .ok (.iinc 2 1, 3) := by decide +kernel
theorem dX7_placeIn_29 : decode cX7_placeIn 29 = .ok (.goto (-27), 3) := by decide +kernel
theorem dX7_placeIn_32 : decode cX7_placeIn 32 = .ok (.bipush (-4), 2) := by decide +kernel
theorem dX7_placeIn_34 : decode cX7_placeIn 34 = .ok (.ireturn, 1) := by decide +kernel
theorem hd_X7_placeIn : yX7_placeIn.cls = RX7 ∧ yX7_placeIn.cls ≠ "java/lang/invoke/MethodHandle" ∧ yX7_placeIn.cls ≠ "java/lang/invoke/VarHandle" ∧ (parseMethodDescriptor yX7_placeIn.desc).map (fun d => d.parameters.length) = some 1 := by decide +kernel
abbrev rm_X7_placeIn : Room := { frames := 0, cells := 0, slots := 0, locals := 0 }
def wp_X7_placeIn_2 (K : Int32 → HF → Prop) : Nat → HF → Int32 → Int32 → Prop
  | 0 => fun _ _ _ => False
  | n2_ + 1 => fun F v1 v2 => (vp_in (nI 0) 21) ∧ ((((F 120 (nI 0).toNatClampNeg) ≤ v2) → (K (-4 : Int32) F)) ∧ ((¬ (F 120 (nI 0).toNatClampNeg) ≤ v2) → ((vp_in ((nI 5) + v2) 21) ∧ (((¬ (F 120 ((nI 5) + v2).toNatClampNeg) = v1) → (wp_X7_placeIn_2 K  n2_ F v1 (v2 + (nI 1)))) ∧ (((F 120 ((nI 5) + v2).toNatClampNeg) = v1) → (K v2 F))))))
set_option maxRecDepth 100000 in
set_option maxHeartbeats 4000000 in
theorem k_X7_placeIn_2 {p : Program} {l : Launch} {e : Env} {s : State} {m : MethodId} {args : Array Value} {below : List Frame} {meth : Method} {c : Code} {D : va_G} {dA : Nat → ClassId} {ad : Nat → Nat} {R : List Nat} {A : Nat → Prop} {K : Int32 → HF → Prop} (X : Cx p s m args meth c cX7_placeIn 3 RX7 D dA) (hA : ∀ q, s.heap.size ≤ q → A q) (hr : meth.sig.returnType = some .int) (hT : Md R) : ∀ (n_ : Nat) (F : HF) (v1 : Int32) (v2 : Int32), wp_X7_placeIn_2 K  n_ F v1 v2 → J p l e rm_X7_placeIn s m args below meth c 3 D dA ad R A (QI D dA ad R A below args s K) F 2 [(0, .ref (ad 100)), (1, .int v1), (2, .int v2)] [] := by
  intro n_
  induction n_ with
  | zero => intro F v1 v2 h; exact h.elim
  | succ n_ ih =>
    intro F v1 v2 h
    unfold wp_X7_placeIn_2 at h
    refine r_iload_n (pc := 2) X 2 dX7_placeIn_2 rfl rfl ?_
    refine r_aload_n (pc := 3) X 0 dX7_placeIn_3 rfl rfl ?_
    refine fg_X7_44 (pc := 4) X hT.1 dX7_placeIn_4 ?_
    refine r_iconst (pc := 7) (v := (nI 0)) X dX7_placeIn_7 (by decide) ?_
    refine r_iald (pc := 8) X hT.2.2.2.2.2.2.2.1 h.1 dX7_placeIn_8 ?_
    replace h := h.2
    refine r_icmp_ge (pc := 9) (tgt := 32) X dX7_placeIn_9 (by decide) (fun hc => ?_) (fun hc => ?_)
    · replace h := h.1 hc
      refine r_bipush (pc := 32) (v := (-4 : Int32)) X dX7_placeIn_32 (by decide) ?_
      exact r_iret (pc := 34) X hr dX7_placeIn_34 h
    · replace h := h.2 hc
      refine r_aload_n (pc := 12) X 0 dX7_placeIn_12 rfl rfl ?_
      refine fg_X7_44 (pc := 13) X hT.1 dX7_placeIn_13 ?_
      refine r_iconst (pc := 16) (v := (nI 5)) X dX7_placeIn_16 (by decide) ?_
      refine r_iload_n (pc := 17) X 2 dX7_placeIn_17 rfl rfl ?_
      refine r_iadd (pc := 18) X dX7_placeIn_18 ?_
      refine r_iald (pc := 19) X hT.2.2.2.2.2.2.2.1 h.1 dX7_placeIn_19 ?_
      replace h := h.2
      refine r_iload_n (pc := 20) X 1 dX7_placeIn_20 rfl rfl ?_
      refine r_icmp_ne (pc := 21) (tgt := 26) X dX7_placeIn_21 (by decide) (fun hc => ?_) (fun hc => ?_)
      · replace h := h.1 hc
        refine r_iinc (pc := 26) (v := (v2 + (nI 1))) X 2 [(2, .int (v2 + (nI 1))), (0, .ref (ad 100)), (1, .int v1)] dX7_placeIn_26 rfl rfl (by decide) rfl ?_
        refine r_goto (pc := 29) (tgt := 2) X dX7_placeIn_29 (by decide) ?_
        refine r_sub [1, 2, 0] rfl ?_
        exact ih _ _ _ h
      · replace h := h.2 hc
        refine r_iload_n (pc := 24) X 2 dX7_placeIn_24 rfl rfl ?_
        exact r_iret (pc := 25) X hr dX7_placeIn_25 h
def wp_X7_placeIn (K : Int32 → HF → Prop) (F : HF) (a1 : Int32) : Prop := ∃ m_, wp_X7_placeIn_2 K  m_ F a1 (nI 0)
set_option maxRecDepth 100000 in
set_option maxHeartbeats 4000000 in
theorem c_X7_placeIn {l : Launch} {D : va_G} {dA : Nat → ClassId} {ad : Nat → Nat} {R : List Nat} {F : HF} {a1 : Int32} {K : Int32 → HF → Prop} (hT : Md R) (h : wp_X7_placeIn K F a1) : MI l yX7_placeIn cX7_placeIn 3 .int rm_X7_placeIn D dA ad R F [.ref (ad 100), .int a1] K := by
  refine MI.of (own := RX7) (by decide) rfl (Nat.le_of_ble_eq_true rfl) ?_
  intro p e s m args below meth c A hA X hr
  unfold wp_X7_placeIn at h
  show J p l e rm_X7_placeIn s m args below meth c 3 D dA ad R A (QI D dA ad R A below args s K) F 0 [(0, .ref (ad 100)), (1, .int a1)] []
  refine r_iconst (pc := 0) (v := (nI 0)) X dX7_placeIn_0 (by decide) ?_
  refine r_istore_n (pc := 1) X [(2, .int (nI 0)), (0, .ref (ad 100)), (1, .int a1)] dX7_placeIn_1 rfl (by decide) rfl ?_
  refine r_sub [1, 2, 0] rfl ?_
  obtain ⟨n1, h⟩ := h
  exact k_X7_placeIn_2 X hA hr hT  n1 _ _ _ h
