theorem dX7_fewest_0 : decode cX7_fewest 0 = .ok (.iload_n 1, 1) := by decide +kernel
theorem dX7_fewest_1 : decode cX7_fewest 1 = .ok (.iconst (-1), 1) := by decide +kernel
theorem dX7_fewest_2 : decode cX7_fewest 2 = .ok (.bipush 7, 2) := by decide +kernel
theorem dX7_fewest_4 : decode cX7_fewest 4 = .ok (.invokestatic 87, 3) := by decide +kernel
theorem dX7_fewest_7 : decode cX7_fewest 7 = .ok (.ifCond .ne 5, 3) := by decide +kernel
theorem dX7_fewest_10 : decode cX7_fewest 10 = .ok (.iconst (-1), 1) := by decide +kernel
theorem dX7_fewest_11 : decode cX7_fewest 11 = .ok (.ireturn, 1) := by decide +kernel
theorem dX7_fewest_12 : decode cX7_fewest 12 = .ok (.aload_n 0, 1) := by decide +kernel
theorem dX7_fewest_13 : decode cX7_fewest 13 = .ok (.invokevirtual 216, 3) := by decide +kernel
theorem dX7_fewest_16 : decode cX7_fewest 16 = .ok (.aload_n 0, 1) := by decide +kernel
theorem dX7_fewest_17 : decode cX7_fewest 17 = .ok (.getfield 210, 3) := by decide +kernel
theorem dX7_fewest_20 : decode cX7_fewest 20 = .ok (.ifCond .eq 11, 3) := by decide +kernel
theorem dX7_fewest_23 : decode cX7_fewest 23 = .ok (.iload_n 1, 1) := by decide +kernel
theorem dX7_fewest_24 : decode cX7_fewest 24 = .ok (.aload_n 0, 1) := by decide +kernel
theorem dX7_fewest_25 : decode cX7_fewest 25 = .ok (.getfield 210, 3) := by decide +kernel
theorem dX7_fewest_28 : decode cX7_fewest 28 = .ok (.if_icmp .lt 8, 3) := by decide +kernel
theorem dX7_fewest_31 : decode cX7_fewest 31 = .ok (.bipush (-4), 2) := by decide +kernel
theorem dX7_fewest_33 : decode cX7_fewest 33 = .ok (.goto 20, 3) := by decide +kernel
theorem dX7_fewest_36 : decode cX7_fewest 36 = .ok (.iload_n 1, 1) := by decide +kernel
theorem dX7_fewest_37 : decode cX7_fewest 37 = .ok (.ifCond .ge 10, 3) := by decide +kernel
theorem dX7_fewest_40 : decode cX7_fewest 40 = .ok (.aload_n 0, 1) := by decide +kernel
theorem dX7_fewest_41 : decode cX7_fewest 41 = .ok (.getfield 210, 3) := by decide +kernel
theorem dX7_fewest_44 : decode cX7_fewest 44 = .ok (.goto 9, 3) := by decide +kernel
theorem dX7_fewest_47 : decode cX7_fewest 47 = .ok (.aload_n 0, 1) := by decide +kernel
theorem dX7_fewest_48 : decode cX7_fewest 48 = .ok (.getfield 59, 3) := by decide +kernel
theorem dX7_fewest_51 : decode cX7_fewest 51 = .ok (.iload_n 1, 1) := by decide +kernel
theorem dX7_fewest_52 : decode cX7_fewest 52 = .ok (.iaload, 1) := by decide +kernel
theorem dX7_fewest_53 : decode cX7_fewest 53 = .ok (.ireturn, 1) := by decide +kernel
theorem hd_X7_fewest : yX7_fewest.cls = RX7 ∧ yX7_fewest.cls ≠ "java/lang/invoke/MethodHandle" ∧ yX7_fewest.cls ≠ "java/lang/invoke/VarHandle" ∧ (parseMethodDescriptor yX7_fewest.desc).map (fun d => d.parameters.length) = some 1 := by decide +kernel
abbrev rm_X7_fewest : Room := { frames := 8, cells := 0, slots := 0, locals := 181 }
def wp_X7_fewest (K : Int32 → HF → Prop) (F : HF) (a1 : Int32) : Prop := wp_X7_in (fun x1 F1 => ((¬ x1 = (nI 0)) → (wp_X7_layFewest (fun F2 => (((F2 100 30) = (nI 0)) → (K (-4 : Int32) F2)) ∧ ((¬ (F2 100 30) = (nI 0)) → (((a1 < (F2 100 30)) → ((((nI 0) ≤ a1) → ((vp_in a1 8) ∧ (K (F2 128 a1.toNatClampNeg) F2))) ∧ ((¬ (nI 0) ≤ a1) → (K (F2 100 30) F2)))) ∧ ((¬ a1 < (F2 100 30)) → (K (-4 : Int32) F2))))) F1 )) ∧ ((x1 = (nI 0)) → (K (-1 : Int32) F1))) F a1 (-1 : Int32) (nI 7)
set_option maxRecDepth 100000 in
set_option maxHeartbeats 4000000 in
theorem c_X7_fewest {l : Launch} {D : va_G} {dA : Nat → ClassId} {ad : Nat → Nat} {R : List Nat} {F : HF} {a1 : Int32} {K : Int32 → HF → Prop} (hT : Md R) (h : wp_X7_fewest K F a1) : MI l yX7_fewest cX7_fewest 2 .int rm_X7_fewest D dA ad R F [.ref (ad 100), .int a1] K := by
  refine MI.of (own := RX7) (by decide) rfl (Nat.le_of_ble_eq_true rfl) ?_
  intro p e s m args below meth c A hA X hr
  unfold wp_X7_fewest at h
  show J p l e rm_X7_fewest s m args below meth c 2 D dA ad R A (QI D dA ad R A below args s K) F 0 [(0, .ref (ad 100)), (1, .int a1)] []
  refine r_iload_n (pc := 0) X 1 dX7_fewest_0 rfl rfl ?_
  refine r_iconst (pc := 1) (v := (-1 : Int32)) X dX7_fewest_1 (by decide) ?_
  refine r_bipush (pc := 2) (v := (nI 7)) X dX7_fewest_2 (by decide) ?_
  refine r_callIS (pc := 4) (As := [.int a1, .int (-1 : Int32), .int (nI 7)]) (st := []) X hA (c_X7_in  h) g_X7_87 hd_X7_in rfl rfl rfl ⟨Nat.le_of_ble_eq_true rfl, Nat.le_of_ble_eq_true rfl⟩ rfl (Nat.le_of_ble_eq_true rfl) dX7_fewest_4 (fun x1 F1 h => ?_)
  refine r_if_ne (pc := 7) (tgt := 12) X dX7_fewest_7 (by decide) (fun hc => ?_) (fun hc => ?_)
  · replace h := h.1 hc
    refine r_aload_n (pc := 12) X 0 dX7_fewest_12 rfl rfl ?_
    refine r_callVV (pc := 13) (As := []) (st := []) X hA (c_X7_layFewest hT h) g_X7_216 cl_X7 hT.1 hd_X7_layFewest rfl rfl rfl ⟨Nat.le_of_ble_eq_true rfl, Nat.le_of_ble_eq_true rfl⟩ rfl (Nat.le_of_ble_eq_true rfl) dX7_fewest_13 (fun F2 h => ?_)
    refine r_aload_n (pc := 16) X 0 dX7_fewest_16 rfl rfl ?_
    refine fg_X7_210 (pc := 17) X hT.1 dX7_fewest_17 ?_
    refine r_if_eq (pc := 20) (tgt := 31) X dX7_fewest_20 (by decide) (fun hc => ?_) (fun hc => ?_)
    · replace h := h.1 hc
      refine r_bipush (pc := 31) (v := (-4 : Int32)) X dX7_fewest_31 (by decide) ?_
      refine r_goto (pc := 33) (tgt := 53) X dX7_fewest_33 (by decide) ?_
      exact r_iret (pc := 53) X hr dX7_fewest_53 h
    · replace h := h.2 hc
      refine r_iload_n (pc := 23) X 1 dX7_fewest_23 rfl rfl ?_
      refine r_aload_n (pc := 24) X 0 dX7_fewest_24 rfl rfl ?_
      refine fg_X7_210 (pc := 25) X hT.1 dX7_fewest_25 ?_
      refine r_icmp_lt (pc := 28) (tgt := 36) X dX7_fewest_28 (by decide) (fun hc => ?_) (fun hc => ?_)
      · replace h := h.1 hc
        refine r_iload_n (pc := 36) X 1 dX7_fewest_36 rfl rfl ?_
        refine r_if_ge (pc := 37) (tgt := 47) X dX7_fewest_37 (by decide) (fun hc => ?_) (fun hc => ?_)
        · replace h := h.1 hc
          refine r_aload_n (pc := 47) X 0 dX7_fewest_47 rfl rfl ?_
          refine fg_X7_59 (pc := 48) X hT.1 dX7_fewest_48 ?_
          refine r_iload_n (pc := 51) X 1 dX7_fewest_51 rfl rfl ?_
          refine r_iald (pc := 52) X hT.2.2.2.2.2.2.2.2.2.2.2.2.1 h.1 dX7_fewest_52 ?_
          replace h := h.2
          exact r_iret (pc := 53) X hr dX7_fewest_53 h
        · replace h := h.2 hc
          refine r_aload_n (pc := 40) X 0 dX7_fewest_40 rfl rfl ?_
          refine fg_X7_210 (pc := 41) X hT.1 dX7_fewest_41 ?_
          refine r_goto (pc := 44) (tgt := 53) X dX7_fewest_44 (by decide) ?_
          exact r_iret (pc := 53) X hr dX7_fewest_53 h
      · replace h := h.2 hc
        refine r_bipush (pc := 31) (v := (-4 : Int32)) X dX7_fewest_31 (by decide) ?_
        refine r_goto (pc := 33) (tgt := 53) X dX7_fewest_33 (by decide) ?_
        exact r_iret (pc := 53) X hr dX7_fewest_53 h
  · replace h := h.2 hc
    refine r_iconst (pc := 10) (v := (-1 : Int32)) X dX7_fewest_10 (by decide) ?_
    exact r_iret (pc := 11) X hr dX7_fewest_11 h
theorem dX7_mend_0 : decode cX7_mend 0 = .ok (.iload_n 1, 1) := by decide +kernel
theorem dX7_mend_1 : decode cX7_mend 1 = .ok (.iconst 0, 1) := by decide +kernel
theorem dX7_mend_2 : decode cX7_mend 2 = .ok (.aload_n 0, 1) := by decide +kernel
theorem dX7_mend_3 : decode cX7_mend 3 = .ok (.getfield 44, 3) := by decide +kernel
theorem dX7_mend_6 : decode cX7_mend 6 = .ok (.iconst 0, 1) := by decide +kernel
theorem dX7_mend_7 : decode cX7_mend 7 = .ok (.iaload, 1) := by decide +kernel
theorem dX7_mend_8 : decode cX7_mend 8 = .ok (.iconst 1, 1) := by decide +kernel
theorem dX7_mend_9 : decode cX7_mend 9 = .ok (.isub, 1) := by decide +kernel
theorem dX7_mend_10 : decode cX7_mend 10 = .ok (.invokestatic 87, 3) := by decide +kernel
theorem dX7_mend_13 : decode cX7_mend 13 = .ok (.ifCond .ne 5, 3) := by decide +kernel
theorem dX7_mend_16 : decode cX7_mend 16 = .ok (.iconst (-1), 1) := by decide +kernel
theorem dX7_mend_17 : decode cX7_mend 17 = .ok (.ireturn, 1) := by decide +kernel
theorem dX7_mend_18 : decode cX7_mend 18 = .ok (.aload_n 0, 1) := by decide +kernel
theorem dX7_mend_19 : decode cX7_mend 19 = .ok (.aload_n 0, 1) := by decide +kernel
theorem dX7_mend_20 : decode cX7_mend 20 = .ok (.getfield 44, 3) := by decide +kernel
theorem dX7_mend_23 : decode cX7_mend 23 = .ok (.invokevirtual 189, 3) := by decide +kernel
theorem dX7_mend_26 : decode cX7_mend 26 = .ok (.ifCond .ne 6, 3) := by decide +kernel
theorem dX7_mend_29 : decode cX7_mend 29 = .ok (.bipush (-2), 2) := by decide +kernel
theorem dX7_mend_31 : decode cX7_mend 31 = .ok (.ireturn, 1) := by decide +kernel
theorem dX7_mend_32 : decode cX7_mend 32 = .ok (.iconst 0, 1) := by decide +kernel
theorem dX7_mend_33 : decode cX7_mend 33 = .ok (.istore_n 2, 1) := by decide +kernel
theorem dX7_mend_34 : decode cX7_mend 34 = .ok (.iload_n 2, 1) := by decide +kernel
theorem dX7_mend_35 : decode cX7_mend 35 = .ok (.aload_n 0, 1) := by decide +kernel
theorem dX7_mend_36 : decode cX7_mend 36 = .ok (.getfield 22, 3) := by decide +kernel
theorem dX7_mend_39 : decode cX7_mend 39 = .ok (.if_icmp .ge 98, 3) := by decide +kernel
theorem dX7_mend_42 : decode cX7_mend 42 = .ok (.aload_n 0, 1) := by decide +kernel
theorem dX7_mend_43 : decode cX7_mend 43 = .ok (.iload_n 2, 1) := by decide +kernel
theorem dX7_mend_44 : decode cX7_mend 44 = .ok (.invokevirtual 136, 3) := by decide +kernel
theorem dX7_mend_47 : decode cX7_mend 47 = .ok (.bipush (-4), 2) := by decide +kernel
theorem dX7_mend_49 : decode cX7_mend 49 = .ok (.if_icmp .ne 82, 3) := by decide +kernel
theorem dX7_mend_52 : decode cX7_mend 52 = .ok (.aload_n 0, 1) := by decide +kernel
theorem dX7_mend_53 : decode cX7_mend 53 = .ok (.getfield 26, 3) := by decide +kernel
theorem dX7_mend_56 : decode cX7_mend 56 = .ok (.iconst 4, 1) := by decide +kernel
theorem dX7_mend_57 : decode cX7_mend 57 = .ok (.iload_n 2, 1) := by decide +kernel
theorem dX7_mend_58 : decode cX7_mend 58 = .ok (.imul, 1) := by decide +kernel
theorem dX7_mend_59 : decode cX7_mend 59 = .ok (.iconst 1, 1) := by decide +kernel
theorem dX7_mend_60 : decode cX7_mend 60 = .ok (.iadd, 1) := by decide +kernel
theorem dX7_mend_61 : decode cX7_mend 61 = .ok (.iaload, 1) := by decide +kernel
theorem dX7_mend_62 : decode cX7_mend 62 = .ok (.aload_n 0, 1) := by decide +kernel
theorem dX7_mend_63 : decode cX7_mend 63 = .ok (.getfield 26, 3) := by decide +kernel
theorem dX7_mend_66 : decode cX7_mend 66 = .ok (.iconst 4, 1) := by decide +kernel
theorem dX7_mend_67 : decode cX7_mend 67 = .ok (.aload_n 0, 1) := by decide +kernel
theorem dX7_mend_68 : decode cX7_mend 68 = .ok (.getfield 44, 3) := by decide +kernel
theorem dX7_mend_71 : decode cX7_mend 71 = .ok (.iconst 5, 1) := by decide +kernel
theorem dX7_mend_72 : decode cX7_mend 72 = .ok (.iload_n 1, 1) := by decide +kernel
theorem dX7_mend_73 : decode cX7_mend 73 = .ok (.iadd, 1) := by decide +kernel
theorem dX7_mend_74 : decode cX7_mend 74 = .ok (.iaload, 1) := by decide +kernel
theorem dX7_mend_75 : decode cX7_mend 75 = .ok (.imul, 1) := by decide +kernel
theorem dX7_mend_76 : decode cX7_mend 76 = .ok (.iconst 1, 1) := by decide +kernel
theorem dX7_mend_77 : decode cX7_mend 77 = .ok (.iadd, 1) := by decide +kernel
theorem dX7_mend_78 : decode cX7_mend 78 = .ok (.iaload, 1) := by decide +kernel
theorem dX7_mend_79 : decode cX7_mend 79 = .ok (.if_icmp .ne 52, 3) := by decide +kernel
theorem dX7_mend_82 : decode cX7_mend 82 = .ok (.aload_n 0, 1) := by decide +kernel
theorem dX7_mend_83 : decode cX7_mend 83 = .ok (.getfield 44, 3) := by decide +kernel
theorem dX7_mend_86 : decode cX7_mend 86 = .ok (.iconst 0, 1) := by decide +kernel
theorem dX7_mend_87 : decode cX7_mend 87 = .ok (.aload_n 0, 1) := by decide +kernel
theorem dX7_mend_88 : decode cX7_mend 88 = .ok (.getfield 47, 3) := by decide +kernel
theorem dX7_mend_91 : decode cX7_mend 91 = .ok (.iconst 0, 1) := by decide +kernel
theorem dX7_mend_92 : decode cX7_mend 92 = .ok (.invokestatic 185, 3) := by decide +kernel
theorem dX7_mend_95 : decode cX7_mend 95 = .ok (.aload_n 0, 1) := by decide +kernel
theorem dX7_mend_96 : decode cX7_mend 96 = .ok (.getfield 47, 3) := by decide +kernel
theorem dX7_mend_99 : decode cX7_mend 99 = .ok (.iconst 5, 1) := by decide +kernel
theorem dX7_mend_100 : decode cX7_mend 100 = .ok (.iload_n 1, 1) := by decide +kernel
theorem dX7_mend_101 : decode cX7_mend 101 = .ok (.iadd, 1) := by decide +kernel
theorem dX7_mend_102 : decode cX7_mend 102 = .ok (.iload_n 2, 1) := by decide +kernel
theorem dX7_mend_103 : decode cX7_mend 103 = .ok (.iastore, 1) := by decide +kernel
theorem dX7_mend_104 : decode cX7_mend 104 = .ok (.aload_n 0, 1) := by decide +kernel
theorem dX7_mend_105 : decode cX7_mend 105 = .ok (.getfield 47, 3) := by decide +kernel
theorem dX7_mend_108 : decode cX7_mend 108 = .ok (.iconst 3, 1) := by decide +kernel
theorem dX7_mend_109 : decode cX7_mend 109 = .ok (.iconst (-1), 1) := by decide +kernel
theorem dX7_mend_110 : decode cX7_mend 110 = .ok (.iastore, 1) := by decide +kernel
theorem dX7_mend_111 : decode cX7_mend 111 = .ok (.aload_n 0, 1) := by decide +kernel
theorem dX7_mend_112 : decode cX7_mend 112 = .ok (.getfield 47, 3) := by decide +kernel
theorem dX7_mend_115 : decode cX7_mend 115 = .ok (.iconst 4, 1) := by decide +kernel
theorem dX7_mend_116 : decode cX7_mend 116 = .ok (.iconst 0, 1) := by decide +kernel
theorem dX7_mend_117 : decode cX7_mend 117 = .ok (.iastore, 1) := by decide +kernel
theorem dX7_mend_118 : decode cX7_mend 118 = .ok (.aload_n 0, 1) := by decide +kernel
theorem dX7_mend_119 : decode cX7_mend 119 = .ok (.aload_n 0, 1) := by decide +kernel
theorem dX7_mend_120 : decode cX7_mend 120 = .ok (.getfield 47, 3) := by decide +kernel
theorem dX7_mend_123 : decode cX7_mend 123 = .ok (.invokevirtual 204, 3) := by decide +kernel
theorem dX7_mend_126 : decode cX7_mend 126 = .ok (.ifCond .eq 5, 3) := by decide +kernel
theorem dX7_mend_129 : decode cX7_mend 129 = .ok (.iload_n 2, 1) := by decide +kernel
theorem dX7_mend_130 : decode cX7_mend 130 = .ok (.ireturn, 1) := by decide +kernel
theorem dX7_mend_131 : decode cX7_mend 131 = .ok (.iinc 2 1, 3) := by decide +kernel
theorem dX7_mend_134 : decode cX7_mend 134 = .ok (.goto (-100), 3) := by decide +kernel
theorem dX7_mend_137 : decode cX7_mend 137 = .ok (.bipush (-4), 2) := by decide +kernel
theorem dX7_mend_139 : decode cX7_mend 139 = .ok (.ireturn, 1) := by decide +kernel
theorem hd_X7_mend : yX7_mend.cls = RX7 ∧ yX7_mend.cls ≠ "java/lang/invoke/MethodHandle" ∧ yX7_mend.cls ≠ "java/lang/invoke/VarHandle" ∧ (parseMethodDescriptor yX7_mend.desc).map (fun d => d.parameters.length) = some 1 := by decide +kernel
abbrev rm_X7_mend : Room := { frames := 6, cells := 0, slots := 0, locals := 135 }
def wp_X7_mend_131 (K : Int32 → HF → Prop) (L34 : HF → Int32 → Int32 → Prop) (F : HF) (v1 : Int32) (v2 : Int32) : Prop := L34 F v1 (v2 + (nI 1))
set_option maxRecDepth 100000 in
set_option maxHeartbeats 4000000 in
theorem k_X7_mend_131 {p : Program} {l : Launch} {e : Env} {s : State} {m : MethodId} {args : Array Value} {below : List Frame} {meth : Method} {c : Code} {D : va_G} {dA : Nat → ClassId} {ad : Nat → Nat} {R : List Nat} {A : Nat → Prop} {K : Int32 → HF → Prop} {L34 : HF → Int32 → Int32 → Prop} (X : Cx p s m args meth c cX7_mend 3 RX7 D dA) (hA : ∀ q, s.heap.size ≤ q → A q) (hr : meth.sig.returnType = some .int) (hT : Md R) (hL34 : ∀ (F : HF) (v1 : Int32) (v2 : Int32), L34 F v1 v2 → J p l e rm_X7_mend s m args below meth c 3 D dA ad R A (QI D dA ad R A below args s K) F 34 [(0, .ref (ad 100)), (1, .int v1), (2, .int v2)] []) : ∀ (F : HF) (v1 : Int32) (v2 : Int32), wp_X7_mend_131 K L34  F v1 v2 → J p l e rm_X7_mend s m args below meth c 3 D dA ad R A (QI D dA ad R A below args s K) F 131 [(0, .ref (ad 100)), (1, .int v1), (2, .int v2)] [] := by
  intro F v1 v2 h
  unfold wp_X7_mend_131 at h
  refine r_iinc (pc := 131) (v := (v2 + (nI 1))) X 2 [(2, .int (v2 + (nI 1))), (0, .ref (ad 100)), (1, .int v1)] dX7_mend_131 rfl rfl (by decide) rfl ?_
  refine r_goto (pc := 134) (tgt := 34) X dX7_mend_134 (by decide) ?_
  refine r_sub [1, 2, 0] rfl ?_
  exact hL34 _ _ _ h
def wp_X7_mend_34 (K : Int32 → HF → Prop) : Nat → HF → Int32 → Int32 → Prop
  | 0 => fun _ _ _ => False
  | n34_ + 1 => fun F v1 v2 => (((F 100 13) ≤ v2) → (K (-4 : Int32) F)) ∧ ((¬ (F 100 13) ≤ v2) → (wp_X7_placeIn (fun x3 F103 => ((¬ x3 = (-4 : Int32)) → (wp_X7_mend_131 K (wp_X7_mend_34 K n34_)  F103 v1 v2)) ∧ ((x3 = (-4 : Int32)) → ((vp_in (((nI 4) * v2) + (nI 1)) 32) ∧ ((vp_in ((nI 5) + v1) 21) ∧ ((vp_in (((nI 4) * (F103 120 ((nI 5) + v1).toNatClampNeg)) + (nI 1)) 32) ∧ (((¬ (F103 114 (((nI 4) * v2) + (nI 1)).toNatClampNeg) = (F103 114 (((nI 4) * (F103 120 ((nI 5) + v1).toNatClampNeg)) + (nI 1)).toNatClampNeg)) → (wp_X7_mend_131 K (wp_X7_mend_34 K n34_)  F103 v1 v2)) ∧ (((F103 114 (((nI 4) * v2) + (nI 1)).toNatClampNeg) = (F103 114 (((nI 4) * (F103 120 ((nI 5) + v1).toNatClampNeg)) + (nI 1)).toNatClampNeg)) → (wp_X7_copy (fun F204 => (vp_in ((nI 5) + v1) 21) ∧ (∀ F205 : HF, F205 = hup F204 121 ((nI 5) + v1).toNatClampNeg v2 → ((vp_in (nI 3) 21) ∧ (∀ F206 : HF, F206 = hup F205 121 (nI 3).toNatClampNeg (-1 : Int32) → ((vp_in (nI 4) 21) ∧ (∀ F207 : HF, F207 = hup F206 121 (nI 4).toNatClampNeg (nI 0) → (wp_X7_goesOver (fun x4 F208 => ((x4 = (nI 0)) → (wp_X7_mend_131 K (wp_X7_mend_34 K n34_)  F208 v1 v2)) ∧ ((¬ x4 = (nI 0)) → (K v2 F208))) F207 121 21))))))) F103 120 21 121 21 (nI 0) (nI 0))))))))) F v2))
set_option maxRecDepth 100000 in
set_option maxHeartbeats 4000000 in
theorem k_X7_mend_34 {p : Program} {l : Launch} {e : Env} {s : State} {m : MethodId} {args : Array Value} {below : List Frame} {meth : Method} {c : Code} {D : va_G} {dA : Nat → ClassId} {ad : Nat → Nat} {R : List Nat} {A : Nat → Prop} {K : Int32 → HF → Prop} (X : Cx p s m args meth c cX7_mend 3 RX7 D dA) (hA : ∀ q, s.heap.size ≤ q → A q) (hr : meth.sig.returnType = some .int) (hT : Md R) : ∀ (n_ : Nat) (F : HF) (v1 : Int32) (v2 : Int32), wp_X7_mend_34 K  n_ F v1 v2 → J p l e rm_X7_mend s m args below meth c 3 D dA ad R A (QI D dA ad R A below args s K) F 34 [(0, .ref (ad 100)), (1, .int v1), (2, .int v2)] [] := by
  intro n_
  induction n_ with
  | zero => intro F v1 v2 h; exact h.elim
  | succ n_ ih =>
    intro F v1 v2 h
    unfold wp_X7_mend_34 at h
    refine r_iload_n (pc := 34) X 2 dX7_mend_34 rfl rfl ?_
    refine r_aload_n (pc := 35) X 0 dX7_mend_35 rfl rfl ?_
    refine fg_X7_22 (pc := 36) X hT.1 dX7_mend_36 ?_
    refine r_icmp_ge (pc := 39) (tgt := 137) X dX7_mend_39 (by decide) (fun hc => ?_) (fun hc => ?_)
    · replace h := h.1 hc
      refine r_bipush (pc := 137) (v := (-4 : Int32)) X dX7_mend_137 (by decide) ?_
      exact r_iret (pc := 139) X hr dX7_mend_139 h
    · replace h := h.2 hc
      refine r_aload_n (pc := 42) X 0 dX7_mend_42 rfl rfl ?_
      refine r_iload_n (pc := 43) X 2 dX7_mend_43 rfl rfl ?_
      refine r_callIV (pc := 44) (As := [.int v2]) (st := []) X hA (c_X7_placeIn hT h) g_X7_136 cl_X7 hT.1 hd_X7_placeIn rfl rfl rfl ⟨Nat.le_of_ble_eq_true rfl, Nat.le_of_ble_eq_true rfl⟩ rfl (Nat.le_of_ble_eq_true rfl) dX7_mend_44 (fun x3 F103 h => ?_)
      refine r_bipush (pc := 47) (v := (-4 : Int32)) X dX7_mend_47 (by decide) ?_
      refine r_icmp_ne (pc := 49) (tgt := 131) X dX7_mend_49 (by decide) (fun hc => ?_) (fun hc => ?_)
      · replace h := h.1 hc
        exact k_X7_mend_131 X hA hr hT ih _ _ _ h
      · replace h := h.2 hc
        refine r_aload_n (pc := 52) X 0 dX7_mend_52 rfl rfl ?_
        refine fg_X7_26 (pc := 53) X hT.1 dX7_mend_53 ?_
        refine r_iconst (pc := 56) (v := (nI 4)) X dX7_mend_56 (by decide) ?_
        refine r_iload_n (pc := 57) X 2 dX7_mend_57 rfl rfl ?_
        refine r_imul (pc := 58) X dX7_mend_58 ?_
        refine r_iconst (pc := 59) (v := (nI 1)) X dX7_mend_59 (by decide) ?_
        refine r_iadd (pc := 60) X dX7_mend_60 ?_
        refine r_iald (pc := 61) X hT.2.2.2.2.2.1 h.1 dX7_mend_61 ?_
        replace h := h.2
        refine r_aload_n (pc := 62) X 0 dX7_mend_62 rfl rfl ?_
        refine fg_X7_26 (pc := 63) X hT.1 dX7_mend_63 ?_
        refine r_iconst (pc := 66) (v := (nI 4)) X dX7_mend_66 (by decide) ?_
        refine r_aload_n (pc := 67) X 0 dX7_mend_67 rfl rfl ?_
        refine fg_X7_44 (pc := 68) X hT.1 dX7_mend_68 ?_
        refine r_iconst (pc := 71) (v := (nI 5)) X dX7_mend_71 (by decide) ?_
        refine r_iload_n (pc := 72) X 1 dX7_mend_72 rfl rfl ?_
        refine r_iadd (pc := 73) X dX7_mend_73 ?_
        refine r_iald (pc := 74) X hT.2.2.2.2.2.2.2.1 h.1 dX7_mend_74 ?_
        replace h := h.2
        refine r_imul (pc := 75) X dX7_mend_75 ?_
        refine r_iconst (pc := 76) (v := (nI 1)) X dX7_mend_76 (by decide) ?_
        refine r_iadd (pc := 77) X dX7_mend_77 ?_
        refine r_iald (pc := 78) X hT.2.2.2.2.2.1 h.1 dX7_mend_78 ?_
        replace h := h.2
        refine r_icmp_ne (pc := 79) (tgt := 131) X dX7_mend_79 (by decide) (fun hc => ?_) (fun hc => ?_)
        · replace h := h.1 hc
          exact k_X7_mend_131 X hA hr hT ih _ _ _ h
        · replace h := h.2 hc
          refine r_aload_n (pc := 82) X 0 dX7_mend_82 rfl rfl ?_
          refine fg_X7_44 (pc := 83) X hT.1 dX7_mend_83 ?_
          refine r_iconst (pc := 86) (v := (nI 0)) X dX7_mend_86 (by decide) ?_
          refine r_aload_n (pc := 87) X 0 dX7_mend_87 rfl rfl ?_
          refine fg_X7_47 (pc := 88) X hT.1 dX7_mend_88 ?_
          refine r_iconst (pc := 91) (v := (nI 0)) X dX7_mend_91 (by decide) ?_
          refine r_callVS (pc := 92) (As := [.ref (ad 120), .int (nI 0), .ref (ad 121), .int (nI 0)]) (st := []) X hA (c_X7_copy hT.2.2.2.2.2.2.2.1 hT.2.2.2.2.2.2.2.2.1 h) g_X7_185 hd_X7_copy rfl rfl rfl ⟨Nat.le_of_ble_eq_true rfl, Nat.le_of_ble_eq_true rfl⟩ rfl (Nat.le_of_ble_eq_true rfl) dX7_mend_92 (fun F204 h => ?_)
          refine r_aload_n (pc := 95) X 0 dX7_mend_95 rfl rfl ?_
          refine fg_X7_47 (pc := 96) X hT.1 dX7_mend_96 ?_
          refine r_iconst (pc := 99) (v := (nI 5)) X dX7_mend_99 (by decide) ?_
          refine r_iload_n (pc := 100) X 1 dX7_mend_100 rfl rfl ?_
          refine r_iadd (pc := 101) X dX7_mend_101 ?_
          refine r_iload_n (pc := 102) X 2 dX7_mend_102 rfl rfl ?_
          refine r_iast (pc := 103) X hT.2.2.2.2.2.2.2.2.1 h.1 dX7_mend_103 (fun F205 e1 => ?_)
          replace h := h.2 F205 e1
          refine r_aload_n (pc := 104) X 0 dX7_mend_104 rfl rfl ?_
          refine fg_X7_47 (pc := 105) X hT.1 dX7_mend_105 ?_
          refine r_iconst (pc := 108) (v := (nI 3)) X dX7_mend_108 (by decide) ?_
          refine r_iconst (pc := 109) (v := (-1 : Int32)) X dX7_mend_109 (by decide) ?_
          refine r_iast (pc := 110) X hT.2.2.2.2.2.2.2.2.1 h.1 dX7_mend_110 (fun F206 e1 => ?_)
          replace h := h.2 F206 e1
          refine r_aload_n (pc := 111) X 0 dX7_mend_111 rfl rfl ?_
          refine fg_X7_47 (pc := 112) X hT.1 dX7_mend_112 ?_
          refine r_iconst (pc := 115) (v := (nI 4)) X dX7_mend_115 (by decide) ?_
          refine r_iconst (pc := 116) (v := (nI 0)) X dX7_mend_116 (by decide) ?_
          refine r_iast (pc := 117) X hT.2.2.2.2.2.2.2.2.1 h.1 dX7_mend_117 (fun F207 e1 => ?_)
          replace h := h.2 F207 e1
          refine r_aload_n (pc := 118) X 0 dX7_mend_118 rfl rfl ?_
          refine r_aload_n (pc := 119) X 0 dX7_mend_119 rfl rfl ?_
          refine fg_X7_47 (pc := 120) X hT.1 dX7_mend_120 ?_
          refine r_callIV (pc := 123) (As := [.ref (ad 121)]) (st := []) X hA (c_X7_goesOver hT hT.2.2.2.2.2.2.2.2.1 h) g_X7_204 cl_X7 hT.1 hd_X7_goesOver rfl rfl rfl ⟨Nat.le_of_ble_eq_true rfl, Nat.le_of_ble_eq_true rfl⟩ rfl (Nat.le_of_ble_eq_true rfl) dX7_mend_123 (fun x4 F208 h => ?_)
          refine r_if_eq (pc := 126) (tgt := 131) X dX7_mend_126 (by decide) (fun hc => ?_) (fun hc => ?_)
          · replace h := h.1 hc
            exact k_X7_mend_131 X hA hr hT ih _ _ _ h
          · replace h := h.2 hc
            refine r_iload_n (pc := 129) X 2 dX7_mend_129 rfl rfl ?_
            exact r_iret (pc := 130) X hr dX7_mend_130 h
def wp_X7_mend (K : Int32 → HF → Prop) (F : HF) (a1 : Int32) : Prop := (vp_in (nI 0) 21) ∧ (wp_X7_in (fun x1 F1 => ((¬ x1 = (nI 0)) → (wp_X7_isWhole (fun x2 F2 => ((¬ x2 = (nI 0)) → (∃ m_, wp_X7_mend_34 K  m_ F2 a1 (nI 0))) ∧ ((x2 = (nI 0)) → (K (-2 : Int32) F2))) F1 120 21)) ∧ ((x1 = (nI 0)) → (K (-1 : Int32) F1))) F a1 (nI 0) ((F 120 (nI 0).toNatClampNeg) - (nI 1)))
set_option maxRecDepth 100000 in
set_option maxHeartbeats 4000000 in
theorem c_X7_mend {l : Launch} {D : va_G} {dA : Nat → ClassId} {ad : Nat → Nat} {R : List Nat} {F : HF} {a1 : Int32} {K : Int32 → HF → Prop} (hT : Md R) (h : wp_X7_mend K F a1) : MI l yX7_mend cX7_mend 3 .int rm_X7_mend D dA ad R F [.ref (ad 100), .int a1] K := by
  refine MI.of (own := RX7) (by decide) rfl (Nat.le_of_ble_eq_true rfl) ?_
  intro p e s m args below meth c A hA X hr
  unfold wp_X7_mend at h
  show J p l e rm_X7_mend s m args below meth c 3 D dA ad R A (QI D dA ad R A below args s K) F 0 [(0, .ref (ad 100)), (1, .int a1)] []
  refine r_iload_n (pc := 0) X 1 dX7_mend_0 rfl rfl ?_
  refine r_iconst (pc := 1) (v := (nI 0)) X dX7_mend_1 (by decide) ?_
  refine r_aload_n (pc := 2) X 0 dX7_mend_2 rfl rfl ?_
  refine fg_X7_44 (pc := 3) X hT.1 dX7_mend_3 ?_
  refine r_iconst (pc := 6) (v := (nI 0)) X dX7_mend_6 (by decide) ?_
  refine r_iald (pc := 7) X hT.2.2.2.2.2.2.2.1 h.1 dX7_mend_7 ?_
  replace h := h.2
  refine r_iconst (pc := 8) (v := (nI 1)) X dX7_mend_8 (by decide) ?_
  refine r_isub (pc := 9) X dX7_mend_9 ?_
  refine r_callIS (pc := 10) (As := [.int a1, .int (nI 0), .int ((F 120 (nI 0).toNatClampNeg) - (nI 1))]) (st := []) X hA (c_X7_in  h) g_X7_87 hd_X7_in rfl rfl rfl ⟨Nat.le_of_ble_eq_true rfl, Nat.le_of_ble_eq_true rfl⟩ rfl (Nat.le_of_ble_eq_true rfl) dX7_mend_10 (fun x1 F1 h => ?_)
  refine r_if_ne (pc := 13) (tgt := 18) X dX7_mend_13 (by decide) (fun hc => ?_) (fun hc => ?_)
  · replace h := h.1 hc
    refine r_aload_n (pc := 18) X 0 dX7_mend_18 rfl rfl ?_
    refine r_aload_n (pc := 19) X 0 dX7_mend_19 rfl rfl ?_
    refine fg_X7_44 (pc := 20) X hT.1 dX7_mend_20 ?_
    refine r_callIV (pc := 23) (As := [.ref (ad 120)]) (st := []) X hA (c_X7_isWhole hT hT.2.2.2.2.2.2.2.1 h) g_X7_189 cl_X7 hT.1 hd_X7_isWhole rfl rfl rfl ⟨Nat.le_of_ble_eq_true rfl, Nat.le_of_ble_eq_true rfl⟩ rfl (Nat.le_of_ble_eq_true rfl) dX7_mend_23 (fun x2 F2 h => ?_)
    refine r_if_ne (pc := 26) (tgt := 32) X dX7_mend_26 (by decide) (fun hc => ?_) (fun hc => ?_)
    · replace h := h.1 hc
      refine r_iconst (pc := 32) (v := (nI 0)) X dX7_mend_32 (by decide) ?_
      refine r_istore_n (pc := 33) X [(2, .int (nI 0)), (0, .ref (ad 100)), (1, .int a1)] dX7_mend_33 rfl (by decide) rfl ?_
      refine r_sub [1, 2, 0] rfl ?_
      obtain ⟨n1, h⟩ := h
      exact k_X7_mend_34 X hA hr hT  n1 _ _ _ h
    · replace h := h.2 hc
      refine r_bipush (pc := 29) (v := (-2 : Int32)) X dX7_mend_29 (by decide) ?_
      exact r_iret (pc := 31) X hr dX7_mend_31 h
  · replace h := h.2 hc
    refine r_iconst (pc := 16) (v := (-1 : Int32)) X dX7_mend_16 (by decide) ?_
    exact r_iret (pc := 17) X hr dX7_mend_17 h
theorem dX7_calls_0 : decode cX7_calls 0 = .ok (.iload_n 1, 1) := by decide +kernel
theorem dX7_calls_1 : decode cX7_calls 1 = .ok (.iconst (-1), 1) := by decide +kernel
theorem dX7_calls_2 : decode cX7_calls 2 = .ok (.aload_n 0, 1) := by decide +kernel
theorem dX7_calls_3 : decode cX7_calls 3 = .ok (.getfield 44, 3) := by decide +kernel
theorem dX7_calls_6 : decode cX7_calls 6 = .ok (.iconst 0, 1) := by decide +kernel
theorem dX7_calls_7 : decode cX7_calls 7 = .ok (.iaload, 1) := by decide +kernel
theorem dX7_calls_8 : decode cX7_calls 8 = .ok (.iconst 1, 1) := by decide +kernel
theorem dX7_calls_9 : decode cX7_calls 9 = .ok (.isub, 1) := by decide +kernel
theorem dX7_calls_10 : decode cX7_calls 10 = .ok (.invokestatic 87, 3) := by decide +kernel
theorem dX7_calls_13 : decode cX7_calls 13 = .ok (.ifCond .ne 5, 3) := by decide +kernel
theorem dX7_calls_16 : decode cX7_calls 16 = .ok (.iconst (-1), 1) := by decide +kernel
theorem dX7_calls_17 : decode cX7_calls 17 = .ok (.ireturn, 1) := by decide +kernel
theorem dX7_calls_18 : decode cX7_calls 18 = .ok (.iconst 0, 1) := by decide +kernel
theorem dX7_calls_19 : decode cX7_calls 19 = .ok (.istore_n 2, 1) := by decide +kernel
theorem dX7_calls_20 : decode cX7_calls 20 = .ok (.iconst 0, 1) := by decide +kernel
theorem dX7_calls_21 : decode cX7_calls 21 = .ok (.istore_n 3, 1) := by decide +kernel
theorem dX7_calls_22 : decode cX7_calls 22 = .ok (.iconst 0, 1) := by decide +kernel
theorem dX7_calls_23 : decode cX7_calls 23 = .ok (.istore 4, 2) := by decide +kernel
theorem dX7_calls_25 : decode cX7_calls 25 = .ok (.iload 4, 2) := by decide +kernel
theorem dX7_calls_27 : decode cX7_calls 27 = .ok (.aload_n 0, 1) := by decide +kernel
theorem dX7_calls_28 : decode cX7_calls 28 = .ok (.getfield 44, 3) := by decide +kernel
theorem dX7_calls_31 : decode cX7_calls 31 = .ok (.iconst 0, 1) := by decide +kernel
theorem dX7_calls_32 : decode cX7_calls 32 = .ok (.iaload, 1) := by decide +kernel
theorem dX7_calls_33 : decode cX7_calls 33 = .ok (.if_icmp .ge 146, 3) := by decide +kernel
theorem dX7_calls_36 : decode cX7_calls 36 = .ok (.iconst (-1), 1) := by decide +kernel
theorem dX7_calls_37 : decode cX7_calls 37 = .ok (.istore 5, 2) := by decide +kernel
theorem dX7_calls_39 : decode cX7_calls 39 = .ok (.iconst 0, 1) := by decide +kernel
theorem dX7_calls_40 : decode cX7_calls 40 = .ok (.istore 6, 2) := by decide +kernel
theorem dX7_calls_42 : decode cX7_calls 42 = .ok (.iload 6, 2) := by decide +kernel
theorem dX7_calls_44 : decode cX7_calls 44 = .ok (.aload_n 0, 1) := by decide +kernel
theorem dX7_calls_45 : decode cX7_calls 45 = .ok (.getfield 22, 3) := by decide +kernel
theorem dX7_calls_48 : decode cX7_calls 48 = .ok (.if_icmp .ge 80, 3) := by decide +kernel
theorem dX7_calls_51 : decode cX7_calls 51 = .ok (.aload_n 0, 1) := by decide +kernel
theorem dX7_calls_52 : decode cX7_calls 52 = .ok (.iload 6, 2) := by decide +kernel
theorem dX7_calls_54 : decode cX7_calls 54 = .ok (.invokevirtual 136, 3) := by decide +kernel
theorem dX7_calls_57 : decode cX7_calls 57 = .ok (.bipush (-4), 2) := by decide +kernel
theorem dX7_calls_59 : decode cX7_calls 59 = .ok (.if_icmp .eq 16, 3) := by decide +kernel
theorem dX7_calls_62 : decode cX7_calls 62 = .ok (.iload_n 2, 1) := by decide +kernel
theorem dX7_calls_63 : decode cX7_calls 63 = .ok (.iload 6, 2) := by decide +kernel
theorem dX7_calls_65 : decode cX7_calls 65 = .ok (.invokestatic 219, 3) := by decide +kernel
theorem dX7_calls_68 : decode cX7_calls 68 = .ok (.ifCond .ne 7, 3) := by decide +kernel
theorem dX7_calls_71 : decode cX7_calls 71 = .ok (.iconst 1, 1) := by decide +kernel
theorem dX7_calls_72 : decode cX7_calls 72 = .ok (.goto 4, 3) := by decide +kernel
theorem dX7_calls_75 : decode cX7_calls 75 = .ok (.iconst 0, 1) := by decide +kernel
theorem dX7_calls_76 : decode cX7_calls 76 = .ok (.istore 7, 2) := by decide +kernel
theorem dX7_calls_78 : decode cX7_calls 78 = .ok (.iload 7, 2) := by decide +kernel
theorem dX7_calls_80 : decode cX7_calls 80 = .ok (.ifCond .eq 38, 3) := by decide +kernel
theorem dX7_calls_83 : decode cX7_calls 83 = .ok (.iload 5, 2) := by decide +kernel
theorem dX7_calls_85 : decode cX7_calls 85 = .ok (.ifCond .lt 28, 3) := by decide +kernel
theorem dX7_calls_88 : decode cX7_calls 88 = .ok (.aload_n 0, 1) := by decide +kernel
theorem dX7_calls_89 : decode cX7_calls 89 = .ok (.getfield 26, 3) := by decide +kernel
theorem dX7_calls_92 : decode cX7_calls 92 = .ok (.iconst 4, 1) := by decide +kernel
theorem dX7_calls_93 : decode cX7_calls 93 = .ok (.iload 6, 2) := by decide +kernel
theorem dX7_calls_95 : decode cX7_calls 95 = .ok (.imul, 1) := by decide +kernel
theorem dX7_calls_96 : decode cX7_calls 96 = .ok (.iconst 3, 1) := by decide +kernel
theorem dX7_calls_97 : decode cX7_calls 97 = .ok (.iadd, 1) := by decide +kernel
theorem dX7_calls_98 : decode cX7_calls 98 = .ok (.iaload, 1) := by decide +kernel
theorem dX7_calls_99 : decode cX7_calls 99 = .ok (.aload_n 0, 1) := by decide +kernel
theorem dX7_calls_100 : decode cX7_calls 100 = .ok (.getfield 26, 3) := by decide +kernel
theorem dX7_calls_103 : decode cX7_calls 103 = .ok (.iconst 4, 1) := by decide +kernel
theorem dX7_calls_104 : decode cX7_calls 104 = .ok (.iload 5, 2) := by decide +kernel
theorem dX7_calls_106 : decode cX7_calls 106 = .ok (.imul, 1) := by decide +kernel
theorem dX7_calls_107 : decode cX7_calls 107 = .ok (.iconst 3, 1) := by decide +kernel
theorem dX7_calls_108 : decode cX7_calls 108 = .ok (.iadd, 1) := by decide +kernel
theorem dX7_calls_109 : decode cX7_calls 109 = .ok (.iaload, 1) := by decide +kernel
theorem dX7_calls_110 : decode cX7_calls 110 = .ok (.if_icmp .le 8, 3) := by decide +kernel
theorem dX7_calls_113 : decode cX7_calls 113 = .ok (.iload 6, 2) := by decide +kernel
theorem dX7_calls_115 : decode cX7_calls 115 = .ok (.goto 5, 3) := by decide +kernel
theorem dX7_calls_118 : decode cX7_calls 118 = .ok (.iload 5, 2) := by decide +kernel
theorem dX7_calls_120 : decode cX7_calls 120 = .ok (.istore 5, 2) := by decide +kernel
theorem dX7_calls_122 : decode cX7_calls 122 = .ok (.iinc 6 1, 3) := by decide +kernel
theorem dX7_calls_125 : decode cX7_calls 125 = .ok (.goto (-83), 3) := by decide +kernel
theorem dX7_calls_128 : decode cX7_calls 128 = .ok (.iload_n 2, 1) := by decide +kernel
theorem dX7_calls_129 : decode cX7_calls 129 = .ok (.iconst 1, 1) := by decide +kernel
theorem dX7_calls_130 : decode cX7_calls 130 = .ok (.iload 5, 2) := by decide +kernel
theorem dX7_calls_132 : decode cX7_calls 132 = .ok (.ishl, 1) := by decide +kernel
theorem dX7_calls_133 : decode cX7_calls 133 = .ok (.ior, 1) := by decide +kernel
theorem dX7_calls_134 : decode cX7_calls 134 = .ok (.istore_n 2, 1) := by decide +kernel
theorem dX7_calls_135 : decode cX7_calls 135 = .ok (.iload 4, 2) := by decide +kernel
theorem dX7_calls_137 : decode cX7_calls 137 = .ok (.iload_n 1, 1) := by decide +kernel
theorem dX7_calls_138 : decode cX7_calls 138 = .ok (.if_icmp .ne 6, 3) := by decide +kernel
theorem dX7_calls_141 : decode cX7_calls 141 = .ok (.iload 5, 2) := by decide +kernel
theorem dX7_calls_143 : decode cX7_calls 143 = .ok (.ireturn, 1) := by decide +kernel
theorem dX7_calls_144 : decode cX7_calls 144 = .ok (.iload 4, 2) := by decide +kernel
theorem dX7_calls_146 : decode cX7_calls 146 = .ok (.aload_n 0, 1) := by decide +kernel
theorem dX7_calls_147 : decode cX7_calls 147 = .ok (.getfield 26, 3) := by decide +kernel
theorem dX7_calls_150 : decode cX7_calls 150 = .ok (.iconst 4, 1) := by decide +kernel
theorem dX7_calls_151 : decode cX7_calls 151 = .ok (.iload 5, 2) := by decide +kernel
theorem dX7_calls_153 : decode cX7_calls 153 = .ok (.imul, 1) := by decide +kernel
theorem dX7_calls_154 : decode cX7_calls 154 = .ok (.iconst 3, 1) := by decide +kernel
theorem dX7_calls_155 : decode cX7_calls 155 = .ok (.iadd, 1) := by decide +kernel
theorem dX7_calls_156 : decode cX7_calls 156 = .ok (.iaload, 1) := by decide +kernel
theorem dX7_calls_157 : decode cX7_calls 157 = .ok (.iadd, 1) := by decide +kernel
theorem dX7_calls_158 : decode cX7_calls 158 = .ok (.istore 6, 2) := by decide +kernel
theorem dX7_calls_160 : decode cX7_calls 160 = .ok (.iload 6, 2) := by decide +kernel
theorem dX7_calls_162 : decode cX7_calls 162 = .ok (.iload_n 3, 1) := by decide +kernel
theorem dX7_calls_163 : decode cX7_calls 163 = .ok (.if_icmp .le 8, 3) := by decide +kernel
theorem dX7_calls_166 : decode cX7_calls 166 = .ok (.iload 6, 2) := by decide +kernel
theorem dX7_calls_168 : decode cX7_calls 168 = .ok (.goto 4, 3) := by decide +kernel
theorem dX7_calls_171 : decode cX7_calls 171 = .ok (.iload_n 3, 1) := by decide +kernel
theorem dX7_calls_172 : decode cX7_calls 172 = .ok (.istore_n 3, 1) := by decide +kernel
theorem dX7_calls_173 : decode cX7_calls 173 = .ok (.iinc 4 1, 3) := by decide +kernel
theorem dX7_calls_176 : decode cX7_calls 176 = .ok (.goto (-151), 3) := by decide +kernel
theorem dX7_calls_179 : decode cX7_calls 179 = .ok (.iload_n 3, 1) := by decide +kernel
theorem dX7_calls_180 : decode cX7_calls 180 = .ok (.ireturn, 1) := by decide +kernel
theorem hd_X7_calls : yX7_calls.cls = RX7 ∧ yX7_calls.cls ≠ "java/lang/invoke/MethodHandle" ∧ yX7_calls.cls ≠ "java/lang/invoke/VarHandle" ∧ (parseMethodDescriptor yX7_calls.desc).map (fun d => d.parameters.length) = some 1 := by decide +kernel
abbrev rm_X7_calls : Room := { frames := 1, cells := 0, slots := 0, locals := 22 }
def wp_X7_calls_172 (K : Int32 → HF → Prop) (L25 : HF → Int32 → Int32 → Int32 → Int32 → Prop) (F : HF) (v1 : Int32) (v2 : Int32) (v4 : Int32) (s0 : Int32) : Prop := L25 F v1 v2 s0 (v4 + (nI 1))
set_option maxRecDepth 100000 in
set_option maxHeartbeats 4000000 in
theorem k_X7_calls_172 {p : Program} {l : Launch} {e : Env} {s : State} {m : MethodId} {args : Array Value} {below : List Frame} {meth : Method} {c : Code} {D : va_G} {dA : Nat → ClassId} {ad : Nat → Nat} {R : List Nat} {A : Nat → Prop} {K : Int32 → HF → Prop} {L25 : HF → Int32 → Int32 → Int32 → Int32 → Prop} (X : Cx p s m args meth c cX7_calls 8 RX7 D dA) (hA : ∀ q, s.heap.size ≤ q → A q) (hr : meth.sig.returnType = some .int) (hT : Md R) (hL25 : ∀ (F : HF) (v1 : Int32) (v2 : Int32) (v3 : Int32) (v4 : Int32), L25 F v1 v2 v3 v4 → J p l e rm_X7_calls s m args below meth c 8 D dA ad R A (QI D dA ad R A below args s K) F 25 [(0, .ref (ad 100)), (1, .int v1), (2, .int v2), (3, .int v3), (4, .int v4)] []) : ∀ (F : HF) (v1 : Int32) (v2 : Int32) (v4 : Int32) (s0 : Int32), wp_X7_calls_172 K L25  F v1 v2 v4 s0 → J p l e rm_X7_calls s m args below meth c 8 D dA ad R A (QI D dA ad R A below args s K) F 172 [(0, .ref (ad 100)), (1, .int v1), (2, .int v2), (4, .int v4)] [.int s0] := by
  intro F v1 v2 v4 s0 h
  unfold wp_X7_calls_172 at h
  refine r_istore_n (pc := 172) X [(3, .int s0), (0, .ref (ad 100)), (1, .int v1), (2, .int v2), (4, .int v4)] dX7_calls_172 rfl (by decide) rfl ?_
  refine r_iinc (pc := 173) (v := (v4 + (nI 1))) X 4 [(4, .int (v4 + (nI 1))), (3, .int s0), (0, .ref (ad 100)), (1, .int v1), (2, .int v2)] dX7_calls_173 rfl rfl (by decide) rfl ?_
  refine r_goto (pc := 176) (tgt := 25) X dX7_calls_176 (by decide) ?_
  refine r_sub [2, 3, 4, 1, 0] rfl ?_
  exact hL25 _ _ _ _ _ h
def wp_X7_calls_120 (K : Int32 → HF → Prop) (L25 : HF → Int32 → Int32 → Int32 → Int32 → Prop) (L42 : HF → Int32 → Int32 → Int32 → Int32 → Int32 → Int32 → Prop) (F : HF) (v1 : Int32) (v2 : Int32) (v3 : Int32) (v4 : Int32) (v6 : Int32) (s0 : Int32) : Prop := L42 F v1 v2 v3 v4 s0 (v6 + (nI 1))
set_option maxRecDepth 100000 in
set_option maxHeartbeats 4000000 in
theorem k_X7_calls_120 {p : Program} {l : Launch} {e : Env} {s : State} {m : MethodId} {args : Array Value} {below : List Frame} {meth : Method} {c : Code} {D : va_G} {dA : Nat → ClassId} {ad : Nat → Nat} {R : List Nat} {A : Nat → Prop} {K : Int32 → HF → Prop} {L25 : HF → Int32 → Int32 → Int32 → Int32 → Prop} {L42 : HF → Int32 → Int32 → Int32 → Int32 → Int32 → Int32 → Prop} (X : Cx p s m args meth c cX7_calls 8 RX7 D dA) (hA : ∀ q, s.heap.size ≤ q → A q) (hr : meth.sig.returnType = some .int) (hT : Md R) (hL25 : ∀ (F : HF) (v1 : Int32) (v2 : Int32) (v3 : Int32) (v4 : Int32), L25 F v1 v2 v3 v4 → J p l e rm_X7_calls s m args below meth c 8 D dA ad R A (QI D dA ad R A below args s K) F 25 [(0, .ref (ad 100)), (1, .int v1), (2, .int v2), (3, .int v3), (4, .int v4)] []) (hL42 : ∀ (F : HF) (v1 : Int32) (v2 : Int32) (v3 : Int32) (v4 : Int32) (v5 : Int32) (v6 : Int32), L42 F v1 v2 v3 v4 v5 v6 → J p l e rm_X7_calls s m args below meth c 8 D dA ad R A (QI D dA ad R A below args s K) F 42 [(0, .ref (ad 100)), (1, .int v1), (2, .int v2), (3, .int v3), (4, .int v4), (5, .int v5), (6, .int v6)] []) : ∀ (F : HF) (v1 : Int32) (v2 : Int32) (v3 : Int32) (v4 : Int32) (v6 : Int32) (s0 : Int32), wp_X7_calls_120 K L25 L42  F v1 v2 v3 v4 v6 s0 → J p l e rm_X7_calls s m args below meth c 8 D dA ad R A (QI D dA ad R A below args s K) F 120 [(0, .ref (ad 100)), (1, .int v1), (2, .int v2), (3, .int v3), (4, .int v4), (6, .int v6)] [.int s0] := by
  intro F v1 v2 v3 v4 v6 s0 h
  unfold wp_X7_calls_120 at h
  refine r_istore (pc := 120) X [(5, .int s0), (0, .ref (ad 100)), (1, .int v1), (2, .int v2), (3, .int v3), (4, .int v4), (6, .int v6)] dX7_calls_120 (by decide) rfl ?_
  refine r_iinc (pc := 122) (v := (v6 + (nI 1))) X 6 [(6, .int (v6 + (nI 1))), (5, .int s0), (0, .ref (ad 100)), (1, .int v1), (2, .int v2), (3, .int v3), (4, .int v4)] dX7_calls_122 rfl rfl (by decide) rfl ?_
  refine r_goto (pc := 125) (tgt := 42) X dX7_calls_125 (by decide) ?_
  refine r_sub [2, 3, 4, 5, 6, 1, 0] rfl ?_
  exact hL42 _ _ _ _ _ _ _ h
def wp_X7_calls_118 (K : Int32 → HF → Prop) (L25 : HF → Int32 → Int32 → Int32 → Int32 → Prop) (L42 : HF → Int32 → Int32 → Int32 → Int32 → Int32 → Int32 → Prop) (F : HF) (v1 : Int32) (v2 : Int32) (v3 : Int32) (v4 : Int32) (v5 : Int32) (v6 : Int32) : Prop := wp_X7_calls_120 K L25 L42  F v1 v2 v3 v4 v6 v5
set_option maxRecDepth 100000 in
set_option maxHeartbeats 4000000 in
theorem k_X7_calls_118 {p : Program} {l : Launch} {e : Env} {s : State} {m : MethodId} {args : Array Value} {below : List Frame} {meth : Method} {c : Code} {D : va_G} {dA : Nat → ClassId} {ad : Nat → Nat} {R : List Nat} {A : Nat → Prop} {K : Int32 → HF → Prop} {L25 : HF → Int32 → Int32 → Int32 → Int32 → Prop} {L42 : HF → Int32 → Int32 → Int32 → Int32 → Int32 → Int32 → Prop} (X : Cx p s m args meth c cX7_calls 8 RX7 D dA) (hA : ∀ q, s.heap.size ≤ q → A q) (hr : meth.sig.returnType = some .int) (hT : Md R) (hL25 : ∀ (F : HF) (v1 : Int32) (v2 : Int32) (v3 : Int32) (v4 : Int32), L25 F v1 v2 v3 v4 → J p l e rm_X7_calls s m args below meth c 8 D dA ad R A (QI D dA ad R A below args s K) F 25 [(0, .ref (ad 100)), (1, .int v1), (2, .int v2), (3, .int v3), (4, .int v4)] []) (hL42 : ∀ (F : HF) (v1 : Int32) (v2 : Int32) (v3 : Int32) (v4 : Int32) (v5 : Int32) (v6 : Int32), L42 F v1 v2 v3 v4 v5 v6 → J p l e rm_X7_calls s m args below meth c 8 D dA ad R A (QI D dA ad R A below args s K) F 42 [(0, .ref (ad 100)), (1, .int v1), (2, .int v2), (3, .int v3), (4, .int v4), (5, .int v5), (6, .int v6)] []) : ∀ (F : HF) (v1 : Int32) (v2 : Int32) (v3 : Int32) (v4 : Int32) (v5 : Int32) (v6 : Int32), wp_X7_calls_118 K L25 L42  F v1 v2 v3 v4 v5 v6 → J p l e rm_X7_calls s m args below meth c 8 D dA ad R A (QI D dA ad R A below args s K) F 118 [(0, .ref (ad 100)), (1, .int v1), (2, .int v2), (3, .int v3), (4, .int v4), (5, .int v5), (6, .int v6)] [] := by
  intro F v1 v2 v3 v4 v5 v6 h
  unfold wp_X7_calls_118 at h
  refine r_iload (pc := 118) X 5 dX7_calls_118 rfl ?_
  refine r_sub [0, 1, 2, 3, 4, 6] rfl ?_
  exact k_X7_calls_120 X hA hr hT hL25 hL42 _ _ _ _ _ _ _ h
def wp_X7_calls_113 (K : Int32 → HF → Prop) (L25 : HF → Int32 → Int32 → Int32 → Int32 → Prop) (L42 : HF → Int32 → Int32 → Int32 → Int32 → Int32 → Int32 → Prop) (F : HF) (v1 : Int32) (v2 : Int32) (v3 : Int32) (v4 : Int32) (v6 : Int32) : Prop := wp_X7_calls_120 K L25 L42  F v1 v2 v3 v4 v6 v6
set_option maxRecDepth 100000 in
set_option maxHeartbeats 4000000 in
theorem k_X7_calls_113 {p : Program} {l : Launch} {e : Env} {s : State} {m : MethodId} {args : Array Value} {below : List Frame} {meth : Method} {c : Code} {D : va_G} {dA : Nat → ClassId} {ad : Nat → Nat} {R : List Nat} {A : Nat → Prop} {K : Int32 → HF → Prop} {L25 : HF → Int32 → Int32 → Int32 → Int32 → Prop} {L42 : HF → Int32 → Int32 → Int32 → Int32 → Int32 → Int32 → Prop} (X : Cx p s m args meth c cX7_calls 8 RX7 D dA) (hA : ∀ q, s.heap.size ≤ q → A q) (hr : meth.sig.returnType = some .int) (hT : Md R) (hL25 : ∀ (F : HF) (v1 : Int32) (v2 : Int32) (v3 : Int32) (v4 : Int32), L25 F v1 v2 v3 v4 → J p l e rm_X7_calls s m args below meth c 8 D dA ad R A (QI D dA ad R A below args s K) F 25 [(0, .ref (ad 100)), (1, .int v1), (2, .int v2), (3, .int v3), (4, .int v4)] []) (hL42 : ∀ (F : HF) (v1 : Int32) (v2 : Int32) (v3 : Int32) (v4 : Int32) (v5 : Int32) (v6 : Int32), L42 F v1 v2 v3 v4 v5 v6 → J p l e rm_X7_calls s m args below meth c 8 D dA ad R A (QI D dA ad R A below args s K) F 42 [(0, .ref (ad 100)), (1, .int v1), (2, .int v2), (3, .int v3), (4, .int v4), (5, .int v5), (6, .int v6)] []) : ∀ (F : HF) (v1 : Int32) (v2 : Int32) (v3 : Int32) (v4 : Int32) (v6 : Int32), wp_X7_calls_113 K L25 L42  F v1 v2 v3 v4 v6 → J p l e rm_X7_calls s m args below meth c 8 D dA ad R A (QI D dA ad R A below args s K) F 113 [(0, .ref (ad 100)), (1, .int v1), (2, .int v2), (3, .int v3), (4, .int v4), (6, .int v6)] [] := by
  intro F v1 v2 v3 v4 v6 h
  unfold wp_X7_calls_113 at h
  refine r_iload (pc := 113) X 5 dX7_calls_113 rfl ?_
  refine r_goto (pc := 115) (tgt := 120) X dX7_calls_115 (by decide) ?_
  exact k_X7_calls_120 X hA hr hT hL25 hL42 _ _ _ _ _ _ _ h
def wp_X7_calls_76 (K : Int32 → HF → Prop) (L25 : HF → Int32 → Int32 → Int32 → Int32 → Prop) (L42 : HF → Int32 → Int32 → Int32 → Int32 → Int32 → Int32 → Prop) (F : HF) (v1 : Int32) (v2 : Int32) (v3 : Int32) (v4 : Int32) (v5 : Int32) (v6 : Int32) (s0 : Int32) : Prop := ((s0 = (nI 0)) → (wp_X7_calls_118 K L25 L42  F v1 v2 v3 v4 v5 v6)) ∧ ((¬ s0 = (nI 0)) → (((v5 < (nI 0)) → (wp_X7_calls_113 K L25 L42  F v1 v2 v3 v4 v6)) ∧ ((¬ v5 < (nI 0)) → ((vp_in (((nI 4) * v6) + (nI 3)) 32) ∧ ((vp_in (((nI 4) * v5) + (nI 3)) 32) ∧ ((((F 114 (((nI 4) * v6) + (nI 3)).toNatClampNeg) ≤ (F 114 (((nI 4) * v5) + (nI 3)).toNatClampNeg)) → (wp_X7_calls_118 K L25 L42  F v1 v2 v3 v4 v5 v6)) ∧ ((¬ (F 114 (((nI 4) * v6) + (nI 3)).toNatClampNeg) ≤ (F 114 (((nI 4) * v5) + (nI 3)).toNatClampNeg)) → (wp_X7_calls_113 K L25 L42  F v1 v2 v3 v4 v6))))))))
set_option maxRecDepth 100000 in
set_option maxHeartbeats 4000000 in
theorem k_X7_calls_76 {p : Program} {l : Launch} {e : Env} {s : State} {m : MethodId} {args : Array Value} {below : List Frame} {meth : Method} {c : Code} {D : va_G} {dA : Nat → ClassId} {ad : Nat → Nat} {R : List Nat} {A : Nat → Prop} {K : Int32 → HF → Prop} {L25 : HF → Int32 → Int32 → Int32 → Int32 → Prop} {L42 : HF → Int32 → Int32 → Int32 → Int32 → Int32 → Int32 → Prop} (X : Cx p s m args meth c cX7_calls 8 RX7 D dA) (hA : ∀ q, s.heap.size ≤ q → A q) (hr : meth.sig.returnType = some .int) (hT : Md R) (hL25 : ∀ (F : HF) (v1 : Int32) (v2 : Int32) (v3 : Int32) (v4 : Int32), L25 F v1 v2 v3 v4 → J p l e rm_X7_calls s m args below meth c 8 D dA ad R A (QI D dA ad R A below args s K) F 25 [(0, .ref (ad 100)), (1, .int v1), (2, .int v2), (3, .int v3), (4, .int v4)] []) (hL42 : ∀ (F : HF) (v1 : Int32) (v2 : Int32) (v3 : Int32) (v4 : Int32) (v5 : Int32) (v6 : Int32), L42 F v1 v2 v3 v4 v5 v6 → J p l e rm_X7_calls s m args below meth c 8 D dA ad R A (QI D dA ad R A below args s K) F 42 [(0, .ref (ad 100)), (1, .int v1), (2, .int v2), (3, .int v3), (4, .int v4), (5, .int v5), (6, .int v6)] []) : ∀ (F : HF) (v1 : Int32) (v2 : Int32) (v3 : Int32) (v4 : Int32) (v5 : Int32) (v6 : Int32) (s0 : Int32), wp_X7_calls_76 K L25 L42  F v1 v2 v3 v4 v5 v6 s0 → J p l e rm_X7_calls s m args below meth c 8 D dA ad R A (QI D dA ad R A below args s K) F 76 [(0, .ref (ad 100)), (1, .int v1), (2, .int v2), (3, .int v3), (4, .int v4), (5, .int v5), (6, .int v6)] [.int s0] := by
  intro F v1 v2 v3 v4 v5 v6 s0 h
  unfold wp_X7_calls_76 at h
  refine r_istore (pc := 76) X [(7, .int s0), (0, .ref (ad 100)), (1, .int v1), (2, .int v2), (3, .int v3), (4, .int v4), (5, .int v5), (6, .int v6)] dX7_calls_76 (by decide) rfl ?_
  refine r_iload (pc := 78) X 0 dX7_calls_78 rfl ?_
  refine r_if_eq (pc := 80) (tgt := 118) X dX7_calls_80 (by decide) (fun hc => ?_) (fun hc => ?_)
  · replace h := h.1 hc
    refine r_sub [1, 2, 3, 4, 5, 6, 7] rfl ?_
    exact k_X7_calls_118 X hA hr hT hL25 hL42 _ _ _ _ _ _ _ h
  · replace h := h.2 hc
    refine r_iload (pc := 83) X 6 dX7_calls_83 rfl ?_
    refine r_if_lt (pc := 85) (tgt := 113) X dX7_calls_85 (by decide) (fun hc => ?_) (fun hc => ?_)
    · replace h := h.1 hc
      refine r_sub [1, 2, 3, 4, 5, 7] rfl ?_
      exact k_X7_calls_113 X hA hr hT hL25 hL42 _ _ _ _ _ _ h
    · replace h := h.2 hc
      refine r_aload_n (pc := 88) X 1 dX7_calls_88 rfl rfl ?_
      refine fg_X7_26 (pc := 89) X hT.1 dX7_calls_89 ?_
      refine r_iconst (pc := 92) (v := (nI 4)) X dX7_calls_92 (by decide) ?_
      refine r_iload (pc := 93) X 7 dX7_calls_93 rfl ?_
      refine r_imul (pc := 95) X dX7_calls_95 ?_
      refine r_iconst (pc := 96) (v := (nI 3)) X dX7_calls_96 (by decide) ?_
      refine r_iadd (pc := 97) X dX7_calls_97 ?_
      refine r_iald (pc := 98) X hT.2.2.2.2.2.1 h.1 dX7_calls_98 ?_
      replace h := h.2
      refine r_aload_n (pc := 99) X 1 dX7_calls_99 rfl rfl ?_
      refine fg_X7_26 (pc := 100) X hT.1 dX7_calls_100 ?_
      refine r_iconst (pc := 103) (v := (nI 4)) X dX7_calls_103 (by decide) ?_
      refine r_iload (pc := 104) X 6 dX7_calls_104 rfl ?_
      refine r_imul (pc := 106) X dX7_calls_106 ?_
      refine r_iconst (pc := 107) (v := (nI 3)) X dX7_calls_107 (by decide) ?_
      refine r_iadd (pc := 108) X dX7_calls_108 ?_
      refine r_iald (pc := 109) X hT.2.2.2.2.2.1 h.1 dX7_calls_109 ?_
      replace h := h.2
      refine r_icmp_le (pc := 110) (tgt := 118) X dX7_calls_110 (by decide) (fun hc => ?_) (fun hc => ?_)
      · replace h := h.1 hc
        refine r_sub [1, 2, 3, 4, 5, 6, 7] rfl ?_
        exact k_X7_calls_118 X hA hr hT hL25 hL42 _ _ _ _ _ _ _ h
      · replace h := h.2 hc
        refine r_sub [1, 2, 3, 4, 5, 7] rfl ?_
        exact k_X7_calls_113 X hA hr hT hL25 hL42 _ _ _ _ _ _ h
def wp_X7_calls_75 (K : Int32 → HF → Prop) (L25 : HF → Int32 → Int32 → Int32 → Int32 → Prop) (L42 : HF → Int32 → Int32 → Int32 → Int32 → Int32 → Int32 → Prop) (F : HF) (v1 : Int32) (v2 : Int32) (v3 : Int32) (v4 : Int32) (v5 : Int32) (v6 : Int32) : Prop := wp_X7_calls_76 K L25 L42  F v1 v2 v3 v4 v5 v6 (nI 0)
set_option maxRecDepth 100000 in
set_option maxHeartbeats 4000000 in
theorem k_X7_calls_75 {p : Program} {l : Launch} {e : Env} {s : State} {m : MethodId} {args : Array Value} {below : List Frame} {meth : Method} {c : Code} {D : va_G} {dA : Nat → ClassId} {ad : Nat → Nat} {R : List Nat} {A : Nat → Prop} {K : Int32 → HF → Prop} {L25 : HF → Int32 → Int32 → Int32 → Int32 → Prop} {L42 : HF → Int32 → Int32 → Int32 → Int32 → Int32 → Int32 → Prop} (X : Cx p s m args meth c cX7_calls 8 RX7 D dA) (hA : ∀ q, s.heap.size ≤ q → A q) (hr : meth.sig.returnType = some .int) (hT : Md R) (hL25 : ∀ (F : HF) (v1 : Int32) (v2 : Int32) (v3 : Int32) (v4 : Int32), L25 F v1 v2 v3 v4 → J p l e rm_X7_calls s m args below meth c 8 D dA ad R A (QI D dA ad R A below args s K) F 25 [(0, .ref (ad 100)), (1, .int v1), (2, .int v2), (3, .int v3), (4, .int v4)] []) (hL42 : ∀ (F : HF) (v1 : Int32) (v2 : Int32) (v3 : Int32) (v4 : Int32) (v5 : Int32) (v6 : Int32), L42 F v1 v2 v3 v4 v5 v6 → J p l e rm_X7_calls s m args below meth c 8 D dA ad R A (QI D dA ad R A below args s K) F 42 [(0, .ref (ad 100)), (1, .int v1), (2, .int v2), (3, .int v3), (4, .int v4), (5, .int v5), (6, .int v6)] []) : ∀ (F : HF) (v1 : Int32) (v2 : Int32) (v3 : Int32) (v4 : Int32) (v5 : Int32) (v6 : Int32), wp_X7_calls_75 K L25 L42  F v1 v2 v3 v4 v5 v6 → J p l e rm_X7_calls s m args below meth c 8 D dA ad R A (QI D dA ad R A below args s K) F 75 [(0, .ref (ad 100)), (1, .int v1), (2, .int v2), (3, .int v3), (4, .int v4), (5, .int v5), (6, .int v6)] [] := by
  intro F v1 v2 v3 v4 v5 v6 h
  unfold wp_X7_calls_75 at h
  refine r_iconst (pc := 75) (v := (nI 0)) X dX7_calls_75 (by decide) ?_
  exact k_X7_calls_76 X hA hr hT hL25 hL42 _ _ _ _ _ _ _ _ h
def wp_X7_calls_42 (K : Int32 → HF → Prop) (L25 : HF → Int32 → Int32 → Int32 → Int32 → Prop) : Nat → HF → Int32 → Int32 → Int32 → Int32 → Int32 → Int32 → Prop
  | 0 => fun _ _ _ _ _ _ _ => False
  | n42_ + 1 => fun F v1 v2 v3 v4 v5 v6 => (((F 100 13) ≤ v6) → (((¬ v4 = v1) → ((vp_in (((nI 4) * v5) + (nI 3)) 32) ∧ ((((v4 + (F 114 (((nI 4) * v5) + (nI 3)).toNatClampNeg)) ≤ v3) → (wp_X7_calls_172 K L25  F v1 (v2 ||| ((nI 1) <<< (v5 &&& 31))) v4 v3)) ∧ ((¬ (v4 + (F 114 (((nI 4) * v5) + (nI 3)).toNatClampNeg)) ≤ v3) → (wp_X7_calls_172 K L25  F v1 (v2 ||| ((nI 1) <<< (v5 &&& 31))) v4 (v4 + (F 114 (((nI 4) * v5) + (nI 3)).toNatClampNeg))))))) ∧ ((v4 = v1) → (K v5 F)))) ∧ ((¬ (F 100 13) ≤ v6) → (wp_X7_placeIn (fun x2 F302 => ((x2 = (-4 : Int32)) → (wp_X7_calls_75 K L25 (wp_X7_calls_42 K L25 n42_)  F302 v1 v2 v3 v4 v5 v6)) ∧ ((¬ x2 = (-4 : Int32)) → (wp_X7_has (fun x3 F803 => ((¬ x3 = (nI 0)) → (wp_X7_calls_75 K L25 (wp_X7_calls_42 K L25 n42_)  F803 v1 v2 v3 v4 v5 v6)) ∧ ((x3 = (nI 0)) → (wp_X7_calls_76 K L25 (wp_X7_calls_42 K L25 n42_)  F803 v1 v2 v3 v4 v5 v6 (nI 1)))) F302 v2 v6))) F v6))
set_option maxRecDepth 100000 in
set_option maxHeartbeats 4000000 in
theorem k_X7_calls_42 {p : Program} {l : Launch} {e : Env} {s : State} {m : MethodId} {args : Array Value} {below : List Frame} {meth : Method} {c : Code} {D : va_G} {dA : Nat → ClassId} {ad : Nat → Nat} {R : List Nat} {A : Nat → Prop} {K : Int32 → HF → Prop} {L25 : HF → Int32 → Int32 → Int32 → Int32 → Prop} (X : Cx p s m args meth c cX7_calls 8 RX7 D dA) (hA : ∀ q, s.heap.size ≤ q → A q) (hr : meth.sig.returnType = some .int) (hT : Md R) (hL25 : ∀ (F : HF) (v1 : Int32) (v2 : Int32) (v3 : Int32) (v4 : Int32), L25 F v1 v2 v3 v4 → J p l e rm_X7_calls s m args below meth c 8 D dA ad R A (QI D dA ad R A below args s K) F 25 [(0, .ref (ad 100)), (1, .int v1), (2, .int v2), (3, .int v3), (4, .int v4)] []) : ∀ (n_ : Nat) (F : HF) (v1 : Int32) (v2 : Int32) (v3 : Int32) (v4 : Int32) (v5 : Int32) (v6 : Int32), wp_X7_calls_42 K L25  n_ F v1 v2 v3 v4 v5 v6 → J p l e rm_X7_calls s m args below meth c 8 D dA ad R A (QI D dA ad R A below args s K) F 42 [(0, .ref (ad 100)), (1, .int v1), (2, .int v2), (3, .int v3), (4, .int v4), (5, .int v5), (6, .int v6)] [] := by
  intro n_
  induction n_ with
  | zero => intro F v1 v2 v3 v4 v5 v6 h; exact h.elim
  | succ n_ ih =>
    intro F v1 v2 v3 v4 v5 v6 h
    unfold wp_X7_calls_42 at h
    refine r_iload (pc := 42) X 6 dX7_calls_42 rfl ?_
    refine r_aload_n (pc := 44) X 0 dX7_calls_44 rfl rfl ?_
    refine fg_X7_22 (pc := 45) X hT.1 dX7_calls_45 ?_
    refine r_icmp_ge (pc := 48) (tgt := 128) X dX7_calls_48 (by decide) (fun hc => ?_) (fun hc => ?_)
    · replace h := h.1 hc
      refine r_iload_n (pc := 128) X 2 dX7_calls_128 rfl rfl ?_
      refine r_iconst (pc := 129) (v := (nI 1)) X dX7_calls_129 (by decide) ?_
      refine r_iload (pc := 130) X 5 dX7_calls_130 rfl ?_
      refine r_ishl (pc := 132) X dX7_calls_132 ?_
      refine r_ior (pc := 133) X dX7_calls_133 ?_
      refine r_istore_n (pc := 134) X [(2, .int (v2 ||| ((nI 1) <<< (v5 &&& 31)))), (0, .ref (ad 100)), (1, .int v1), (3, .int v3), (4, .int v4), (5, .int v5), (6, .int v6)] dX7_calls_134 rfl (by decide) rfl ?_
      refine r_iload (pc := 135) X 4 dX7_calls_135 rfl ?_
      refine r_iload_n (pc := 137) X 2 dX7_calls_137 rfl rfl ?_
      refine r_icmp_ne (pc := 138) (tgt := 144) X dX7_calls_138 (by decide) (fun hc => ?_) (fun hc => ?_)
      · replace h := h.1 hc
        refine r_iload (pc := 144) X 4 dX7_calls_144 rfl ?_
        refine r_aload_n (pc := 146) X 1 dX7_calls_146 rfl rfl ?_
        refine fg_X7_26 (pc := 147) X hT.1 dX7_calls_147 ?_
        refine r_iconst (pc := 150) (v := (nI 4)) X dX7_calls_150 (by decide) ?_
        refine r_iload (pc := 151) X 5 dX7_calls_151 rfl ?_
        refine r_imul (pc := 153) X dX7_calls_153 ?_
        refine r_iconst (pc := 154) (v := (nI 3)) X dX7_calls_154 (by decide) ?_
        refine r_iadd (pc := 155) X dX7_calls_155 ?_
        refine r_iald (pc := 156) X hT.2.2.2.2.2.1 h.1 dX7_calls_156 ?_
        replace h := h.2
        refine r_iadd (pc := 157) X dX7_calls_157 ?_
        refine r_istore (pc := 158) X [(6, .int (v4 + (F 114 (((nI 4) * v5) + (nI 3)).toNatClampNeg))), (2, .int (v2 ||| ((nI 1) <<< (v5 &&& 31)))), (0, .ref (ad 100)), (1, .int v1), (3, .int v3), (4, .int v4), (5, .int v5)] dX7_calls_158 (by decide) rfl ?_
        refine r_iload (pc := 160) X 0 dX7_calls_160 rfl ?_
        refine r_iload_n (pc := 162) X 4 dX7_calls_162 rfl rfl ?_
        refine r_icmp_le (pc := 163) (tgt := 171) X dX7_calls_163 (by decide) (fun hc => ?_) (fun hc => ?_)
        · replace h := h.1 hc
          refine r_iload_n (pc := 171) X 4 dX7_calls_171 rfl rfl ?_
          refine r_sub [2, 3, 1, 5] rfl ?_
          exact k_X7_calls_172 X hA hr hT hL25 _ _ _ _ _ h
        · replace h := h.2 hc
          refine r_iload (pc := 166) X 0 dX7_calls_166 rfl ?_
          refine r_goto (pc := 168) (tgt := 172) X dX7_calls_168 (by decide) ?_
          refine r_sub [2, 3, 1, 5] rfl ?_
          exact k_X7_calls_172 X hA hr hT hL25 _ _ _ _ _ h
      · replace h := h.2 hc
        refine r_iload (pc := 141) X 5 dX7_calls_141 rfl ?_
        exact r_iret (pc := 143) X hr dX7_calls_143 h
    · replace h := h.2 hc
      refine r_aload_n (pc := 51) X 0 dX7_calls_51 rfl rfl ?_
      refine r_iload (pc := 52) X 6 dX7_calls_52 rfl ?_
      refine r_callIV (pc := 54) (As := [.int v6]) (st := []) X hA (c_X7_placeIn hT h) g_X7_136 cl_X7 hT.1 hd_X7_placeIn rfl rfl rfl ⟨Nat.le_of_ble_eq_true rfl, Nat.le_of_ble_eq_true rfl⟩ rfl (Nat.le_of_ble_eq_true rfl) dX7_calls_54 (fun x2 F302 h => ?_)
      refine r_bipush (pc := 57) (v := (-4 : Int32)) X dX7_calls_57 (by decide) ?_
      refine r_icmp_eq (pc := 59) (tgt := 75) X dX7_calls_59 (by decide) (fun hc => ?_) (fun hc => ?_)
      · replace h := h.1 hc
        exact k_X7_calls_75 X hA hr hT hL25 ih _ _ _ _ _ _ _ h
      · replace h := h.2 hc
        refine r_iload_n (pc := 62) X 2 dX7_calls_62 rfl rfl ?_
        refine r_iload (pc := 63) X 6 dX7_calls_63 rfl ?_
        refine r_callIS (pc := 65) (As := [.int v2, .int v6]) (st := []) X hA (c_X7_has  h) g_X7_219 hd_X7_has rfl rfl rfl ⟨Nat.le_of_ble_eq_true rfl, Nat.le_of_ble_eq_true rfl⟩ rfl (Nat.le_of_ble_eq_true rfl) dX7_calls_65 (fun x3 F803 h => ?_)
        refine r_if_ne (pc := 68) (tgt := 75) X dX7_calls_68 (by decide) (fun hc => ?_) (fun hc => ?_)
        · replace h := h.1 hc
          exact k_X7_calls_75 X hA hr hT hL25 ih _ _ _ _ _ _ _ h
        · replace h := h.2 hc
          refine r_iconst (pc := 71) (v := (nI 1)) X dX7_calls_71 (by decide) ?_
          refine r_goto (pc := 72) (tgt := 76) X dX7_calls_72 (by decide) ?_
          exact k_X7_calls_76 X hA hr hT hL25 ih _ _ _ _ _ _ _ _ h
def wp_X7_calls_25 (K : Int32 → HF → Prop) : Nat → HF → Int32 → Int32 → Int32 → Int32 → Prop
  | 0 => fun _ _ _ _ _ => False
  | n25_ + 1 => fun F v1 v2 v3 v4 => (vp_in (nI 0) 21) ∧ ((((F 120 (nI 0).toNatClampNeg) ≤ v4) → (K v3 F)) ∧ ((¬ (F 120 (nI 0).toNatClampNeg) ≤ v4) → (∃ m_, wp_X7_calls_42 K (wp_X7_calls_25 K n25_)  m_ F v1 v2 v3 v4 (-1 : Int32) (nI 0))))
set_option maxRecDepth 100000 in
set_option maxHeartbeats 4000000 in
theorem k_X7_calls_25 {p : Program} {l : Launch} {e : Env} {s : State} {m : MethodId} {args : Array Value} {below : List Frame} {meth : Method} {c : Code} {D : va_G} {dA : Nat → ClassId} {ad : Nat → Nat} {R : List Nat} {A : Nat → Prop} {K : Int32 → HF → Prop} (X : Cx p s m args meth c cX7_calls 8 RX7 D dA) (hA : ∀ q, s.heap.size ≤ q → A q) (hr : meth.sig.returnType = some .int) (hT : Md R) : ∀ (n_ : Nat) (F : HF) (v1 : Int32) (v2 : Int32) (v3 : Int32) (v4 : Int32), wp_X7_calls_25 K  n_ F v1 v2 v3 v4 → J p l e rm_X7_calls s m args below meth c 8 D dA ad R A (QI D dA ad R A below args s K) F 25 [(0, .ref (ad 100)), (1, .int v1), (2, .int v2), (3, .int v3), (4, .int v4)] [] := by
  intro n_
  induction n_ with
  | zero => intro F v1 v2 v3 v4 h; exact h.elim
  | succ n_ ih =>
    intro F v1 v2 v3 v4 h
    unfold wp_X7_calls_25 at h
    refine r_iload (pc := 25) X 4 dX7_calls_25 rfl ?_
    refine r_aload_n (pc := 27) X 0 dX7_calls_27 rfl rfl ?_
    refine fg_X7_44 (pc := 28) X hT.1 dX7_calls_28 ?_
    refine r_iconst (pc := 31) (v := (nI 0)) X dX7_calls_31 (by decide) ?_
    refine r_iald (pc := 32) X hT.2.2.2.2.2.2.2.1 h.1 dX7_calls_32 ?_
    replace h := h.2
    refine r_icmp_ge (pc := 33) (tgt := 179) X dX7_calls_33 (by decide) (fun hc => ?_) (fun hc => ?_)
    · replace h := h.1 hc
      refine r_iload_n (pc := 179) X 3 dX7_calls_179 rfl rfl ?_
      exact r_iret (pc := 180) X hr dX7_calls_180 h
    · replace h := h.2 hc
      refine r_iconst (pc := 36) (v := (-1 : Int32)) X dX7_calls_36 (by decide) ?_
      refine r_istore (pc := 37) X [(5, .int (-1 : Int32)), (0, .ref (ad 100)), (1, .int v1), (2, .int v2), (3, .int v3), (4, .int v4)] dX7_calls_37 (by decide) rfl ?_
      refine r_iconst (pc := 39) (v := (nI 0)) X dX7_calls_39 (by decide) ?_
      refine r_istore (pc := 40) X [(6, .int (nI 0)), (5, .int (-1 : Int32)), (0, .ref (ad 100)), (1, .int v1), (2, .int v2), (3, .int v3), (4, .int v4)] dX7_calls_40 (by decide) rfl ?_
      refine r_sub [2, 3, 4, 5, 6, 1, 0] rfl ?_
      obtain ⟨n1, h⟩ := h
      exact k_X7_calls_42 X hA hr hT ih n1 _ _ _ _ _ _ _ h
def wp_X7_calls (K : Int32 → HF → Prop) (F : HF) (a1 : Int32) : Prop := (vp_in (nI 0) 21) ∧ (wp_X7_in (fun x1 F1 => ((¬ x1 = (nI 0)) → (∃ m_, wp_X7_calls_25 K  m_ F1 a1 (nI 0) (nI 0) (nI 0))) ∧ ((x1 = (nI 0)) → (K (-1 : Int32) F1))) F a1 (-1 : Int32) ((F 120 (nI 0).toNatClampNeg) - (nI 1)))
set_option maxRecDepth 100000 in
set_option maxHeartbeats 4000000 in
theorem c_X7_calls {l : Launch} {D : va_G} {dA : Nat → ClassId} {ad : Nat → Nat} {R : List Nat} {F : HF} {a1 : Int32} {K : Int32 → HF → Prop} (hT : Md R) (h : wp_X7_calls K F a1) : MI l yX7_calls cX7_calls 8 .int rm_X7_calls D dA ad R F [.ref (ad 100), .int a1] K := by
  refine MI.of (own := RX7) (by decide) rfl (Nat.le_of_ble_eq_true rfl) ?_
  intro p e s m args below meth c A hA X hr
  unfold wp_X7_calls at h
  show J p l e rm_X7_calls s m args below meth c 8 D dA ad R A (QI D dA ad R A below args s K) F 0 [(0, .ref (ad 100)), (1, .int a1)] []
  refine r_iload_n (pc := 0) X 1 dX7_calls_0 rfl rfl ?_
  refine r_iconst (pc := 1) (v := (-1 : Int32)) X dX7_calls_1 (by decide) ?_
  refine r_aload_n (pc := 2) X 0 dX7_calls_2 rfl rfl ?_
  refine fg_X7_44 (pc := 3) X hT.1 dX7_calls_3 ?_
  refine r_iconst (pc := 6) (v := (nI 0)) X dX7_calls_6 (by decide) ?_
  refine r_iald (pc := 7) X hT.2.2.2.2.2.2.2.1 h.1 dX7_calls_7 ?_
  replace h := h.2
  refine r_iconst (pc := 8) (v := (nI 1)) X dX7_calls_8 (by decide) ?_
  refine r_isub (pc := 9) X dX7_calls_9 ?_
  refine r_callIS (pc := 10) (As := [.int a1, .int (-1 : Int32), .int ((F 120 (nI 0).toNatClampNeg) - (nI 1))]) (st := []) X hA (c_X7_in  h) g_X7_87 hd_X7_in rfl rfl rfl ⟨Nat.le_of_ble_eq_true rfl, Nat.le_of_ble_eq_true rfl⟩ rfl (Nat.le_of_ble_eq_true rfl) dX7_calls_10 (fun x1 F1 h => ?_)
  refine r_if_ne (pc := 13) (tgt := 18) X dX7_calls_13 (by decide) (fun hc => ?_) (fun hc => ?_)
  · replace h := h.1 hc
    refine r_iconst (pc := 18) (v := (nI 0)) X dX7_calls_18 (by decide) ?_
    refine r_istore_n (pc := 19) X [(2, .int (nI 0)), (0, .ref (ad 100)), (1, .int a1)] dX7_calls_19 rfl (by decide) rfl ?_
    refine r_iconst (pc := 20) (v := (nI 0)) X dX7_calls_20 (by decide) ?_
    refine r_istore_n (pc := 21) X [(3, .int (nI 0)), (2, .int (nI 0)), (0, .ref (ad 100)), (1, .int a1)] dX7_calls_21 rfl (by decide) rfl ?_
    refine r_iconst (pc := 22) (v := (nI 0)) X dX7_calls_22 (by decide) ?_
    refine r_istore (pc := 23) X [(4, .int (nI 0)), (3, .int (nI 0)), (2, .int (nI 0)), (0, .ref (ad 100)), (1, .int a1)] dX7_calls_23 (by decide) rfl ?_
    refine r_sub [3, 4, 2, 1, 0] rfl ?_
    obtain ⟨n1, h⟩ := h
    exact k_X7_calls_25 X hA hr hT  n1 _ _ _ _ _ h
  · replace h := h.2 hc
    refine r_iconst (pc := 16) (v := (-1 : Int32)) X dX7_calls_16 (by decide) ?_
    exact r_iret (pc := 17) X hr dX7_calls_17 h
theorem dX7_bothGo_0 : decode cX7_bothGo 0 = .ok (.aload_n 0, 1) := by decide +kernel
theorem dX7_bothGo_1 : decode cX7_bothGo 1 = .ok (.getfield 44, 3) := by decide +kernel
theorem dX7_bothGo_4 : decode cX7_bothGo 4 = .ok (.iconst 0, 1) := by decide +kernel
theorem dX7_bothGo_5 : decode cX7_bothGo 5 = .ok (.aload_n 0, 1) := by decide +kernel
theorem dX7_bothGo_6 : decode cX7_bothGo 6 = .ok (.getfield 47, 3) := by decide +kernel
theorem dX7_bothGo_9 : decode cX7_bothGo 9 = .ok (.iconst 0, 1) := by decide +kernel
theorem dX7_bothGo_10 : decode cX7_bothGo 10 = .ok (.invokestatic 185, 3) := by decide +kernel
theorem dX7_bothGo_13 : decode cX7_bothGo 13 = .ok (.aload_n 0, 1) := by decide +kernel
theorem dX7_bothGo_14 : decode cX7_bothGo 14 = .ok (.aload_n 0, 1) := by decide +kernel
theorem dX7_bothGo_15 : decode cX7_bothGo 15 = .ok (.getfield 47, 3) := by decide +kernel
theorem dX7_bothGo_18 : decode cX7_bothGo 18 = .ok (.invokevirtual 207, 3) := by decide +kernel
theorem dX7_bothGo_21 : decode cX7_bothGo 21 = .ok (.iload_n 2, 1) := by decide +kernel
theorem dX7_bothGo_22 : decode cX7_bothGo 22 = .ok (.ifCond .le 12, 3) := by decide +kernel
theorem dX7_bothGo_25 : decode cX7_bothGo 25 = .ok (.aload_n 0, 1) := by decide +kernel
theorem dX7_bothGo_26 : decode cX7_bothGo 26 = .ok (.getfield 35, 3) := by decide +kernel
theorem dX7_bothGo_29 : decode cX7_bothGo 29 = .ok (.iload_n 2, 1) := by decide +kernel
theorem dX7_bothGo_30 : decode cX7_bothGo 30 = .ok (.iadd, 1) := by decide +kernel
theorem dX7_bothGo_31 : decode cX7_bothGo 31 = .ok (.goto 7, 3) := by decide +kernel
theorem dX7_bothGo_34 : decode cX7_bothGo 34 = .ok (.aload_n 0, 1) := by decide +kernel
theorem dX7_bothGo_35 : decode cX7_bothGo 35 = .ok (.getfield 35, 3) := by decide +kernel
theorem dX7_bothGo_38 : decode cX7_bothGo 38 = .ok (.istore_n 3, 1) := by decide +kernel
theorem dX7_bothGo_39 : decode cX7_bothGo 39 = .ok (.iconst 0, 1) := by decide +kernel
theorem dX7_bothGo_40 : decode cX7_bothGo 40 = .ok (.istore 4, 2) := by decide +kernel
theorem dX7_bothGo_42 : decode cX7_bothGo 42 = .ok (.iload 4, 2) := by decide +kernel
theorem dX7_bothGo_44 : decode cX7_bothGo 44 = .ok (.iload_n 3, 1) := by decide +kernel
theorem dX7_bothGo_45 : decode cX7_bothGo 45 = .ok (.if_icmp .ge 125, 3) := by decide +kernel
theorem dX7_bothGo_48 : decode cX7_bothGo 48 = .ok (.aload_n 0, 1) := by decide +kernel
theorem dX7_bothGo_49 : decode cX7_bothGo 49 = .ok (.getfield 35, 3) := by decide +kernel
theorem dX7_bothGo_52 : decode cX7_bothGo 52 = .ok (.iconst 1, 1) := by decide +kernel
theorem dX7_bothGo_53 : decode cX7_bothGo 53 = .ok (.isub, 1) := by decide +kernel
theorem dX7_bothGo_54 : decode cX7_bothGo 54 = .ok (.iload 4, 2) := by decide +kernel
theorem dX7_bothGo_56 : decode cX7_bothGo 56 = .ok (.iload_n 2, 1) := by decide +kernel
theorem dX7_bothGo_57 : decode cX7_bothGo 57 = .ok (.isub, 1) := by decide +kernel
theorem dX7_bothGo_58 : decode cX7_bothGo 58 = .ok (.isub, 1) := by decide +kernel
theorem dX7_bothGo_59 : decode cX7_bothGo 59 = .ok (.istore 5, 2) := by decide +kernel
theorem dX7_bothGo_61 : decode cX7_bothGo 61 = .ok (.iload 4, 2) := by decide +kernel
theorem dX7_bothGo_63 : decode cX7_bothGo 63 = .ok (.aload_n 0, 1) := by decide +kernel
theorem dX7_bothGo_64 : decode cX7_bothGo 64 = .ok (.getfield 35, 3) := by decide +kernel
theorem dX7_bothGo_67 : decode cX7_bothGo 67 = .ok (.if_icmp .ge 7, 3) := by decide +kernel
theorem dX7_bothGo_70 : decode cX7_bothGo 70 = .ok (.iconst 1, 1) := by decide +kernel
theorem dX7_bothGo_71 : decode cX7_bothGo 71 = .ok (.goto 4, 3) := by decide +kernel
theorem dX7_bothGo_74 : decode cX7_bothGo 74 = .ok (.iconst 0, 1) := by decide +kernel
theorem dX7_bothGo_75 : decode cX7_bothGo 75 = .ok (.istore 6, 2) := by decide +kernel
theorem dX7_bothGo_77 : decode cX7_bothGo 77 = .ok (.aload_n 0, 1) := by decide +kernel
theorem dX7_bothGo_78 : decode cX7_bothGo 78 = .ok (.invokevirtual 167, 3) := by decide +kernel
theorem dX7_bothGo_81 : decode cX7_bothGo 81 = .ok (.iload 6, 2) := by decide +kernel
theorem dX7_bothGo_83 : decode cX7_bothGo 83 = .ok (.ifCond .eq 30, 3) := by decide +kernel
theorem dX7_bothGo_86 : decode cX7_bothGo 86 = .ok (.aload_n 0, 1) := by decide +kernel
theorem dX7_bothGo_87 : decode cX7_bothGo 87 = .ok (.aload_n 0, 1) := by decide +kernel
theorem dX7_bothGo_88 : decode cX7_bothGo 88 = .ok (.getfield 47, 3) := by decide +kernel
theorem dX7_bothGo_91 : decode cX7_bothGo 91 = .ok (.iload 4, 2) := by decide +kernel
theorem dX7_bothGo_93 : decode cX7_bothGo 93 = .ok (.aload_n 0, 1) := by decide +kernel
theorem dX7_bothGo_94 : decode cX7_bothGo 94 = .ok (.aload_n 0, 1) := by decide +kernel
theorem dX7_bothGo_95 : decode cX7_bothGo 95 = .ok (.getfield 47, 3) := by decide +kernel
theorem dX7_bothGo_98 : decode cX7_bothGo 98 = .ok (.iconst 2, 1) := by decide +kernel
theorem dX7_bothGo_99 : decode cX7_bothGo 99 = .ok (.iaload, 1) := by decide +kernel
theorem dX7_bothGo_100 : decode cX7_bothGo 100 = .ok (.invokevirtual 174, 3) := by decide +kernel
theorem dX7_bothGo_103 : decode cX7_bothGo 103 = .ok (.aload_n 0, 1) := by decide +kernel
theorem dX7_bothGo_104 : decode cX7_bothGo 104 = .ok (.iload 4, 2) := by decide +kernel
theorem dX7_bothGo_106 : decode cX7_bothGo 106 = .ok (.invokevirtual 139, 3) := by decide +kernel
theorem dX7_bothGo_109 : decode cX7_bothGo 109 = .ok (.iadd, 1) := by decide +kernel
theorem dX7_bothGo_110 : decode cX7_bothGo 110 = .ok (.invokevirtual 177, 3) := by decide +kernel
theorem dX7_bothGo_113 : decode cX7_bothGo 113 = .ok (.iload 4, 2) := by decide +kernel
theorem dX7_bothGo_115 : decode cX7_bothGo 115 = .ok (.iload_n 2, 1) := by decide +kernel
theorem dX7_bothGo_116 : decode cX7_bothGo 116 = .ok (.if_icmp .lt 35, 3) := by decide +kernel
theorem dX7_bothGo_119 : decode cX7_bothGo 119 = .ok (.iload 5, 2) := by decide +kernel
theorem dX7_bothGo_121 : decode cX7_bothGo 121 = .ok (.ifCond .lt 30, 3) := by decide +kernel
theorem dX7_bothGo_124 : decode cX7_bothGo 124 = .ok (.aload_n 0, 1) := by decide +kernel
theorem dX7_bothGo_125 : decode cX7_bothGo 125 = .ok (.aload_n 0, 1) := by decide +kernel
theorem dX7_bothGo_126 : decode cX7_bothGo 126 = .ok (.getfield 47, 3) := by decide +kernel
theorem dX7_bothGo_129 : decode cX7_bothGo 129 = .ok (.iload 5, 2) := by decide +kernel
theorem dX7_bothGo_131 : decode cX7_bothGo 131 = .ok (.iload 6, 2) := by decide +kernel
theorem dX7_bothGo_133 : decode cX7_bothGo 133 = .ok (.ifCond .eq 7, 3) := by decide +kernel
theorem dX7_bothGo_136 : decode cX7_bothGo 136 = .ok (.iload_n 1, 1) := by decide +kernel
theorem dX7_bothGo_137 : decode cX7_bothGo 137 = .ok (.goto 11, 3) := by decide +kernel
theorem dX7_bothGo_140 : decode cX7_bothGo 140 = .ok (.iload_n 1, 1) := by decide +kernel
theorem dX7_bothGo_141 : decode cX7_bothGo 141 = .ok (.aload_n 0, 1) := by decide +kernel
theorem dX7_bothGo_142 : decode cX7_bothGo 142 = .ok (.iload 4, 2) := by decide +kernel
theorem dX7_bothGo_144 : decode cX7_bothGo 144 = .ok (.invokevirtual 139, 3) := by decide +kernel
theorem dX7_bothGo_147 : decode cX7_bothGo 147 = .ok (.iadd, 1) := by decide +kernel
theorem dX7_bothGo_148 : decode cX7_bothGo 148 = .ok (.invokevirtual 177, 3) := by decide +kernel
theorem dX7_bothGo_151 : decode cX7_bothGo 151 = .ok (.aload_n 0, 1) := by decide +kernel
theorem dX7_bothGo_152 : decode cX7_bothGo 152 = .ok (.aload_n 0, 1) := by decide +kernel
theorem dX7_bothGo_153 : decode cX7_bothGo 153 = .ok (.getfield 47, 3) := by decide +kernel
theorem dX7_bothGo_156 : decode cX7_bothGo 156 = .ok (.invokevirtual 181, 3) := by decide +kernel
theorem dX7_bothGo_159 : decode cX7_bothGo 159 = .ok (.ifCond .ne 5, 3) := by decide +kernel
theorem dX7_bothGo_162 : decode cX7_bothGo 162 = .ok (.iconst 0, 1) := by decide +kernel
theorem dX7_bothGo_163 : decode cX7_bothGo 163 = .ok (.ireturn, 1) := by decide +kernel
theorem dX7_bothGo_164 : decode cX7_bothGo 164 = .ok (.iinc 4 1, 3) := by decide +kernel
theorem dX7_bothGo_167 : decode cX7_bothGo 167 = .ok (.goto (-125), 3) := by decide +kernel
theorem dX7_bothGo_170 : decode cX7_bothGo 170 = .ok (.iconst 1, 1) := by decide +kernel
theorem dX7_bothGo_171 : decode cX7_bothGo 171 = .ok (.ireturn, 1) := by decide +kernel
theorem hd_X7_bothGo : yX7_bothGo.cls = RX7 ∧ yX7_bothGo.cls ≠ "java/lang/invoke/MethodHandle" ∧ yX7_bothGo.cls ≠ "java/lang/invoke/VarHandle" ∧ (parseMethodDescriptor yX7_bothGo.desc).map (fun d => d.parameters.length) = some 2 := by decide +kernel
abbrev rm_X7_bothGo : Room := { frames := 4, cells := 0, slots := 0, locals := 91 }
def wp_X7_bothGo_151 (K : Int32 → HF → Prop) (L42 : HF → Int32 → Int32 → Int32 → Int32 → Prop) (F : HF) (v1 : Int32) (v2 : Int32) (v3 : Int32) (v4 : Int32) : Prop := wp_X7_holds (fun x1 F504 => ((¬ x1 = (nI 0)) → (L42 F504 v1 v2 v3 (v4 + (nI 1)))) ∧ ((x1 = (nI 0)) → (K (nI 0) F504))) F 121 21
set_option maxRecDepth 100000 in
set_option maxHeartbeats 4000000 in
theorem k_X7_bothGo_151 {p : Program} {l : Launch} {e : Env} {s : State} {m : MethodId} {args : Array Value} {below : List Frame} {meth : Method} {c : Code} {D : va_G} {dA : Nat → ClassId} {ad : Nat → Nat} {R : List Nat} {A : Nat → Prop} {K : Int32 → HF → Prop} {L42 : HF → Int32 → Int32 → Int32 → Int32 → Prop} (X : Cx p s m args meth c cX7_bothGo 7 RX7 D dA) (hA : ∀ q, s.heap.size ≤ q → A q) (hr : meth.sig.returnType = some .boolean) (hT : Md R) (hL42 : ∀ (F : HF) (v1 : Int32) (v2 : Int32) (v3 : Int32) (v4 : Int32), L42 F v1 v2 v3 v4 → J p l e rm_X7_bothGo s m args below meth c 7 D dA ad R A (QI D dA ad R A below args s K) F 42 [(0, .ref (ad 100)), (1, .int v1), (2, .int v2), (3, .int v3), (4, .int v4)] []) : ∀ (F : HF) (v1 : Int32) (v2 : Int32) (v3 : Int32) (v4 : Int32), wp_X7_bothGo_151 K L42  F v1 v2 v3 v4 → J p l e rm_X7_bothGo s m args below meth c 7 D dA ad R A (QI D dA ad R A below args s K) F 151 [(0, .ref (ad 100)), (1, .int v1), (2, .int v2), (3, .int v3), (4, .int v4)] [] := by
  intro F v1 v2 v3 v4 h
  unfold wp_X7_bothGo_151 at h
  refine r_aload_n (pc := 151) X 0 dX7_bothGo_151 rfl rfl ?_
  refine r_aload_n (pc := 152) X 0 dX7_bothGo_152 rfl rfl ?_
  refine fg_X7_47 (pc := 153) X hT.1 dX7_bothGo_153 ?_
  refine r_callIV (pc := 156) (As := [.ref (ad 121)]) (st := []) X hA (c_X7_holds hT hT.2.2.2.2.2.2.2.2.1 h) g_X7_181 cl_X7 hT.1 hd_X7_holds rfl rfl rfl ⟨Nat.le_of_ble_eq_true rfl, Nat.le_of_ble_eq_true rfl⟩ rfl (Nat.le_of_ble_eq_true rfl) dX7_bothGo_156 (fun x1 F504 h => ?_)
  refine r_if_ne (pc := 159) (tgt := 164) X dX7_bothGo_159 (by decide) (fun hc => ?_) (fun hc => ?_)
  · replace h := h.1 hc
    refine r_iinc (pc := 164) (v := (v4 + (nI 1))) X 4 [(4, .int (v4 + (nI 1))), (0, .ref (ad 100)), (1, .int v1), (2, .int v2), (3, .int v3)] dX7_bothGo_164 rfl rfl (by decide) rfl ?_
    refine r_goto (pc := 167) (tgt := 42) X dX7_bothGo_167 (by decide) ?_
    refine r_sub [1, 2, 3, 4, 0] rfl ?_
    exact hL42 _ _ _ _ _ h
  · replace h := h.2 hc
    refine r_iconst (pc := 162) (v := (nI 0)) X dX7_bothGo_162 (by decide) ?_
    exact r_zret (pc := 163) X hr dX7_bothGo_163 nb0 h
def wp_X7_bothGo_148 (K : Int32 → HF → Prop) (L42 : HF → Int32 → Int32 → Int32 → Int32 → Prop) (F : HF) (v1 : Int32) (v2 : Int32) (v3 : Int32) (v4 : Int32) (s2 : Int32) (s3 : Int32) : Prop := wp_X7_bear (fun F606 => wp_X7_bothGo_151 K L42  F606 v1 v2 v3 v4) F 121 21 s2 s3
set_option maxRecDepth 100000 in
set_option maxHeartbeats 4000000 in
theorem k_X7_bothGo_148 {p : Program} {l : Launch} {e : Env} {s : State} {m : MethodId} {args : Array Value} {below : List Frame} {meth : Method} {c : Code} {D : va_G} {dA : Nat → ClassId} {ad : Nat → Nat} {R : List Nat} {A : Nat → Prop} {K : Int32 → HF → Prop} {L42 : HF → Int32 → Int32 → Int32 → Int32 → Prop} (X : Cx p s m args meth c cX7_bothGo 7 RX7 D dA) (hA : ∀ q, s.heap.size ≤ q → A q) (hr : meth.sig.returnType = some .boolean) (hT : Md R) (hL42 : ∀ (F : HF) (v1 : Int32) (v2 : Int32) (v3 : Int32) (v4 : Int32), L42 F v1 v2 v3 v4 → J p l e rm_X7_bothGo s m args below meth c 7 D dA ad R A (QI D dA ad R A below args s K) F 42 [(0, .ref (ad 100)), (1, .int v1), (2, .int v2), (3, .int v3), (4, .int v4)] []) : ∀ (F : HF) (v1 : Int32) (v2 : Int32) (v3 : Int32) (v4 : Int32) (s2 : Int32) (s3 : Int32), wp_X7_bothGo_148 K L42  F v1 v2 v3 v4 s2 s3 → J p l e rm_X7_bothGo s m args below meth c 7 D dA ad R A (QI D dA ad R A below args s K) F 148 [(0, .ref (ad 100)), (1, .int v1), (2, .int v2), (3, .int v3), (4, .int v4)] [.int s3, .int s2, .ref (ad 121), .ref (ad 100)] := by
  intro F v1 v2 v3 v4 s2 s3 h
  unfold wp_X7_bothGo_148 at h
  refine r_callVV (pc := 148) (As := [.ref (ad 121), .int s2, .int s3]) (st := []) X hA (c_X7_bear hT hT.2.2.2.2.2.2.2.2.1 h) g_X7_177 cl_X7 hT.1 hd_X7_bear rfl rfl rfl ⟨Nat.le_of_ble_eq_true rfl, Nat.le_of_ble_eq_true rfl⟩ rfl (Nat.le_of_ble_eq_true rfl) dX7_bothGo_148 (fun F606 h => ?_)
  exact k_X7_bothGo_151 X hA hr hT hL42 _ _ _ _ _ h
def wp_X7_bothGo_113 (K : Int32 → HF → Prop) (L42 : HF → Int32 → Int32 → Int32 → Int32 → Prop) (F : HF) (v1 : Int32) (v2 : Int32) (v3 : Int32) (v4 : Int32) (v5 : Int32) (v6 : Int32) : Prop := ((v4 < v2) → (wp_X7_bothGo_151 K L42  F v1 v2 v3 v4)) ∧ ((¬ v4 < v2) → (((v5 < (nI 0)) → (wp_X7_bothGo_151 K L42  F v1 v2 v3 v4)) ∧ ((¬ v5 < (nI 0)) → (((v6 = (nI 0)) → (wp_X7_windIn (fun x2 F505 => wp_X7_bothGo_148 K L42  F505 v1 v2 v3 v4 v5 (v1 + x2)) F v4)) ∧ ((¬ v6 = (nI 0)) → (wp_X7_bothGo_148 K L42  F v1 v2 v3 v4 v5 v1))))))
set_option maxRecDepth 100000 in
set_option maxHeartbeats 4000000 in
theorem k_X7_bothGo_113 {p : Program} {l : Launch} {e : Env} {s : State} {m : MethodId} {args : Array Value} {below : List Frame} {meth : Method} {c : Code} {D : va_G} {dA : Nat → ClassId} {ad : Nat → Nat} {R : List Nat} {A : Nat → Prop} {K : Int32 → HF → Prop} {L42 : HF → Int32 → Int32 → Int32 → Int32 → Prop} (X : Cx p s m args meth c cX7_bothGo 7 RX7 D dA) (hA : ∀ q, s.heap.size ≤ q → A q) (hr : meth.sig.returnType = some .boolean) (hT : Md R) (hL42 : ∀ (F : HF) (v1 : Int32) (v2 : Int32) (v3 : Int32) (v4 : Int32), L42 F v1 v2 v3 v4 → J p l e rm_X7_bothGo s m args below meth c 7 D dA ad R A (QI D dA ad R A below args s K) F 42 [(0, .ref (ad 100)), (1, .int v1), (2, .int v2), (3, .int v3), (4, .int v4)] []) : ∀ (F : HF) (v1 : Int32) (v2 : Int32) (v3 : Int32) (v4 : Int32) (v5 : Int32) (v6 : Int32), wp_X7_bothGo_113 K L42  F v1 v2 v3 v4 v5 v6 → J p l e rm_X7_bothGo s m args below meth c 7 D dA ad R A (QI D dA ad R A below args s K) F 113 [(0, .ref (ad 100)), (1, .int v1), (2, .int v2), (3, .int v3), (4, .int v4), (5, .int v5), (6, .int v6)] [] := by
  intro F v1 v2 v3 v4 v5 v6 h
  unfold wp_X7_bothGo_113 at h
  refine r_iload (pc := 113) X 4 dX7_bothGo_113 rfl ?_
  refine r_iload_n (pc := 115) X 2 dX7_bothGo_115 rfl rfl ?_
  refine r_icmp_lt (pc := 116) (tgt := 151) X dX7_bothGo_116 (by decide) (fun hc => ?_) (fun hc => ?_)
  · replace h := h.1 hc
    refine r_sub [0, 1, 2, 3, 4] rfl ?_
    exact k_X7_bothGo_151 X hA hr hT hL42 _ _ _ _ _ h
  · replace h := h.2 hc
    refine r_iload (pc := 119) X 5 dX7_bothGo_119 rfl ?_
    refine r_if_lt (pc := 121) (tgt := 151) X dX7_bothGo_121 (by decide) (fun hc => ?_) (fun hc => ?_)
    · replace h := h.1 hc
      refine r_sub [0, 1, 2, 3, 4] rfl ?_
      exact k_X7_bothGo_151 X hA hr hT hL42 _ _ _ _ _ h
    · replace h := h.2 hc
      refine r_aload_n (pc := 124) X 0 dX7_bothGo_124 rfl rfl ?_
      refine r_aload_n (pc := 125) X 0 dX7_bothGo_125 rfl rfl ?_
      refine fg_X7_47 (pc := 126) X hT.1 dX7_bothGo_126 ?_
      refine r_iload (pc := 129) X 5 dX7_bothGo_129 rfl ?_
      refine r_iload (pc := 131) X 6 dX7_bothGo_131 rfl ?_
      refine r_if_eq (pc := 133) (tgt := 140) X dX7_bothGo_133 (by decide) (fun hc => ?_) (fun hc => ?_)
      · replace h := h.1 hc
        refine r_iload_n (pc := 140) X 1 dX7_bothGo_140 rfl rfl ?_
        refine r_aload_n (pc := 141) X 0 dX7_bothGo_141 rfl rfl ?_
        refine r_iload (pc := 142) X 4 dX7_bothGo_142 rfl ?_
        refine r_callIV (pc := 144) (As := [.int v4]) (st := [.int v1, .int v5, .ref (ad 121), .ref (ad 100)]) X hA (c_X7_windIn hT h) g_X7_139 cl_X7 hT.1 hd_X7_windIn rfl rfl rfl ⟨Nat.le_of_ble_eq_true rfl, Nat.le_of_ble_eq_true rfl⟩ rfl (Nat.le_of_ble_eq_true rfl) dX7_bothGo_144 (fun x2 F505 h => ?_)
        refine r_iadd (pc := 147) X dX7_bothGo_147 ?_
        refine r_sub [0, 1, 2, 3, 4] rfl ?_
        exact k_X7_bothGo_148 X hA hr hT hL42 _ _ _ _ _ _ _ h
      · replace h := h.2 hc
        refine r_iload_n (pc := 136) X 1 dX7_bothGo_136 rfl rfl ?_
        refine r_goto (pc := 137) (tgt := 148) X dX7_bothGo_137 (by decide) ?_
        refine r_sub [0, 1, 2, 3, 4] rfl ?_
        exact k_X7_bothGo_148 X hA hr hT hL42 _ _ _ _ _ _ _ h
def wp_X7_bothGo_75 (K : Int32 → HF → Prop) (L42 : HF → Int32 → Int32 → Int32 → Int32 → Prop) (F : HF) (v1 : Int32) (v2 : Int32) (v3 : Int32) (v4 : Int32) (v5 : Int32) (s0 : Int32) : Prop := wp_X7_noLoads (fun F303 => ((s0 = (nI 0)) → (wp_X7_bothGo_113 K L42  F303 v1 v2 v3 v4 v5 s0)) ∧ ((¬ s0 = (nI 0)) → ((vp_in (nI 2) 21) ∧ (wp_X7_weightIn (fun x3 F607 => wp_X7_windIn (fun x4 F608 => wp_X7_bear (fun F609 => wp_X7_bothGo_113 K L42  F609 v1 v2 v3 v4 v5 s0) F608 121 21 v4 (x3 + x4)) F607 v4) F303 (F303 121 (nI 2).toNatClampNeg))))) F 
set_option maxRecDepth 100000 in
set_option maxHeartbeats 4000000 in
theorem k_X7_bothGo_75 {p : Program} {l : Launch} {e : Env} {s : State} {m : MethodId} {args : Array Value} {below : List Frame} {meth : Method} {c : Code} {D : va_G} {dA : Nat → ClassId} {ad : Nat → Nat} {R : List Nat} {A : Nat → Prop} {K : Int32 → HF → Prop} {L42 : HF → Int32 → Int32 → Int32 → Int32 → Prop} (X : Cx p s m args meth c cX7_bothGo 7 RX7 D dA) (hA : ∀ q, s.heap.size ≤ q → A q) (hr : meth.sig.returnType = some .boolean) (hT : Md R) (hL42 : ∀ (F : HF) (v1 : Int32) (v2 : Int32) (v3 : Int32) (v4 : Int32), L42 F v1 v2 v3 v4 → J p l e rm_X7_bothGo s m args below meth c 7 D dA ad R A (QI D dA ad R A below args s K) F 42 [(0, .ref (ad 100)), (1, .int v1), (2, .int v2), (3, .int v3), (4, .int v4)] []) : ∀ (F : HF) (v1 : Int32) (v2 : Int32) (v3 : Int32) (v4 : Int32) (v5 : Int32) (s0 : Int32), wp_X7_bothGo_75 K L42  F v1 v2 v3 v4 v5 s0 → J p l e rm_X7_bothGo s m args below meth c 7 D dA ad R A (QI D dA ad R A below args s K) F 75 [(0, .ref (ad 100)), (1, .int v1), (2, .int v2), (3, .int v3), (4, .int v4), (5, .int v5)] [.int s0] := by
  intro F v1 v2 v3 v4 v5 s0 h
  unfold wp_X7_bothGo_75 at h
  refine r_istore (pc := 75) X [(6, .int s0), (0, .ref (ad 100)), (1, .int v1), (2, .int v2), (3, .int v3), (4, .int v4), (5, .int v5)] dX7_bothGo_75 (by decide) rfl ?_
  refine r_aload_n (pc := 77) X 1 dX7_bothGo_77 rfl rfl ?_
  refine r_callVV (pc := 78) (As := []) (st := []) X hA (c_X7_noLoads hT h) g_X7_167 cl_X7 hT.1 hd_X7_noLoads rfl rfl rfl ⟨Nat.le_of_ble_eq_true rfl, Nat.le_of_ble_eq_true rfl⟩ rfl (Nat.le_of_ble_eq_true rfl) dX7_bothGo_78 (fun F303 h => ?_)
  refine r_iload (pc := 81) X 0 dX7_bothGo_81 rfl ?_
  refine r_if_eq (pc := 83) (tgt := 113) X dX7_bothGo_83 (by decide) (fun hc => ?_) (fun hc => ?_)
  · replace h := h.1 hc
    refine r_sub [1, 2, 3, 4, 5, 6, 0] rfl ?_
    exact k_X7_bothGo_113 X hA hr hT hL42 _ _ _ _ _ _ _ h
  · replace h := h.2 hc
    refine r_aload_n (pc := 86) X 1 dX7_bothGo_86 rfl rfl ?_
    refine r_aload_n (pc := 87) X 1 dX7_bothGo_87 rfl rfl ?_
    refine fg_X7_47 (pc := 88) X hT.1 dX7_bothGo_88 ?_
    refine r_iload (pc := 91) X 5 dX7_bothGo_91 rfl ?_
    refine r_aload_n (pc := 93) X 1 dX7_bothGo_93 rfl rfl ?_
    refine r_aload_n (pc := 94) X 1 dX7_bothGo_94 rfl rfl ?_
    refine fg_X7_47 (pc := 95) X hT.1 dX7_bothGo_95 ?_
    refine r_iconst (pc := 98) (v := (nI 2)) X dX7_bothGo_98 (by decide) ?_
    refine r_iald (pc := 99) X hT.2.2.2.2.2.2.2.2.1 h.1 dX7_bothGo_99 ?_
    replace h := h.2
    refine r_callIV (pc := 100) (As := [.int (F303 121 (nI 2).toNatClampNeg)]) (st := [.int v4, .ref (ad 121), .ref (ad 100)]) X hA (c_X7_weightIn hT h) g_X7_174 cl_X7 hT.1 hd_X7_weightIn rfl rfl rfl ⟨Nat.le_of_ble_eq_true rfl, Nat.le_of_ble_eq_true rfl⟩ rfl (Nat.le_of_ble_eq_true rfl) dX7_bothGo_100 (fun x3 F607 h => ?_)
    refine r_aload_n (pc := 103) X 1 dX7_bothGo_103 rfl rfl ?_
    refine r_iload (pc := 104) X 5 dX7_bothGo_104 rfl ?_
    refine r_callIV (pc := 106) (As := [.int v4]) (st := [.int x3, .int v4, .ref (ad 121), .ref (ad 100)]) X hA (c_X7_windIn hT h) g_X7_139 cl_X7 hT.1 hd_X7_windIn rfl rfl rfl ⟨Nat.le_of_ble_eq_true rfl, Nat.le_of_ble_eq_true rfl⟩ rfl (Nat.le_of_ble_eq_true rfl) dX7_bothGo_106 (fun x4 F608 h => ?_)
    refine r_iadd (pc := 109) X dX7_bothGo_109 ?_
    refine r_callVV (pc := 110) (As := [.ref (ad 121), .int v4, .int (x3 + x4)]) (st := []) X hA (c_X7_bear hT hT.2.2.2.2.2.2.2.2.1 h) g_X7_177 cl_X7 hT.1 hd_X7_bear rfl rfl rfl ⟨Nat.le_of_ble_eq_true rfl, Nat.le_of_ble_eq_true rfl⟩ rfl (Nat.le_of_ble_eq_true rfl) dX7_bothGo_110 (fun F609 h => ?_)
    refine r_sub [1, 2, 3, 4, 5, 6, 0] rfl ?_
    exact k_X7_bothGo_113 X hA hr hT hL42 _ _ _ _ _ _ _ h
def wp_X7_bothGo_42 (K : Int32 → HF → Prop) : Nat → HF → Int32 → Int32 → Int32 → Int32 → Prop
  | 0 => fun _ _ _ _ _ => False
  | n42_ + 1 => fun F v1 v2 v3 v4 => ((v3 ≤ v4) → (K (nI 1) F)) ∧ ((¬ v3 ≤ v4) → ((((F 100 17) ≤ v4) → (wp_X7_bothGo_75 K (wp_X7_bothGo_42 K n42_)  F v1 v2 v3 v4 (((F 100 17) - (nI 1)) - (v4 - v2)) (nI 0))) ∧ ((¬ (F 100 17) ≤ v4) → (wp_X7_bothGo_75 K (wp_X7_bothGo_42 K n42_)  F v1 v2 v3 v4 (((F 100 17) - (nI 1)) - (v4 - v2)) (nI 1)))))
set_option maxRecDepth 100000 in
set_option maxHeartbeats 4000000 in
theorem k_X7_bothGo_42 {p : Program} {l : Launch} {e : Env} {s : State} {m : MethodId} {args : Array Value} {below : List Frame} {meth : Method} {c : Code} {D : va_G} {dA : Nat → ClassId} {ad : Nat → Nat} {R : List Nat} {A : Nat → Prop} {K : Int32 → HF → Prop} (X : Cx p s m args meth c cX7_bothGo 7 RX7 D dA) (hA : ∀ q, s.heap.size ≤ q → A q) (hr : meth.sig.returnType = some .boolean) (hT : Md R) : ∀ (n_ : Nat) (F : HF) (v1 : Int32) (v2 : Int32) (v3 : Int32) (v4 : Int32), wp_X7_bothGo_42 K  n_ F v1 v2 v3 v4 → J p l e rm_X7_bothGo s m args below meth c 7 D dA ad R A (QI D dA ad R A below args s K) F 42 [(0, .ref (ad 100)), (1, .int v1), (2, .int v2), (3, .int v3), (4, .int v4)] [] := by
  intro n_
  induction n_ with
  | zero => intro F v1 v2 v3 v4 h; exact h.elim
  | succ n_ ih =>
    intro F v1 v2 v3 v4 h
    unfold wp_X7_bothGo_42 at h
    refine r_iload (pc := 42) X 4 dX7_bothGo_42 rfl ?_
    refine r_iload_n (pc := 44) X 3 dX7_bothGo_44 rfl rfl ?_
    refine r_icmp_ge (pc := 45) (tgt := 170) X dX7_bothGo_45 (by decide) (fun hc => ?_) (fun hc => ?_)
    · replace h := h.1 hc
      refine r_iconst (pc := 170) (v := (nI 1)) X dX7_bothGo_170 (by decide) ?_
      exact r_zret (pc := 171) X hr dX7_bothGo_171 nb1 h
    · replace h := h.2 hc
      refine r_aload_n (pc := 48) X 0 dX7_bothGo_48 rfl rfl ?_
      refine fg_X7_35 (pc := 49) X hT.1 dX7_bothGo_49 ?_
      refine r_iconst (pc := 52) (v := (nI 1)) X dX7_bothGo_52 (by decide) ?_
      refine r_isub (pc := 53) X dX7_bothGo_53 ?_
      refine r_iload (pc := 54) X 4 dX7_bothGo_54 rfl ?_
      refine r_iload_n (pc := 56) X 2 dX7_bothGo_56 rfl rfl ?_
      refine r_isub (pc := 57) X dX7_bothGo_57 ?_
      refine r_isub (pc := 58) X dX7_bothGo_58 ?_
      refine r_istore (pc := 59) X [(5, .int (((F 100 17) - (nI 1)) - (v4 - v2))), (0, .ref (ad 100)), (1, .int v1), (2, .int v2), (3, .int v3), (4, .int v4)] dX7_bothGo_59 (by decide) rfl ?_
      refine r_iload (pc := 61) X 5 dX7_bothGo_61 rfl ?_
      refine r_aload_n (pc := 63) X 1 dX7_bothGo_63 rfl rfl ?_
      refine fg_X7_35 (pc := 64) X hT.1 dX7_bothGo_64 ?_
      refine r_icmp_ge (pc := 67) (tgt := 74) X dX7_bothGo_67 (by decide) (fun hc => ?_) (fun hc => ?_)
      · replace h := h.1 hc
        refine r_iconst (pc := 74) (v := (nI 0)) X dX7_bothGo_74 (by decide) ?_
        refine r_sub [1, 2, 3, 4, 5, 0] rfl ?_
        exact k_X7_bothGo_75 X hA hr hT ih _ _ _ _ _ _ _ h
      · replace h := h.2 hc
        refine r_iconst (pc := 70) (v := (nI 1)) X dX7_bothGo_70 (by decide) ?_
        refine r_goto (pc := 71) (tgt := 75) X dX7_bothGo_71 (by decide) ?_
        refine r_sub [1, 2, 3, 4, 5, 0] rfl ?_
        exact k_X7_bothGo_75 X hA hr hT ih _ _ _ _ _ _ _ h
def wp_X7_bothGo_38 (K : Int32 → HF → Prop) (F : HF) (v1 : Int32) (v2 : Int32) (s0 : Int32) : Prop := ∃ m_, wp_X7_bothGo_42 K  m_ F v1 v2 s0 (nI 0)
set_option maxRecDepth 100000 in
set_option maxHeartbeats 4000000 in
theorem k_X7_bothGo_38 {p : Program} {l : Launch} {e : Env} {s : State} {m : MethodId} {args : Array Value} {below : List Frame} {meth : Method} {c : Code} {D : va_G} {dA : Nat → ClassId} {ad : Nat → Nat} {R : List Nat} {A : Nat → Prop} {K : Int32 → HF → Prop} (X : Cx p s m args meth c cX7_bothGo 7 RX7 D dA) (hA : ∀ q, s.heap.size ≤ q → A q) (hr : meth.sig.returnType = some .boolean) (hT : Md R) : ∀ (F : HF) (v1 : Int32) (v2 : Int32) (s0 : Int32), wp_X7_bothGo_38 K  F v1 v2 s0 → J p l e rm_X7_bothGo s m args below meth c 7 D dA ad R A (QI D dA ad R A below args s K) F 38 [(0, .ref (ad 100)), (1, .int v1), (2, .int v2)] [.int s0] := by
  intro F v1 v2 s0 h
  unfold wp_X7_bothGo_38 at h
  refine r_istore_n (pc := 38) X [(3, .int s0), (0, .ref (ad 100)), (1, .int v1), (2, .int v2)] dX7_bothGo_38 rfl (by decide) rfl ?_
  refine r_iconst (pc := 39) (v := (nI 0)) X dX7_bothGo_39 (by decide) ?_
  refine r_istore (pc := 40) X [(4, .int (nI 0)), (3, .int s0), (0, .ref (ad 100)), (1, .int v1), (2, .int v2)] dX7_bothGo_40 (by decide) rfl ?_
  refine r_sub [2, 3, 4, 1, 0] rfl ?_
  obtain ⟨n1, h⟩ := h
  exact k_X7_bothGo_42 X hA hr hT  n1 _ _ _ _ _ h
def wp_X7_bothGo (K : Int32 → HF → Prop) (F : HF) (a1 : Int32) (a2 : Int32) : Prop := wp_X7_copy (fun F1 => wp_X7_freshen (fun F2 => ((a2 ≤ (nI 0)) → (wp_X7_bothGo_38 K  F2 a1 a2 (F2 100 17))) ∧ ((¬ a2 ≤ (nI 0)) → (wp_X7_bothGo_38 K  F2 a1 a2 ((F2 100 17) + a2)))) F1 121 21) F 120 21 121 21 (nI 0) (nI 0)
set_option maxRecDepth 100000 in
set_option maxHeartbeats 4000000 in
theorem c_X7_bothGo {l : Launch} {D : va_G} {dA : Nat → ClassId} {ad : Nat → Nat} {R : List Nat} {F : HF} {a1 : Int32} {a2 : Int32} {K : Int32 → HF → Prop} (hT : Md R) (h : wp_X7_bothGo K F a1 a2) : MI l yX7_bothGo cX7_bothGo 7 .boolean rm_X7_bothGo D dA ad R F [.ref (ad 100), .int a1, .int a2] K := by
  refine MI.of (own := RX7) (by decide) rfl (Nat.le_of_ble_eq_true rfl) ?_
  intro p e s m args below meth c A hA X hr
  unfold wp_X7_bothGo at h
  show J p l e rm_X7_bothGo s m args below meth c 7 D dA ad R A (QI D dA ad R A below args s K) F 0 [(0, .ref (ad 100)), (1, .int a1), (2, .int a2)] []
  refine r_aload_n (pc := 0) X 0 dX7_bothGo_0 rfl rfl ?_
  refine fg_X7_44 (pc := 1) X hT.1 dX7_bothGo_1 ?_
  refine r_iconst (pc := 4) (v := (nI 0)) X dX7_bothGo_4 (by decide) ?_
  refine r_aload_n (pc := 5) X 0 dX7_bothGo_5 rfl rfl ?_
  refine fg_X7_47 (pc := 6) X hT.1 dX7_bothGo_6 ?_
  refine r_iconst (pc := 9) (v := (nI 0)) X dX7_bothGo_9 (by decide) ?_
  refine r_callVS (pc := 10) (As := [.ref (ad 120), .int (nI 0), .ref (ad 121), .int (nI 0)]) (st := []) X hA (c_X7_copy hT.2.2.2.2.2.2.2.1 hT.2.2.2.2.2.2.2.2.1 h) g_X7_185 hd_X7_copy rfl rfl rfl ⟨Nat.le_of_ble_eq_true rfl, Nat.le_of_ble_eq_true rfl⟩ rfl (Nat.le_of_ble_eq_true rfl) dX7_bothGo_10 (fun F1 h => ?_)
  refine r_aload_n (pc := 13) X 0 dX7_bothGo_13 rfl rfl ?_
  refine r_aload_n (pc := 14) X 0 dX7_bothGo_14 rfl rfl ?_
  refine fg_X7_47 (pc := 15) X hT.1 dX7_bothGo_15 ?_
  refine r_callVV (pc := 18) (As := [.ref (ad 121)]) (st := []) X hA (c_X7_freshen hT hT.2.2.2.2.2.2.2.2.1 h) g_X7_207 cl_X7 hT.1 hd_X7_freshen rfl rfl rfl ⟨Nat.le_of_ble_eq_true rfl, Nat.le_of_ble_eq_true rfl⟩ rfl (Nat.le_of_ble_eq_true rfl) dX7_bothGo_18 (fun F2 h => ?_)
  refine r_iload_n (pc := 21) X 2 dX7_bothGo_21 rfl rfl ?_
  refine r_if_le (pc := 22) (tgt := 34) X dX7_bothGo_22 (by decide) (fun hc => ?_) (fun hc => ?_)
  · replace h := h.1 hc
    refine r_aload_n (pc := 34) X 0 dX7_bothGo_34 rfl rfl ?_
    refine fg_X7_35 (pc := 35) X hT.1 dX7_bothGo_35 ?_
    exact k_X7_bothGo_38 X hA hr hT  _ _ _ _ h
  · replace h := h.2 hc
    refine r_aload_n (pc := 25) X 0 dX7_bothGo_25 rfl rfl ?_
    refine fg_X7_35 (pc := 26) X hT.1 dX7_bothGo_26 ?_
    refine r_iload_n (pc := 29) X 2 dX7_bothGo_29 rfl rfl ?_
    refine r_iadd (pc := 30) X dX7_bothGo_30 ?_
    refine r_goto (pc := 31) (tgt := 38) X dX7_bothGo_31 (by decide) ?_
    exact k_X7_bothGo_38 X hA hr hT  _ _ _ _ h
theorem dX7_second_0 : decode cX7_second 0 = .ok (.iload_n 1, 1) := by decide +kernel
theorem dX7_second_1 : decode cX7_second 1 = .ok (.iconst 1, 1) := by decide +kernel
theorem dX7_second_2 : decode cX7_second 2 = .ok (.bipush 40, 2) := by decide +kernel
theorem dX7_second_4 : decode cX7_second 4 = .ok (.invokestatic 87, 3) := by decide +kernel
theorem dX7_second_7 : decode cX7_second 7 = .ok (.ifCond .ne 5, 3) := by decide +kernel
theorem dX7_second_10 : decode cX7_second 10 = .ok (.iconst (-1), 1) := by decide +kernel
theorem dX7_second_11 : decode cX7_second 11 = .ok (.ireturn, 1) := by decide +kernel
theorem dX7_second_12 : decode cX7_second 12 = .ok (.aload_n 0, 1) := by decide +kernel
theorem dX7_second_13 : decode cX7_second 13 = .ok (.aload_n 0, 1) := by decide +kernel
theorem dX7_second_14 : decode cX7_second 14 = .ok (.getfield 44, 3) := by decide +kernel
theorem dX7_second_17 : decode cX7_second 17 = .ok (.invokevirtual 189, 3) := by decide +kernel
theorem dX7_second_20 : decode cX7_second 20 = .ok (.ifCond .ne 6, 3) := by decide +kernel
theorem dX7_second_23 : decode cX7_second 23 = .ok (.bipush (-2), 2) := by decide +kernel
theorem dX7_second_25 : decode cX7_second 25 = .ok (.ireturn, 1) := by decide +kernel
theorem dX7_second_26 : decode cX7_second 26 = .ok (.iconst 0, 1) := by decide +kernel
theorem dX7_second_27 : decode cX7_second 27 = .ok (.istore_n 2, 1) := by decide +kernel
theorem dX7_second_28 : decode cX7_second 28 = .ok (.iload_n 2, 1) := by decide +kernel
theorem dX7_second_29 : decode cX7_second 29 = .ok (.bipush 20, 2) := by decide +kernel
theorem dX7_second_31 : decode cX7_second 31 = .ok (.if_icmp .gt 20, 3) := by decide +kernel
theorem dX7_second_34 : decode cX7_second 34 = .ok (.aload_n 0, 1) := by decide +kernel
theorem dX7_second_35 : decode cX7_second 35 = .ok (.iload_n 1, 1) := by decide +kernel
theorem dX7_second_36 : decode cX7_second 36 = .ok (.iload_n 2, 1) := by decide +kernel
theorem dX7_second_37 : decode cX7_second 37 = .ok (.invokevirtual 222, 3) := by decide +kernel
theorem dX7_second_40 : decode cX7_second 40 = .ok (.ifCond .eq 5, 3) := by decide +kernel
theorem dX7_second_43 : decode cX7_second 43 = .ok (.iload_n 2, 1) := by decide +kernel
theorem dX7_second_44 : decode cX7_second 44 = .ok (.ireturn, 1) := by decide +kernel
theorem dX7_second_45 : decode cX7_second 45 = .ok (.iinc 2 1, 3) := by decide +kernel
theorem dX7_second_48 : decode cX7_second 48 = .ok (.goto (-20), 3) := by decide +kernel
theorem dX7_second_51 : decode cX7_second 51 = .ok (.bipush (-4), 2) := by decide +kernel
theorem dX7_second_53 : decode cX7_second 53 = .ok (.ireturn, 1) := by decide +kernel
theorem hd_X7_second : yX7_second.cls = RX7 ∧ yX7_second.cls ≠ "java/lang/invoke/MethodHandle" ∧ yX7_second.cls ≠ "java/lang/invoke/VarHandle" ∧ (parseMethodDescriptor yX7_second.desc).map (fun d => d.parameters.length) = some 1 := by decide +kernel
abbrev rm_X7_second : Room := { frames := 5, cells := 0, slots := 0, locals := 117 }
def wp_X7_second_28 (K : Int32 → HF → Prop) : Nat → HF → Int32 → Int32 → Prop
  | 0 => fun _ _ _ => False
  | n28_ + 1 => fun F v1 v2 => (((nI 20) < v2) → (K (-4 : Int32) F)) ∧ ((¬ (nI 20) < v2) → (wp_X7_bothGo (fun x3 F103 => ((x3 = (nI 0)) → (wp_X7_second_28 K  n28_ F103 v1 (v2 + (nI 1)))) ∧ ((¬ x3 = (nI 0)) → (K v2 F103))) F v1 v2))
set_option maxRecDepth 100000 in
set_option maxHeartbeats 4000000 in
theorem k_X7_second_28 {p : Program} {l : Launch} {e : Env} {s : State} {m : MethodId} {args : Array Value} {below : List Frame} {meth : Method} {c : Code} {D : va_G} {dA : Nat → ClassId} {ad : Nat → Nat} {R : List Nat} {A : Nat → Prop} {K : Int32 → HF → Prop} (X : Cx p s m args meth c cX7_second 3 RX7 D dA) (hA : ∀ q, s.heap.size ≤ q → A q) (hr : meth.sig.returnType = some .int) (hT : Md R) : ∀ (n_ : Nat) (F : HF) (v1 : Int32) (v2 : Int32), wp_X7_second_28 K  n_ F v1 v2 → J p l e rm_X7_second s m args below meth c 3 D dA ad R A (QI D dA ad R A below args s K) F 28 [(0, .ref (ad 100)), (1, .int v1), (2, .int v2)] [] := by
  intro n_
  induction n_ with
  | zero => intro F v1 v2 h; exact h.elim
  | succ n_ ih =>
    intro F v1 v2 h
    unfold wp_X7_second_28 at h
    refine r_iload_n (pc := 28) X 2 dX7_second_28 rfl rfl ?_
    refine r_bipush (pc := 29) (v := (nI 20)) X dX7_second_29 (by decide) ?_
    refine r_icmp_gt (pc := 31) (tgt := 51) X dX7_second_31 (by decide) (fun hc => ?_) (fun hc => ?_)
    · replace h := h.1 hc
      refine r_bipush (pc := 51) (v := (-4 : Int32)) X dX7_second_51 (by decide) ?_
      exact r_iret (pc := 53) X hr dX7_second_53 h
    · replace h := h.2 hc
      refine r_aload_n (pc := 34) X 0 dX7_second_34 rfl rfl ?_
      refine r_iload_n (pc := 35) X 1 dX7_second_35 rfl rfl ?_
      refine r_iload_n (pc := 36) X 2 dX7_second_36 rfl rfl ?_
      refine r_callIV (pc := 37) (As := [.int v1, .int v2]) (st := []) X hA (c_X7_bothGo hT h) g_X7_222 cl_X7 hT.1 hd_X7_bothGo rfl rfl rfl ⟨Nat.le_of_ble_eq_true rfl, Nat.le_of_ble_eq_true rfl⟩ rfl (Nat.le_of_ble_eq_true rfl) dX7_second_37 (fun x3 F103 h => ?_)
      refine r_if_eq (pc := 40) (tgt := 45) X dX7_second_40 (by decide) (fun hc => ?_) (fun hc => ?_)
      · replace h := h.1 hc
        refine r_iinc (pc := 45) (v := (v2 + (nI 1))) X 2 [(2, .int (v2 + (nI 1))), (0, .ref (ad 100)), (1, .int v1)] dX7_second_45 rfl rfl (by decide) rfl ?_
        refine r_goto (pc := 48) (tgt := 28) X dX7_second_48 (by decide) ?_
        refine r_sub [1, 2, 0] rfl ?_
        exact ih _ _ _ h
      · replace h := h.2 hc
        refine r_iload_n (pc := 43) X 2 dX7_second_43 rfl rfl ?_
        exact r_iret (pc := 44) X hr dX7_second_44 h
def wp_X7_second (K : Int32 → HF → Prop) (F : HF) (a1 : Int32) : Prop := wp_X7_in (fun x1 F1 => ((¬ x1 = (nI 0)) → (wp_X7_isWhole (fun x2 F2 => ((¬ x2 = (nI 0)) → (∃ m_, wp_X7_second_28 K  m_ F2 a1 (nI 0))) ∧ ((x2 = (nI 0)) → (K (-2 : Int32) F2))) F1 120 21)) ∧ ((x1 = (nI 0)) → (K (-1 : Int32) F1))) F a1 (nI 1) (nI 40)
set_option maxRecDepth 100000 in
set_option maxHeartbeats 4000000 in
theorem c_X7_second {l : Launch} {D : va_G} {dA : Nat → ClassId} {ad : Nat → Nat} {R : List Nat} {F : HF} {a1 : Int32} {K : Int32 → HF → Prop} (hT : Md R) (h : wp_X7_second K F a1) : MI l yX7_second cX7_second 3 .int rm_X7_second D dA ad R F [.ref (ad 100), .int a1] K := by
  refine MI.of (own := RX7) (by decide) rfl (Nat.le_of_ble_eq_true rfl) ?_
  intro p e s m args below meth c A hA X hr
  unfold wp_X7_second at h
  show J p l e rm_X7_second s m args below meth c 3 D dA ad R A (QI D dA ad R A below args s K) F 0 [(0, .ref (ad 100)), (1, .int a1)] []
  refine r_iload_n (pc := 0) X 1 dX7_second_0 rfl rfl ?_
  refine r_iconst (pc := 1) (v := (nI 1)) X dX7_second_1 (by decide) ?_
  refine r_bipush (pc := 2) (v := (nI 40)) X dX7_second_2 (by decide) ?_
  refine r_callIS (pc := 4) (As := [.int a1, .int (nI 1), .int (nI 40)]) (st := []) X hA (c_X7_in  h) g_X7_87 hd_X7_in rfl rfl rfl ⟨Nat.le_of_ble_eq_true rfl, Nat.le_of_ble_eq_true rfl⟩ rfl (Nat.le_of_ble_eq_true rfl) dX7_second_4 (fun x1 F1 h => ?_)
  refine r_if_ne (pc := 7) (tgt := 12) X dX7_second_7 (by decide) (fun hc => ?_) (fun hc => ?_)
  · replace h := h.1 hc
    refine r_aload_n (pc := 12) X 0 dX7_second_12 rfl rfl ?_
    refine r_aload_n (pc := 13) X 0 dX7_second_13 rfl rfl ?_
    refine fg_X7_44 (pc := 14) X hT.1 dX7_second_14 ?_
    refine r_callIV (pc := 17) (As := [.ref (ad 120)]) (st := []) X hA (c_X7_isWhole hT hT.2.2.2.2.2.2.2.1 h) g_X7_189 cl_X7 hT.1 hd_X7_isWhole rfl rfl rfl ⟨Nat.le_of_ble_eq_true rfl, Nat.le_of_ble_eq_true rfl⟩ rfl (Nat.le_of_ble_eq_true rfl) dX7_second_17 (fun x2 F2 h => ?_)
    refine r_if_ne (pc := 20) (tgt := 26) X dX7_second_20 (by decide) (fun hc => ?_) (fun hc => ?_)
    · replace h := h.1 hc
      refine r_iconst (pc := 26) (v := (nI 0)) X dX7_second_26 (by decide) ?_
      refine r_istore_n (pc := 27) X [(2, .int (nI 0)), (0, .ref (ad 100)), (1, .int a1)] dX7_second_27 rfl (by decide) rfl ?_
      refine r_sub [1, 2, 0] rfl ?_
      obtain ⟨n1, h⟩ := h
      exact k_X7_second_28 X hA hr hT  n1 _ _ _ h
    · replace h := h.2 hc
      refine r_bipush (pc := 23) (v := (-2 : Int32)) X dX7_second_23 (by decide) ?_
      exact r_iret (pc := 25) X hr dX7_second_25 h
  · replace h := h.2 hc
    refine r_iconst (pc := 10) (v := (-1 : Int32)) X dX7_second_10 (by decide) ?_
    exact r_iret (pc := 11) X hr dX7_second_11 h
theorem dX7_years_0 : decode cX7_years 0 = .ok (.aload_n 0, 1) := by decide +kernel
theorem dX7_years_1 : decode cX7_years 1 = .ok (.aload_n 0, 1) := by decide +kernel
theorem dX7_years_2 : decode cX7_years 2 = .ok (.getfield 44, 3) := by decide +kernel
theorem dX7_years_5 : decode cX7_years 5 = .ok (.invokevirtual 189, 3) := by decide +kernel
theorem dX7_years_8 : decode cX7_years 8 = .ok (.ifCond .ne 6, 3) := by decide +kernel
theorem dX7_years_11 : decode cX7_years 11 = .ok (.bipush (-2), 2) := by decide +kernel
theorem dX7_years_13 : decode cX7_years 13 = .ok (.ireturn, 1) := by decide +kernel
theorem dX7_years_14 : decode cX7_years 14 = .ok (.iconst 0, 1) := by decide +kernel
theorem dX7_years_15 : decode cX7_years 15 = .ok (.istore_n 1, 1) := by decide +kernel
theorem dX7_years_16 : decode cX7_years 16 = .ok (.iload_n 1, 1) := by decide +kernel
theorem dX7_years_17 : decode cX7_years 17 = .ok (.bipush 20, 2) := by decide +kernel
theorem dX7_years_19 : decode cX7_years 19 = .ok (.if_icmp .gt 50, 3) := by decide +kernel
theorem dX7_years_22 : decode cX7_years 22 = .ok (.aload_n 0, 1) := by decide +kernel
theorem dX7_years_23 : decode cX7_years 23 = .ok (.getfield 44, 3) := by decide +kernel
theorem dX7_years_26 : decode cX7_years 26 = .ok (.iconst 0, 1) := by decide +kernel
theorem dX7_years_27 : decode cX7_years 27 = .ok (.aload_n 0, 1) := by decide +kernel
theorem dX7_years_28 : decode cX7_years 28 = .ok (.getfield 47, 3) := by decide +kernel
theorem dX7_years_31 : decode cX7_years 31 = .ok (.iconst 0, 1) := by decide +kernel
theorem dX7_years_32 : decode cX7_years 32 = .ok (.invokestatic 185, 3) := by decide +kernel
theorem dX7_years_35 : decode cX7_years 35 = .ok (.aload_n 0, 1) := by decide +kernel
theorem dX7_years_36 : decode cX7_years 36 = .ok (.aload_n 0, 1) := by decide +kernel
theorem dX7_years_37 : decode cX7_years 37 = .ok (.getfield 47, 3) := by decide +kernel
theorem dX7_years_40 : decode cX7_years 40 = .ok (.invokevirtual 207, 3) := by decide +kernel
theorem dX7_years_43 : decode cX7_years 43 = .ok (.aload_n 0, 1) := by decide +kernel
theorem dX7_years_44 : decode cX7_years 44 = .ok (.getfield 47, 3) := by decide +kernel
theorem dX7_years_47 : decode cX7_years 47 = .ok (.iconst 2, 1) := by decide +kernel
theorem dX7_years_48 : decode cX7_years 48 = .ok (.iload_n 1, 1) := by decide +kernel
theorem dX7_years_49 : decode cX7_years 49 = .ok (.iastore, 1) := by decide +kernel
theorem dX7_years_50 : decode cX7_years 50 = .ok (.aload_n 0, 1) := by decide +kernel
theorem dX7_years_51 : decode cX7_years 51 = .ok (.aload_n 0, 1) := by decide +kernel
theorem dX7_years_52 : decode cX7_years 52 = .ok (.getfield 47, 3) := by decide +kernel
theorem dX7_years_55 : decode cX7_years 55 = .ok (.invokevirtual 204, 3) := by decide +kernel
theorem dX7_years_58 : decode cX7_years 58 = .ok (.ifCond .ne 5, 3) := by decide +kernel
theorem dX7_years_61 : decode cX7_years 61 = .ok (.iload_n 1, 1) := by decide +kernel
theorem dX7_years_62 : decode cX7_years 62 = .ok (.ireturn, 1) := by decide +kernel
theorem dX7_years_63 : decode cX7_years 63 = .ok (.iinc 1 1, 3) := by decide +kernel
theorem dX7_years_66 : decode cX7_years 66 = .ok (.goto (-50), 3) := by decide +kernel
theorem dX7_years_69 : decode cX7_years 69 = .ok (.bipush (-4), 2) := by decide +kernel
theorem dX7_years_71 : decode cX7_years 71 = .ok (.ireturn, 1) := by decide +kernel
theorem hd_X7_years : yX7_years.cls = RX7 ∧ yX7_years.cls ≠ "java/lang/invoke/MethodHandle" ∧ yX7_years.cls ≠ "java/lang/invoke/VarHandle" ∧ (parseMethodDescriptor yX7_years.desc).map (fun d => d.parameters.length) = some 0 := by decide +kernel
abbrev rm_X7_years : Room := { frames := 6, cells := 0, slots := 0, locals := 135 }
def wp_X7_years_16 (K : Int32 → HF → Prop) : Nat → HF → Int32 → Prop
  | 0 => fun _ _ => False
  | n16_ + 1 => fun F v1 => (((nI 20) < v1) → (K (-4 : Int32) F)) ∧ ((¬ (nI 20) < v1) → (wp_X7_copy (fun F102 => wp_X7_freshen (fun F103 => (vp_in (nI 2) 21) ∧ (∀ F104 : HF, F104 = hup F103 121 (nI 2).toNatClampNeg v1 → (wp_X7_goesOver (fun x2 F105 => ((¬ x2 = (nI 0)) → (wp_X7_years_16 K  n16_ F105 (v1 + (nI 1)))) ∧ ((x2 = (nI 0)) → (K v1 F105))) F104 121 21))) F102 121 21) F 120 21 121 21 (nI 0) (nI 0)))
set_option maxRecDepth 100000 in
set_option maxHeartbeats 4000000 in
theorem k_X7_years_16 {p : Program} {l : Launch} {e : Env} {s : State} {m : MethodId} {args : Array Value} {below : List Frame} {meth : Method} {c : Code} {D : va_G} {dA : Nat → ClassId} {ad : Nat → Nat} {R : List Nat} {A : Nat → Prop} {K : Int32 → HF → Prop} (X : Cx p s m args meth c cX7_years 2 RX7 D dA) (hA : ∀ q, s.heap.size ≤ q → A q) (hr : meth.sig.returnType = some .int) (hT : Md R) : ∀ (n_ : Nat) (F : HF) (v1 : Int32), wp_X7_years_16 K  n_ F v1 → J p l e rm_X7_years s m args below meth c 2 D dA ad R A (QI D dA ad R A below args s K) F 16 [(0, .ref (ad 100)), (1, .int v1)] [] := by
  intro n_
  induction n_ with
  | zero => intro F v1 h; exact h.elim
  | succ n_ ih =>
    intro F v1 h
    unfold wp_X7_years_16 at h
    refine r_iload_n (pc := 16) X 1 dX7_years_16 rfl rfl ?_
    refine r_bipush (pc := 17) (v := (nI 20)) X dX7_years_17 (by decide) ?_
    refine r_icmp_gt (pc := 19) (tgt := 69) X dX7_years_19 (by decide) (fun hc => ?_) (fun hc => ?_)
    · replace h := h.1 hc
      refine r_bipush (pc := 69) (v := (-4 : Int32)) X dX7_years_69 (by decide) ?_
      exact r_iret (pc := 71) X hr dX7_years_71 h
    · replace h := h.2 hc
      refine r_aload_n (pc := 22) X 0 dX7_years_22 rfl rfl ?_
      refine fg_X7_44 (pc := 23) X hT.1 dX7_years_23 ?_
      refine r_iconst (pc := 26) (v := (nI 0)) X dX7_years_26 (by decide) ?_
      refine r_aload_n (pc := 27) X 0 dX7_years_27 rfl rfl ?_
      refine fg_X7_47 (pc := 28) X hT.1 dX7_years_28 ?_
      refine r_iconst (pc := 31) (v := (nI 0)) X dX7_years_31 (by decide) ?_
      refine r_callVS (pc := 32) (As := [.ref (ad 120), .int (nI 0), .ref (ad 121), .int (nI 0)]) (st := []) X hA (c_X7_copy hT.2.2.2.2.2.2.2.1 hT.2.2.2.2.2.2.2.2.1 h) g_X7_185 hd_X7_copy rfl rfl rfl ⟨Nat.le_of_ble_eq_true rfl, Nat.le_of_ble_eq_true rfl⟩ rfl (Nat.le_of_ble_eq_true rfl) dX7_years_32 (fun F102 h => ?_)
      refine r_aload_n (pc := 35) X 0 dX7_years_35 rfl rfl ?_
      refine r_aload_n (pc := 36) X 0 dX7_years_36 rfl rfl ?_
      refine fg_X7_47 (pc := 37) X hT.1 dX7_years_37 ?_
      refine r_callVV (pc := 40) (As := [.ref (ad 121)]) (st := []) X hA (c_X7_freshen hT hT.2.2.2.2.2.2.2.2.1 h) g_X7_207 cl_X7 hT.1 hd_X7_freshen rfl rfl rfl ⟨Nat.le_of_ble_eq_true rfl, Nat.le_of_ble_eq_true rfl⟩ rfl (Nat.le_of_ble_eq_true rfl) dX7_years_40 (fun F103 h => ?_)
      refine r_aload_n (pc := 43) X 0 dX7_years_43 rfl rfl ?_
      refine fg_X7_47 (pc := 44) X hT.1 dX7_years_44 ?_
      refine r_iconst (pc := 47) (v := (nI 2)) X dX7_years_47 (by decide) ?_
      refine r_iload_n (pc := 48) X 1 dX7_years_48 rfl rfl ?_
      refine r_iast (pc := 49) X hT.2.2.2.2.2.2.2.2.1 h.1 dX7_years_49 (fun F104 e1 => ?_)
      replace h := h.2 F104 e1
      refine r_aload_n (pc := 50) X 0 dX7_years_50 rfl rfl ?_
      refine r_aload_n (pc := 51) X 0 dX7_years_51 rfl rfl ?_
      refine fg_X7_47 (pc := 52) X hT.1 dX7_years_52 ?_
      refine r_callIV (pc := 55) (As := [.ref (ad 121)]) (st := []) X hA (c_X7_goesOver hT hT.2.2.2.2.2.2.2.2.1 h) g_X7_204 cl_X7 hT.1 hd_X7_goesOver rfl rfl rfl ⟨Nat.le_of_ble_eq_true rfl, Nat.le_of_ble_eq_true rfl⟩ rfl (Nat.le_of_ble_eq_true rfl) dX7_years_55 (fun x2 F105 h => ?_)
      refine r_if_ne (pc := 58) (tgt := 63) X dX7_years_58 (by decide) (fun hc => ?_) (fun hc => ?_)
      · replace h := h.1 hc
        refine r_iinc (pc := 63) (v := (v1 + (nI 1))) X 1 [(1, .int (v1 + (nI 1))), (0, .ref (ad 100))] dX7_years_63 rfl rfl (by decide) rfl ?_
        refine r_goto (pc := 66) (tgt := 16) X dX7_years_66 (by decide) ?_
        refine r_sub [1, 0] rfl ?_
        exact ih _ _ h
      · replace h := h.2 hc
        refine r_iload_n (pc := 61) X 1 dX7_years_61 rfl rfl ?_
        exact r_iret (pc := 62) X hr dX7_years_62 h
def wp_X7_years (K : Int32 → HF → Prop) (F : HF) : Prop := wp_X7_isWhole (fun x1 F1 => ((¬ x1 = (nI 0)) → (∃ m_, wp_X7_years_16 K  m_ F1 (nI 0))) ∧ ((x1 = (nI 0)) → (K (-2 : Int32) F1))) F 120 21
set_option maxRecDepth 100000 in
set_option maxHeartbeats 4000000 in
theorem c_X7_years {l : Launch} {D : va_G} {dA : Nat → ClassId} {ad : Nat → Nat} {R : List Nat} {F : HF} {K : Int32 → HF → Prop} (hT : Md R) (h : wp_X7_years K F ) : MI l yX7_years cX7_years 2 .int rm_X7_years D dA ad R F [.ref (ad 100)] K := by
  refine MI.of (own := RX7) (by decide) rfl (Nat.le_of_ble_eq_true rfl) ?_
  intro p e s m args below meth c A hA X hr
  unfold wp_X7_years at h
  show J p l e rm_X7_years s m args below meth c 2 D dA ad R A (QI D dA ad R A below args s K) F 0 [(0, .ref (ad 100))] []
  refine r_aload_n (pc := 0) X 0 dX7_years_0 rfl rfl ?_
  refine r_aload_n (pc := 1) X 0 dX7_years_1 rfl rfl ?_
  refine fg_X7_44 (pc := 2) X hT.1 dX7_years_2 ?_
  refine r_callIV (pc := 5) (As := [.ref (ad 120)]) (st := []) X hA (c_X7_isWhole hT hT.2.2.2.2.2.2.2.1 h) g_X7_189 cl_X7 hT.1 hd_X7_isWhole rfl rfl rfl ⟨Nat.le_of_ble_eq_true rfl, Nat.le_of_ble_eq_true rfl⟩ rfl (Nat.le_of_ble_eq_true rfl) dX7_years_5 (fun x1 F1 h => ?_)
  refine r_if_ne (pc := 8) (tgt := 14) X dX7_years_8 (by decide) (fun hc => ?_) (fun hc => ?_)
  · replace h := h.1 hc
    refine r_iconst (pc := 14) (v := (nI 0)) X dX7_years_14 (by decide) ?_
    refine r_istore_n (pc := 15) X [(1, .int (nI 0)), (0, .ref (ad 100))] dX7_years_15 rfl (by decide) rfl ?_
    refine r_sub [1, 0] rfl ?_
    obtain ⟨n1, h⟩ := h
    exact k_X7_years_16 X hA hr hT  n1 _ _ h
  · replace h := h.2 hc
    refine r_bipush (pc := 11) (v := (-2 : Int32)) X dX7_years_11 (by decide) ?_
    exact r_iret (pc := 13) X hr dX7_years_13 h
theorem dX7_seen_0 : decode cX7_seen 0 = .ok (.iload_n 1, 1) := by decide +kernel
theorem dX7_seen_1 : decode cX7_seen 1 = .ok (.iconst 0, 1) := by decide +kernel
theorem dX7_seen_2 : decode cX7_seen 2 = .ok (.aload_n 0, 1) := by decide +kernel
theorem dX7_seen_3 : decode cX7_seen 3 = .ok (.getfield 44, 3) := by decide +kernel
theorem dX7_seen_6 : decode cX7_seen 6 = .ok (.iconst 0, 1) := by decide +kernel
theorem dX7_seen_7 : decode cX7_seen 7 = .ok (.iaload, 1) := by decide +kernel
theorem dX7_seen_8 : decode cX7_seen 8 = .ok (.iconst 1, 1) := by decide +kernel
theorem dX7_seen_9 : decode cX7_seen 9 = .ok (.isub, 1) := by decide +kernel
theorem dX7_seen_10 : decode cX7_seen 10 = .ok (.invokestatic 87, 3) := by decide +kernel
theorem dX7_seen_13 : decode cX7_seen 13 = .ok (.ifCond .eq 13, 3) := by decide +kernel
theorem dX7_seen_16 : decode cX7_seen 16 = .ok (.iload_n 2, 1) := by decide +kernel
theorem dX7_seen_17 : decode cX7_seen 17 = .ok (.iconst 0, 1) := by decide +kernel
theorem dX7_seen_18 : decode cX7_seen 18 = .ok (.bipush 99, 2) := by decide +kernel
theorem dX7_seen_20 : decode cX7_seen 20 = .ok (.invokestatic 87, 3) := by decide +kernel
theorem dX7_seen_23 : decode cX7_seen 23 = .ok (.ifCond .ne 5, 3) := by decide +kernel
theorem dX7_seen_26 : decode cX7_seen 26 = .ok (.iconst (-1), 1) := by decide +kernel
theorem dX7_seen_27 : decode cX7_seen 27 = .ok (.ireturn, 1) := by decide +kernel
theorem dX7_seen_28 : decode cX7_seen 28 = .ok (.aload_n 0, 1) := by decide +kernel
theorem dX7_seen_29 : decode cX7_seen 29 = .ok (.getfield 84, 3) := by decide +kernel
theorem dX7_seen_32 : decode cX7_seen 32 = .ok (.bipush 6, 2) := by decide +kernel
theorem dX7_seen_34 : decode cX7_seen 34 = .ok (.if_icmp .ne 6, 3) := by decide +kernel
theorem dX7_seen_37 : decode cX7_seen 37 = .ok (.bipush (-3), 2) := by decide +kernel
theorem dX7_seen_39 : decode cX7_seen 39 = .ok (.ireturn, 1) := by decide +kernel
theorem dX7_seen_40 : decode cX7_seen 40 = .ok (.aload_n 0, 1) := by decide +kernel
theorem dX7_seen_41 : decode cX7_seen 41 = .ok (.getfield 56, 3) := by decide +kernel
theorem dX7_seen_44 : decode cX7_seen 44 = .ok (.iconst 2, 1) := by decide +kernel
theorem dX7_seen_45 : decode cX7_seen 45 = .ok (.aload_n 0, 1) := by decide +kernel
theorem dX7_seen_46 : decode cX7_seen 46 = .ok (.getfield 84, 3) := by decide +kernel
theorem dX7_seen_49 : decode cX7_seen 49 = .ok (.imul, 1) := by decide +kernel
theorem dX7_seen_50 : decode cX7_seen 50 = .ok (.iload_n 1, 1) := by decide +kernel
theorem dX7_seen_51 : decode cX7_seen 51 = .ok (.iastore, 1) := by decide +kernel
theorem dX7_seen_52 : decode cX7_seen 52 = .ok (.aload_n 0, 1) := by decide +kernel
theorem dX7_seen_53 : decode cX7_seen 53 = .ok (.getfield 56, 3) := by decide +kernel
theorem dX7_seen_56 : decode cX7_seen 56 = .ok (.iconst 2, 1) := by decide +kernel
theorem dX7_seen_57 : decode cX7_seen 57 = .ok (.aload_n 0, 1) := by decide +kernel
theorem dX7_seen_58 : decode cX7_seen 58 = .ok (.getfield 84, 3) := by decide +kernel
theorem dX7_seen_61 : decode cX7_seen 61 = .ok (.imul, 1) := by decide +kernel
theorem dX7_seen_62 : decode cX7_seen 62 = .ok (.iconst 1, 1) := by decide +kernel
theorem dX7_seen_63 : decode cX7_seen 63 = .ok (.iadd, 1) := by decide +kernel
theorem dX7_seen_64 : decode cX7_seen 64 = .ok (.iload_n 2, 1) := by decide +kernel
theorem dX7_seen_65 : decode cX7_seen 65 = .ok (.iastore, 1) := by decide +kernel
theorem dX7_seen_66 : decode cX7_seen 66 = .ok (.aload_n 0, 1) := by decide +kernel
theorem dX7_seen_67 : decode cX7_seen 67 = .ok (.dup, 1) := by decide +kernel
theorem dX7_seen_68 : decode cX7_seen 68 = .ok (.getfield 84, 3) := by decide +kernel
theorem dX7_seen_71 : decode cX7_seen 71 = .ok (.iconst 1, 1) := by decide +kernel
theorem dX7_seen_72 : decode cX7_seen 72 = .ok (.iadd, 1) := by decide +kernel
theorem dX7_seen_73 : decode cX7_seen 73 = .ok (.putfield 84, 3) := by decide +kernel
theorem dX7_seen_76 : decode cX7_seen 76 = .ok (.aload_n 0, 1) := by decide +kernel
theorem dX7_seen_77 : decode cX7_seen 77 = .ok (.getfield 84, 3) := by decide +kernel
theorem dX7_seen_80 : decode cX7_seen 80 = .ok (.ireturn, 1) := by decide +kernel
theorem hd_X7_seen : yX7_seen.cls = RX7 ∧ yX7_seen.cls ≠ "java/lang/invoke/MethodHandle" ∧ yX7_seen.cls ≠ "java/lang/invoke/VarHandle" ∧ (parseMethodDescriptor yX7_seen.desc).map (fun d => d.parameters.length) = some 2 := by decide +kernel
abbrev rm_X7_seen : Room := { frames := 1, cells := 0, slots := 0, locals := 22 }
def wp_X7_seen (K : Int32 → HF → Prop) (F : HF) (a1 : Int32) (a2 : Int32) : Prop := (vp_in (nI 0) 21) ∧ (wp_X7_in (fun x1 F1 => ((x1 = (nI 0)) → (K (-1 : Int32) F1)) ∧ ((¬ x1 = (nI 0)) → (wp_X7_in (fun x2 F2 => ((¬ x2 = (nI 0)) → (((¬ (F2 100 27) = (nI 6)) → ((vp_in ((nI 2) * (F2 100 27)) 12) ∧ (∀ F3 : HF, F3 = hup F2 126 ((nI 2) * (F2 100 27)).toNatClampNeg a1 → ((vp_in (((nI 2) * (F3 100 27)) + (nI 1)) 12) ∧ (∀ F4 : HF, F4 = hup F3 126 (((nI 2) * (F3 100 27)) + (nI 1)).toNatClampNeg a2 → (∀ F5 : HF, F5 = hup F4 100 27 ((F4 100 27) + (nI 1)) → (K (F5 100 27) F5))))))) ∧ (((F2 100 27) = (nI 6)) → (K (-3 : Int32) F2)))) ∧ ((x2 = (nI 0)) → (K (-1 : Int32) F2))) F1 a2 (nI 0) (nI 99)))) F a1 (nI 0) ((F 120 (nI 0).toNatClampNeg) - (nI 1)))
set_option maxRecDepth 100000 in
set_option maxHeartbeats 4000000 in
theorem c_X7_seen {l : Launch} {D : va_G} {dA : Nat → ClassId} {ad : Nat → Nat} {R : List Nat} {F : HF} {a1 : Int32} {a2 : Int32} {K : Int32 → HF → Prop} (hT : Md R) (h : wp_X7_seen K F a1 a2) : MI l yX7_seen cX7_seen 3 .int rm_X7_seen D dA ad R F [.ref (ad 100), .int a1, .int a2] K := by
  refine MI.of (own := RX7) (by decide) rfl (Nat.le_of_ble_eq_true rfl) ?_
  intro p e s m args below meth c A hA X hr
  unfold wp_X7_seen at h
  show J p l e rm_X7_seen s m args below meth c 3 D dA ad R A (QI D dA ad R A below args s K) F 0 [(0, .ref (ad 100)), (1, .int a1), (2, .int a2)] []
  refine r_iload_n (pc := 0) X 1 dX7_seen_0 rfl rfl ?_
  refine r_iconst (pc := 1) (v := (nI 0)) X dX7_seen_1 (by decide) ?_
  refine r_aload_n (pc := 2) X 0 dX7_seen_2 rfl rfl ?_
  refine fg_X7_44 (pc := 3) X hT.1 dX7_seen_3 ?_
  refine r_iconst (pc := 6) (v := (nI 0)) X dX7_seen_6 (by decide) ?_
  refine r_iald (pc := 7) X hT.2.2.2.2.2.2.2.1 h.1 dX7_seen_7 ?_
  replace h := h.2
  refine r_iconst (pc := 8) (v := (nI 1)) X dX7_seen_8 (by decide) ?_
  refine r_isub (pc := 9) X dX7_seen_9 ?_
  refine r_callIS (pc := 10) (As := [.int a1, .int (nI 0), .int ((F 120 (nI 0).toNatClampNeg) - (nI 1))]) (st := []) X hA (c_X7_in  h) g_X7_87 hd_X7_in rfl rfl rfl ⟨Nat.le_of_ble_eq_true rfl, Nat.le_of_ble_eq_true rfl⟩ rfl (Nat.le_of_ble_eq_true rfl) dX7_seen_10 (fun x1 F1 h => ?_)
  refine r_if_eq (pc := 13) (tgt := 26) X dX7_seen_13 (by decide) (fun hc => ?_) (fun hc => ?_)
  · replace h := h.1 hc
    refine r_iconst (pc := 26) (v := (-1 : Int32)) X dX7_seen_26 (by decide) ?_
    exact r_iret (pc := 27) X hr dX7_seen_27 h
  · replace h := h.2 hc
    refine r_iload_n (pc := 16) X 2 dX7_seen_16 rfl rfl ?_
    refine r_iconst (pc := 17) (v := (nI 0)) X dX7_seen_17 (by decide) ?_
    refine r_bipush (pc := 18) (v := (nI 99)) X dX7_seen_18 (by decide) ?_
    refine r_callIS (pc := 20) (As := [.int a2, .int (nI 0), .int (nI 99)]) (st := []) X hA (c_X7_in  h) g_X7_87 hd_X7_in rfl rfl rfl ⟨Nat.le_of_ble_eq_true rfl, Nat.le_of_ble_eq_true rfl⟩ rfl (Nat.le_of_ble_eq_true rfl) dX7_seen_20 (fun x2 F2 h => ?_)
    refine r_if_ne (pc := 23) (tgt := 28) X dX7_seen_23 (by decide) (fun hc => ?_) (fun hc => ?_)
    · replace h := h.1 hc
      refine r_aload_n (pc := 28) X 0 dX7_seen_28 rfl rfl ?_
      refine fg_X7_84 (pc := 29) X hT.1 dX7_seen_29 ?_
      refine r_bipush (pc := 32) (v := (nI 6)) X dX7_seen_32 (by decide) ?_
      refine r_icmp_ne (pc := 34) (tgt := 40) X dX7_seen_34 (by decide) (fun hc => ?_) (fun hc => ?_)
      · replace h := h.1 hc
        refine r_aload_n (pc := 40) X 0 dX7_seen_40 rfl rfl ?_
        refine fg_X7_56 (pc := 41) X hT.1 dX7_seen_41 ?_
        refine r_iconst (pc := 44) (v := (nI 2)) X dX7_seen_44 (by decide) ?_
        refine r_aload_n (pc := 45) X 0 dX7_seen_45 rfl rfl ?_
        refine fg_X7_84 (pc := 46) X hT.1 dX7_seen_46 ?_
        refine r_imul (pc := 49) X dX7_seen_49 ?_
        refine r_iload_n (pc := 50) X 1 dX7_seen_50 rfl rfl ?_
        refine r_iast (pc := 51) X hT.2.2.2.2.2.2.2.2.2.2.2.1 h.1 dX7_seen_51 (fun F3 e1 => ?_)
        replace h := h.2 F3 e1
        refine r_aload_n (pc := 52) X 0 dX7_seen_52 rfl rfl ?_
        refine fg_X7_56 (pc := 53) X hT.1 dX7_seen_53 ?_
        refine r_iconst (pc := 56) (v := (nI 2)) X dX7_seen_56 (by decide) ?_
        refine r_aload_n (pc := 57) X 0 dX7_seen_57 rfl rfl ?_
        refine fg_X7_84 (pc := 58) X hT.1 dX7_seen_58 ?_
        refine r_imul (pc := 61) X dX7_seen_61 ?_
        refine r_iconst (pc := 62) (v := (nI 1)) X dX7_seen_62 (by decide) ?_
        refine r_iadd (pc := 63) X dX7_seen_63 ?_
        refine r_iload_n (pc := 64) X 2 dX7_seen_64 rfl rfl ?_
        refine r_iast (pc := 65) X hT.2.2.2.2.2.2.2.2.2.2.2.1 h.1 dX7_seen_65 (fun F4 e1 => ?_)
        replace h := h.2 F4 e1
        refine r_aload_n (pc := 66) X 0 dX7_seen_66 rfl rfl ?_
        refine r_dup (pc := 67) X dX7_seen_67 rfl ?_
        refine fg_X7_84 (pc := 68) X hT.1 dX7_seen_68 ?_
        refine r_iconst (pc := 71) (v := (nI 1)) X dX7_seen_71 (by decide) ?_
        refine r_iadd (pc := 72) X dX7_seen_72 ?_
        refine fp_X7_84 (pc := 73) X hT.1 dX7_seen_73 (fun F5 e1 => ?_)
        replace h := h F5 e1
        refine r_aload_n (pc := 76) X 0 dX7_seen_76 rfl rfl ?_
        refine fg_X7_84 (pc := 77) X hT.1 dX7_seen_77 ?_
        exact r_iret (pc := 80) X hr dX7_seen_80 h
      · replace h := h.2 hc
        refine r_bipush (pc := 37) (v := (-3 : Int32)) X dX7_seen_37 (by decide) ?_
        exact r_iret (pc := 39) X hr dX7_seen_39 h
    · replace h := h.2 hc
      refine r_iconst (pc := 26) (v := (-1 : Int32)) X dX7_seen_26 (by decide) ?_
      exact r_iret (pc := 27) X hr dX7_seen_27 h
theorem dX7_forget_0 : decode cX7_forget 0 = .ok (.aload_n 0, 1) := by decide +kernel
theorem dX7_forget_1 : decode cX7_forget 1 = .ok (.getfield 84, 3) := by decide +kernel
theorem dX7_forget_4 : decode cX7_forget 4 = .ok (.istore_n 1, 1) := by decide +kernel
theorem dX7_forget_5 : decode cX7_forget 5 = .ok (.aload_n 0, 1) := by decide +kernel
theorem dX7_forget_6 : decode cX7_forget 6 = .ok (.iconst 0, 1) := by decide +kernel
theorem dX7_forget_7 : decode cX7_forget 7 = .ok (.putfield 84, 3) := by decide +kernel
theorem dX7_forget_10 : decode cX7_forget 10 = .ok (.iload_n 1, 1) := by decide +kernel
theorem dX7_forget_11 : decode cX7_forget 11 = .ok (.ireturn, 1) := by decide +kernel
theorem hd_X7_forget : yX7_forget.cls = RX7 ∧ yX7_forget.cls ≠ "java/lang/invoke/MethodHandle" ∧ yX7_forget.cls ≠ "java/lang/invoke/VarHandle" ∧ (parseMethodDescriptor yX7_forget.desc).map (fun d => d.parameters.length) = some 0 := by decide +kernel
abbrev rm_X7_forget : Room := { frames := 0, cells := 0, slots := 0, locals := 0 }
def wp_X7_forget (K : Int32 → HF → Prop) (F : HF) : Prop := ∀ F1 : HF, F1 = hup F 100 27 (nI 0) → (K (F 100 27) F1)
set_option maxRecDepth 100000 in
set_option maxHeartbeats 4000000 in
theorem c_X7_forget {l : Launch} {D : va_G} {dA : Nat → ClassId} {ad : Nat → Nat} {R : List Nat} {F : HF} {K : Int32 → HF → Prop} (hT : Md R) (h : wp_X7_forget K F ) : MI l yX7_forget cX7_forget 2 .int rm_X7_forget D dA ad R F [.ref (ad 100)] K := by
  refine MI.of (own := RX7) (by decide) rfl (Nat.le_of_ble_eq_true rfl) ?_
  intro p e s m args below meth c A hA X hr
  unfold wp_X7_forget at h
  show J p l e rm_X7_forget s m args below meth c 2 D dA ad R A (QI D dA ad R A below args s K) F 0 [(0, .ref (ad 100))] []
  refine r_aload_n (pc := 0) X 0 dX7_forget_0 rfl rfl ?_
  refine fg_X7_84 (pc := 1) X hT.1 dX7_forget_1 ?_
  refine r_istore_n (pc := 4) X [(1, .int (F 100 27)), (0, .ref (ad 100))] dX7_forget_4 rfl (by decide) rfl ?_
  refine r_aload_n (pc := 5) X 1 dX7_forget_5 rfl rfl ?_
  refine r_iconst (pc := 6) (v := (nI 0)) X dX7_forget_6 (by decide) ?_
  refine fp_X7_84 (pc := 7) X hT.1 dX7_forget_7 (fun F1 e1 => ?_)
  replace h := h F1 e1
  refine r_iload_n (pc := 10) X 0 dX7_forget_10 rfl rfl ?_
  exact r_iret (pc := 11) X hr dX7_forget_11 h
theorem dX7_isStood_0 : decode cX7_isStood 0 = .ok (.aload_n 0, 1) := by decide +kernel
theorem dX7_isStood_1 : decode cX7_isStood 1 = .ok (.getfield 44, 3) := by decide +kernel
theorem dX7_isStood_4 : decode cX7_isStood 4 = .ok (.iconst 0, 1) := by decide +kernel
theorem dX7_isStood_5 : decode cX7_isStood 5 = .ok (.aload_n 0, 1) := by decide +kernel
theorem dX7_isStood_6 : decode cX7_isStood 6 = .ok (.getfield 47, 3) := by decide +kernel
theorem dX7_isStood_9 : decode cX7_isStood 9 = .ok (.iconst 0, 1) := by decide +kernel
theorem dX7_isStood_10 : decode cX7_isStood 10 = .ok (.invokestatic 185, 3) := by decide +kernel
theorem dX7_isStood_13 : decode cX7_isStood 13 = .ok (.aload_n 0, 1) := by decide +kernel
theorem dX7_isStood_14 : decode cX7_isStood 14 = .ok (.aload_n 0, 1) := by decide +kernel
theorem dX7_isStood_15 : decode cX7_isStood 15 = .ok (.getfield 47, 3) := by decide +kernel
theorem dX7_isStood_18 : decode cX7_isStood 18 = .ok (.invokevirtual 207, 3) := by decide +kernel
theorem dX7_isStood_21 : decode cX7_isStood 21 = .ok (.aload_n 0, 1) := by decide +kernel
theorem dX7_isStood_22 : decode cX7_isStood 22 = .ok (.getfield 47, 3) := by decide +kernel
theorem dX7_isStood_25 : decode cX7_isStood 25 = .ok (.iconst 3, 1) := by decide +kernel
theorem dX7_isStood_26 : decode cX7_isStood 26 = .ok (.iload_n 1, 1) := by decide +kernel
theorem dX7_isStood_27 : decode cX7_isStood 27 = .ok (.iastore, 1) := by decide +kernel
theorem dX7_isStood_28 : decode cX7_isStood 28 = .ok (.iconst 0, 1) := by decide +kernel
theorem dX7_isStood_29 : decode cX7_isStood 29 = .ok (.istore_n 3, 1) := by decide +kernel
theorem dX7_isStood_30 : decode cX7_isStood 30 = .ok (.iload_n 3, 1) := by decide +kernel
theorem dX7_isStood_31 : decode cX7_isStood 31 = .ok (.iload_n 2, 1) := by decide +kernel
theorem dX7_isStood_32 : decode cX7_isStood 32 = .ok (.if_icmp .ge 46, 3) := by decide +kernel
theorem dX7_isStood_35 : decode cX7_isStood 35 = .ok (.aload_n 0, 1) := by decide +kernel
theorem dX7_isStood_36 : decode cX7_isStood 36 = .ok (.invokevirtual 167, 3) := by decide +kernel
theorem dX7_isStood_39 : decode cX7_isStood 39 = .ok (.aload_n 0, 1) := by decide +kernel
theorem dX7_isStood_40 : decode cX7_isStood 40 = .ok (.aload_n 0, 1) := by decide +kernel
theorem dX7_isStood_41 : decode cX7_isStood 41 = .ok (.getfield 47, 3) := by decide +kernel
theorem dX7_isStood_44 : decode cX7_isStood 44 = .ok (.iload_n 1, 1) := by decide +kernel
theorem dX7_isStood_45 : decode cX7_isStood 45 = .ok (.aload_n 0, 1) := by decide +kernel
theorem dX7_isStood_46 : decode cX7_isStood 46 = .ok (.aload_n 0, 1) := by decide +kernel
theorem dX7_isStood_47 : decode cX7_isStood 47 = .ok (.getfield 47, 3) := by decide +kernel
theorem dX7_isStood_50 : decode cX7_isStood 50 = .ok (.iconst 2, 1) := by decide +kernel
theorem dX7_isStood_51 : decode cX7_isStood 51 = .ok (.iaload, 1) := by decide +kernel
theorem dX7_isStood_52 : decode cX7_isStood 52 = .ok (.invokevirtual 174, 3) := by decide +kernel
theorem dX7_isStood_55 : decode cX7_isStood 55 = .ok (.aload_n 0, 1) := by decide +kernel
theorem dX7_isStood_56 : decode cX7_isStood 56 = .ok (.iload_n 3, 1) := by decide +kernel
theorem dX7_isStood_57 : decode cX7_isStood 57 = .ok (.invokevirtual 139, 3) := by decide +kernel
theorem dX7_isStood_60 : decode cX7_isStood 60 = .ok (.iadd, 1) := by decide +kernel
theorem dX7_isStood_61 : decode cX7_isStood 61 = .ok (.invokevirtual 177, 3) := by decide +kernel
theorem dX7_isStood_64 : decode cX7_isStood 64 = .ok (.aload_n 0, 1) := by decide +kernel
theorem dX7_isStood_65 : decode cX7_isStood 65 = .ok (.aload_n 0, 1) := by decide +kernel
theorem dX7_isStood_66 : decode cX7_isStood 66 = .ok (.getfield 47, 3) := by decide +kernel
theorem dX7_isStood_69 : decode cX7_isStood 69 = .ok (.invokevirtual 163, 3) := by decide +kernel
theorem dX7_isStood_72 : decode cX7_isStood 72 = .ok (.iinc 3 1, 3) := by decide +kernel
theorem dX7_isStood_75 : decode cX7_isStood 75 = .ok (.goto (-45), 3) := by decide +kernel
theorem dX7_isStood_78 : decode cX7_isStood 78 = .ok (.iconst 0, 1) := by decide +kernel
theorem dX7_isStood_79 : decode cX7_isStood 79 = .ok (.istore_n 3, 1) := by decide +kernel
theorem dX7_isStood_80 : decode cX7_isStood 80 = .ok (.iload_n 3, 1) := by decide +kernel
theorem dX7_isStood_81 : decode cX7_isStood 81 = .ok (.aload_n 0, 1) := by decide +kernel
theorem dX7_isStood_82 : decode cX7_isStood 82 = .ok (.getfield 84, 3) := by decide +kernel
theorem dX7_isStood_85 : decode cX7_isStood 85 = .ok (.if_icmp .ge 62, 3) := by decide +kernel
theorem dX7_isStood_88 : decode cX7_isStood 88 = .ok (.aload_n 0, 1) := by decide +kernel
theorem dX7_isStood_89 : decode cX7_isStood 89 = .ok (.getfield 56, 3) := by decide +kernel
theorem dX7_isStood_92 : decode cX7_isStood 92 = .ok (.iconst 2, 1) := by decide +kernel
theorem dX7_isStood_93 : decode cX7_isStood 93 = .ok (.iload_n 3, 1) := by decide +kernel
theorem dX7_isStood_94 : decode cX7_isStood 94 = .ok (.imul, 1) := by decide +kernel
theorem dX7_isStood_95 : decode cX7_isStood 95 = .ok (.iaload, 1) := by decide +kernel
theorem dX7_isStood_96 : decode cX7_isStood 96 = .ok (.istore 4, 2) := by decide +kernel
theorem dX7_isStood_98 : decode cX7_isStood 98 = .ok (.iload 4, 2) := by decide +kernel
theorem dX7_isStood_100 : decode cX7_isStood 100 = .ok (.aload_n 0, 1) := by decide +kernel
theorem dX7_isStood_101 : decode cX7_isStood 101 = .ok (.getfield 47, 3) := by decide +kernel
theorem dX7_isStood_104 : decode cX7_isStood 104 = .ok (.iconst 0, 1) := by decide +kernel
theorem dX7_isStood_105 : decode cX7_isStood 105 = .ok (.iaload, 1) := by decide +kernel
theorem dX7_isStood_106 : decode cX7_isStood 106 = .ok (.if_icmp .ge 33, 3) := by decide +kernel
theorem dX7_isStood_109 : decode cX7_isStood 109 = .ok (.aload_n 0, 1) := by decide +kernel
theorem dX7_isStood_110 : decode cX7_isStood 110 = .ok (.getfield 47, 3) := by decide +kernel
theorem dX7_isStood_113 : decode cX7_isStood 113 = .ok (.bipush 13, 2) := by decide +kernel
theorem dX7_isStood_115 : decode cX7_isStood 115 = .ok (.aload_n 0, 1) := by decide +kernel
theorem dX7_isStood_116 : decode cX7_isStood 116 = .ok (.getfield 47, 3) := by decide +kernel
theorem dX7_isStood_119 : decode cX7_isStood 119 = .ok (.iconst 5, 1) := by decide +kernel
theorem dX7_isStood_120 : decode cX7_isStood 120 = .ok (.iload 4, 2) := by decide +kernel
theorem dX7_isStood_122 : decode cX7_isStood 122 = .ok (.iadd, 1) := by decide +kernel
theorem dX7_isStood_123 : decode cX7_isStood 123 = .ok (.iaload, 1) := by decide +kernel
theorem dX7_isStood_124 : decode cX7_isStood 124 = .ok (.iadd, 1) := by decide +kernel
theorem dX7_isStood_125 : decode cX7_isStood 125 = .ok (.iaload, 1) := by decide +kernel
theorem dX7_isStood_126 : decode cX7_isStood 126 = .ok (.aload_n 0, 1) := by decide +kernel
theorem dX7_isStood_127 : decode cX7_isStood 127 = .ok (.getfield 56, 3) := by decide +kernel
theorem dX7_isStood_130 : decode cX7_isStood 130 = .ok (.iconst 2, 1) := by decide +kernel
theorem dX7_isStood_131 : decode cX7_isStood 131 = .ok (.iload_n 3, 1) := by decide +kernel
theorem dX7_isStood_132 : decode cX7_isStood 132 = .ok (.imul, 1) := by decide +kernel
theorem dX7_isStood_133 : decode cX7_isStood 133 = .ok (.iconst 1, 1) := by decide +kernel
theorem dX7_isStood_134 : decode cX7_isStood 134 = .ok (.iadd, 1) := by decide +kernel
theorem dX7_isStood_135 : decode cX7_isStood 135 = .ok (.iaload, 1) := by decide +kernel
theorem dX7_isStood_136 : decode cX7_isStood 136 = .ok (.if_icmp .eq 5, 3) := by decide +kernel
theorem dX7_isStood_139 : decode cX7_isStood 139 = .ok (.iconst 0, 1) := by decide +kernel
theorem dX7_isStood_140 : decode cX7_isStood 140 = .ok (.ireturn, 1) := by decide +kernel
theorem dX7_isStood_141 : decode cX7_isStood 141 = .ok (.iinc 3 1, 3) := by decide +kernel
theorem dX7_isStood_144 : decode cX7_isStood 144 = .ok (.goto (-64), 3) := by decide +kernel
theorem dX7_isStood_147 : decode cX7_isStood 147 = .ok (.iconst 1, 1) := by decide +kernel
theorem dX7_isStood_148 : decode cX7_isStood 148 = .ok (.ireturn, 1) := by decide +kernel
theorem hd_X7_isStood : yX7_isStood.cls = RX7 ∧ yX7_isStood.cls ≠ "java/lang/invoke/MethodHandle" ∧ yX7_isStood.cls ≠ "java/lang/invoke/VarHandle" ∧ (parseMethodDescriptor yX7_isStood.desc).map (fun d => d.parameters.length) = some 2 := by decide +kernel
abbrev rm_X7_isStood : Room := { frames := 2, cells := 0, slots := 0, locals := 50 }
def wp_X7_isStood_80 (K : Int32 → HF → Prop) : Nat → HF → Int32 → Prop
  | 0 => fun _ _ => False
  | n80_ + 1 => fun F v3 => (((F 100 27) ≤ v3) → (K (nI 1) F)) ∧ ((¬ (F 100 27) ≤ v3) → ((vp_in ((nI 2) * v3) 12) ∧ ((vp_in (nI 0) 21) ∧ ((((F 121 (nI 0).toNatClampNeg) ≤ (F 126 ((nI 2) * v3).toNatClampNeg)) → (K (nI 0) F)) ∧ ((¬ (F 121 (nI 0).toNatClampNeg) ≤ (F 126 ((nI 2) * v3).toNatClampNeg)) → ((vp_in ((nI 5) + (F 126 ((nI 2) * v3).toNatClampNeg)) 21) ∧ ((vp_in ((nI 13) + (F 121 ((nI 5) + (F 126 ((nI 2) * v3).toNatClampNeg)).toNatClampNeg)) 21) ∧ ((vp_in (((nI 2) * v3) + (nI 1)) 12) ∧ ((((F 121 ((nI 13) + (F 121 ((nI 5) + (F 126 ((nI 2) * v3).toNatClampNeg)).toNatClampNeg)).toNatClampNeg) = (F 126 (((nI 2) * v3) + (nI 1)).toNatClampNeg)) → (wp_X7_isStood_80 K  n80_ F (v3 + (nI 1)))) ∧ ((¬ (F 121 ((nI 13) + (F 121 ((nI 5) + (F 126 ((nI 2) * v3).toNatClampNeg)).toNatClampNeg)).toNatClampNeg) = (F 126 (((nI 2) * v3) + (nI 1)).toNatClampNeg)) → (K (nI 0) F)))))))))))
set_option maxRecDepth 100000 in
set_option maxHeartbeats 4000000 in
theorem k_X7_isStood_80 {p : Program} {l : Launch} {e : Env} {s : State} {m : MethodId} {args : Array Value} {below : List Frame} {meth : Method} {c : Code} {D : va_G} {dA : Nat → ClassId} {ad : Nat → Nat} {R : List Nat} {A : Nat → Prop} {K : Int32 → HF → Prop} (X : Cx p s m args meth c cX7_isStood 5 RX7 D dA) (hA : ∀ q, s.heap.size ≤ q → A q) (hr : meth.sig.returnType = some .boolean) (hT : Md R) : ∀ (n_ : Nat) (F : HF) (v3 : Int32), wp_X7_isStood_80 K  n_ F v3 → J p l e rm_X7_isStood s m args below meth c 5 D dA ad R A (QI D dA ad R A below args s K) F 80 [(0, .ref (ad 100)), (3, .int v3)] [] := by
  intro n_
  induction n_ with
  | zero => intro F v3 h; exact h.elim
  | succ n_ ih =>
    intro F v3 h
    unfold wp_X7_isStood_80 at h
    refine r_iload_n (pc := 80) X 1 dX7_isStood_80 rfl rfl ?_
    refine r_aload_n (pc := 81) X 0 dX7_isStood_81 rfl rfl ?_
    refine fg_X7_84 (pc := 82) X hT.1 dX7_isStood_82 ?_
    refine r_icmp_ge (pc := 85) (tgt := 147) X dX7_isStood_85 (by decide) (fun hc => ?_) (fun hc => ?_)
    · replace h := h.1 hc
      refine r_iconst (pc := 147) (v := (nI 1)) X dX7_isStood_147 (by decide) ?_
      exact r_zret (pc := 148) X hr dX7_isStood_148 nb1 h
    · replace h := h.2 hc
      refine r_aload_n (pc := 88) X 0 dX7_isStood_88 rfl rfl ?_
      refine fg_X7_56 (pc := 89) X hT.1 dX7_isStood_89 ?_
      refine r_iconst (pc := 92) (v := (nI 2)) X dX7_isStood_92 (by decide) ?_
      refine r_iload_n (pc := 93) X 1 dX7_isStood_93 rfl rfl ?_
      refine r_imul (pc := 94) X dX7_isStood_94 ?_
      refine r_iald (pc := 95) X hT.2.2.2.2.2.2.2.2.2.2.2.1 h.1 dX7_isStood_95 ?_
      replace h := h.2
      refine r_istore (pc := 96) X [(4, .int (F 126 ((nI 2) * v3).toNatClampNeg)), (0, .ref (ad 100)), (3, .int v3)] dX7_isStood_96 (by decide) rfl ?_
      refine r_iload (pc := 98) X 0 dX7_isStood_98 rfl ?_
      refine r_aload_n (pc := 100) X 1 dX7_isStood_100 rfl rfl ?_
      refine fg_X7_47 (pc := 101) X hT.1 dX7_isStood_101 ?_
      refine r_iconst (pc := 104) (v := (nI 0)) X dX7_isStood_104 (by decide) ?_
      refine r_iald (pc := 105) X hT.2.2.2.2.2.2.2.2.1 h.1 dX7_isStood_105 ?_
      replace h := h.2
      refine r_icmp_ge (pc := 106) (tgt := 139) X dX7_isStood_106 (by decide) (fun hc => ?_) (fun hc => ?_)
      · replace h := h.1 hc
        refine r_iconst (pc := 139) (v := (nI 0)) X dX7_isStood_139 (by decide) ?_
        exact r_zret (pc := 140) X hr dX7_isStood_140 nb0 h
      · replace h := h.2 hc
        refine r_aload_n (pc := 109) X 1 dX7_isStood_109 rfl rfl ?_
        refine fg_X7_47 (pc := 110) X hT.1 dX7_isStood_110 ?_
        refine r_bipush (pc := 113) (v := (nI 13)) X dX7_isStood_113 (by decide) ?_
        refine r_aload_n (pc := 115) X 1 dX7_isStood_115 rfl rfl ?_
        refine fg_X7_47 (pc := 116) X hT.1 dX7_isStood_116 ?_
        refine r_iconst (pc := 119) (v := (nI 5)) X dX7_isStood_119 (by decide) ?_
        refine r_iload (pc := 120) X 0 dX7_isStood_120 rfl ?_
        refine r_iadd (pc := 122) X dX7_isStood_122 ?_
        refine r_iald (pc := 123) X hT.2.2.2.2.2.2.2.2.1 h.1 dX7_isStood_123 ?_
        replace h := h.2
        refine r_iadd (pc := 124) X dX7_isStood_124 ?_
        refine r_iald (pc := 125) X hT.2.2.2.2.2.2.2.2.1 h.1 dX7_isStood_125 ?_
        replace h := h.2
        refine r_aload_n (pc := 126) X 1 dX7_isStood_126 rfl rfl ?_
        refine fg_X7_56 (pc := 127) X hT.1 dX7_isStood_127 ?_
        refine r_iconst (pc := 130) (v := (nI 2)) X dX7_isStood_130 (by decide) ?_
        refine r_iload_n (pc := 131) X 2 dX7_isStood_131 rfl rfl ?_
        refine r_imul (pc := 132) X dX7_isStood_132 ?_
        refine r_iconst (pc := 133) (v := (nI 1)) X dX7_isStood_133 (by decide) ?_
        refine r_iadd (pc := 134) X dX7_isStood_134 ?_
        refine r_iald (pc := 135) X hT.2.2.2.2.2.2.2.2.2.2.2.1 h.1 dX7_isStood_135 ?_
        replace h := h.2
        refine r_icmp_eq (pc := 136) (tgt := 141) X dX7_isStood_136 (by decide) (fun hc => ?_) (fun hc => ?_)
        · replace h := h.1 hc
          refine r_iinc (pc := 141) (v := (v3 + (nI 1))) X 2 [(3, .int (v3 + (nI 1))), (4, .int (F 126 ((nI 2) * v3).toNatClampNeg)), (0, .ref (ad 100))] dX7_isStood_141 rfl rfl (by decide) rfl ?_
          refine r_goto (pc := 144) (tgt := 80) X dX7_isStood_144 (by decide) ?_
          refine r_sub [2, 0] rfl ?_
          exact ih _ _ h
        · replace h := h.2 hc
          refine r_iconst (pc := 139) (v := (nI 0)) X dX7_isStood_139 (by decide) ?_
          exact r_zret (pc := 140) X hr dX7_isStood_140 nb0 h
def wp_X7_isStood_30 (K : Int32 → HF → Prop) : Nat → HF → Int32 → Int32 → Int32 → Prop
  | 0 => fun _ _ _ _ => False
  | n30_ + 1 => fun F v1 v2 v3 => ((v2 ≤ v3) → (∃ m_, wp_X7_isStood_80 K  m_ F (nI 0))) ∧ ((¬ v2 ≤ v3) → (wp_X7_noLoads (fun F204 => (vp_in (nI 2) 21) ∧ (wp_X7_weightIn (fun x1 F205 => wp_X7_windIn (fun x2 F206 => wp_X7_bear (fun F207 => wp_X7_tire (fun F208 => wp_X7_isStood_30 K  n30_ F208 v1 v2 (v3 + (nI 1))) F207 121 21) F206 121 21 v1 (x1 + x2)) F205 v3) F204 (F204 121 (nI 2).toNatClampNeg))) F ))
set_option maxRecDepth 100000 in
set_option maxHeartbeats 4000000 in
theorem k_X7_isStood_30 {p : Program} {l : Launch} {e : Env} {s : State} {m : MethodId} {args : Array Value} {below : List Frame} {meth : Method} {c : Code} {D : va_G} {dA : Nat → ClassId} {ad : Nat → Nat} {R : List Nat} {A : Nat → Prop} {K : Int32 → HF → Prop} (X : Cx p s m args meth c cX7_isStood 5 RX7 D dA) (hA : ∀ q, s.heap.size ≤ q → A q) (hr : meth.sig.returnType = some .boolean) (hT : Md R) : ∀ (n_ : Nat) (F : HF) (v1 : Int32) (v2 : Int32) (v3 : Int32), wp_X7_isStood_30 K  n_ F v1 v2 v3 → J p l e rm_X7_isStood s m args below meth c 5 D dA ad R A (QI D dA ad R A below args s K) F 30 [(0, .ref (ad 100)), (1, .int v1), (2, .int v2), (3, .int v3)] [] := by
  intro n_
  induction n_ with
  | zero => intro F v1 v2 v3 h; exact h.elim
  | succ n_ ih =>
    intro F v1 v2 v3 h
    unfold wp_X7_isStood_30 at h
    refine r_iload_n (pc := 30) X 3 dX7_isStood_30 rfl rfl ?_
    refine r_iload_n (pc := 31) X 2 dX7_isStood_31 rfl rfl ?_
    refine r_icmp_ge (pc := 32) (tgt := 78) X dX7_isStood_32 (by decide) (fun hc => ?_) (fun hc => ?_)
    · replace h := h.1 hc
      refine r_iconst (pc := 78) (v := (nI 0)) X dX7_isStood_78 (by decide) ?_
      refine r_istore_n (pc := 79) X [(3, .int (nI 0)), (0, .ref (ad 100)), (1, .int v1), (2, .int v2)] dX7_isStood_79 rfl (by decide) rfl ?_
      refine r_sub [1, 0] rfl ?_
      obtain ⟨n1, h⟩ := h
      exact k_X7_isStood_80 X hA hr hT  n1 _ _ h
    · replace h := h.2 hc
      refine r_aload_n (pc := 35) X 0 dX7_isStood_35 rfl rfl ?_
      refine r_callVV (pc := 36) (As := []) (st := []) X hA (c_X7_noLoads hT h) g_X7_167 cl_X7 hT.1 hd_X7_noLoads rfl rfl rfl ⟨Nat.le_of_ble_eq_true rfl, Nat.le_of_ble_eq_true rfl⟩ rfl (Nat.le_of_ble_eq_true rfl) dX7_isStood_36 (fun F204 h => ?_)
      refine r_aload_n (pc := 39) X 0 dX7_isStood_39 rfl rfl ?_
      refine r_aload_n (pc := 40) X 0 dX7_isStood_40 rfl rfl ?_
      refine fg_X7_47 (pc := 41) X hT.1 dX7_isStood_41 ?_
      refine r_iload_n (pc := 44) X 1 dX7_isStood_44 rfl rfl ?_
      refine r_aload_n (pc := 45) X 0 dX7_isStood_45 rfl rfl ?_
      refine r_aload_n (pc := 46) X 0 dX7_isStood_46 rfl rfl ?_
      refine fg_X7_47 (pc := 47) X hT.1 dX7_isStood_47 ?_
      refine r_iconst (pc := 50) (v := (nI 2)) X dX7_isStood_50 (by decide) ?_
      refine r_iald (pc := 51) X hT.2.2.2.2.2.2.2.2.1 h.1 dX7_isStood_51 ?_
      replace h := h.2
      refine r_callIV (pc := 52) (As := [.int (F204 121 (nI 2).toNatClampNeg)]) (st := [.int v1, .ref (ad 121), .ref (ad 100)]) X hA (c_X7_weightIn hT h) g_X7_174 cl_X7 hT.1 hd_X7_weightIn rfl rfl rfl ⟨Nat.le_of_ble_eq_true rfl, Nat.le_of_ble_eq_true rfl⟩ rfl (Nat.le_of_ble_eq_true rfl) dX7_isStood_52 (fun x1 F205 h => ?_)
      refine r_aload_n (pc := 55) X 0 dX7_isStood_55 rfl rfl ?_
      refine r_iload_n (pc := 56) X 3 dX7_isStood_56 rfl rfl ?_
      refine r_callIV (pc := 57) (As := [.int v3]) (st := [.int x1, .int v1, .ref (ad 121), .ref (ad 100)]) X hA (c_X7_windIn hT h) g_X7_139 cl_X7 hT.1 hd_X7_windIn rfl rfl rfl ⟨Nat.le_of_ble_eq_true rfl, Nat.le_of_ble_eq_true rfl⟩ rfl (Nat.le_of_ble_eq_true rfl) dX7_isStood_57 (fun x2 F206 h => ?_)
      refine r_iadd (pc := 60) X dX7_isStood_60 ?_
      refine r_callVV (pc := 61) (As := [.ref (ad 121), .int v1, .int (x1 + x2)]) (st := []) X hA (c_X7_bear hT hT.2.2.2.2.2.2.2.2.1 h) g_X7_177 cl_X7 hT.1 hd_X7_bear rfl rfl rfl ⟨Nat.le_of_ble_eq_true rfl, Nat.le_of_ble_eq_true rfl⟩ rfl (Nat.le_of_ble_eq_true rfl) dX7_isStood_61 (fun F207 h => ?_)
      refine r_aload_n (pc := 64) X 0 dX7_isStood_64 rfl rfl ?_
      refine r_aload_n (pc := 65) X 0 dX7_isStood_65 rfl rfl ?_
      refine fg_X7_47 (pc := 66) X hT.1 dX7_isStood_66 ?_
      refine r_callVV (pc := 69) (As := [.ref (ad 121)]) (st := []) X hA (c_X7_tire hT hT.2.2.2.2.2.2.2.2.1 h) g_X7_163 cl_X7 hT.1 hd_X7_tire rfl rfl rfl ⟨Nat.le_of_ble_eq_true rfl, Nat.le_of_ble_eq_true rfl⟩ rfl (Nat.le_of_ble_eq_true rfl) dX7_isStood_69 (fun F208 h => ?_)
      refine r_iinc (pc := 72) (v := (v3 + (nI 1))) X 3 [(3, .int (v3 + (nI 1))), (0, .ref (ad 100)), (1, .int v1), (2, .int v2)] dX7_isStood_72 rfl rfl (by decide) rfl ?_
      refine r_goto (pc := 75) (tgt := 30) X dX7_isStood_75 (by decide) ?_
      refine r_sub [1, 2, 3, 0] rfl ?_
      exact ih _ _ _ _ h
def wp_X7_isStood (K : Int32 → HF → Prop) (F : HF) (a1 : Int32) (a2 : Int32) : Prop := wp_X7_copy (fun F1 => wp_X7_freshen (fun F2 => (vp_in (nI 3) 21) ∧ (∀ F3 : HF, F3 = hup F2 121 (nI 3).toNatClampNeg a1 → (∃ m_, wp_X7_isStood_30 K  m_ F3 a1 a2 (nI 0)))) F1 121 21) F 120 21 121 21 (nI 0) (nI 0)
set_option maxRecDepth 100000 in
set_option maxHeartbeats 4000000 in
theorem c_X7_isStood {l : Launch} {D : va_G} {dA : Nat → ClassId} {ad : Nat → Nat} {R : List Nat} {F : HF} {a1 : Int32} {a2 : Int32} {K : Int32 → HF → Prop} (hT : Md R) (h : wp_X7_isStood K F a1 a2) : MI l yX7_isStood cX7_isStood 5 .boolean rm_X7_isStood D dA ad R F [.ref (ad 100), .int a1, .int a2] K := by
  refine MI.of (own := RX7) (by decide) rfl (Nat.le_of_ble_eq_true rfl) ?_
  intro p e s m args below meth c A hA X hr
  unfold wp_X7_isStood at h
  show J p l e rm_X7_isStood s m args below meth c 5 D dA ad R A (QI D dA ad R A below args s K) F 0 [(0, .ref (ad 100)), (1, .int a1), (2, .int a2)] []
  refine r_aload_n (pc := 0) X 0 dX7_isStood_0 rfl rfl ?_
  refine fg_X7_44 (pc := 1) X hT.1 dX7_isStood_1 ?_
  refine r_iconst (pc := 4) (v := (nI 0)) X dX7_isStood_4 (by decide) ?_
  refine r_aload_n (pc := 5) X 0 dX7_isStood_5 rfl rfl ?_
  refine fg_X7_47 (pc := 6) X hT.1 dX7_isStood_6 ?_
  refine r_iconst (pc := 9) (v := (nI 0)) X dX7_isStood_9 (by decide) ?_
  refine r_callVS (pc := 10) (As := [.ref (ad 120), .int (nI 0), .ref (ad 121), .int (nI 0)]) (st := []) X hA (c_X7_copy hT.2.2.2.2.2.2.2.1 hT.2.2.2.2.2.2.2.2.1 h) g_X7_185 hd_X7_copy rfl rfl rfl ⟨Nat.le_of_ble_eq_true rfl, Nat.le_of_ble_eq_true rfl⟩ rfl (Nat.le_of_ble_eq_true rfl) dX7_isStood_10 (fun F1 h => ?_)
  refine r_aload_n (pc := 13) X 0 dX7_isStood_13 rfl rfl ?_
  refine r_aload_n (pc := 14) X 0 dX7_isStood_14 rfl rfl ?_
  refine fg_X7_47 (pc := 15) X hT.1 dX7_isStood_15 ?_
  refine r_callVV (pc := 18) (As := [.ref (ad 121)]) (st := []) X hA (c_X7_freshen hT hT.2.2.2.2.2.2.2.2.1 h) g_X7_207 cl_X7 hT.1 hd_X7_freshen rfl rfl rfl ⟨Nat.le_of_ble_eq_true rfl, Nat.le_of_ble_eq_true rfl⟩ rfl (Nat.le_of_ble_eq_true rfl) dX7_isStood_18 (fun F2 h => ?_)
  refine r_aload_n (pc := 21) X 0 dX7_isStood_21 rfl rfl ?_
  refine fg_X7_47 (pc := 22) X hT.1 dX7_isStood_22 ?_
  refine r_iconst (pc := 25) (v := (nI 3)) X dX7_isStood_25 (by decide) ?_
  refine r_iload_n (pc := 26) X 1 dX7_isStood_26 rfl rfl ?_
  refine r_iast (pc := 27) X hT.2.2.2.2.2.2.2.2.1 h.1 dX7_isStood_27 (fun F3 e1 => ?_)
  replace h := h.2 F3 e1
  refine r_iconst (pc := 28) (v := (nI 0)) X dX7_isStood_28 (by decide) ?_
  refine r_istore_n (pc := 29) X [(3, .int (nI 0)), (0, .ref (ad 100)), (1, .int a1), (2, .int a2)] dX7_isStood_29 rfl (by decide) rfl ?_
  refine r_sub [1, 2, 3, 0] rfl ?_
  obtain ⟨n1, h⟩ := h
  exact k_X7_isStood_30 X hA hr hT  n1 _ _ _ _ h
theorem dX7_stood_0 : decode cX7_stood 0 = .ok (.iload_n 1, 1) := by decide +kernel
theorem dX7_stood_1 : decode cX7_stood 1 = .ok (.iconst 1, 1) := by decide +kernel
theorem dX7_stood_2 : decode cX7_stood 2 = .ok (.bipush 20, 2) := by decide +kernel
theorem dX7_stood_4 : decode cX7_stood 4 = .ok (.invokestatic 87, 3) := by decide +kernel
theorem dX7_stood_7 : decode cX7_stood 7 = .ok (.ifCond .ne 5, 3) := by decide +kernel
theorem dX7_stood_10 : decode cX7_stood 10 = .ok (.iconst (-1), 1) := by decide +kernel
theorem dX7_stood_11 : decode cX7_stood 11 = .ok (.ireturn, 1) := by decide +kernel
theorem dX7_stood_12 : decode cX7_stood 12 = .ok (.aload_n 0, 1) := by decide +kernel
theorem dX7_stood_13 : decode cX7_stood 13 = .ok (.aload_n 0, 1) := by decide +kernel
theorem dX7_stood_14 : decode cX7_stood 14 = .ok (.getfield 44, 3) := by decide +kernel
theorem dX7_stood_17 : decode cX7_stood 17 = .ok (.invokevirtual 189, 3) := by decide +kernel
theorem dX7_stood_20 : decode cX7_stood 20 = .ok (.ifCond .ne 6, 3) := by decide +kernel
theorem dX7_stood_23 : decode cX7_stood 23 = .ok (.bipush (-2), 2) := by decide +kernel
theorem dX7_stood_25 : decode cX7_stood 25 = .ok (.ireturn, 1) := by decide +kernel
theorem dX7_stood_26 : decode cX7_stood 26 = .ok (.iconst 0, 1) := by decide +kernel
theorem dX7_stood_27 : decode cX7_stood 27 = .ok (.istore_n 2, 1) := by decide +kernel
theorem dX7_stood_28 : decode cX7_stood 28 = .ok (.iconst 0, 1) := by decide +kernel
theorem dX7_stood_29 : decode cX7_stood 29 = .ok (.istore_n 3, 1) := by decide +kernel
theorem dX7_stood_30 : decode cX7_stood 30 = .ok (.iload_n 3, 1) := by decide +kernel
theorem dX7_stood_31 : decode cX7_stood 31 = .ok (.aload_n 0, 1) := by decide +kernel
theorem dX7_stood_32 : decode cX7_stood 32 = .ok (.getfield 35, 3) := by decide +kernel
theorem dX7_stood_35 : decode cX7_stood 35 = .ok (.if_icmp .ge 28, 3) := by decide +kernel
theorem dX7_stood_38 : decode cX7_stood 38 = .ok (.iload_n 2, 1) := by decide +kernel
theorem dX7_stood_39 : decode cX7_stood 39 = .ok (.aload_n 0, 1) := by decide +kernel
theorem dX7_stood_40 : decode cX7_stood 40 = .ok (.iload_n 3, 1) := by decide +kernel
theorem dX7_stood_41 : decode cX7_stood 41 = .ok (.iload_n 1, 1) := by decide +kernel
theorem dX7_stood_42 : decode cX7_stood 42 = .ok (.invokevirtual 225, 3) := by decide +kernel
theorem dX7_stood_45 : decode cX7_stood 45 = .ok (.ifCond .eq 9, 3) := by decide +kernel
theorem dX7_stood_48 : decode cX7_stood 48 = .ok (.iconst 1, 1) := by decide +kernel
theorem dX7_stood_49 : decode cX7_stood 49 = .ok (.iload_n 3, 1) := by decide +kernel
theorem dX7_stood_50 : decode cX7_stood 50 = .ok (.ishl, 1) := by decide +kernel
theorem dX7_stood_51 : decode cX7_stood 51 = .ok (.goto 4, 3) := by decide +kernel
theorem dX7_stood_54 : decode cX7_stood 54 = .ok (.iconst 0, 1) := by decide +kernel
theorem dX7_stood_55 : decode cX7_stood 55 = .ok (.ior, 1) := by decide +kernel
theorem dX7_stood_56 : decode cX7_stood 56 = .ok (.istore_n 2, 1) := by decide +kernel
theorem dX7_stood_57 : decode cX7_stood 57 = .ok (.iinc 3 1, 3) := by decide +kernel
theorem dX7_stood_60 : decode cX7_stood 60 = .ok (.goto (-30), 3) := by decide +kernel
theorem dX7_stood_63 : decode cX7_stood 63 = .ok (.iload_n 2, 1) := by decide +kernel
theorem dX7_stood_64 : decode cX7_stood 64 = .ok (.ireturn, 1) := by decide +kernel
theorem hd_X7_stood : yX7_stood.cls = RX7 ∧ yX7_stood.cls ≠ "java/lang/invoke/MethodHandle" ∧ yX7_stood.cls ≠ "java/lang/invoke/VarHandle" ∧ (parseMethodDescriptor yX7_stood.desc).map (fun d => d.parameters.length) = some 1 := by decide +kernel
abbrev rm_X7_stood : Room := { frames := 3, cells := 0, slots := 0, locals := 74 }
def wp_X7_stood_55 (K : Int32 → HF → Prop) (L30 : HF → Int32 → Int32 → Int32 → Prop) (F : HF) (v1 : Int32) (v3 : Int32) (s0 : Int32) (s1 : Int32) : Prop := L30 F v1 (s0 ||| s1) (v3 + (nI 1))
set_option maxRecDepth 100000 in
set_option maxHeartbeats 4000000 in
theorem k_X7_stood_55 {p : Program} {l : Launch} {e : Env} {s : State} {m : MethodId} {args : Array Value} {below : List Frame} {meth : Method} {c : Code} {D : va_G} {dA : Nat → ClassId} {ad : Nat → Nat} {R : List Nat} {A : Nat → Prop} {K : Int32 → HF → Prop} {L30 : HF → Int32 → Int32 → Int32 → Prop} (X : Cx p s m args meth c cX7_stood 4 RX7 D dA) (hA : ∀ q, s.heap.size ≤ q → A q) (hr : meth.sig.returnType = some .int) (hT : Md R) (hL30 : ∀ (F : HF) (v1 : Int32) (v2 : Int32) (v3 : Int32), L30 F v1 v2 v3 → J p l e rm_X7_stood s m args below meth c 4 D dA ad R A (QI D dA ad R A below args s K) F 30 [(0, .ref (ad 100)), (1, .int v1), (2, .int v2), (3, .int v3)] []) : ∀ (F : HF) (v1 : Int32) (v3 : Int32) (s0 : Int32) (s1 : Int32), wp_X7_stood_55 K L30  F v1 v3 s0 s1 → J p l e rm_X7_stood s m args below meth c 4 D dA ad R A (QI D dA ad R A below args s K) F 55 [(0, .ref (ad 100)), (1, .int v1), (3, .int v3)] [.int s1, .int s0] := by
  intro F v1 v3 s0 s1 h
  unfold wp_X7_stood_55 at h
  refine r_ior (pc := 55) X dX7_stood_55 ?_
  refine r_istore_n (pc := 56) X [(2, .int (s0 ||| s1)), (0, .ref (ad 100)), (1, .int v1), (3, .int v3)] dX7_stood_56 rfl (by decide) rfl ?_
  refine r_iinc (pc := 57) (v := (v3 + (nI 1))) X 3 [(3, .int (v3 + (nI 1))), (2, .int (s0 ||| s1)), (0, .ref (ad 100)), (1, .int v1)] dX7_stood_57 rfl rfl (by decide) rfl ?_
  refine r_goto (pc := 60) (tgt := 30) X dX7_stood_60 (by decide) ?_
  refine r_sub [2, 3, 1, 0] rfl ?_
  exact hL30 _ _ _ _ h
def wp_X7_stood_30 (K : Int32 → HF → Prop) : Nat → HF → Int32 → Int32 → Int32 → Prop
  | 0 => fun _ _ _ _ => False
  | n30_ + 1 => fun F v1 v2 v3 => (((F 100 17) ≤ v3) → (K v2 F)) ∧ ((¬ (F 100 17) ≤ v3) → (wp_X7_isStood (fun x3 F103 => ((x3 = (nI 0)) → (wp_X7_stood_55 K (wp_X7_stood_30 K n30_)  F103 v1 v3 v2 (nI 0))) ∧ ((¬ x3 = (nI 0)) → (wp_X7_stood_55 K (wp_X7_stood_30 K n30_)  F103 v1 v3 v2 ((nI 1) <<< (v3 &&& 31))))) F v3 v1))
set_option maxRecDepth 100000 in
set_option maxHeartbeats 4000000 in
theorem k_X7_stood_30 {p : Program} {l : Launch} {e : Env} {s : State} {m : MethodId} {args : Array Value} {below : List Frame} {meth : Method} {c : Code} {D : va_G} {dA : Nat → ClassId} {ad : Nat → Nat} {R : List Nat} {A : Nat → Prop} {K : Int32 → HF → Prop} (X : Cx p s m args meth c cX7_stood 4 RX7 D dA) (hA : ∀ q, s.heap.size ≤ q → A q) (hr : meth.sig.returnType = some .int) (hT : Md R) : ∀ (n_ : Nat) (F : HF) (v1 : Int32) (v2 : Int32) (v3 : Int32), wp_X7_stood_30 K  n_ F v1 v2 v3 → J p l e rm_X7_stood s m args below meth c 4 D dA ad R A (QI D dA ad R A below args s K) F 30 [(0, .ref (ad 100)), (1, .int v1), (2, .int v2), (3, .int v3)] [] := by
  intro n_
  induction n_ with
  | zero => intro F v1 v2 v3 h; exact h.elim
  | succ n_ ih =>
    intro F v1 v2 v3 h
    unfold wp_X7_stood_30 at h
    refine r_iload_n (pc := 30) X 3 dX7_stood_30 rfl rfl ?_
    refine r_aload_n (pc := 31) X 0 dX7_stood_31 rfl rfl ?_
    refine fg_X7_35 (pc := 32) X hT.1 dX7_stood_32 ?_
    refine r_icmp_ge (pc := 35) (tgt := 63) X dX7_stood_35 (by decide) (fun hc => ?_) (fun hc => ?_)
    · replace h := h.1 hc
      refine r_iload_n (pc := 63) X 2 dX7_stood_63 rfl rfl ?_
      exact r_iret (pc := 64) X hr dX7_stood_64 h
    · replace h := h.2 hc
      refine r_iload_n (pc := 38) X 2 dX7_stood_38 rfl rfl ?_
      refine r_aload_n (pc := 39) X 0 dX7_stood_39 rfl rfl ?_
      refine r_iload_n (pc := 40) X 3 dX7_stood_40 rfl rfl ?_
      refine r_iload_n (pc := 41) X 1 dX7_stood_41 rfl rfl ?_
      refine r_callIV (pc := 42) (As := [.int v3, .int v1]) (st := [.int v2]) X hA (c_X7_isStood hT h) g_X7_225 cl_X7 hT.1 hd_X7_isStood rfl rfl rfl ⟨Nat.le_of_ble_eq_true rfl, Nat.le_of_ble_eq_true rfl⟩ rfl (Nat.le_of_ble_eq_true rfl) dX7_stood_42 (fun x3 F103 h => ?_)
      refine r_if_eq (pc := 45) (tgt := 54) X dX7_stood_45 (by decide) (fun hc => ?_) (fun hc => ?_)
      · replace h := h.1 hc
        refine r_iconst (pc := 54) (v := (nI 0)) X dX7_stood_54 (by decide) ?_
        refine r_sub [0, 1, 3] rfl ?_
        exact k_X7_stood_55 X hA hr hT ih _ _ _ _ _ h
      · replace h := h.2 hc
        refine r_iconst (pc := 48) (v := (nI 1)) X dX7_stood_48 (by decide) ?_
        refine r_iload_n (pc := 49) X 3 dX7_stood_49 rfl rfl ?_
        refine r_ishl (pc := 50) X dX7_stood_50 ?_
        refine r_goto (pc := 51) (tgt := 55) X dX7_stood_51 (by decide) ?_
        refine r_sub [0, 1, 3] rfl ?_
        exact k_X7_stood_55 X hA hr hT ih _ _ _ _ _ h
def wp_X7_stood (K : Int32 → HF → Prop) (F : HF) (a1 : Int32) : Prop := wp_X7_in (fun x1 F1 => ((¬ x1 = (nI 0)) → (wp_X7_isWhole (fun x2 F2 => ((¬ x2 = (nI 0)) → (∃ m_, wp_X7_stood_30 K  m_ F2 a1 (nI 0) (nI 0))) ∧ ((x2 = (nI 0)) → (K (-2 : Int32) F2))) F1 120 21)) ∧ ((x1 = (nI 0)) → (K (-1 : Int32) F1))) F a1 (nI 1) (nI 20)
set_option maxRecDepth 100000 in
set_option maxHeartbeats 4000000 in
theorem c_X7_stood {l : Launch} {D : va_G} {dA : Nat → ClassId} {ad : Nat → Nat} {R : List Nat} {F : HF} {a1 : Int32} {K : Int32 → HF → Prop} (hT : Md R) (h : wp_X7_stood K F a1) : MI l yX7_stood cX7_stood 4 .int rm_X7_stood D dA ad R F [.ref (ad 100), .int a1] K := by
  refine MI.of (own := RX7) (by decide) rfl (Nat.le_of_ble_eq_true rfl) ?_
  intro p e s m args below meth c A hA X hr
  unfold wp_X7_stood at h
  show J p l e rm_X7_stood s m args below meth c 4 D dA ad R A (QI D dA ad R A below args s K) F 0 [(0, .ref (ad 100)), (1, .int a1)] []
  refine r_iload_n (pc := 0) X 1 dX7_stood_0 rfl rfl ?_
  refine r_iconst (pc := 1) (v := (nI 1)) X dX7_stood_1 (by decide) ?_
  refine r_bipush (pc := 2) (v := (nI 20)) X dX7_stood_2 (by decide) ?_
  refine r_callIS (pc := 4) (As := [.int a1, .int (nI 1), .int (nI 20)]) (st := []) X hA (c_X7_in  h) g_X7_87 hd_X7_in rfl rfl rfl ⟨Nat.le_of_ble_eq_true rfl, Nat.le_of_ble_eq_true rfl⟩ rfl (Nat.le_of_ble_eq_true rfl) dX7_stood_4 (fun x1 F1 h => ?_)
  refine r_if_ne (pc := 7) (tgt := 12) X dX7_stood_7 (by decide) (fun hc => ?_) (fun hc => ?_)
  · replace h := h.1 hc
    refine r_aload_n (pc := 12) X 0 dX7_stood_12 rfl rfl ?_
    refine r_aload_n (pc := 13) X 0 dX7_stood_13 rfl rfl ?_
    refine fg_X7_44 (pc := 14) X hT.1 dX7_stood_14 ?_
    refine r_callIV (pc := 17) (As := [.ref (ad 120)]) (st := []) X hA (c_X7_isWhole hT hT.2.2.2.2.2.2.2.1 h) g_X7_189 cl_X7 hT.1 hd_X7_isWhole rfl rfl rfl ⟨Nat.le_of_ble_eq_true rfl, Nat.le_of_ble_eq_true rfl⟩ rfl (Nat.le_of_ble_eq_true rfl) dX7_stood_17 (fun x2 F2 h => ?_)
    refine r_if_ne (pc := 20) (tgt := 26) X dX7_stood_20 (by decide) (fun hc => ?_) (fun hc => ?_)
    · replace h := h.1 hc
      refine r_iconst (pc := 26) (v := (nI 0)) X dX7_stood_26 (by decide) ?_
      refine r_istore_n (pc := 27) X [(2, .int (nI 0)), (0, .ref (ad 100)), (1, .int a1)] dX7_stood_27 rfl (by decide) rfl ?_
      refine r_iconst (pc := 28) (v := (nI 0)) X dX7_stood_28 (by decide) ?_
      refine r_istore_n (pc := 29) X [(3, .int (nI 0)), (2, .int (nI 0)), (0, .ref (ad 100)), (1, .int a1)] dX7_stood_29 rfl (by decide) rfl ?_
      refine r_sub [2, 3, 1, 0] rfl ?_
      obtain ⟨n1, h⟩ := h
      exact k_X7_stood_30 X hA hr hT  n1 _ _ _ _ h
    · replace h := h.2 hc
      refine r_bipush (pc := 23) (v := (-2 : Int32)) X dX7_stood_23 (by decide) ?_
      exact r_iret (pc := 25) X hr dX7_stood_25 h
  · replace h := h.2 hc
    refine r_iconst (pc := 10) (v := (-1 : Int32)) X dX7_stood_10 (by decide) ?_
    exact r_iret (pc := 11) X hr dX7_stood_11 h
theorem dX7_rain_0 : decode cX7_rain 0 = .ok (.iload_n 1, 1) := by decide +kernel
theorem dX7_rain_1 : decode cX7_rain 1 = .ok (.iconst 0, 1) := by decide +kernel
theorem dX7_rain_2 : decode cX7_rain 2 = .ok (.bipush 10, 2) := by decide +kernel
theorem dX7_rain_4 : decode cX7_rain 4 = .ok (.invokestatic 87, 3) := by decide +kernel
theorem dX7_rain_7 : decode cX7_rain 7 = .ok (.ifCond .ne 5, 3) := by decide +kernel
theorem dX7_rain_10 : decode cX7_rain 10 = .ok (.iconst (-1), 1) := by decide +kernel
theorem dX7_rain_11 : decode cX7_rain 11 = .ok (.ireturn, 1) := by decide +kernel
theorem dX7_rain_12 : decode cX7_rain 12 = .ok (.ldc2_w 228, 3) := by decide +kernel
theorem dX7_rain_15 : decode cX7_rain 15 = .ok (.lstore_n 2, 1) := by decide +kernel
theorem dX7_rain_16 : decode cX7_rain 16 = .ok (.lconst 1, 1) := by decide +kernel
theorem dX7_rain_17 : decode cX7_rain 17 = .ok (.lstore 4, 2) := by decide +kernel
theorem dX7_rain_19 : decode cX7_rain 19 = .ok (.iconst 0, 1) := by decide +kernel
theorem dX7_rain_20 : decode cX7_rain 20 = .ok (.istore 6, 2) := by decide +kernel
theorem dX7_rain_22 : decode cX7_rain 22 = .ok (.iload 6, 2) := by decide +kernel
theorem dX7_rain_24 : decode cX7_rain 24 = .ok (.aload_n 0, 1) := by decide +kernel
theorem dX7_rain_25 : decode cX7_rain 25 = .ok (.getfield 35, 3) := by decide +kernel
theorem dX7_rain_28 : decode cX7_rain 28 = .ok (.if_icmp .ge 25, 3) := by decide +kernel
theorem dX7_rain_31 : decode cX7_rain 31 = .ok (.lload_n 2, 1) := by decide +kernel
theorem dX7_rain_32 : decode cX7_rain 32 = .ok (.bipush 10, 2) := by decide +kernel
theorem dX7_rain_34 : decode cX7_rain 34 = .ok (.iload_n 1, 1) := by decide +kernel
theorem dX7_rain_35 : decode cX7_rain 35 = .ok (.isub, 1) := by decide +kernel
theorem dX7_rain_36 : decode cX7_rain 36 = .ok (.i2l, 1) := by decide +kernel
theorem dX7_rain_37 : decode cX7_rain 37 = .ok (.lmul, 1) := by decide +kernel
theorem dX7_rain_38 : decode cX7_rain 38 = .ok (.lstore_n 2, 1) := by decide +kernel
theorem dX7_rain_39 : decode cX7_rain 39 = .ok (.lload 4, 2) := by decide +kernel
theorem dX7_rain_41 : decode cX7_rain 41 = .ok (.ldc2_w 230, 3) := by decide +kernel
theorem dX7_rain_44 : decode cX7_rain 44 = .ok (.lmul, 1) := by decide +kernel
theorem dX7_rain_45 : decode cX7_rain 45 = .ok (.lstore 4, 2) := by decide +kernel
theorem dX7_rain_47 : decode cX7_rain 47 = .ok (.iinc 6 1, 3) := by decide +kernel
theorem dX7_rain_50 : decode cX7_rain 50 = .ok (.goto (-28), 3) := by decide +kernel
theorem dX7_rain_53 : decode cX7_rain 53 = .ok (.lload_n 2, 1) := by decide +kernel
theorem dX7_rain_54 : decode cX7_rain 54 = .ok (.lload 4, 2) := by decide +kernel
theorem dX7_rain_56 : decode cX7_rain 56 = .ok (.ldiv, 1) := by decide +kernel
theorem dX7_rain_57 : decode cX7_rain 57 = .ok (.l2i, 1) := by decide +kernel
theorem dX7_rain_58 : decode cX7_rain 58 = .ok (.ireturn, 1) := by decide +kernel
theorem hd_X7_rain : yX7_rain.cls = RX7 ∧ yX7_rain.cls ≠ "java/lang/invoke/MethodHandle" ∧ yX7_rain.cls ≠ "java/lang/invoke/VarHandle" ∧ (parseMethodDescriptor yX7_rain.desc).map (fun d => d.parameters.length) = some 1 := by decide +kernel
abbrev rm_X7_rain : Room := { frames := 1, cells := 0, slots := 0, locals := 22 }
def wp_X7_rain_22 (K : Int32 → HF → Prop) : Nat → HF → Int32 → Int64 → Int64 → Int32 → Prop
  | 0 => fun _ _ _ _ _ => False
  | n22_ + 1 => fun F v1 v2 v4 v6 => (((F 100 17) ≤ v6) → ((¬ v4 = (lN 0)) ∧ (K ((v2 / v4)).toInt32 F))) ∧ ((¬ (F 100 17) ≤ v6) → (wp_X7_rain_22 K  n22_ F v1 (v2 * (((nI 10) - v1)).toInt64) (v4 * (lN 10)) (v6 + (nI 1))))
set_option maxRecDepth 100000 in
set_option maxHeartbeats 4000000 in
theorem k_X7_rain_22 {p : Program} {l : Launch} {e : Env} {s : State} {m : MethodId} {args : Array Value} {below : List Frame} {meth : Method} {c : Code} {D : va_G} {dA : Nat → ClassId} {ad : Nat → Nat} {R : List Nat} {A : Nat → Prop} {K : Int32 → HF → Prop} (X : Cx p s m args meth c cX7_rain 7 RX7 D dA) (hA : ∀ q, s.heap.size ≤ q → A q) (hr : meth.sig.returnType = some .int) (hT : Md R) : ∀ (n_ : Nat) (F : HF) (v1 : Int32) (v2 : Int64) (v4 : Int64) (v6 : Int32), wp_X7_rain_22 K  n_ F v1 v2 v4 v6 → J p l e rm_X7_rain s m args below meth c 7 D dA ad R A (QI D dA ad R A below args s K) F 22 [(0, .ref (ad 100)), (1, .int v1), (2, .long v2), (4, .long v4), (6, .int v6)] [] := by
  intro n_
  induction n_ with
  | zero => intro F v1 v2 v4 v6 h; exact h.elim
  | succ n_ ih =>
    intro F v1 v2 v4 v6 h
    unfold wp_X7_rain_22 at h
    refine r_iload (pc := 22) X 4 dX7_rain_22 rfl ?_
    refine r_aload_n (pc := 24) X 0 dX7_rain_24 rfl rfl ?_
    refine fg_X7_35 (pc := 25) X hT.1 dX7_rain_25 ?_
    refine r_icmp_ge (pc := 28) (tgt := 53) X dX7_rain_28 (by decide) (fun hc => ?_) (fun hc => ?_)
    · replace h := h.1 hc
      refine r_lload_n (pc := 53) X 2 dX7_rain_53 rfl rfl ?_
      refine r_lload (pc := 54) X 3 dX7_rain_54 rfl ?_
      refine r_ldiv (pc := 56) X dX7_rain_56 h.1 ?_
      replace h := h.2
      refine r_l2i (pc := 57) X dX7_rain_57 rfl ?_
      exact r_iret (pc := 58) X hr dX7_rain_58 h
    · replace h := h.2 hc
      refine r_lload_n (pc := 31) X 2 dX7_rain_31 rfl rfl ?_
      refine r_bipush (pc := 32) (v := (nI 10)) X dX7_rain_32 (by decide) ?_
      refine r_iload_n (pc := 34) X 1 dX7_rain_34 rfl rfl ?_
      refine r_isub (pc := 35) X dX7_rain_35 ?_
      refine r_i2l (pc := 36) X dX7_rain_36 rfl ?_
      refine r_lmul (pc := 37) X dX7_rain_37 ?_
      refine r_lstore_n (pc := 38) X [(2, .long (v2 * (((nI 10) - v1)).toInt64)), (0, .ref (ad 100)), (1, .int v1), (4, .long v4), (6, .int v6)] dX7_rain_38 rfl (by decide) rfl ?_
      refine r_lload (pc := 39) X 3 dX7_rain_39 rfl ?_
      refine r_ldc2 (pc := 41) (v := (lN 10)) X w_1176 dX7_rain_41 ?_
      refine r_lmul (pc := 44) X dX7_rain_44 ?_
      refine r_lstore (pc := 45) X [(4, .long (v4 * (lN 10))), (2, .long (v2 * (((nI 10) - v1)).toInt64)), (0, .ref (ad 100)), (1, .int v1), (6, .int v6)] dX7_rain_45 (by decide) rfl ?_
      refine r_iinc (pc := 47) (v := (v6 + (nI 1))) X 4 [(6, .int (v6 + (nI 1))), (4, .long (v4 * (lN 10))), (2, .long (v2 * (((nI 10) - v1)).toInt64)), (0, .ref (ad 100)), (1, .int v1)] dX7_rain_47 rfl rfl (by decide) rfl ?_
      refine r_goto (pc := 50) (tgt := 22) X dX7_rain_50 (by decide) ?_
      refine r_sub [3, 4, 2, 1, 0] rfl ?_
      exact ih _ _ _ _ _ h
def wp_X7_rain (K : Int32 → HF → Prop) (F : HF) (a1 : Int32) : Prop := wp_X7_in (fun x1 F1 => ((¬ x1 = (nI 0)) → (∃ m_, wp_X7_rain_22 K  m_ F1 a1 (lN 1000000) (lN 1) (nI 0))) ∧ ((x1 = (nI 0)) → (K (-1 : Int32) F1))) F a1 (nI 0) (nI 10)
set_option maxRecDepth 100000 in
set_option maxHeartbeats 4000000 in
theorem c_X7_rain {l : Launch} {D : va_G} {dA : Nat → ClassId} {ad : Nat → Nat} {R : List Nat} {F : HF} {a1 : Int32} {K : Int32 → HF → Prop} (hT : Md R) (h : wp_X7_rain K F a1) : MI l yX7_rain cX7_rain 7 .int rm_X7_rain D dA ad R F [.ref (ad 100), .int a1] K := by
  refine MI.of (own := RX7) (by decide) rfl (Nat.le_of_ble_eq_true rfl) ?_
  intro p e s m args below meth c A hA X hr
  unfold wp_X7_rain at h
  show J p l e rm_X7_rain s m args below meth c 7 D dA ad R A (QI D dA ad R A below args s K) F 0 [(0, .ref (ad 100)), (1, .int a1)] []
  refine r_iload_n (pc := 0) X 1 dX7_rain_0 rfl rfl ?_
  refine r_iconst (pc := 1) (v := (nI 0)) X dX7_rain_1 (by decide) ?_
  refine r_bipush (pc := 2) (v := (nI 10)) X dX7_rain_2 (by decide) ?_
  refine r_callIS (pc := 4) (As := [.int a1, .int (nI 0), .int (nI 10)]) (st := []) X hA (c_X7_in  h) g_X7_87 hd_X7_in rfl rfl rfl ⟨Nat.le_of_ble_eq_true rfl, Nat.le_of_ble_eq_true rfl⟩ rfl (Nat.le_of_ble_eq_true rfl) dX7_rain_4 (fun x1 F1 h => ?_)
  refine r_if_ne (pc := 7) (tgt := 12) X dX7_rain_7 (by decide) (fun hc => ?_) (fun hc => ?_)
  · replace h := h.1 hc
    refine r_ldc2 (pc := 12) (v := (lN 1000000)) X w_1175 dX7_rain_12 ?_
    refine r_lstore_n (pc := 15) X [(2, .long (lN 1000000)), (0, .ref (ad 100)), (1, .int a1)] dX7_rain_15 rfl (by decide) rfl ?_
    refine r_lconst (pc := 16) (v := (lN 1)) X dX7_rain_16 (by decide) ?_
    refine r_lstore (pc := 17) X [(4, .long (lN 1)), (2, .long (lN 1000000)), (0, .ref (ad 100)), (1, .int a1)] dX7_rain_17 (by decide) rfl ?_
    refine r_iconst (pc := 19) (v := (nI 0)) X dX7_rain_19 (by decide) ?_
    refine r_istore (pc := 20) X [(6, .int (nI 0)), (4, .long (lN 1)), (2, .long (lN 1000000)), (0, .ref (ad 100)), (1, .int a1)] dX7_rain_20 (by decide) rfl ?_
    refine r_sub [3, 4, 2, 1, 0] rfl ?_
    obtain ⟨n1, h⟩ := h
    exact k_X7_rain_22 X hA hr hT  n1 _ _ _ _ _ h
  · replace h := h.2 hc
    refine r_iconst (pc := 10) (v := (-1 : Int32)) X dX7_rain_10 (by decide) ?_
    exact r_iret (pc := 11) X hr dX7_rain_11 h
theorem dX7_comesOver_0 : decode cX7_comesOver 0 = .ok (.aload_n 0, 1) := by decide +kernel
theorem dX7_comesOver_1 : decode cX7_comesOver 1 = .ok (.getfield 44, 3) := by decide +kernel
theorem dX7_comesOver_4 : decode cX7_comesOver 4 = .ok (.iconst 0, 1) := by decide +kernel
theorem dX7_comesOver_5 : decode cX7_comesOver 5 = .ok (.aload_n 0, 1) := by decide +kernel
theorem dX7_comesOver_6 : decode cX7_comesOver 6 = .ok (.getfield 47, 3) := by decide +kernel
theorem dX7_comesOver_9 : decode cX7_comesOver 9 = .ok (.iconst 0, 1) := by decide +kernel
theorem dX7_comesOver_10 : decode cX7_comesOver 10 = .ok (.invokestatic 185, 3) := by decide +kernel
theorem dX7_comesOver_13 : decode cX7_comesOver 13 = .ok (.aload_n 0, 1) := by decide +kernel
theorem dX7_comesOver_14 : decode cX7_comesOver 14 = .ok (.aload_n 0, 1) := by decide +kernel
theorem dX7_comesOver_15 : decode cX7_comesOver 15 = .ok (.getfield 47, 3) := by decide +kernel
theorem dX7_comesOver_18 : decode cX7_comesOver 18 = .ok (.invokevirtual 207, 3) := by decide +kernel
theorem dX7_comesOver_21 : decode cX7_comesOver 21 = .ok (.aload_n 0, 1) := by decide +kernel
theorem dX7_comesOver_22 : decode cX7_comesOver 22 = .ok (.getfield 47, 3) := by decide +kernel
theorem dX7_comesOver_25 : decode cX7_comesOver 25 = .ok (.iconst 2, 1) := by decide +kernel
theorem dX7_comesOver_26 : decode cX7_comesOver 26 = .ok (.iload_n 2, 1) := by decide +kernel
theorem dX7_comesOver_27 : decode cX7_comesOver 27 = .ok (.iastore, 1) := by decide +kernel
theorem dX7_comesOver_28 : decode cX7_comesOver 28 = .ok (.aload_n 0, 1) := by decide +kernel
theorem dX7_comesOver_29 : decode cX7_comesOver 29 = .ok (.getfield 47, 3) := by decide +kernel
theorem dX7_comesOver_32 : decode cX7_comesOver 32 = .ok (.iconst 3, 1) := by decide +kernel
theorem dX7_comesOver_33 : decode cX7_comesOver 33 = .ok (.iaload, 1) := by decide +kernel
theorem dX7_comesOver_34 : decode cX7_comesOver 34 = .ok (.aload_n 0, 1) := by decide +kernel
theorem dX7_comesOver_35 : decode cX7_comesOver 35 = .ok (.getfield 35, 3) := by decide +kernel
theorem dX7_comesOver_38 : decode cX7_comesOver 38 = .ok (.if_icmp .ge 77, 3) := by decide +kernel
theorem dX7_comesOver_41 : decode cX7_comesOver 41 = .ok (.aload_n 0, 1) := by decide +kernel
theorem dX7_comesOver_42 : decode cX7_comesOver 42 = .ok (.getfield 47, 3) := by decide +kernel
theorem dX7_comesOver_45 : decode cX7_comesOver 45 = .ok (.iconst 3, 1) := by decide +kernel
theorem dX7_comesOver_46 : decode cX7_comesOver 46 = .ok (.dup2, 1) := by decide +kernel
theorem dX7_comesOver_47 : decode cX7_comesOver 47 = .ok (.iaload, 1) := by decide +kernel
theorem dX7_comesOver_48 : decode cX7_comesOver 48 = .ok (.iconst 1, 1) := by decide +kernel
theorem dX7_comesOver_49 : decode cX7_comesOver 49 = .ok (.iadd, 1) := by decide +kernel
theorem dX7_comesOver_50 : decode cX7_comesOver 50 = .ok (.iastore, 1) := by decide +kernel
theorem dX7_comesOver_51 : decode cX7_comesOver 51 = .ok (.ldc2_w 232, 3) := by decide +kernel
theorem dX7_comesOver_54 : decode cX7_comesOver 54 = .ok (.iload_n 1, 1) := by decide +kernel
theorem dX7_comesOver_55 : decode cX7_comesOver 55 = .ok (.i2l, 1) := by decide +kernel
theorem dX7_comesOver_56 : decode cX7_comesOver 56 = .ok (.lmul, 1) := by decide +kernel
theorem dX7_comesOver_57 : decode cX7_comesOver 57 = .ok (.ldc2_w 234, 3) := by decide +kernel
theorem dX7_comesOver_60 : decode cX7_comesOver 60 = .ok (.iload_n 2, 1) := by decide +kernel
theorem dX7_comesOver_61 : decode cX7_comesOver 61 = .ok (.i2l, 1) := by decide +kernel
theorem dX7_comesOver_62 : decode cX7_comesOver 62 = .ok (.lmul, 1) := by decide +kernel
theorem dX7_comesOver_63 : decode cX7_comesOver 63 = .ok (.ladd, 1) := by decide +kernel
theorem dX7_comesOver_64 : decode cX7_comesOver 64 = .ok (.ldc2_w 236, 3) := by decide +kernel
theorem dX7_comesOver_67 : decode cX7_comesOver 67 = .ok (.aload_n 0, 1) := by decide +kernel
theorem dX7_comesOver_68 : decode cX7_comesOver 68 = .ok (.getfield 47, 3) := by decide +kernel
theorem dX7_comesOver_71 : decode cX7_comesOver 71 = .ok (.iconst 1, 1) := by decide +kernel
theorem dX7_comesOver_72 : decode cX7_comesOver 72 = .ok (.iaload, 1) := by decide +kernel
theorem dX7_comesOver_73 : decode cX7_comesOver 73 = .ok (.i2l, 1) := by decide +kernel
theorem dX7_comesOver_74 : decode cX7_comesOver 74 = .ok (.lmul, 1) := by decide +kernel
theorem dX7_comesOver_75 : decode cX7_comesOver 75 = .ok (.ladd, 1) := by decide +kernel
theorem dX7_comesOver_76 : decode cX7_comesOver 76 = .ok (.lconst 1, 1) := by decide +kernel
theorem dX7_comesOver_77 : decode cX7_comesOver 77 = .ok (.ladd, 1) := by decide +kernel
theorem dX7_comesOver_78 : decode cX7_comesOver 78 = .ok (.lstore_n 3, 1) := by decide +kernel
theorem dX7_comesOver_79 : decode cX7_comesOver 79 = .ok (.lload_n 3, 1) := by decide +kernel
theorem dX7_comesOver_80 : decode cX7_comesOver 80 = .ok (.lload_n 3, 1) := by decide +kernel
theorem dX7_comesOver_81 : decode cX7_comesOver 81 = .ok (.lmul, 1) := by decide +kernel
theorem dX7_comesOver_82 : decode cX7_comesOver 82 = .ok (.ldc2_w 238, 3) := by decide +kernel
theorem dX7_comesOver_85 : decode cX7_comesOver 85 = .ok (.lrem, 1) := by decide +kernel
theorem dX7_comesOver_86 : decode cX7_comesOver 86 = .ok (.ldc2_w 240, 3) := by decide +kernel
theorem dX7_comesOver_89 : decode cX7_comesOver 89 = .ok (.ldiv, 1) := by decide +kernel
theorem dX7_comesOver_90 : decode cX7_comesOver 90 = .ok (.ldc2_w 242, 3) := by decide +kernel
theorem dX7_comesOver_93 : decode cX7_comesOver 93 = .ok (.lrem, 1) := by decide +kernel
theorem dX7_comesOver_94 : decode cX7_comesOver 94 = .ok (.l2i, 1) := by decide +kernel
theorem dX7_comesOver_95 : decode cX7_comesOver 95 = .ok (.istore 5, 2) := by decide +kernel
theorem dX7_comesOver_97 : decode cX7_comesOver 97 = .ok (.aload_n 0, 1) := by decide +kernel
theorem dX7_comesOver_98 : decode cX7_comesOver 98 = .ok (.aload_n 0, 1) := by decide +kernel
theorem dX7_comesOver_99 : decode cX7_comesOver 99 = .ok (.getfield 47, 3) := by decide +kernel
theorem dX7_comesOver_102 : decode cX7_comesOver 102 = .ok (.iload 5, 2) := by decide +kernel
theorem dX7_comesOver_104 : decode cX7_comesOver 104 = .ok (.invokevirtual 201, 3) := by decide +kernel
theorem dX7_comesOver_107 : decode cX7_comesOver 107 = .ok (.ifCond .ne 5, 3) := by decide +kernel
theorem dX7_comesOver_110 : decode cX7_comesOver 110 = .ok (.iconst 0, 1) := by decide +kernel
theorem dX7_comesOver_111 : decode cX7_comesOver 111 = .ok (.ireturn, 1) := by decide +kernel
theorem dX7_comesOver_112 : decode cX7_comesOver 112 = .ok (.goto (-84), 3) := by decide +kernel
theorem dX7_comesOver_115 : decode cX7_comesOver 115 = .ok (.iconst 1, 1) := by decide +kernel
theorem dX7_comesOver_116 : decode cX7_comesOver 116 = .ok (.ireturn, 1) := by decide +kernel
theorem hd_X7_comesOver : yX7_comesOver.cls = RX7 ∧ yX7_comesOver.cls ≠ "java/lang/invoke/MethodHandle" ∧ yX7_comesOver.cls ≠ "java/lang/invoke/VarHandle" ∧ (parseMethodDescriptor yX7_comesOver.desc).map (fun d => d.parameters.length) = some 2 := by decide +kernel
abbrev rm_X7_comesOver : Room := { frames := 5, cells := 0, slots := 0, locals := 114 }
def wp_X7_comesOver_28 (K : Int32 → HF → Prop) : Nat → HF → Int32 → Int32 → Prop
  | 0 => fun _ _ _ => False
  | n28_ + 1 => fun F v1 v2 => (vp_in (nI 3) 21) ∧ ((((F 100 17) ≤ (F 121 (nI 3).toNatClampNeg)) → (K (nI 1) F)) ∧ ((¬ (F 100 17) ≤ (F 121 (nI 3).toNatClampNeg)) → ((vp_in (nI 3) 21) ∧ ((vp_in (nI 3) 21) ∧ (∀ F104 : HF, F104 = hup F 121 (nI 3).toNatClampNeg ((F 121 (nI 3).toNatClampNeg) + (nI 1)) → ((vp_in (nI 1) 21) ∧ (wp_X7_passes (fun x1 F105 => ((¬ x1 = (nI 0)) → (wp_X7_comesOver_28 K  n28_ F105 v1 v2)) ∧ ((x1 = (nI 0)) → (K (nI 0) F105))) F104 121 21 ((((((((((lN 7919) * (v1).toInt64) + ((lN 6151) * (v2).toInt64)) + ((lN 331) * ((F104 121 (nI 1).toNatClampNeg)).toInt64)) + (lN 1)) * (((((lN 7919) * (v1).toInt64) + ((lN 6151) * (v2).toInt64)) + ((lN 331) * ((F104 121 (nI 1).toNatClampNeg)).toInt64)) + (lN 1))) - ((((((lN 7919) * (v1).toInt64) + ((lN 6151) * (v2).toInt64)) + ((lN 331) * ((F104 121 (nI 1).toNatClampNeg)).toInt64)) + (lN 1)) * (((((lN 7919) * (v1).toInt64) + ((lN 6151) * (v2).toInt64)) + ((lN 331) * ((F104 121 (nI 1).toNatClampNeg)).toInt64)) + (lN 1))) / (lN 65521) * (lN 65521)) / (lN 8)) - ((((((((lN 7919) * (v1).toInt64) + ((lN 6151) * (v2).toInt64)) + ((lN 331) * ((F104 121 (nI 1).toNatClampNeg)).toInt64)) + (lN 1)) * (((((lN 7919) * (v1).toInt64) + ((lN 6151) * (v2).toInt64)) + ((lN 331) * ((F104 121 (nI 1).toNatClampNeg)).toInt64)) + (lN 1))) - ((((((lN 7919) * (v1).toInt64) + ((lN 6151) * (v2).toInt64)) + ((lN 331) * ((F104 121 (nI 1).toNatClampNeg)).toInt64)) + (lN 1)) * (((((lN 7919) * (v1).toInt64) + ((lN 6151) * (v2).toInt64)) + ((lN 331) * ((F104 121 (nI 1).toNatClampNeg)).toInt64)) + (lN 1))) / (lN 65521) * (lN 65521)) / (lN 8)) / (lN 21) * (lN 21))).toInt32)))))))
set_option maxRecDepth 100000 in
set_option maxHeartbeats 4000000 in
theorem k_X7_comesOver_28 {p : Program} {l : Launch} {e : Env} {s : State} {m : MethodId} {args : Array Value} {below : List Frame} {meth : Method} {c : Code} {D : va_G} {dA : Nat → ClassId} {ad : Nat → Nat} {R : List Nat} {A : Nat → Prop} {K : Int32 → HF → Prop} (X : Cx p s m args meth c cX7_comesOver 6 RX7 D dA) (hA : ∀ q, s.heap.size ≤ q → A q) (hr : meth.sig.returnType = some .boolean) (hT : Md R) : ∀ (n_ : Nat) (F : HF) (v1 : Int32) (v2 : Int32), wp_X7_comesOver_28 K  n_ F v1 v2 → J p l e rm_X7_comesOver s m args below meth c 6 D dA ad R A (QI D dA ad R A below args s K) F 28 [(0, .ref (ad 100)), (1, .int v1), (2, .int v2)] [] := by
  intro n_
  induction n_ with
  | zero => intro F v1 v2 h; exact h.elim
  | succ n_ ih =>
    intro F v1 v2 h
    unfold wp_X7_comesOver_28 at h
    refine r_aload_n (pc := 28) X 0 dX7_comesOver_28 rfl rfl ?_
    refine fg_X7_47 (pc := 29) X hT.1 dX7_comesOver_29 ?_
    refine r_iconst (pc := 32) (v := (nI 3)) X dX7_comesOver_32 (by decide) ?_
    refine r_iald (pc := 33) X hT.2.2.2.2.2.2.2.2.1 h.1 dX7_comesOver_33 ?_
    replace h := h.2
    refine r_aload_n (pc := 34) X 0 dX7_comesOver_34 rfl rfl ?_
    refine fg_X7_35 (pc := 35) X hT.1 dX7_comesOver_35 ?_
    refine r_icmp_ge (pc := 38) (tgt := 115) X dX7_comesOver_38 (by decide) (fun hc => ?_) (fun hc => ?_)
    · replace h := h.1 hc
      refine r_iconst (pc := 115) (v := (nI 1)) X dX7_comesOver_115 (by decide) ?_
      exact r_zret (pc := 116) X hr dX7_comesOver_116 nb1 h
    · replace h := h.2 hc
      refine r_aload_n (pc := 41) X 0 dX7_comesOver_41 rfl rfl ?_
      refine fg_X7_47 (pc := 42) X hT.1 dX7_comesOver_42 ?_
      refine r_iconst (pc := 45) (v := (nI 3)) X dX7_comesOver_45 (by decide) ?_
      refine r_dup2 (pc := 46) X dX7_comesOver_46 rfl rfl ?_
      refine r_iald (pc := 47) X hT.2.2.2.2.2.2.2.2.1 h.1 dX7_comesOver_47 ?_
      replace h := h.2
      refine r_iconst (pc := 48) (v := (nI 1)) X dX7_comesOver_48 (by decide) ?_
      refine r_iadd (pc := 49) X dX7_comesOver_49 ?_
      refine r_iast (pc := 50) X hT.2.2.2.2.2.2.2.2.1 h.1 dX7_comesOver_50 (fun F104 e1 => ?_)
      replace h := h.2 F104 e1
      refine r_ldc2 (pc := 51) (v := (lN 7919)) X w_1185 dX7_comesOver_51 ?_
      refine r_iload_n (pc := 54) X 1 dX7_comesOver_54 rfl rfl ?_
      refine r_i2l (pc := 55) X dX7_comesOver_55 rfl ?_
      refine r_lmul (pc := 56) X dX7_comesOver_56 ?_
      refine r_ldc2 (pc := 57) (v := (lN 6151)) X w_1186 dX7_comesOver_57 ?_
      refine r_iload_n (pc := 60) X 2 dX7_comesOver_60 rfl rfl ?_
      refine r_i2l (pc := 61) X dX7_comesOver_61 rfl ?_
      refine r_lmul (pc := 62) X dX7_comesOver_62 ?_
      refine r_ladd (pc := 63) X dX7_comesOver_63 ?_
      refine r_ldc2 (pc := 64) (v := (lN 331)) X w_1187 dX7_comesOver_64 ?_
      refine r_aload_n (pc := 67) X 0 dX7_comesOver_67 rfl rfl ?_
      refine fg_X7_47 (pc := 68) X hT.1 dX7_comesOver_68 ?_
      refine r_iconst (pc := 71) (v := (nI 1)) X dX7_comesOver_71 (by decide) ?_
      refine r_iald (pc := 72) X hT.2.2.2.2.2.2.2.2.1 h.1 dX7_comesOver_72 ?_
      replace h := h.2
      refine r_i2l (pc := 73) X dX7_comesOver_73 rfl ?_
      refine r_lmul (pc := 74) X dX7_comesOver_74 ?_
      refine r_ladd (pc := 75) X dX7_comesOver_75 ?_
      refine r_lconst (pc := 76) (v := (lN 1)) X dX7_comesOver_76 (by decide) ?_
      refine r_ladd (pc := 77) X dX7_comesOver_77 ?_
      refine r_lstore_n (pc := 78) X [(3, .long (((((lN 7919) * (v1).toInt64) + ((lN 6151) * (v2).toInt64)) + ((lN 331) * ((F104 121 (nI 1).toNatClampNeg)).toInt64)) + (lN 1))), (0, .ref (ad 100)), (1, .int v1), (2, .int v2)] dX7_comesOver_78 rfl (by decide) rfl ?_
      refine r_lload_n (pc := 79) X 0 dX7_comesOver_79 rfl rfl ?_
      refine r_lload_n (pc := 80) X 0 dX7_comesOver_80 rfl rfl ?_
      refine r_lmul (pc := 81) X dX7_comesOver_81 ?_
      refine r_ldc2 (pc := 82) (v := (lN 65521)) X w_1188 dX7_comesOver_82 ?_
      refine r_lrem (pc := 85) X dX7_comesOver_85 (by decide) ?_
      refine r_ldc2 (pc := 86) (v := (lN 8)) X w_1189 dX7_comesOver_86 ?_
      refine r_ldiv (pc := 89) X dX7_comesOver_89 (by decide) ?_
      refine r_ldc2 (pc := 90) (v := (lN 21)) X w_1190 dX7_comesOver_90 ?_
      refine r_lrem (pc := 93) X dX7_comesOver_93 (by decide) ?_
      refine r_l2i (pc := 94) X dX7_comesOver_94 rfl ?_
      refine r_istore (pc := 95) X [(5, .int ((((((((((lN 7919) * (v1).toInt64) + ((lN 6151) * (v2).toInt64)) + ((lN 331) * ((F104 121 (nI 1).toNatClampNeg)).toInt64)) + (lN 1)) * (((((lN 7919) * (v1).toInt64) + ((lN 6151) * (v2).toInt64)) + ((lN 331) * ((F104 121 (nI 1).toNatClampNeg)).toInt64)) + (lN 1))) - ((((((lN 7919) * (v1).toInt64) + ((lN 6151) * (v2).toInt64)) + ((lN 331) * ((F104 121 (nI 1).toNatClampNeg)).toInt64)) + (lN 1)) * (((((lN 7919) * (v1).toInt64) + ((lN 6151) * (v2).toInt64)) + ((lN 331) * ((F104 121 (nI 1).toNatClampNeg)).toInt64)) + (lN 1))) / (lN 65521) * (lN 65521)) / (lN 8)) - ((((((((lN 7919) * (v1).toInt64) + ((lN 6151) * (v2).toInt64)) + ((lN 331) * ((F104 121 (nI 1).toNatClampNeg)).toInt64)) + (lN 1)) * (((((lN 7919) * (v1).toInt64) + ((lN 6151) * (v2).toInt64)) + ((lN 331) * ((F104 121 (nI 1).toNatClampNeg)).toInt64)) + (lN 1))) - ((((((lN 7919) * (v1).toInt64) + ((lN 6151) * (v2).toInt64)) + ((lN 331) * ((F104 121 (nI 1).toNatClampNeg)).toInt64)) + (lN 1)) * (((((lN 7919) * (v1).toInt64) + ((lN 6151) * (v2).toInt64)) + ((lN 331) * ((F104 121 (nI 1).toNatClampNeg)).toInt64)) + (lN 1))) / (lN 65521) * (lN 65521)) / (lN 8)) / (lN 21) * (lN 21))).toInt32), (3, .long (((((lN 7919) * (v1).toInt64) + ((lN 6151) * (v2).toInt64)) + ((lN 331) * ((F104 121 (nI 1).toNatClampNeg)).toInt64)) + (lN 1))), (0, .ref (ad 100)), (1, .int v1), (2, .int v2)] dX7_comesOver_95 (by decide) rfl ?_
      refine r_aload_n (pc := 97) X 2 dX7_comesOver_97 rfl rfl ?_
      refine r_aload_n (pc := 98) X 2 dX7_comesOver_98 rfl rfl ?_
      refine fg_X7_47 (pc := 99) X hT.1 dX7_comesOver_99 ?_
      refine r_iload (pc := 102) X 0 dX7_comesOver_102 rfl ?_
      refine r_callIV (pc := 104) (As := [.ref (ad 121), .int ((((((((((lN 7919) * (v1).toInt64) + ((lN 6151) * (v2).toInt64)) + ((lN 331) * ((F104 121 (nI 1).toNatClampNeg)).toInt64)) + (lN 1)) * (((((lN 7919) * (v1).toInt64) + ((lN 6151) * (v2).toInt64)) + ((lN 331) * ((F104 121 (nI 1).toNatClampNeg)).toInt64)) + (lN 1))) - ((((((lN 7919) * (v1).toInt64) + ((lN 6151) * (v2).toInt64)) + ((lN 331) * ((F104 121 (nI 1).toNatClampNeg)).toInt64)) + (lN 1)) * (((((lN 7919) * (v1).toInt64) + ((lN 6151) * (v2).toInt64)) + ((lN 331) * ((F104 121 (nI 1).toNatClampNeg)).toInt64)) + (lN 1))) / (lN 65521) * (lN 65521)) / (lN 8)) - ((((((((lN 7919) * (v1).toInt64) + ((lN 6151) * (v2).toInt64)) + ((lN 331) * ((F104 121 (nI 1).toNatClampNeg)).toInt64)) + (lN 1)) * (((((lN 7919) * (v1).toInt64) + ((lN 6151) * (v2).toInt64)) + ((lN 331) * ((F104 121 (nI 1).toNatClampNeg)).toInt64)) + (lN 1))) - ((((((lN 7919) * (v1).toInt64) + ((lN 6151) * (v2).toInt64)) + ((lN 331) * ((F104 121 (nI 1).toNatClampNeg)).toInt64)) + (lN 1)) * (((((lN 7919) * (v1).toInt64) + ((lN 6151) * (v2).toInt64)) + ((lN 331) * ((F104 121 (nI 1).toNatClampNeg)).toInt64)) + (lN 1))) / (lN 65521) * (lN 65521)) / (lN 8)) / (lN 21) * (lN 21))).toInt32]) (st := []) X hA (c_X7_passes hT hT.2.2.2.2.2.2.2.2.1 h) g_X7_201 cl_X7 hT.1 hd_X7_passes rfl rfl rfl ⟨Nat.le_of_ble_eq_true rfl, Nat.le_of_ble_eq_true rfl⟩ rfl (Nat.le_of_ble_eq_true rfl) dX7_comesOver_104 (fun x1 F105 h => ?_)
      refine r_if_ne (pc := 107) (tgt := 112) X dX7_comesOver_107 (by decide) (fun hc => ?_) (fun hc => ?_)
      · replace h := h.1 hc
        refine r_goto (pc := 112) (tgt := 28) X dX7_comesOver_112 (by decide) ?_
        refine r_sub [2, 3, 4] rfl ?_
        exact ih _ _ _ h
      · replace h := h.2 hc
        refine r_iconst (pc := 110) (v := (nI 0)) X dX7_comesOver_110 (by decide) ?_
        exact r_zret (pc := 111) X hr dX7_comesOver_111 nb0 h
def wp_X7_comesOver (K : Int32 → HF → Prop) (F : HF) (a1 : Int32) (a2 : Int32) : Prop := wp_X7_copy (fun F1 => wp_X7_freshen (fun F2 => (vp_in (nI 2) 21) ∧ (∀ F3 : HF, F3 = hup F2 121 (nI 2).toNatClampNeg a2 → (∃ m_, wp_X7_comesOver_28 K  m_ F3 a1 a2))) F1 121 21) F 120 21 121 21 (nI 0) (nI 0)
set_option maxRecDepth 100000 in
set_option maxHeartbeats 4000000 in
theorem c_X7_comesOver {l : Launch} {D : va_G} {dA : Nat → ClassId} {ad : Nat → Nat} {R : List Nat} {F : HF} {a1 : Int32} {a2 : Int32} {K : Int32 → HF → Prop} (hT : Md R) (h : wp_X7_comesOver K F a1 a2) : MI l yX7_comesOver cX7_comesOver 6 .boolean rm_X7_comesOver D dA ad R F [.ref (ad 100), .int a1, .int a2] K := by
  refine MI.of (own := RX7) (by decide) rfl (Nat.le_of_ble_eq_true rfl) ?_
  intro p e s m args below meth c A hA X hr
  unfold wp_X7_comesOver at h
  show J p l e rm_X7_comesOver s m args below meth c 6 D dA ad R A (QI D dA ad R A below args s K) F 0 [(0, .ref (ad 100)), (1, .int a1), (2, .int a2)] []
  refine r_aload_n (pc := 0) X 0 dX7_comesOver_0 rfl rfl ?_
  refine fg_X7_44 (pc := 1) X hT.1 dX7_comesOver_1 ?_
  refine r_iconst (pc := 4) (v := (nI 0)) X dX7_comesOver_4 (by decide) ?_
  refine r_aload_n (pc := 5) X 0 dX7_comesOver_5 rfl rfl ?_
  refine fg_X7_47 (pc := 6) X hT.1 dX7_comesOver_6 ?_
  refine r_iconst (pc := 9) (v := (nI 0)) X dX7_comesOver_9 (by decide) ?_
  refine r_callVS (pc := 10) (As := [.ref (ad 120), .int (nI 0), .ref (ad 121), .int (nI 0)]) (st := []) X hA (c_X7_copy hT.2.2.2.2.2.2.2.1 hT.2.2.2.2.2.2.2.2.1 h) g_X7_185 hd_X7_copy rfl rfl rfl ⟨Nat.le_of_ble_eq_true rfl, Nat.le_of_ble_eq_true rfl⟩ rfl (Nat.le_of_ble_eq_true rfl) dX7_comesOver_10 (fun F1 h => ?_)
  refine r_aload_n (pc := 13) X 0 dX7_comesOver_13 rfl rfl ?_
  refine r_aload_n (pc := 14) X 0 dX7_comesOver_14 rfl rfl ?_
  refine fg_X7_47 (pc := 15) X hT.1 dX7_comesOver_15 ?_
  refine r_callVV (pc := 18) (As := [.ref (ad 121)]) (st := []) X hA (c_X7_freshen hT hT.2.2.2.2.2.2.2.2.1 h) g_X7_207 cl_X7 hT.1 hd_X7_freshen rfl rfl rfl ⟨Nat.le_of_ble_eq_true rfl, Nat.le_of_ble_eq_true rfl⟩ rfl (Nat.le_of_ble_eq_true rfl) dX7_comesOver_18 (fun F2 h => ?_)
  refine r_aload_n (pc := 21) X 0 dX7_comesOver_21 rfl rfl ?_
  refine fg_X7_47 (pc := 22) X hT.1 dX7_comesOver_22 ?_
  refine r_iconst (pc := 25) (v := (nI 2)) X dX7_comesOver_25 (by decide) ?_
  refine r_iload_n (pc := 26) X 2 dX7_comesOver_26 rfl rfl ?_
  refine r_iast (pc := 27) X hT.2.2.2.2.2.2.2.2.1 h.1 dX7_comesOver_27 (fun F3 e1 => ?_)
  replace h := h.2 F3 e1
  obtain ⟨n1, h⟩ := h
  exact k_X7_comesOver_28 X hA hr hT  n1 _ _ _ h
theorem dX7_century_0 : decode cX7_century 0 = .ok (.iload_n 1, 1) := by decide +kernel
theorem dX7_century_1 : decode cX7_century 1 = .ok (.iconst 0, 1) := by decide +kernel
theorem dX7_century_2 : decode cX7_century 2 = .ok (.sipush 9999, 3) := by decide +kernel
theorem dX7_century_5 : decode cX7_century 5 = .ok (.invokestatic 87, 3) := by decide +kernel
theorem dX7_century_8 : decode cX7_century 8 = .ok (.ifCond .eq 22, 3) := by decide +kernel
theorem dX7_century_11 : decode cX7_century 11 = .ok (.iload_n 2, 1) := by decide +kernel
theorem dX7_century_12 : decode cX7_century 12 = .ok (.iconst 1, 1) := by decide +kernel
theorem dX7_century_13 : decode cX7_century 13 = .ok (.bipush 90, 2) := by decide +kernel
theorem dX7_century_15 : decode cX7_century 15 = .ok (.invokestatic 87, 3) := by decide +kernel
theorem dX7_century_18 : decode cX7_century 18 = .ok (.ifCond .eq 12, 3) := by decide +kernel
theorem dX7_century_21 : decode cX7_century 21 = .ok (.iload_n 3, 1) := by decide +kernel
theorem dX7_century_22 : decode cX7_century 22 = .ok (.iconst 0, 1) := by decide +kernel
theorem dX7_century_23 : decode cX7_century 23 = .ok (.iconst 1, 1) := by decide +kernel
theorem dX7_century_24 : decode cX7_century 24 = .ok (.invokestatic 87, 3) := by decide +kernel
theorem dX7_century_27 : decode cX7_century 27 = .ok (.ifCond .ne 5, 3) := by decide +kernel
theorem dX7_century_30 : decode cX7_century 30 = .ok (.iconst (-1), 1) := by decide +kernel
theorem dX7_century_31 : decode cX7_century 31 = .ok (.ireturn, 1) := by decide +kernel
theorem dX7_century_32 : decode cX7_century 32 = .ok (.aload_n 0, 1) := by decide +kernel
theorem dX7_century_33 : decode cX7_century 33 = .ok (.aload_n 0, 1) := by decide +kernel
theorem dX7_century_34 : decode cX7_century 34 = .ok (.getfield 44, 3) := by decide +kernel
theorem dX7_century_37 : decode cX7_century 37 = .ok (.invokevirtual 189, 3) := by decide +kernel
theorem dX7_century_40 : decode cX7_century 40 = .ok (.ifCond .ne 6, 3) := by decide +kernel
theorem dX7_century_43 : decode cX7_century 43 = .ok (.bipush (-2), 2) := by decide +kernel
theorem dX7_century_45 : decode cX7_century 45 = .ok (.ireturn, 1) := by decide +kernel
theorem dX7_century_46 : decode cX7_century 46 = .ok (.iconst 0, 1) := by decide +kernel
theorem dX7_century_47 : decode cX7_century 47 = .ok (.istore 4, 2) := by decide +kernel
theorem dX7_century_49 : decode cX7_century 49 = .ok (.bipush (-4), 2) := by decide +kernel
theorem dX7_century_51 : decode cX7_century 51 = .ok (.istore 5, 2) := by decide +kernel
theorem dX7_century_53 : decode cX7_century 53 = .ok (.iconst 0, 1) := by decide +kernel
theorem dX7_century_54 : decode cX7_century 54 = .ok (.istore 6, 2) := by decide +kernel
theorem dX7_century_56 : decode cX7_century 56 = .ok (.iload 6, 2) := by decide +kernel
theorem dX7_century_58 : decode cX7_century 58 = .ok (.iload_n 2, 1) := by decide +kernel
theorem dX7_century_59 : decode cX7_century 59 = .ok (.if_icmp .ge 54, 3) := by decide +kernel
theorem dX7_century_62 : decode cX7_century 62 = .ok (.aload_n 0, 1) := by decide +kernel
theorem dX7_century_63 : decode cX7_century 63 = .ok (.iload_n 1, 1) := by decide +kernel
theorem dX7_century_64 : decode cX7_century 64 = .ok (.iload 6, 2) := by decide +kernel
theorem dX7_century_66 : decode cX7_century 66 = .ok (.invokevirtual 244, 3) := by decide +kernel
theorem dX7_century_69 : decode cX7_century 69 = .ok (.istore 7, 2) := by decide +kernel
theorem dX7_century_71 : decode cX7_century 71 = .ok (.iload 4, 2) := by decide +kernel
theorem dX7_century_73 : decode cX7_century 73 = .ok (.iload 7, 2) := by decide +kernel
theorem dX7_century_75 : decode cX7_century 75 = .ok (.ifCond .eq 7, 3) := by decide +kernel
theorem dX7_century_78 : decode cX7_century 78 = .ok (.iconst 1, 1) := by decide +kernel
theorem dX7_century_79 : decode cX7_century 79 = .ok (.goto 4, 3) := by decide +kernel
theorem dX7_century_82 : decode cX7_century 82 = .ok (.iconst 0, 1) := by decide +kernel
theorem dX7_century_83 : decode cX7_century 83 = .ok (.iadd, 1) := by decide +kernel
theorem dX7_century_84 : decode cX7_century 84 = .ok (.istore 4, 2) := by decide +kernel
theorem dX7_century_86 : decode cX7_century 86 = .ok (.iload 5, 2) := by decide +kernel
theorem dX7_century_88 : decode cX7_century 88 = .ok (.bipush (-4), 2) := by decide +kernel
theorem dX7_century_90 : decode cX7_century 90 = .ok (.if_icmp .ne 13, 3) := by decide +kernel
theorem dX7_century_93 : decode cX7_century 93 = .ok (.iload 7, 2) := by decide +kernel
theorem dX7_century_95 : decode cX7_century 95 = .ok (.ifCond .ne 8, 3) := by decide +kernel
theorem dX7_century_98 : decode cX7_century 98 = .ok (.iload 6, 2) := by decide +kernel
theorem dX7_century_100 : decode cX7_century 100 = .ok (.goto 5, 3) := by decide +kernel
theorem dX7_century_103 : decode cX7_century 103 = .ok (.iload 5, 2) := by decide +kernel
theorem dX7_century_105 : decode cX7_century 105 = .ok (.istore 5, 2) := by decide +kernel
theorem dX7_century_107 : decode cX7_century 107 = .ok (.iinc 6 1, 3) := by decide +kernel
theorem dX7_century_110 : decode cX7_century 110 = .ok (.goto (-54), 3) := by decide +kernel
theorem dX7_century_113 : decode cX7_century 113 = .ok (.iload_n 3, 1) := by decide +kernel
theorem dX7_century_114 : decode cX7_century 114 = .ok (.ifCond .ne 8, 3) := by decide +kernel
theorem dX7_century_117 : decode cX7_century 117 = .ok (.iload 4, 2) := by decide +kernel
theorem dX7_century_119 : decode cX7_century 119 = .ok (.goto 5, 3) := by decide +kernel
theorem dX7_century_122 : decode cX7_century 122 = .ok (.iload 5, 2) := by decide +kernel
theorem dX7_century_124 : decode cX7_century 124 = .ok (.ireturn, 1) := by decide +kernel
theorem hd_X7_century : yX7_century.cls = RX7 ∧ yX7_century.cls ≠ "java/lang/invoke/MethodHandle" ∧ yX7_century.cls ≠ "java/lang/invoke/VarHandle" ∧ (parseMethodDescriptor yX7_century.desc).map (fun d => d.parameters.length) = some 3 := by decide +kernel
abbrev rm_X7_century : Room := { frames := 6, cells := 0, slots := 0, locals := 139 }
def wp_X7_century_105 (K : Int32 → HF → Prop) (L56 : HF → Int32 → Int32 → Int32 → Int32 → Int32 → Int32 → Prop) (F : HF) (v1 : Int32) (v2 : Int32) (v3 : Int32) (v4 : Int32) (v6 : Int32) (s0 : Int32) : Prop := L56 F v1 v2 v3 v4 s0 (v6 + (nI 1))
set_option maxRecDepth 100000 in
set_option maxHeartbeats 4000000 in
theorem k_X7_century_105 {p : Program} {l : Launch} {e : Env} {s : State} {m : MethodId} {args : Array Value} {below : List Frame} {meth : Method} {c : Code} {D : va_G} {dA : Nat → ClassId} {ad : Nat → Nat} {R : List Nat} {A : Nat → Prop} {K : Int32 → HF → Prop} {L56 : HF → Int32 → Int32 → Int32 → Int32 → Int32 → Int32 → Prop} (X : Cx p s m args meth c cX7_century 8 RX7 D dA) (hA : ∀ q, s.heap.size ≤ q → A q) (hr : meth.sig.returnType = some .int) (hT : Md R) (hL56 : ∀ (F : HF) (v1 : Int32) (v2 : Int32) (v3 : Int32) (v4 : Int32) (v5 : Int32) (v6 : Int32), L56 F v1 v2 v3 v4 v5 v6 → J p l e rm_X7_century s m args below meth c 8 D dA ad R A (QI D dA ad R A below args s K) F 56 [(0, .ref (ad 100)), (1, .int v1), (2, .int v2), (3, .int v3), (4, .int v4), (5, .int v5), (6, .int v6)] []) : ∀ (F : HF) (v1 : Int32) (v2 : Int32) (v3 : Int32) (v4 : Int32) (v6 : Int32) (s0 : Int32), wp_X7_century_105 K L56  F v1 v2 v3 v4 v6 s0 → J p l e rm_X7_century s m args below meth c 8 D dA ad R A (QI D dA ad R A below args s K) F 105 [(0, .ref (ad 100)), (1, .int v1), (2, .int v2), (3, .int v3), (4, .int v4), (6, .int v6)] [.int s0] := by
  intro F v1 v2 v3 v4 v6 s0 h
  unfold wp_X7_century_105 at h
  refine r_istore (pc := 105) X [(5, .int s0), (0, .ref (ad 100)), (1, .int v1), (2, .int v2), (3, .int v3), (4, .int v4), (6, .int v6)] dX7_century_105 (by decide) rfl ?_
  refine r_iinc (pc := 107) (v := (v6 + (nI 1))) X 6 [(6, .int (v6 + (nI 1))), (5, .int s0), (0, .ref (ad 100)), (1, .int v1), (2, .int v2), (3, .int v3), (4, .int v4)] dX7_century_107 rfl rfl (by decide) rfl ?_
  refine r_goto (pc := 110) (tgt := 56) X dX7_century_110 (by decide) ?_
  refine r_sub [2, 3, 4, 5, 6, 1, 0] rfl ?_
  exact hL56 _ _ _ _ _ _ _ h
def wp_X7_century_103 (K : Int32 → HF → Prop) (L56 : HF → Int32 → Int32 → Int32 → Int32 → Int32 → Int32 → Prop) (F : HF) (v1 : Int32) (v2 : Int32) (v3 : Int32) (v4 : Int32) (v5 : Int32) (v6 : Int32) : Prop := wp_X7_century_105 K L56  F v1 v2 v3 v4 v6 v5
set_option maxRecDepth 100000 in
set_option maxHeartbeats 4000000 in
theorem k_X7_century_103 {p : Program} {l : Launch} {e : Env} {s : State} {m : MethodId} {args : Array Value} {below : List Frame} {meth : Method} {c : Code} {D : va_G} {dA : Nat → ClassId} {ad : Nat → Nat} {R : List Nat} {A : Nat → Prop} {K : Int32 → HF → Prop} {L56 : HF → Int32 → Int32 → Int32 → Int32 → Int32 → Int32 → Prop} (X : Cx p s m args meth c cX7_century 8 RX7 D dA) (hA : ∀ q, s.heap.size ≤ q → A q) (hr : meth.sig.returnType = some .int) (hT : Md R) (hL56 : ∀ (F : HF) (v1 : Int32) (v2 : Int32) (v3 : Int32) (v4 : Int32) (v5 : Int32) (v6 : Int32), L56 F v1 v2 v3 v4 v5 v6 → J p l e rm_X7_century s m args below meth c 8 D dA ad R A (QI D dA ad R A below args s K) F 56 [(0, .ref (ad 100)), (1, .int v1), (2, .int v2), (3, .int v3), (4, .int v4), (5, .int v5), (6, .int v6)] []) : ∀ (F : HF) (v1 : Int32) (v2 : Int32) (v3 : Int32) (v4 : Int32) (v5 : Int32) (v6 : Int32), wp_X7_century_103 K L56  F v1 v2 v3 v4 v5 v6 → J p l e rm_X7_century s m args below meth c 8 D dA ad R A (QI D dA ad R A below args s K) F 103 [(0, .ref (ad 100)), (1, .int v1), (2, .int v2), (3, .int v3), (4, .int v4), (5, .int v5), (6, .int v6)] [] := by
  intro F v1 v2 v3 v4 v5 v6 h
  unfold wp_X7_century_103 at h
  refine r_iload (pc := 103) X 5 dX7_century_103 rfl ?_
  refine r_sub [0, 1, 2, 3, 4, 6] rfl ?_
  exact k_X7_century_105 X hA hr hT hL56 _ _ _ _ _ _ _ h
def wp_X7_century_83 (K : Int32 → HF → Prop) (L56 : HF → Int32 → Int32 → Int32 → Int32 → Int32 → Int32 → Prop) (F : HF) (v1 : Int32) (v2 : Int32) (v3 : Int32) (v5 : Int32) (v6 : Int32) (v7 : Int32) (s0 : Int32) (s1 : Int32) : Prop := ((¬ v5 = (-4 : Int32)) → (wp_X7_century_103 K L56  F v1 v2 v3 (s0 + s1) v5 v6)) ∧ ((v5 = (-4 : Int32)) → (((¬ v7 = (nI 0)) → (wp_X7_century_103 K L56  F v1 v2 v3 (s0 + s1) v5 v6)) ∧ ((v7 = (nI 0)) → (wp_X7_century_105 K L56  F v1 v2 v3 (s0 + s1) v6 v6))))
set_option maxRecDepth 100000 in
set_option maxHeartbeats 4000000 in
theorem k_X7_century_83 {p : Program} {l : Launch} {e : Env} {s : State} {m : MethodId} {args : Array Value} {below : List Frame} {meth : Method} {c : Code} {D : va_G} {dA : Nat → ClassId} {ad : Nat → Nat} {R : List Nat} {A : Nat → Prop} {K : Int32 → HF → Prop} {L56 : HF → Int32 → Int32 → Int32 → Int32 → Int32 → Int32 → Prop} (X : Cx p s m args meth c cX7_century 8 RX7 D dA) (hA : ∀ q, s.heap.size ≤ q → A q) (hr : meth.sig.returnType = some .int) (hT : Md R) (hL56 : ∀ (F : HF) (v1 : Int32) (v2 : Int32) (v3 : Int32) (v4 : Int32) (v5 : Int32) (v6 : Int32), L56 F v1 v2 v3 v4 v5 v6 → J p l e rm_X7_century s m args below meth c 8 D dA ad R A (QI D dA ad R A below args s K) F 56 [(0, .ref (ad 100)), (1, .int v1), (2, .int v2), (3, .int v3), (4, .int v4), (5, .int v5), (6, .int v6)] []) : ∀ (F : HF) (v1 : Int32) (v2 : Int32) (v3 : Int32) (v5 : Int32) (v6 : Int32) (v7 : Int32) (s0 : Int32) (s1 : Int32), wp_X7_century_83 K L56  F v1 v2 v3 v5 v6 v7 s0 s1 → J p l e rm_X7_century s m args below meth c 8 D dA ad R A (QI D dA ad R A below args s K) F 83 [(0, .ref (ad 100)), (1, .int v1), (2, .int v2), (3, .int v3), (5, .int v5), (6, .int v6), (7, .int v7)] [.int s1, .int s0] := by
  intro F v1 v2 v3 v5 v6 v7 s0 s1 h
  unfold wp_X7_century_83 at h
  refine r_iadd (pc := 83) X dX7_century_83 ?_
  refine r_istore (pc := 84) X [(4, .int (s0 + s1)), (0, .ref (ad 100)), (1, .int v1), (2, .int v2), (3, .int v3), (5, .int v5), (6, .int v6), (7, .int v7)] dX7_century_84 (by decide) rfl ?_
  refine r_iload (pc := 86) X 5 dX7_century_86 rfl ?_
  refine r_bipush (pc := 88) (v := (-4 : Int32)) X dX7_century_88 (by decide) ?_
  refine r_icmp_ne (pc := 90) (tgt := 103) X dX7_century_90 (by decide) (fun hc => ?_) (fun hc => ?_)
  · replace h := h.1 hc
    refine r_sub [1, 2, 3, 4, 0, 5, 6] rfl ?_
    exact k_X7_century_103 X hA hr hT hL56 _ _ _ _ _ _ _ h
  · replace h := h.2 hc
    refine r_iload (pc := 93) X 7 dX7_century_93 rfl ?_
    refine r_if_ne (pc := 95) (tgt := 103) X dX7_century_95 (by decide) (fun hc => ?_) (fun hc => ?_)
    · replace h := h.1 hc
      refine r_sub [1, 2, 3, 4, 0, 5, 6] rfl ?_
      exact k_X7_century_103 X hA hr hT hL56 _ _ _ _ _ _ _ h
    · replace h := h.2 hc
      refine r_iload (pc := 98) X 6 dX7_century_98 rfl ?_
      refine r_goto (pc := 100) (tgt := 105) X dX7_century_100 (by decide) ?_
      refine r_sub [1, 2, 3, 4, 0, 6] rfl ?_
      exact k_X7_century_105 X hA hr hT hL56 _ _ _ _ _ _ _ h
def wp_X7_century_56 (K : Int32 → HF → Prop) : Nat → HF → Int32 → Int32 → Int32 → Int32 → Int32 → Int32 → Prop
  | 0 => fun _ _ _ _ _ _ _ => False
  | n56_ + 1 => fun F v1 v2 v3 v4 v5 v6 => ((v2 ≤ v6) → (((¬ v3 = (nI 0)) → (K v5 F)) ∧ ((v3 = (nI 0)) → (K v4 F)))) ∧ ((¬ v2 ≤ v6) → (wp_X7_comesOver (fun x5 F105 => ((x5 = (nI 0)) → (wp_X7_century_83 K (wp_X7_century_56 K n56_)  F105 v1 v2 v3 v5 v6 x5 v4 (nI 0))) ∧ ((¬ x5 = (nI 0)) → (wp_X7_century_83 K (wp_X7_century_56 K n56_)  F105 v1 v2 v3 v5 v6 x5 v4 (nI 1)))) F v1 v6))
set_option maxRecDepth 100000 in
set_option maxHeartbeats 4000000 in
theorem k_X7_century_56 {p : Program} {l : Launch} {e : Env} {s : State} {m : MethodId} {args : Array Value} {below : List Frame} {meth : Method} {c : Code} {D : va_G} {dA : Nat → ClassId} {ad : Nat → Nat} {R : List Nat} {A : Nat → Prop} {K : Int32 → HF → Prop} (X : Cx p s m args meth c cX7_century 8 RX7 D dA) (hA : ∀ q, s.heap.size ≤ q → A q) (hr : meth.sig.returnType = some .int) (hT : Md R) : ∀ (n_ : Nat) (F : HF) (v1 : Int32) (v2 : Int32) (v3 : Int32) (v4 : Int32) (v5 : Int32) (v6 : Int32), wp_X7_century_56 K  n_ F v1 v2 v3 v4 v5 v6 → J p l e rm_X7_century s m args below meth c 8 D dA ad R A (QI D dA ad R A below args s K) F 56 [(0, .ref (ad 100)), (1, .int v1), (2, .int v2), (3, .int v3), (4, .int v4), (5, .int v5), (6, .int v6)] [] := by
  intro n_
  induction n_ with
  | zero => intro F v1 v2 v3 v4 v5 v6 h; exact h.elim
  | succ n_ ih =>
    intro F v1 v2 v3 v4 v5 v6 h
    unfold wp_X7_century_56 at h
    refine r_iload (pc := 56) X 6 dX7_century_56 rfl ?_
    refine r_iload_n (pc := 58) X 2 dX7_century_58 rfl rfl ?_
    refine r_icmp_ge (pc := 59) (tgt := 113) X dX7_century_59 (by decide) (fun hc => ?_) (fun hc => ?_)
    · replace h := h.1 hc
      refine r_iload_n (pc := 113) X 3 dX7_century_113 rfl rfl ?_
      refine r_if_ne (pc := 114) (tgt := 122) X dX7_century_114 (by decide) (fun hc => ?_) (fun hc => ?_)
      · replace h := h.1 hc
        refine r_iload (pc := 122) X 5 dX7_century_122 rfl ?_
        exact r_iret (pc := 124) X hr dX7_century_124 h
      · replace h := h.2 hc
        refine r_iload (pc := 117) X 4 dX7_century_117 rfl ?_
        refine r_goto (pc := 119) (tgt := 124) X dX7_century_119 (by decide) ?_
        exact r_iret (pc := 124) X hr dX7_century_124 h
    · replace h := h.2 hc
      refine r_aload_n (pc := 62) X 0 dX7_century_62 rfl rfl ?_
      refine r_iload_n (pc := 63) X 1 dX7_century_63 rfl rfl ?_
      refine r_iload (pc := 64) X 6 dX7_century_64 rfl ?_
      refine r_callIV (pc := 66) (As := [.int v1, .int v6]) (st := []) X hA (c_X7_comesOver hT h) g_X7_244 cl_X7 hT.1 hd_X7_comesOver rfl rfl rfl ⟨Nat.le_of_ble_eq_true rfl, Nat.le_of_ble_eq_true rfl⟩ rfl (Nat.le_of_ble_eq_true rfl) dX7_century_66 (fun x5 F105 h => ?_)
      refine r_istore (pc := 69) X [(7, .int x5), (0, .ref (ad 100)), (1, .int v1), (2, .int v2), (3, .int v3), (4, .int v4), (5, .int v5), (6, .int v6)] dX7_century_69 (by decide) rfl ?_
      refine r_iload (pc := 71) X 5 dX7_century_71 rfl ?_
      refine r_iload (pc := 73) X 0 dX7_century_73 rfl ?_
      refine r_if_eq (pc := 75) (tgt := 82) X dX7_century_75 (by decide) (fun hc => ?_) (fun hc => ?_)
      · replace h := h.1 hc
        refine r_iconst (pc := 82) (v := (nI 0)) X dX7_century_82 (by decide) ?_
        refine r_sub [1, 2, 3, 4, 6, 7, 0] rfl ?_
        exact k_X7_century_83 X hA hr hT ih _ _ _ _ _ _ _ _ _ h
      · replace h := h.2 hc
        refine r_iconst (pc := 78) (v := (nI 1)) X dX7_century_78 (by decide) ?_
        refine r_goto (pc := 79) (tgt := 83) X dX7_century_79 (by decide) ?_
        refine r_sub [1, 2, 3, 4, 6, 7, 0] rfl ?_
        exact k_X7_century_83 X hA hr hT ih _ _ _ _ _ _ _ _ _ h
def wp_X7_century (K : Int32 → HF → Prop) (F : HF) (a1 : Int32) (a2 : Int32) (a3 : Int32) : Prop := wp_X7_in (fun x1 F1 => ((x1 = (nI 0)) → (K (-1 : Int32) F1)) ∧ ((¬ x1 = (nI 0)) → (wp_X7_in (fun x2 F2 => ((x2 = (nI 0)) → (K (-1 : Int32) F2)) ∧ ((¬ x2 = (nI 0)) → (wp_X7_in (fun x3 F3 => ((¬ x3 = (nI 0)) → (wp_X7_isWhole (fun x4 F4 => ((¬ x4 = (nI 0)) → (∃ m_, wp_X7_century_56 K  m_ F4 a1 a2 a3 (nI 0) (-4 : Int32) (nI 0))) ∧ ((x4 = (nI 0)) → (K (-2 : Int32) F4))) F3 120 21)) ∧ ((x3 = (nI 0)) → (K (-1 : Int32) F3))) F2 a3 (nI 0) (nI 1)))) F1 a2 (nI 1) (nI 90)))) F a1 (nI 0) (nI 9999)
set_option maxRecDepth 100000 in
set_option maxHeartbeats 4000000 in
theorem c_X7_century {l : Launch} {D : va_G} {dA : Nat → ClassId} {ad : Nat → Nat} {R : List Nat} {F : HF} {a1 : Int32} {a2 : Int32} {a3 : Int32} {K : Int32 → HF → Prop} (hT : Md R) (h : wp_X7_century K F a1 a2 a3) : MI l yX7_century cX7_century 8 .int rm_X7_century D dA ad R F [.ref (ad 100), .int a1, .int a2, .int a3] K := by
  refine MI.of (own := RX7) (by decide) rfl (Nat.le_of_ble_eq_true rfl) ?_
  intro p e s m args below meth c A hA X hr
  unfold wp_X7_century at h
  show J p l e rm_X7_century s m args below meth c 8 D dA ad R A (QI D dA ad R A below args s K) F 0 [(0, .ref (ad 100)), (1, .int a1), (2, .int a2), (3, .int a3)] []
  refine r_iload_n (pc := 0) X 1 dX7_century_0 rfl rfl ?_
  refine r_iconst (pc := 1) (v := (nI 0)) X dX7_century_1 (by decide) ?_
  refine r_sipush (pc := 2) (v := (nI 9999)) X dX7_century_2 (by decide) ?_
  refine r_callIS (pc := 5) (As := [.int a1, .int (nI 0), .int (nI 9999)]) (st := []) X hA (c_X7_in  h) g_X7_87 hd_X7_in rfl rfl rfl ⟨Nat.le_of_ble_eq_true rfl, Nat.le_of_ble_eq_true rfl⟩ rfl (Nat.le_of_ble_eq_true rfl) dX7_century_5 (fun x1 F1 h => ?_)
  refine r_if_eq (pc := 8) (tgt := 30) X dX7_century_8 (by decide) (fun hc => ?_) (fun hc => ?_)
  · replace h := h.1 hc
    refine r_iconst (pc := 30) (v := (-1 : Int32)) X dX7_century_30 (by decide) ?_
    exact r_iret (pc := 31) X hr dX7_century_31 h
  · replace h := h.2 hc
    refine r_iload_n (pc := 11) X 2 dX7_century_11 rfl rfl ?_
    refine r_iconst (pc := 12) (v := (nI 1)) X dX7_century_12 (by decide) ?_
    refine r_bipush (pc := 13) (v := (nI 90)) X dX7_century_13 (by decide) ?_
    refine r_callIS (pc := 15) (As := [.int a2, .int (nI 1), .int (nI 90)]) (st := []) X hA (c_X7_in  h) g_X7_87 hd_X7_in rfl rfl rfl ⟨Nat.le_of_ble_eq_true rfl, Nat.le_of_ble_eq_true rfl⟩ rfl (Nat.le_of_ble_eq_true rfl) dX7_century_15 (fun x2 F2 h => ?_)
    refine r_if_eq (pc := 18) (tgt := 30) X dX7_century_18 (by decide) (fun hc => ?_) (fun hc => ?_)
    · replace h := h.1 hc
      refine r_iconst (pc := 30) (v := (-1 : Int32)) X dX7_century_30 (by decide) ?_
      exact r_iret (pc := 31) X hr dX7_century_31 h
    · replace h := h.2 hc
      refine r_iload_n (pc := 21) X 3 dX7_century_21 rfl rfl ?_
      refine r_iconst (pc := 22) (v := (nI 0)) X dX7_century_22 (by decide) ?_
      refine r_iconst (pc := 23) (v := (nI 1)) X dX7_century_23 (by decide) ?_
      refine r_callIS (pc := 24) (As := [.int a3, .int (nI 0), .int (nI 1)]) (st := []) X hA (c_X7_in  h) g_X7_87 hd_X7_in rfl rfl rfl ⟨Nat.le_of_ble_eq_true rfl, Nat.le_of_ble_eq_true rfl⟩ rfl (Nat.le_of_ble_eq_true rfl) dX7_century_24 (fun x3 F3 h => ?_)
      refine r_if_ne (pc := 27) (tgt := 32) X dX7_century_27 (by decide) (fun hc => ?_) (fun hc => ?_)
      · replace h := h.1 hc
        refine r_aload_n (pc := 32) X 0 dX7_century_32 rfl rfl ?_
        refine r_aload_n (pc := 33) X 0 dX7_century_33 rfl rfl ?_
        refine fg_X7_44 (pc := 34) X hT.1 dX7_century_34 ?_
        refine r_callIV (pc := 37) (As := [.ref (ad 120)]) (st := []) X hA (c_X7_isWhole hT hT.2.2.2.2.2.2.2.1 h) g_X7_189 cl_X7 hT.1 hd_X7_isWhole rfl rfl rfl ⟨Nat.le_of_ble_eq_true rfl, Nat.le_of_ble_eq_true rfl⟩ rfl (Nat.le_of_ble_eq_true rfl) dX7_century_37 (fun x4 F4 h => ?_)
        refine r_if_ne (pc := 40) (tgt := 46) X dX7_century_40 (by decide) (fun hc => ?_) (fun hc => ?_)
        · replace h := h.1 hc
          refine r_iconst (pc := 46) (v := (nI 0)) X dX7_century_46 (by decide) ?_
          refine r_istore (pc := 47) X [(4, .int (nI 0)), (0, .ref (ad 100)), (1, .int a1), (2, .int a2), (3, .int a3)] dX7_century_47 (by decide) rfl ?_
          refine r_bipush (pc := 49) (v := (-4 : Int32)) X dX7_century_49 (by decide) ?_
          refine r_istore (pc := 51) X [(5, .int (-4 : Int32)), (4, .int (nI 0)), (0, .ref (ad 100)), (1, .int a1), (2, .int a2), (3, .int a3)] dX7_century_51 (by decide) rfl ?_
          refine r_iconst (pc := 53) (v := (nI 0)) X dX7_century_53 (by decide) ?_
          refine r_istore (pc := 54) X [(6, .int (nI 0)), (5, .int (-4 : Int32)), (4, .int (nI 0)), (0, .ref (ad 100)), (1, .int a1), (2, .int a2), (3, .int a3)] dX7_century_54 (by decide) rfl ?_
          refine r_sub [3, 4, 5, 6, 2, 1, 0] rfl ?_
          obtain ⟨n1, h⟩ := h
          exact k_X7_century_56 X hA hr hT  n1 _ _ _ _ _ _ _ h
        · replace h := h.2 hc
          refine r_bipush (pc := 43) (v := (-2 : Int32)) X dX7_century_43 (by decide) ?_
          exact r_iret (pc := 45) X hr dX7_century_45 h
      · replace h := h.2 hc
        refine r_iconst (pc := 30) (v := (-1 : Int32)) X dX7_century_30 (by decide) ?_
        exact r_iret (pc := 31) X hr dX7_century_31 h
theorem dX7_keep_0 : decode cX7_keep 0 = .ok (.aload_n 0, 1) := by decide +kernel
theorem dX7_keep_1 : decode cX7_keep 1 = .ok (.getfield 81, 3) := by decide +kernel
theorem dX7_keep_4 : decode cX7_keep 4 = .ok (.iconst 2, 1) := by decide +kernel
theorem dX7_keep_5 : decode cX7_keep 5 = .ok (.if_icmp .ne 6, 3) := by decide +kernel
theorem dX7_keep_8 : decode cX7_keep 8 = .ok (.bipush (-3), 2) := by decide +kernel
theorem dX7_keep_10 : decode cX7_keep 10 = .ok (.ireturn, 1) := by decide +kernel
theorem dX7_keep_11 : decode cX7_keep 11 = .ok (.aload_n 0, 1) := by decide +kernel
theorem dX7_keep_12 : decode cX7_keep 12 = .ok (.getfield 44, 3) := by decide +kernel
theorem dX7_keep_15 : decode cX7_keep 15 = .ok (.iconst 0, 1) := by decide +kernel
theorem dX7_keep_16 : decode cX7_keep 16 = .ok (.aload_n 0, 1) := by decide +kernel
theorem dX7_keep_17 : decode cX7_keep 17 = .ok (.getfield 53, 3) := by decide +kernel
theorem dX7_keep_20 : decode cX7_keep 20 = .ok (.bipush 21, 2) := by decide +kernel
theorem dX7_keep_22 : decode cX7_keep 22 = .ok (.aload_n 0, 1) := by decide +kernel
theorem dX7_keep_23 : decode cX7_keep 23 = .ok (.getfield 81, 3) := by decide +kernel
theorem dX7_keep_26 : decode cX7_keep 26 = .ok (.imul, 1) := by decide +kernel
theorem dX7_keep_27 : decode cX7_keep 27 = .ok (.invokestatic 185, 3) := by decide +kernel
theorem dX7_keep_30 : decode cX7_keep 30 = .ok (.aload_n 0, 1) := by decide +kernel
theorem dX7_keep_31 : decode cX7_keep 31 = .ok (.dup, 1) := by decide +kernel
theorem dX7_keep_32 : decode cX7_keep 32 = .ok (.getfield 81, 3) := by decide +kernel
theorem dX7_keep_35 : decode cX7_keep 35 = .ok (.iconst 1, 1) := by decide +kernel
theorem dX7_keep_36 : decode cX7_keep 36 = .ok (.iadd, 1) := by decide +kernel
theorem dX7_keep_37 : decode cX7_keep 37 = .ok (.putfield 81, 3) := by decide +kernel
theorem dX7_keep_40 : decode cX7_keep 40 = .ok (.aload_n 0, 1) := by decide +kernel
theorem dX7_keep_41 : decode cX7_keep 41 = .ok (.getfield 81, 3) := by decide +kernel
theorem dX7_keep_44 : decode cX7_keep 44 = .ok (.ireturn, 1) := by decide +kernel
theorem hd_X7_keep : yX7_keep.cls = RX7 ∧ yX7_keep.cls ≠ "java/lang/invoke/MethodHandle" ∧ yX7_keep.cls ≠ "java/lang/invoke/VarHandle" ∧ (parseMethodDescriptor yX7_keep.desc).map (fun d => d.parameters.length) = some 0 := by decide +kernel
abbrev rm_X7_keep : Room := { frames := 1, cells := 0, slots := 0, locals := 24 }
def wp_X7_keep (K : Int32 → HF → Prop) (F : HF) : Prop := ((¬ (F 100 25) = (nI 2)) → (wp_X7_copy (fun F1 => ∀ F2 : HF, F2 = hup F1 100 25 ((F1 100 25) + (nI 1)) → (K (F2 100 25) F2)) F 120 21 124 42 (nI 0) ((nI 21) * (F 100 25)))) ∧ (((F 100 25) = (nI 2)) → (K (-3 : Int32) F))
set_option maxRecDepth 100000 in
set_option maxHeartbeats 4000000 in
theorem c_X7_keep {l : Launch} {D : va_G} {dA : Nat → ClassId} {ad : Nat → Nat} {R : List Nat} {F : HF} {K : Int32 → HF → Prop} (hT : Md R) (h : wp_X7_keep K F ) : MI l yX7_keep cX7_keep 1 .int rm_X7_keep D dA ad R F [.ref (ad 100)] K := by
  refine MI.of (own := RX7) (by decide) rfl (Nat.le_of_ble_eq_true rfl) ?_
  intro p e s m args below meth c A hA X hr
  unfold wp_X7_keep at h
  show J p l e rm_X7_keep s m args below meth c 1 D dA ad R A (QI D dA ad R A below args s K) F 0 [(0, .ref (ad 100))] []
  refine r_aload_n (pc := 0) X 0 dX7_keep_0 rfl rfl ?_
  refine fg_X7_81 (pc := 1) X hT.1 dX7_keep_1 ?_
  refine r_iconst (pc := 4) (v := (nI 2)) X dX7_keep_4 (by decide) ?_
  refine r_icmp_ne (pc := 5) (tgt := 11) X dX7_keep_5 (by decide) (fun hc => ?_) (fun hc => ?_)
  · replace h := h.1 hc
    refine r_aload_n (pc := 11) X 0 dX7_keep_11 rfl rfl ?_
    refine fg_X7_44 (pc := 12) X hT.1 dX7_keep_12 ?_
    refine r_iconst (pc := 15) (v := (nI 0)) X dX7_keep_15 (by decide) ?_
    refine r_aload_n (pc := 16) X 0 dX7_keep_16 rfl rfl ?_
    refine fg_X7_53 (pc := 17) X hT.1 dX7_keep_17 ?_
    refine r_bipush (pc := 20) (v := (nI 21)) X dX7_keep_20 (by decide) ?_
    refine r_aload_n (pc := 22) X 0 dX7_keep_22 rfl rfl ?_
    refine fg_X7_81 (pc := 23) X hT.1 dX7_keep_23 ?_
    refine r_imul (pc := 26) X dX7_keep_26 ?_
    refine r_callVS (pc := 27) (As := [.ref (ad 120), .int (nI 0), .ref (ad 124), .int ((nI 21) * (F 100 25))]) (st := []) X hA (c_X7_copy hT.2.2.2.2.2.2.2.1 hT.2.2.2.2.2.2.2.2.2.2.1 h) g_X7_185 hd_X7_copy rfl rfl rfl ⟨Nat.le_of_ble_eq_true rfl, Nat.le_of_ble_eq_true rfl⟩ rfl (Nat.le_of_ble_eq_true rfl) dX7_keep_27 (fun F1 h => ?_)
    refine r_aload_n (pc := 30) X 0 dX7_keep_30 rfl rfl ?_
    refine r_dup (pc := 31) X dX7_keep_31 rfl ?_
    refine fg_X7_81 (pc := 32) X hT.1 dX7_keep_32 ?_
    refine r_iconst (pc := 35) (v := (nI 1)) X dX7_keep_35 (by decide) ?_
    refine r_iadd (pc := 36) X dX7_keep_36 ?_
    refine fp_X7_81 (pc := 37) X hT.1 dX7_keep_37 (fun F2 e1 => ?_)
    replace h := h F2 e1
    refine r_aload_n (pc := 40) X 0 dX7_keep_40 rfl rfl ?_
    refine fg_X7_81 (pc := 41) X hT.1 dX7_keep_41 ?_
    exact r_iret (pc := 44) X hr dX7_keep_44 h
  · replace h := h.2 hc
    refine r_bipush (pc := 8) (v := (-3 : Int32)) X dX7_keep_8 (by decide) ?_
    exact r_iret (pc := 10) X hr dX7_keep_10 h
theorem dX7_back_0 : decode cX7_back 0 = .ok (.aload_n 0, 1) := by decide +kernel
theorem dX7_back_1 : decode cX7_back 1 = .ok (.getfield 81, 3) := by decide +kernel
theorem dX7_back_4 : decode cX7_back 4 = .ok (.ifCond .ne 6, 3) := by decide +kernel
theorem dX7_back_7 : decode cX7_back 7 = .ok (.bipush (-2), 2) := by decide +kernel
theorem dX7_back_9 : decode cX7_back 9 = .ok (.ireturn, 1) := by decide +kernel
theorem dX7_back_10 : decode cX7_back 10 = .ok (.aload_n 0, 1) := by decide +kernel
theorem dX7_back_11 : decode cX7_back 11 = .ok (.dup, 1) := by decide +kernel
theorem dX7_back_12 : decode cX7_back 12 = .ok (.getfield 81, 3) := by decide +kernel
theorem dX7_back_15 : decode cX7_back 15 = .ok (.iconst 1, 1) := by decide +kernel
theorem dX7_back_16 : decode cX7_back 16 = .ok (.isub, 1) := by decide +kernel
theorem dX7_back_17 : decode cX7_back 17 = .ok (.putfield 81, 3) := by decide +kernel
theorem dX7_back_20 : decode cX7_back 20 = .ok (.aload_n 0, 1) := by decide +kernel
theorem dX7_back_21 : decode cX7_back 21 = .ok (.getfield 53, 3) := by decide +kernel
theorem dX7_back_24 : decode cX7_back 24 = .ok (.bipush 21, 2) := by decide +kernel
theorem dX7_back_26 : decode cX7_back 26 = .ok (.aload_n 0, 1) := by decide +kernel
theorem dX7_back_27 : decode cX7_back 27 = .ok (.getfield 81, 3) := by decide +kernel
theorem dX7_back_30 : decode cX7_back 30 = .ok (.imul, 1) := by decide +kernel
theorem dX7_back_31 : decode cX7_back 31 = .ok (.aload_n 0, 1) := by decide +kernel
theorem dX7_back_32 : decode cX7_back 32 = .ok (.getfield 44, 3) := by decide +kernel
theorem dX7_back_35 : decode cX7_back 35 = .ok (.iconst 0, 1) := by decide +kernel
theorem dX7_back_36 : decode cX7_back 36 = .ok (.invokestatic 185, 3) := by decide +kernel
theorem dX7_back_39 : decode cX7_back 39 = .ok (.aload_n 0, 1) := by decide +kernel
theorem dX7_back_40 : decode cX7_back 40 = .ok (.iconst 0, 1) := by decide +kernel
theorem dX7_back_41 : decode cX7_back 41 = .ok (.putfield 78, 3) := by decide +kernel
theorem dX7_back_44 : decode cX7_back 44 = .ok (.aload_n 0, 1) := by decide +kernel
theorem dX7_back_45 : decode cX7_back 45 = .ok (.getfield 81, 3) := by decide +kernel
theorem dX7_back_48 : decode cX7_back 48 = .ok (.ireturn, 1) := by decide +kernel
theorem hd_X7_back : yX7_back.cls = RX7 ∧ yX7_back.cls ≠ "java/lang/invoke/MethodHandle" ∧ yX7_back.cls ≠ "java/lang/invoke/VarHandle" ∧ (parseMethodDescriptor yX7_back.desc).map (fun d => d.parameters.length) = some 0 := by decide +kernel
abbrev rm_X7_back : Room := { frames := 1, cells := 0, slots := 0, locals := 24 }
def wp_X7_back (K : Int32 → HF → Prop) (F : HF) : Prop := ((¬ (F 100 25) = (nI 0)) → (∀ F1 : HF, F1 = hup F 100 25 ((F 100 25) - (nI 1)) → (wp_X7_copy (fun F2 => ∀ F3 : HF, F3 = hup F2 100 23 (nI 0) → (K (F3 100 25) F3)) F1 124 42 120 21 ((nI 21) * (F1 100 25)) (nI 0)))) ∧ (((F 100 25) = (nI 0)) → (K (-2 : Int32) F))
set_option maxRecDepth 100000 in
set_option maxHeartbeats 4000000 in
theorem c_X7_back {l : Launch} {D : va_G} {dA : Nat → ClassId} {ad : Nat → Nat} {R : List Nat} {F : HF} {K : Int32 → HF → Prop} (hT : Md R) (h : wp_X7_back K F ) : MI l yX7_back cX7_back 1 .int rm_X7_back D dA ad R F [.ref (ad 100)] K := by
  refine MI.of (own := RX7) (by decide) rfl (Nat.le_of_ble_eq_true rfl) ?_
  intro p e s m args below meth c A hA X hr
  unfold wp_X7_back at h
  show J p l e rm_X7_back s m args below meth c 1 D dA ad R A (QI D dA ad R A below args s K) F 0 [(0, .ref (ad 100))] []
  refine r_aload_n (pc := 0) X 0 dX7_back_0 rfl rfl ?_
  refine fg_X7_81 (pc := 1) X hT.1 dX7_back_1 ?_
  refine r_if_ne (pc := 4) (tgt := 10) X dX7_back_4 (by decide) (fun hc => ?_) (fun hc => ?_)
  · replace h := h.1 hc
    refine r_aload_n (pc := 10) X 0 dX7_back_10 rfl rfl ?_
    refine r_dup (pc := 11) X dX7_back_11 rfl ?_
    refine fg_X7_81 (pc := 12) X hT.1 dX7_back_12 ?_
    refine r_iconst (pc := 15) (v := (nI 1)) X dX7_back_15 (by decide) ?_
    refine r_isub (pc := 16) X dX7_back_16 ?_
    refine fp_X7_81 (pc := 17) X hT.1 dX7_back_17 (fun F1 e1 => ?_)
    replace h := h F1 e1
    refine r_aload_n (pc := 20) X 0 dX7_back_20 rfl rfl ?_
    refine fg_X7_53 (pc := 21) X hT.1 dX7_back_21 ?_
    refine r_bipush (pc := 24) (v := (nI 21)) X dX7_back_24 (by decide) ?_
    refine r_aload_n (pc := 26) X 0 dX7_back_26 rfl rfl ?_
    refine fg_X7_81 (pc := 27) X hT.1 dX7_back_27 ?_
    refine r_imul (pc := 30) X dX7_back_30 ?_
    refine r_aload_n (pc := 31) X 0 dX7_back_31 rfl rfl ?_
    refine fg_X7_44 (pc := 32) X hT.1 dX7_back_32 ?_
    refine r_iconst (pc := 35) (v := (nI 0)) X dX7_back_35 (by decide) ?_
    refine r_callVS (pc := 36) (As := [.ref (ad 124), .int ((nI 21) * (F1 100 25)), .ref (ad 120), .int (nI 0)]) (st := []) X hA (c_X7_copy hT.2.2.2.2.2.2.2.2.2.2.1 hT.2.2.2.2.2.2.2.1 h) g_X7_185 hd_X7_copy rfl rfl rfl ⟨Nat.le_of_ble_eq_true rfl, Nat.le_of_ble_eq_true rfl⟩ rfl (Nat.le_of_ble_eq_true rfl) dX7_back_36 (fun F2 h => ?_)
    refine r_aload_n (pc := 39) X 0 dX7_back_39 rfl rfl ?_
    refine r_iconst (pc := 40) (v := (nI 0)) X dX7_back_40 (by decide) ?_
    refine fp_X7_78 (pc := 41) X hT.1 dX7_back_41 (fun F3 e1 => ?_)
    replace h := h F3 e1
    refine r_aload_n (pc := 44) X 0 dX7_back_44 rfl rfl ?_
    refine fg_X7_81 (pc := 45) X hT.1 dX7_back_45 ?_
    exact r_iret (pc := 48) X hr dX7_back_48 h
  · replace h := h.2 hc
    refine r_bipush (pc := 7) (v := (-2 : Int32)) X dX7_back_7 (by decide) ?_
    exact r_iret (pc := 9) X hr dX7_back_9 h
theorem dX7_count_0 : decode cX7_count 0 = .ok (.iload_n 1, 1) := by decide +kernel
theorem dX7_count_1 : decode cX7_count 1 = .ok (.tableswitch 126 0 10 #[59, 64, 71, 80, 85, 92, 99, 106, 111, 116, 121], 59) := by decide +kernel
theorem dX7_count_60 : decode cX7_count 60 = .ok (.aload_n 0, 1) := by decide +kernel
theorem dX7_count_61 : decode cX7_count 61 = .ok (.getfield 22, 3) := by decide +kernel
theorem dX7_count_64 : decode cX7_count 64 = .ok (.ireturn, 1) := by decide +kernel
theorem dX7_count_65 : decode cX7_count 65 = .ok (.aload_n 0, 1) := by decide +kernel
theorem dX7_count_66 : decode cX7_count 66 = .ok (.getfield 44, 3) := by decide +kernel
theorem dX7_count_69 : decode cX7_count 69 = .ok (.iconst 0, 1) := by decide +kernel
theorem dX7_count_70 : decode cX7_count 70 = .ok (.iaload, 1) := by decide +kernel
theorem dX7_count_71 : decode cX7_count 71 = .ok (.ireturn, 1) := by decide +kernel
theorem dX7_count_72 : decode cX7_count 72 = .ok (.aload_n 0, 1) := by decide +kernel
theorem dX7_count_73 : decode cX7_count 73 = .ok (.aload_n 0, 1) := by decide +kernel
theorem dX7_count_74 : decode cX7_count 74 = .ok (.getfield 44, 3) := by decide +kernel
theorem dX7_count_77 : decode cX7_count 77 = .ok (.invokevirtual 146, 3) := by decide +kernel
theorem dX7_count_80 : decode cX7_count 80 = .ok (.ireturn, 1) := by decide +kernel
theorem dX7_count_81 : decode cX7_count 81 = .ok (.aload_n 0, 1) := by decide +kernel
theorem dX7_count_82 : decode cX7_count 82 = .ok (.getfield 35, 3) := by decide +kernel
theorem dX7_count_85 : decode cX7_count 85 = .ok (.ireturn, 1) := by decide +kernel
theorem dX7_count_86 : decode cX7_count 86 = .ok (.aload_n 0, 1) := by decide +kernel
theorem dX7_count_87 : decode cX7_count 87 = .ok (.getfield 44, 3) := by decide +kernel
theorem dX7_count_90 : decode cX7_count 90 = .ok (.iconst 1, 1) := by decide +kernel
theorem dX7_count_91 : decode cX7_count 91 = .ok (.iaload, 1) := by decide +kernel
theorem dX7_count_92 : decode cX7_count 92 = .ok (.ireturn, 1) := by decide +kernel
theorem dX7_count_93 : decode cX7_count 93 = .ok (.aload_n 0, 1) := by decide +kernel
theorem dX7_count_94 : decode cX7_count 94 = .ok (.getfield 44, 3) := by decide +kernel
theorem dX7_count_97 : decode cX7_count 97 = .ok (.iconst 2, 1) := by decide +kernel
theorem dX7_count_98 : decode cX7_count 98 = .ok (.iaload, 1) := by decide +kernel
theorem dX7_count_99 : decode cX7_count 99 = .ok (.ireturn, 1) := by decide +kernel
theorem dX7_count_100 : decode cX7_count 100 = .ok (.aload_n 0, 1) := by decide +kernel
theorem dX7_count_101 : decode cX7_count 101 = .ok (.getfield 44, 3) := by decide +kernel
theorem dX7_count_104 : decode cX7_count 104 = .ok (.iconst 4, 1) := by decide +kernel
theorem dX7_count_105 : decode cX7_count 105 = .ok (.iaload, 1) := by decide +kernel
theorem dX7_count_106 : decode cX7_count 106 = .ok (.ireturn, 1) := by decide +kernel
theorem dX7_count_107 : decode cX7_count 107 = .ok (.aload_n 0, 1) := by decide +kernel
theorem dX7_count_108 : decode cX7_count 108 = .ok (.getfield 84, 3) := by decide +kernel
theorem dX7_count_111 : decode cX7_count 111 = .ok (.ireturn, 1) := by decide +kernel
theorem dX7_count_112 : decode cX7_count 112 = .ok (.aload_n 0, 1) := by decide +kernel
theorem dX7_count_113 : decode cX7_count 113 = .ok (.getfield 78, 3) := by decide +kernel
theorem dX7_count_116 : decode cX7_count 116 = .ok (.ireturn, 1) := by decide +kernel
theorem dX7_count_117 : decode cX7_count 117 = .ok (.aload_n 0, 1) := by decide +kernel
theorem dX7_count_118 : decode cX7_count 118 = .ok (.getfield 81, 3) := by decide +kernel
theorem dX7_count_121 : decode cX7_count 121 = .ok (.ireturn, 1) := by decide +kernel
theorem dX7_count_122 : decode cX7_count 122 = .ok (.aload_n 0, 1) := by decide +kernel
theorem dX7_count_123 : decode cX7_count 123 = .ok (.getfield 91, 3) := by decide +kernel
theorem dX7_count_126 : decode cX7_count 126 = .ok (.ireturn, 1) := by decide +kernel
theorem dX7_count_127 : decode cX7_count 127 = .ok (.iconst (-1), 1) := by decide +kernel
theorem dX7_count_128 : decode cX7_count 128 = .ok (.ireturn, 1) := by decide +kernel
theorem hd_X7_count : yX7_count.cls = RX7 ∧ yX7_count.cls ≠ "java/lang/invoke/MethodHandle" ∧ yX7_count.cls ≠ "java/lang/invoke/VarHandle" ∧ (parseMethodDescriptor yX7_count.desc).map (fun d => d.parameters.length) = some 1 := by decide +kernel
abbrev rm_X7_count : Room := { frames := 2, cells := 0, slots := 0, locals := 46 }
def wp_X7_count (K : Int32 → HF → Prop) (F : HF) (a1 : Int32) : Prop := (((a1 = (nI 0)) → (K (F 100 13) F))) ∧ (((a1 = (nI 1)) → ((vp_in (nI 0) 21) ∧ (K (F 120 (nI 0).toNatClampNeg) F)))) ∧ (((a1 = (nI 2)) → (wp_X7_spanned (fun x1 F1 => K x1 F1) F 120 21))) ∧ (((a1 = (nI 3)) → (K (F 100 17) F))) ∧ (((a1 = (nI 4)) → ((vp_in (nI 1) 21) ∧ (K (F 120 (nI 1).toNatClampNeg) F)))) ∧ (((a1 = (nI 5)) → ((vp_in (nI 2) 21) ∧ (K (F 120 (nI 2).toNatClampNeg) F)))) ∧ (((a1 = (nI 6)) → ((vp_in (nI 4) 21) ∧ (K (F 120 (nI 4).toNatClampNeg) F)))) ∧ (((a1 = (nI 7)) → (K (F 100 27) F))) ∧ (((a1 = (nI 8)) → (K (F 100 23) F))) ∧ (((a1 = (nI 9)) → (K (F 100 25) F))) ∧ (((a1 = (nI 10)) → (K (F 100 0) F))) ∧ ((¬ a1 = (nI 0)) → (¬ a1 = (nI 1)) → (¬ a1 = (nI 2)) → (¬ a1 = (nI 3)) → (¬ a1 = (nI 4)) → (¬ a1 = (nI 5)) → (¬ a1 = (nI 6)) → (¬ a1 = (nI 7)) → (¬ a1 = (nI 8)) → (¬ a1 = (nI 9)) → (¬ a1 = (nI 10)) → (K (-1 : Int32) F))
set_option maxRecDepth 100000 in
set_option maxHeartbeats 4000000 in
theorem c_X7_count {l : Launch} {D : va_G} {dA : Nat → ClassId} {ad : Nat → Nat} {R : List Nat} {F : HF} {a1 : Int32} {K : Int32 → HF → Prop} (hT : Md R) (h : wp_X7_count K F a1) : MI l yX7_count cX7_count 2 .int rm_X7_count D dA ad R F [.ref (ad 100), .int a1] K := by
  refine MI.of (own := RX7) (by decide) rfl (Nat.le_of_ble_eq_true rfl) ?_
  intro p e s m args below meth c A hA X hr
  unfold wp_X7_count at h
  show J p l e rm_X7_count s m args below meth c 2 D dA ad R A (QI D dA ad R A below args s K) F 0 [(0, .ref (ad 100)), (1, .int a1)] []
  refine r_iload_n (pc := 0) X 1 dX7_count_0 rfl rfl ?_
  by_cases hc0 : a1 = (nI 0)
  · replace h := h.1 hc0
    refine r_tableIn (pc := 1) (off := 59) (tgt := 60) X dX7_count_1 (by rw [hc0]; decide) (by rw [hc0]; decide) (by rw [hc0]; decide) (by decide) ?_
    refine r_aload_n (pc := 60) X 0 dX7_count_60 rfl rfl ?_
    refine fg_X7_22 (pc := 61) X hT.1 dX7_count_61 ?_
    exact r_iret (pc := 64) X hr dX7_count_64 h
  · replace h := h.2
    by_cases hc1 : a1 = (nI 1)
    · replace h := h.1 hc1
      refine r_tableIn (pc := 1) (off := 64) (tgt := 65) X dX7_count_1 (by rw [hc1]; decide) (by rw [hc1]; decide) (by rw [hc1]; decide) (by decide) ?_
      refine r_aload_n (pc := 65) X 0 dX7_count_65 rfl rfl ?_
      refine fg_X7_44 (pc := 66) X hT.1 dX7_count_66 ?_
      refine r_iconst (pc := 69) (v := (nI 0)) X dX7_count_69 (by decide) ?_
      refine r_iald (pc := 70) X hT.2.2.2.2.2.2.2.1 h.1 dX7_count_70 ?_
      replace h := h.2
      exact r_iret (pc := 71) X hr dX7_count_71 h
    · replace h := h.2
      by_cases hc2 : a1 = (nI 2)
      · replace h := h.1 hc2
        refine r_tableIn (pc := 1) (off := 71) (tgt := 72) X dX7_count_1 (by rw [hc2]; decide) (by rw [hc2]; decide) (by rw [hc2]; decide) (by decide) ?_
        refine r_aload_n (pc := 72) X 0 dX7_count_72 rfl rfl ?_
        refine r_aload_n (pc := 73) X 0 dX7_count_73 rfl rfl ?_
        refine fg_X7_44 (pc := 74) X hT.1 dX7_count_74 ?_
        refine r_callIV (pc := 77) (As := [.ref (ad 120)]) (st := []) X hA (c_X7_spanned hT hT.2.2.2.2.2.2.2.1 h) g_X7_146 cl_X7 hT.1 hd_X7_spanned rfl rfl rfl ⟨Nat.le_of_ble_eq_true rfl, Nat.le_of_ble_eq_true rfl⟩ rfl (Nat.le_of_ble_eq_true rfl) dX7_count_77 (fun x1 F1 h => ?_)
        exact r_iret (pc := 80) X hr dX7_count_80 h
      · replace h := h.2
        by_cases hc3 : a1 = (nI 3)
        · replace h := h.1 hc3
          refine r_tableIn (pc := 1) (off := 80) (tgt := 81) X dX7_count_1 (by rw [hc3]; decide) (by rw [hc3]; decide) (by rw [hc3]; decide) (by decide) ?_
          refine r_aload_n (pc := 81) X 0 dX7_count_81 rfl rfl ?_
          refine fg_X7_35 (pc := 82) X hT.1 dX7_count_82 ?_
          exact r_iret (pc := 85) X hr dX7_count_85 h
        · replace h := h.2
          by_cases hc4 : a1 = (nI 4)
          · replace h := h.1 hc4
            refine r_tableIn (pc := 1) (off := 85) (tgt := 86) X dX7_count_1 (by rw [hc4]; decide) (by rw [hc4]; decide) (by rw [hc4]; decide) (by decide) ?_
            refine r_aload_n (pc := 86) X 0 dX7_count_86 rfl rfl ?_
            refine fg_X7_44 (pc := 87) X hT.1 dX7_count_87 ?_
            refine r_iconst (pc := 90) (v := (nI 1)) X dX7_count_90 (by decide) ?_
            refine r_iald (pc := 91) X hT.2.2.2.2.2.2.2.1 h.1 dX7_count_91 ?_
            replace h := h.2
            exact r_iret (pc := 92) X hr dX7_count_92 h
          · replace h := h.2
            by_cases hc5 : a1 = (nI 5)
            · replace h := h.1 hc5
              refine r_tableIn (pc := 1) (off := 92) (tgt := 93) X dX7_count_1 (by rw [hc5]; decide) (by rw [hc5]; decide) (by rw [hc5]; decide) (by decide) ?_
              refine r_aload_n (pc := 93) X 0 dX7_count_93 rfl rfl ?_
              refine fg_X7_44 (pc := 94) X hT.1 dX7_count_94 ?_
              refine r_iconst (pc := 97) (v := (nI 2)) X dX7_count_97 (by decide) ?_
              refine r_iald (pc := 98) X hT.2.2.2.2.2.2.2.1 h.1 dX7_count_98 ?_
              replace h := h.2
              exact r_iret (pc := 99) X hr dX7_count_99 h
            · replace h := h.2
              by_cases hc6 : a1 = (nI 6)
              · replace h := h.1 hc6
                refine r_tableIn (pc := 1) (off := 99) (tgt := 100) X dX7_count_1 (by rw [hc6]; decide) (by rw [hc6]; decide) (by rw [hc6]; decide) (by decide) ?_
                refine r_aload_n (pc := 100) X 0 dX7_count_100 rfl rfl ?_
                refine fg_X7_44 (pc := 101) X hT.1 dX7_count_101 ?_
                refine r_iconst (pc := 104) (v := (nI 4)) X dX7_count_104 (by decide) ?_
                refine r_iald (pc := 105) X hT.2.2.2.2.2.2.2.1 h.1 dX7_count_105 ?_
                replace h := h.2
                exact r_iret (pc := 106) X hr dX7_count_106 h
              · replace h := h.2
                by_cases hc7 : a1 = (nI 7)
                · replace h := h.1 hc7
                  refine r_tableIn (pc := 1) (off := 106) (tgt := 107) X dX7_count_1 (by rw [hc7]; decide) (by rw [hc7]; decide) (by rw [hc7]; decide) (by decide) ?_
                  refine r_aload_n (pc := 107) X 0 dX7_count_107 rfl rfl ?_
                  refine fg_X7_84 (pc := 108) X hT.1 dX7_count_108 ?_
                  exact r_iret (pc := 111) X hr dX7_count_111 h
                · replace h := h.2
                  by_cases hc8 : a1 = (nI 8)
                  · replace h := h.1 hc8
                    refine r_tableIn (pc := 1) (off := 111) (tgt := 112) X dX7_count_1 (by rw [hc8]; decide) (by rw [hc8]; decide) (by rw [hc8]; decide) (by decide) ?_
                    refine r_aload_n (pc := 112) X 0 dX7_count_112 rfl rfl ?_
                    refine fg_X7_78 (pc := 113) X hT.1 dX7_count_113 ?_
                    exact r_iret (pc := 116) X hr dX7_count_116 h
                  · replace h := h.2
                    by_cases hc9 : a1 = (nI 9)
                    · replace h := h.1 hc9
                      refine r_tableIn (pc := 1) (off := 116) (tgt := 117) X dX7_count_1 (by rw [hc9]; decide) (by rw [hc9]; decide) (by rw [hc9]; decide) (by decide) ?_
                      refine r_aload_n (pc := 117) X 0 dX7_count_117 rfl rfl ?_
                      refine fg_X7_81 (pc := 118) X hT.1 dX7_count_118 ?_
                      exact r_iret (pc := 121) X hr dX7_count_121 h
                    · replace h := h.2
                      by_cases hc10 : a1 = (nI 10)
                      · replace h := h.1 hc10
                        refine r_tableIn (pc := 1) (off := 121) (tgt := 122) X dX7_count_1 (by rw [hc10]; decide) (by rw [hc10]; decide) (by rw [hc10]; decide) (by decide) ?_
                        refine r_aload_n (pc := 122) X 0 dX7_count_122 rfl rfl ?_
                        refine fg_X7_91 (pc := 123) X hT.1 dX7_count_123 ?_
                        exact r_iret (pc := 126) X hr dX7_count_126 h
                      · replace h := h.2
                        replace h := h hc0 hc1 hc2 hc3 hc4 hc5 hc6 hc7 hc8 hc9 hc10
                        refine r_tableOut (pc := 1) (tgt := 127) X dX7_count_1 (sw_out (x := a1) 10 (by decide) (fun k hk => by rcases (show k = 0 ∨ k = 1 ∨ k = 2 ∨ k = 3 ∨ k = 4 ∨ k = 5 ∨ k = 6 ∨ k = 7 ∨ k = 8 ∨ k = 9 ∨ k = 10 by omega) with rfl | rfl | rfl | rfl | rfl | rfl | rfl | rfl | rfl | rfl | rfl <;> first | exact hc0 | exact hc1 | exact hc2 | exact hc3 | exact hc4 | exact hc5 | exact hc6 | exact hc7 | exact hc8 | exact hc9 | exact hc10)) (by decide) ?_
                        refine r_iconst (pc := 127) (v := (-1 : Int32)) X dX7_count_127 (by decide) ?_
                        exact r_iret (pc := 128) X hr dX7_count_128 h
