theorem dX4_begin_0 : decode cX4_begin 0 = .ok (.aload_n 0, 1) := by decide +kernel
theorem dX4_begin_1 : decode cX4_begin 1 = .ok (.iconst (-1), 1) := by decide +kernel
theorem dX4_begin_2 : decode cX4_begin 2 = .ok (.putfield 22, 3) := by decide +kernel
theorem dX4_begin_5 : decode cX4_begin 5 = .ok (.return_, 1) := by decide +kernel
theorem hd_X4_begin : yX4_begin.cls = RX4 ∧ yX4_begin.cls ≠ "java/lang/invoke/MethodHandle" ∧ yX4_begin.cls ≠ "java/lang/invoke/VarHandle" ∧ (parseMethodDescriptor yX4_begin.desc).map (fun d => d.parameters.length) = some 0 := by decide +kernel
abbrev rm_X4_begin : Room := { frames := 0, cells := 0, slots := 0, locals := 0 }
def wp_X4_begin (K : HF → Prop) (F : HF) : Prop := ∀ F1 : HF, F1 = hup F 79 5 (-1 : Int32) → (K F1)
set_option maxRecDepth 100000 in
set_option maxHeartbeats 4000000 in
theorem c_X4_begin {l : Launch} {D : va_G} {dA : Nat → ClassId} {ad : Nat → Nat} {R : List Nat} {F : HF} {K : HF → Prop} (hT : Se R) (h : wp_X4_begin K F ) : MV l yX4_begin cX4_begin 1 rm_X4_begin D dA ad R F [.ref (ad 79)] K := by
  refine MV.of (own := RX4) (by decide) rfl (Nat.le_of_ble_eq_true rfl) ?_
  intro p e s m args below meth c A hA X hr
  unfold wp_X4_begin at h
  show J p l e rm_X4_begin s m args below meth c 1 D dA ad R A (QV D dA ad R A below args s K) F 0 [(0, .ref (ad 79))] []
  refine r_aload_n (pc := 0) X 0 dX4_begin_0 rfl rfl ?_
  refine r_iconst (pc := 1) (v := (-1 : Int32)) X dX4_begin_1 (by decide) ?_
  refine fp_X4_22 (pc := 2) X hT.1 dX4_begin_2 (fun F1 e1 => ?_)
  replace h := h F1 e1
  exact r_vret (pc := 5) X hr dX4_begin_5 h
theorem dX4_noteFound_0 : decode cX4_noteFound 0 = .ok (.aload_n 0, 1) := by decide +kernel
theorem dX4_noteFound_1 : decode cX4_noteFound 1 = .ok (.aload_n 0, 1) := by decide +kernel
theorem dX4_noteFound_2 : decode cX4_noteFound 2 = .ok (.getfield 34, 3) := by decide +kernel
theorem dX4_noteFound_5 : decode cX4_noteFound 5 = .ok (.invokevirtual 128, 3) := by decide +kernel
theorem dX4_noteFound_8 : decode cX4_noteFound 8 = .ok (.putfield 18, 3) := by decide +kernel
theorem dX4_noteFound_11 : decode cX4_noteFound 11 = .ok (.iconst 0, 1) := by decide +kernel
theorem dX4_noteFound_12 : decode cX4_noteFound 12 = .ok (.istore_n 1, 1) := by decide +kernel
theorem dX4_noteFound_13 : decode cX4_noteFound 13 = .ok (.iload_n 1, 1) := by decide +kernel
theorem dX4_noteFound_14 : decode cX4_noteFound 14 = .ok (.aload_n 0, 1) := by decide +kernel
theorem dX4_noteFound_15 : decode cX4_noteFound 15 = .ok (.getfield 18, 3) := by decide +kernel
theorem dX4_noteFound_18 : decode cX4_noteFound 18 = .ok (.if_icmp .ge 32, 3) := by decide +kernel
theorem dX4_noteFound_21 : decode cX4_noteFound 21 = .ok (.iload_n 1, 1) := by decide +kernel
theorem dX4_noteFound_22 : decode cX4_noteFound 22 = .ok (.aload_n 0, 1) := by decide +kernel
theorem dX4_noteFound_23 : decode cX4_noteFound 23 = .ok (.getfield 9, 3) := by decide +kernel
theorem dX4_noteFound_26 : decode cX4_noteFound 26 = .ok (.arraylength, 1) := by decide +kernel
theorem dX4_noteFound_27 : decode cX4_noteFound 27 = .ok (.if_icmp .ge 23, 3) := by decide +kernel
theorem dX4_noteFound_30 : decode cX4_noteFound 30 = .ok (.aload_n 0, 1) := by decide +kernel
theorem dX4_noteFound_31 : decode cX4_noteFound 31 = .ok (.getfield 9, 3) := by decide +kernel
theorem dX4_noteFound_34 : decode cX4_noteFound 34 = .ok (.iload_n 1, 1) := by decide +kernel
theorem dX4_noteFound_35 : decode cX4_noteFound 35 = .ok (.aload_n 0, 1) := by decide +kernel
theorem dX4_noteFound_36 : decode cX4_noteFound 36 = .ok (.getfield 34, 3) := by decide +kernel
theorem dX4_noteFound_39 : decode cX4_noteFound 39 = .ok (.iload_n 1, 1) := by decide +kernel
theorem dX4_noteFound_40 : decode cX4_noteFound 40 = .ok (.invokevirtual 131, 3) := by decide +kernel
theorem dX4_noteFound_43 : decode cX4_noteFound 43 = .ok (.iastore, 1) := by decide +kernel
theorem dX4_noteFound_44 : decode cX4_noteFound 44 = .ok (.iinc 1 1, 3) := by decide +kernel
theorem dX4_noteFound_47 : decode cX4_noteFound 47 = .ok (.goto (-34), 3) := by decide +kernel
theorem dX4_noteFound_50 : decode cX4_noteFound 50 = .ok (.return_, 1) := by decide +kernel
theorem hd_X4_noteFound : yX4_noteFound.cls = RX4 ∧ yX4_noteFound.cls ≠ "java/lang/invoke/MethodHandle" ∧ yX4_noteFound.cls ≠ "java/lang/invoke/VarHandle" ∧ (parseMethodDescriptor yX4_noteFound.desc).map (fun d => d.parameters.length) = some 0 := by decide +kernel
abbrev rm_X4_noteFound : Room := { frames := 1, cells := 0, slots := 0, locals := 21 }
def wp_X4_noteFound_13 (K : HF → Prop) : Nat → HF → Int32 → Prop
  | 0 => fun _ _ => False
  | n13_ + 1 => fun F v1 => (((F 79 4) ≤ v1) → (K F)) ∧ ((¬ (F 79 4) ≤ v1) → ((((nI 8) ≤ v1) → (K F)) ∧ ((¬ (nI 8) ≤ v1) → (wp_X0_birdAt (fun x2 F103 => (vp_in v1 8) ∧ (∀ F104 : HF, F104 = hup F103 84 v1.toNatClampNeg x2 → (wp_X4_noteFound_13 K  n13_ F104 (v1 + (nI 1))))) F 80 v1))))
set_option maxRecDepth 100000 in
set_option maxHeartbeats 4000000 in
theorem k_X4_noteFound_13 {p : Program} {l : Launch} {e : Env} {s : State} {m : MethodId} {args : Array Value} {below : List Frame} {meth : Method} {c : Code} {D : va_G} {dA : Nat → ClassId} {ad : Nat → Nat} {R : List Nat} {A : Nat → Prop} {K : HF → Prop} (X : Cx p s m args meth c cX4_noteFound 2 RX4 D dA) (hA : ∀ q, s.heap.size ≤ q → A q) (hr : meth.sig.returnType = none) (hT : Se R) : ∀ (n_ : Nat) (F : HF) (v1 : Int32), wp_X4_noteFound_13 K  n_ F v1 → J p l e rm_X4_noteFound s m args below meth c 2 D dA ad R A (QV D dA ad R A below args s K) F 13 [(0, .ref (ad 79)), (1, .int v1)] [] := by
  intro n_
  induction n_ with
  | zero => intro F v1 h; exact h.elim
  | succ n_ ih =>
    intro F v1 h
    unfold wp_X4_noteFound_13 at h
    refine r_iload_n (pc := 13) X 1 dX4_noteFound_13 rfl rfl ?_
    refine r_aload_n (pc := 14) X 0 dX4_noteFound_14 rfl rfl ?_
    refine fg_X4_18 (pc := 15) X hT.1 dX4_noteFound_15 ?_
    refine r_icmp_ge (pc := 18) (tgt := 50) X dX4_noteFound_18 (by decide) (fun hc => ?_) (fun hc => ?_)
    · replace h := h.1 hc
      exact r_vret (pc := 50) X hr dX4_noteFound_50 h
    · replace h := h.2 hc
      refine r_iload_n (pc := 21) X 1 dX4_noteFound_21 rfl rfl ?_
      refine r_aload_n (pc := 22) X 0 dX4_noteFound_22 rfl rfl ?_
      refine fg_X4_9 (pc := 23) X hT.1 dX4_noteFound_23 ?_
      refine r_alen (pc := 26) (v := (nI 8)) X (Or.inl hT.2.2.1) rfl dX4_noteFound_26 ?_
      refine r_icmp_ge (pc := 27) (tgt := 50) X dX4_noteFound_27 (by decide) (fun hc => ?_) (fun hc => ?_)
      · replace h := h.1 hc
        exact r_vret (pc := 50) X hr dX4_noteFound_50 h
      · replace h := h.2 hc
        refine r_aload_n (pc := 30) X 0 dX4_noteFound_30 rfl rfl ?_
        refine fg_X4_9 (pc := 31) X hT.1 dX4_noteFound_31 ?_
        refine r_iload_n (pc := 34) X 1 dX4_noteFound_34 rfl rfl ?_
        refine r_aload_n (pc := 35) X 0 dX4_noteFound_35 rfl rfl ?_
        refine fg_X4_34 (pc := 36) X hT.1 dX4_noteFound_36 ?_
        refine r_iload_n (pc := 39) X 1 dX4_noteFound_39 rfl rfl ?_
        refine r_callIV (pc := 40) (As := [.int v1]) (st := [.int v1, .ref (ad 84)]) X hA (c_X0_birdAt hT.2.1 h) g_X4_131 cl_X0 hT.2.1.1 hd_X0_birdAt rfl rfl rfl ⟨Nat.le_of_ble_eq_true rfl, Nat.le_of_ble_eq_true rfl⟩ rfl (Nat.le_of_ble_eq_true rfl) dX4_noteFound_40 (fun x2 F103 h => ?_)
        refine r_iast (pc := 43) X hT.2.2.1 h.1 dX4_noteFound_43 (fun F104 e1 => ?_)
        replace h := h.2 F104 e1
        refine r_iinc (pc := 44) (v := (v1 + (nI 1))) X 1 [(1, .int (v1 + (nI 1))), (0, .ref (ad 79))] dX4_noteFound_44 rfl rfl (by decide) rfl ?_
        refine r_goto (pc := 47) (tgt := 13) X dX4_noteFound_47 (by decide) ?_
        refine r_sub [1, 0] rfl ?_
        exact ih _ _ h
def wp_X4_noteFound (K : HF → Prop) (F : HF) : Prop := wp_X0_size (fun x1 F1 => ∀ F2 : HF, F2 = hup F1 79 4 x1 → (∃ m_, wp_X4_noteFound_13 K  m_ F2 (nI 0))) F 80
set_option maxRecDepth 100000 in
set_option maxHeartbeats 4000000 in
theorem c_X4_noteFound {l : Launch} {D : va_G} {dA : Nat → ClassId} {ad : Nat → Nat} {R : List Nat} {F : HF} {K : HF → Prop} (hT : Se R) (h : wp_X4_noteFound K F ) : MV l yX4_noteFound cX4_noteFound 2 rm_X4_noteFound D dA ad R F [.ref (ad 79)] K := by
  refine MV.of (own := RX4) (by decide) rfl (Nat.le_of_ble_eq_true rfl) ?_
  intro p e s m args below meth c A hA X hr
  unfold wp_X4_noteFound at h
  show J p l e rm_X4_noteFound s m args below meth c 2 D dA ad R A (QV D dA ad R A below args s K) F 0 [(0, .ref (ad 79))] []
  refine r_aload_n (pc := 0) X 0 dX4_noteFound_0 rfl rfl ?_
  refine r_aload_n (pc := 1) X 0 dX4_noteFound_1 rfl rfl ?_
  refine fg_X4_34 (pc := 2) X hT.1 dX4_noteFound_2 ?_
  refine r_callIV (pc := 5) (As := []) (st := [.ref (ad 79)]) X hA (c_X0_size hT.2.1 h) g_X4_128 cl_X0 hT.2.1.1 hd_X0_size rfl rfl rfl ⟨Nat.le_of_ble_eq_true rfl, Nat.le_of_ble_eq_true rfl⟩ rfl (Nat.le_of_ble_eq_true rfl) dX4_noteFound_5 (fun x1 F1 h => ?_)
  refine fp_X4_18 (pc := 8) X hT.1 dX4_noteFound_8 (fun F2 e1 => ?_)
  replace h := h F2 e1
  refine r_iconst (pc := 11) (v := (nI 0)) X dX4_noteFound_11 (by decide) ?_
  refine r_istore_n (pc := 12) X [(1, .int (nI 0)), (0, .ref (ad 79))] dX4_noteFound_12 rfl (by decide) rfl ?_
  refine r_sub [1, 0] rfl ?_
  obtain ⟨n1, h⟩ := h
  exact k_X4_noteFound_13 X hA hr hT  n1 _ _ h
theorem dX4_extend_0 : decode cX4_extend 0 = .ok (.iconst 0, 1) := by decide +kernel
theorem dX4_extend_1 : decode cX4_extend 1 = .ok (.istore 4, 2) := by decide +kernel
theorem dX4_extend_3 : decode cX4_extend 3 = .ok (.iload 4, 2) := by decide +kernel
theorem dX4_extend_5 : decode cX4_extend 5 = .ok (.aload_n 0, 1) := by decide +kernel
theorem dX4_extend_6 : decode cX4_extend 6 = .ok (.getfield 25, 3) := by decide +kernel
theorem dX4_extend_9 : decode cX4_extend 9 = .ok (.invokevirtual 63, 3) := by decide +kernel
theorem dX4_extend_12 : decode cX4_extend 12 = .ok (.if_icmp .ge 172, 3) := by decide +kernel
theorem dX4_extend_15 : decode cX4_extend 15 = .ok (.iload_n 1, 1) := by decide +kernel
theorem dX4_extend_16 : decode cX4_extend 16 = .ok (.bipush 8, 2) := by decide +kernel
theorem dX4_extend_18 : decode cX4_extend 18 = .ok (.if_icmp .ge 166, 3) := by decide +kernel
theorem dX4_extend_21 : decode cX4_extend 21 = .ok (.iload_n 2, 1) := by decide +kernel
theorem dX4_extend_22 : decode cX4_extend 22 = .ok (.iconst 1, 1) := by decide +kernel
theorem dX4_extend_23 : decode cX4_extend 23 = .ok (.iload 4, 2) := by decide +kernel
theorem dX4_extend_25 : decode cX4_extend 25 = .ok (.ishl, 1) := by decide +kernel
theorem dX4_extend_26 : decode cX4_extend 26 = .ok (.ior, 1) := by decide +kernel
theorem dX4_extend_27 : decode cX4_extend 27 = .ok (.istore 5, 2) := by decide +kernel
theorem dX4_extend_29 : decode cX4_extend 29 = .ok (.iload 5, 2) := by decide +kernel
theorem dX4_extend_31 : decode cX4_extend 31 = .ok (.aload_n 0, 1) := by decide +kernel
theorem dX4_extend_32 : decode cX4_extend 32 = .ok (.getfield 15, 3) := by decide +kernel
theorem dX4_extend_35 : decode cX4_extend 35 = .ok (.arraylength, 1) := by decide +kernel
theorem dX4_extend_36 : decode cX4_extend 36 = .ok (.if_icmp .ge 142, 3) := by decide +kernel
theorem dX4_extend_39 : decode cX4_extend 39 = .ok (.iload_n 1, 1) := by decide +kernel
theorem dX4_extend_40 : decode cX4_extend 40 = .ok (.iconst 1, 1) := by decide +kernel
theorem dX4_extend_41 : decode cX4_extend 41 = .ok (.iadd, 1) := by decide +kernel
theorem dX4_extend_42 : decode cX4_extend 42 = .ok (.aload_n 0, 1) := by decide +kernel
theorem dX4_extend_43 : decode cX4_extend 43 = .ok (.getfield 15, 3) := by decide +kernel
theorem dX4_extend_46 : decode cX4_extend 46 = .ok (.iload 5, 2) := by decide +kernel
theorem dX4_extend_48 : decode cX4_extend 48 = .ok (.iaload, 1) := by decide +kernel
theorem dX4_extend_49 : decode cX4_extend 49 = .ok (.iadd, 1) := by decide +kernel
theorem dX4_extend_50 : decode cX4_extend 50 = .ok (.aload_n 0, 1) := by decide +kernel
theorem dX4_extend_51 : decode cX4_extend 51 = .ok (.getfield 18, 3) := by decide +kernel
theorem dX4_extend_54 : decode cX4_extend 54 = .ok (.if_icmp .ge 124, 3) := by decide +kernel
theorem dX4_extend_57 : decode cX4_extend 57 = .ok (.aload_n 0, 1) := by decide +kernel
theorem dX4_extend_58 : decode cX4_extend 58 = .ok (.getfield 34, 3) := by decide +kernel
theorem dX4_extend_61 : decode cX4_extend 61 = .ok (.iload 4, 2) := by decide +kernel
theorem dX4_extend_63 : decode cX4_extend 63 = .ok (.invokevirtual 101, 3) := by decide +kernel
theorem dX4_extend_66 : decode cX4_extend 66 = .ok (.ifCond .ne 6, 3) := by decide +kernel
theorem dX4_extend_69 : decode cX4_extend 69 = .ok (.goto 109, 3) := by decide +kernel
theorem dX4_extend_72 : decode cX4_extend 72 = .ok (.aload_n 0, 1) := by decide +kernel
theorem dX4_extend_73 : decode cX4_extend 73 = .ok (.getfield 34, 3) := by decide +kernel
theorem dX4_extend_76 : decode cX4_extend 76 = .ok (.iload 4, 2) := by decide +kernel
theorem dX4_extend_78 : decode cX4_extend 78 = .ok (.invokevirtual 105, 3) := by decide +kernel
theorem dX4_extend_81 : decode cX4_extend 81 = .ok (.aload_n 0, 1) := by decide +kernel
theorem dX4_extend_82 : decode cX4_extend 82 = .ok (.getfield 34, 3) := by decide +kernel
theorem dX4_extend_85 : decode cX4_extend 85 = .ok (.invokevirtual 108, 3) := by decide +kernel
theorem dX4_extend_88 : decode cX4_extend 88 = .ok (.aload_n 0, 1) := by decide +kernel
theorem dX4_extend_89 : decode cX4_extend 89 = .ok (.getfield 34, 3) := by decide +kernel
theorem dX4_extend_92 : decode cX4_extend 92 = .ok (.invokevirtual 111, 3) := by decide +kernel
theorem dX4_extend_95 : decode cX4_extend 95 = .ok (.istore 6, 2) := by decide +kernel
theorem dX4_extend_97 : decode cX4_extend 97 = .ok (.aload_n 0, 1) := by decide +kernel
theorem dX4_extend_98 : decode cX4_extend 98 = .ok (.getfield 34, 3) := by decide +kernel
theorem dX4_extend_101 : decode cX4_extend 101 = .ok (.iconst 0, 1) := by decide +kernel
theorem dX4_extend_102 : decode cX4_extend 102 = .ok (.iload 6, 2) := by decide +kernel
theorem dX4_extend_104 : decode cX4_extend 104 = .ok (.iconst 0, 1) := by decide +kernel
theorem dX4_extend_105 : decode cX4_extend 105 = .ok (.iload_n 3, 1) := by decide +kernel
theorem dX4_extend_106 : decode cX4_extend 106 = .ok (.invokevirtual 114, 3) := by decide +kernel
theorem dX4_extend_109 : decode cX4_extend 109 = .ok (.iload 6, 2) := by decide +kernel
theorem dX4_extend_111 : decode cX4_extend 111 = .ok (.if_icmp .ne 7, 3) := by decide +kernel
theorem dX4_extend_114 : decode cX4_extend 114 = .ok (.iconst 1, 1) := by decide +kernel
theorem dX4_extend_115 : decode cX4_extend 115 = .ok (.goto 4, 3) := by decide +kernel
theorem dX4_extend_118 : decode cX4_extend 118 = .ok (.iconst 0, 1) := by decide +kernel
theorem dX4_extend_119 : decode cX4_extend 119 = .ok (.istore 7, 2) := by decide +kernel
theorem dX4_extend_121 : decode cX4_extend 121 = .ok (.aload_n 0, 1) := by decide +kernel
theorem dX4_extend_122 : decode cX4_extend 122 = .ok (.getfield 34, 3) := by decide +kernel
theorem dX4_extend_125 : decode cX4_extend 125 = .ok (.invokevirtual 118, 3) := by decide +kernel
theorem dX4_extend_128 : decode cX4_extend 128 = .ok (.ifCond .eq 15, 3) := by decide +kernel
theorem dX4_extend_131 : decode cX4_extend 131 = .ok (.iload 7, 2) := by decide +kernel
theorem dX4_extend_133 : decode cX4_extend 133 = .ok (.ifCond .eq 38, 3) := by decide +kernel
theorem dX4_extend_136 : decode cX4_extend 136 = .ok (.aload_n 0, 1) := by decide +kernel
theorem dX4_extend_137 : decode cX4_extend 137 = .ok (.invokevirtual 122, 3) := by decide +kernel
theorem dX4_extend_140 : decode cX4_extend 140 = .ok (.goto 31, 3) := by decide +kernel
theorem dX4_extend_143 : decode cX4_extend 143 = .ok (.iload 7, 2) := by decide +kernel
theorem dX4_extend_145 : decode cX4_extend 145 = .ok (.ifCond .ne 16, 3) := by decide +kernel
theorem dX4_extend_148 : decode cX4_extend 148 = .ok (.aload_n 0, 1) := by decide +kernel
theorem dX4_extend_149 : decode cX4_extend 149 = .ok (.getfield 25, 3) := by decide +kernel
theorem dX4_extend_152 : decode cX4_extend 152 = .ok (.iload 4, 2) := by decide +kernel
theorem dX4_extend_154 : decode cX4_extend 154 = .ok (.invokevirtual 79, 3) := by decide +kernel
theorem dX4_extend_157 : decode cX4_extend 157 = .ok (.iconst 4, 1) := by decide +kernel
theorem dX4_extend_158 : decode cX4_extend 158 = .ok (.if_icmp .ne 13, 3) := by decide +kernel
theorem dX4_extend_161 : decode cX4_extend 161 = .ok (.aload_n 0, 1) := by decide +kernel
theorem dX4_extend_162 : decode cX4_extend 162 = .ok (.iload_n 1, 1) := by decide +kernel
theorem dX4_extend_163 : decode cX4_extend 163 = .ok (.iconst 1, 1) := by decide +kernel
theorem dX4_extend_164 : decode cX4_extend 164 = .ok (.iadd, 1) := by decide +kernel
theorem dX4_extend_165 : decode cX4_extend 165 = .ok (.iload 5, 2) := by decide +kernel
theorem dX4_extend_167 : decode cX4_extend 167 = .ok (.iload_n 3, 1) := by decide +kernel
theorem dX4_extend_168 : decode cX4_extend 168 = .ok (.invokevirtual 45, 3) := by decide +kernel
theorem dX4_extend_171 : decode cX4_extend 171 = .ok (.aload_n 0, 1) := by decide +kernel
theorem dX4_extend_172 : decode cX4_extend 172 = .ok (.getfield 34, 3) := by decide +kernel
theorem dX4_extend_175 : decode cX4_extend 175 = .ok (.invokevirtual 125, 3) := by decide +kernel
theorem dX4_extend_178 : decode cX4_extend 178 = .ok (.iinc 4 1, 3) := by decide +kernel
theorem dX4_extend_181 : decode cX4_extend 181 = .ok (.goto (-178), 3) := by decide +kernel
theorem dX4_extend_184 : decode cX4_extend 184 = .ok (.return_, 1) := by decide +kernel
theorem hd_X4_extend : yX4_extend.cls = RX4 ∧ yX4_extend.cls ≠ "java/lang/invoke/MethodHandle" ∧ yX4_extend.cls ≠ "java/lang/invoke/VarHandle" ∧ (parseMethodDescriptor yX4_extend.desc).map (fun d => d.parameters.length) = some 3 := by decide +kernel
def rmE (d : Nat) : Room := { frames := 5 + d, cells := 0, slots := 0, locals := 115 + 27 * d }
theorem rmE_ok {d f g : Nat} (h1 : f ≤ 5) (h2 : g ≤ 115) : f ≤ (rmE d).frames ∧ g ≤ (rmE d).locals := ⟨Nat.le_trans h1 (Nat.le_add_right _ _), Nat.le_trans h2 (Nat.le_add_right _ _)⟩
theorem rmE_s (d : Nat) : (rmE d).frames + 1 ≤ (rmE (d + 1)).frames ∧ 8 + (8 + 11) + (rmE d).locals ≤ (rmE (d + 1)).locals := ⟨by show 5 + d + 1 ≤ 5 + (d + 1); omega, by show 8 + (8 + 11) + (115 + 27 * d) ≤ 115 + 27 * (d + 1); omega⟩
def wp_X4_extend_178 (K : HF → Prop) (EX : (HF → Prop) → HF → Int32 → Int32 → Int32 → Prop) (L3 : HF → Int32 → Int32 → Int32 → Int32 → Prop) (F : HF) (v1 : Int32) (v2 : Int32) (v3 : Int32) (v4 : Int32) : Prop := L3 F v1 v2 v3 (v4 + (nI 1))
set_option maxRecDepth 100000 in
set_option maxHeartbeats 4000000 in
theorem k_X4_extend_178 {p : Program} {l : Launch} {e : Env} {s : State} {m : MethodId} {args : Array Value} {below : List Frame} {meth : Method} {c : Code} {D : va_G} {dA : Nat → ClassId} {ad : Nat → Nat} {R : List Nat} {A : Nat → Prop} {K : HF → Prop} {EX : (HF → Prop) → HF → Int32 → Int32 → Int32 → Prop} {dp : Nat} {L3 : HF → Int32 → Int32 → Int32 → Int32 → Prop} (X : Cx p s m args meth c cX4_extend 8 RX4 D dA) (hA : ∀ q, s.heap.size ≤ q → A q) (hr : meth.sig.returnType = none) (hT : Se R) (hEX : ∀ (K : HF → Prop) (F : HF) (a1 a2 a3 : Int32), EX K F a1 a2 a3 → MV l yX4_extend cX4_extend 8 (rmE dp) D dA ad R F [.ref (ad 79), .int a1, .int a2, .int a3] K) (hL3 : ∀ (F : HF) (v1 : Int32) (v2 : Int32) (v3 : Int32) (v4 : Int32), L3 F v1 v2 v3 v4 → J p l e (rmE (dp + 1)) s m args below meth c 8 D dA ad R A (QV D dA ad R A below args s K) F 3 [(0, .ref (ad 79)), (1, .int v1), (2, .int v2), (3, .int v3), (4, .int v4)] []) : ∀ (F : HF) (v1 : Int32) (v2 : Int32) (v3 : Int32) (v4 : Int32), wp_X4_extend_178 K EX L3  F v1 v2 v3 v4 → J p l e (rmE (dp + 1)) s m args below meth c 8 D dA ad R A (QV D dA ad R A below args s K) F 178 [(0, .ref (ad 79)), (1, .int v1), (2, .int v2), (3, .int v3), (4, .int v4)] [] := by
  intro F v1 v2 v3 v4 h
  unfold wp_X4_extend_178 at h
  refine r_iinc (pc := 178) (v := (v4 + (nI 1))) X 4 [(4, .int (v4 + (nI 1))), (0, .ref (ad 79)), (1, .int v1), (2, .int v2), (3, .int v3)] dX4_extend_178 rfl rfl (by decide) rfl ?_
  refine r_goto (pc := 181) (tgt := 3) X dX4_extend_181 (by decide) ?_
  refine r_sub [1, 2, 3, 4, 0] rfl ?_
  exact hL3 _ _ _ _ _ h
def wp_X4_extend_171 (K : HF → Prop) (EX : (HF → Prop) → HF → Int32 → Int32 → Int32 → Prop) (L3 : HF → Int32 → Int32 → Int32 → Int32 → Prop) (F : HF) (v1 : Int32) (v2 : Int32) (v3 : Int32) (v4 : Int32) : Prop := wp_X0_dropLast (fun F509 => wp_X4_extend_178 K EX L3  F509 v1 v2 v3 v4) F 80
set_option maxRecDepth 100000 in
set_option maxHeartbeats 4000000 in
theorem k_X4_extend_171 {p : Program} {l : Launch} {e : Env} {s : State} {m : MethodId} {args : Array Value} {below : List Frame} {meth : Method} {c : Code} {D : va_G} {dA : Nat → ClassId} {ad : Nat → Nat} {R : List Nat} {A : Nat → Prop} {K : HF → Prop} {EX : (HF → Prop) → HF → Int32 → Int32 → Int32 → Prop} {dp : Nat} {L3 : HF → Int32 → Int32 → Int32 → Int32 → Prop} (X : Cx p s m args meth c cX4_extend 8 RX4 D dA) (hA : ∀ q, s.heap.size ≤ q → A q) (hr : meth.sig.returnType = none) (hT : Se R) (hEX : ∀ (K : HF → Prop) (F : HF) (a1 a2 a3 : Int32), EX K F a1 a2 a3 → MV l yX4_extend cX4_extend 8 (rmE dp) D dA ad R F [.ref (ad 79), .int a1, .int a2, .int a3] K) (hL3 : ∀ (F : HF) (v1 : Int32) (v2 : Int32) (v3 : Int32) (v4 : Int32), L3 F v1 v2 v3 v4 → J p l e (rmE (dp + 1)) s m args below meth c 8 D dA ad R A (QV D dA ad R A below args s K) F 3 [(0, .ref (ad 79)), (1, .int v1), (2, .int v2), (3, .int v3), (4, .int v4)] []) : ∀ (F : HF) (v1 : Int32) (v2 : Int32) (v3 : Int32) (v4 : Int32), wp_X4_extend_171 K EX L3  F v1 v2 v3 v4 → J p l e (rmE (dp + 1)) s m args below meth c 8 D dA ad R A (QV D dA ad R A below args s K) F 171 [(0, .ref (ad 79)), (1, .int v1), (2, .int v2), (3, .int v3), (4, .int v4)] [] := by
  intro F v1 v2 v3 v4 h
  unfold wp_X4_extend_171 at h
  refine r_aload_n (pc := 171) X 0 dX4_extend_171 rfl rfl ?_
  refine fg_X4_34 (pc := 172) X hT.1 dX4_extend_172 ?_
  refine r_callVV (pc := 175) (As := []) (st := []) X hA (c_X0_dropLast hT.2.1 h) g_X4_125 cl_X0 hT.2.1.1 hd_X0_dropLast rfl rfl rfl (rmE_ok (Nat.le_of_ble_eq_true rfl) (Nat.le_of_ble_eq_true rfl)) rfl (Nat.le_of_ble_eq_true rfl) dX4_extend_175 (fun F509 h => ?_)
  exact k_X4_extend_178 X hA hr hT hEX hL3 _ _ _ _ _ h
def wp_X4_extend_161 (K : HF → Prop) (EX : (HF → Prop) → HF → Int32 → Int32 → Int32 → Prop) (L3 : HF → Int32 → Int32 → Int32 → Int32 → Prop) (F : HF) (v1 : Int32) (v2 : Int32) (v3 : Int32) (v4 : Int32) (v5 : Int32) : Prop := EX (fun F408 => wp_X4_extend_171 K EX L3  F408 v1 v2 v3 v4) F (v1 + (nI 1)) v5 v3
set_option maxRecDepth 100000 in
set_option maxHeartbeats 4000000 in
theorem k_X4_extend_161 {p : Program} {l : Launch} {e : Env} {s : State} {m : MethodId} {args : Array Value} {below : List Frame} {meth : Method} {c : Code} {D : va_G} {dA : Nat → ClassId} {ad : Nat → Nat} {R : List Nat} {A : Nat → Prop} {K : HF → Prop} {EX : (HF → Prop) → HF → Int32 → Int32 → Int32 → Prop} {dp : Nat} {L3 : HF → Int32 → Int32 → Int32 → Int32 → Prop} (X : Cx p s m args meth c cX4_extend 8 RX4 D dA) (hA : ∀ q, s.heap.size ≤ q → A q) (hr : meth.sig.returnType = none) (hT : Se R) (hEX : ∀ (K : HF → Prop) (F : HF) (a1 a2 a3 : Int32), EX K F a1 a2 a3 → MV l yX4_extend cX4_extend 8 (rmE dp) D dA ad R F [.ref (ad 79), .int a1, .int a2, .int a3] K) (hL3 : ∀ (F : HF) (v1 : Int32) (v2 : Int32) (v3 : Int32) (v4 : Int32), L3 F v1 v2 v3 v4 → J p l e (rmE (dp + 1)) s m args below meth c 8 D dA ad R A (QV D dA ad R A below args s K) F 3 [(0, .ref (ad 79)), (1, .int v1), (2, .int v2), (3, .int v3), (4, .int v4)] []) : ∀ (F : HF) (v1 : Int32) (v2 : Int32) (v3 : Int32) (v4 : Int32) (v5 : Int32), wp_X4_extend_161 K EX L3  F v1 v2 v3 v4 v5 → J p l e (rmE (dp + 1)) s m args below meth c 8 D dA ad R A (QV D dA ad R A below args s K) F 161 [(0, .ref (ad 79)), (1, .int v1), (2, .int v2), (3, .int v3), (4, .int v4), (5, .int v5)] [] := by
  intro F v1 v2 v3 v4 v5 h
  unfold wp_X4_extend_161 at h
  refine r_aload_n (pc := 161) X 0 dX4_extend_161 rfl rfl ?_
  refine r_iload_n (pc := 162) X 1 dX4_extend_162 rfl rfl ?_
  refine r_iconst (pc := 163) (v := (nI 1)) X dX4_extend_163 (by decide) ?_
  refine r_iadd (pc := 164) X dX4_extend_164 ?_
  refine r_iload (pc := 165) X 5 dX4_extend_165 rfl ?_
  refine r_iload_n (pc := 167) X 3 dX4_extend_167 rfl rfl ?_
  refine r_callVV (pc := 168) (As := [.int (v1 + (nI 1)), .int v5, .int v3]) (st := []) X hA (hEX _ _ _ _ _ h) g_X4_45 cl_X4 hT.1 hd_X4_extend rfl rfl rfl (rmE_s dp) rfl (Nat.le_of_ble_eq_true rfl) dX4_extend_168 (fun F408 h => ?_)
  refine r_sub [0, 1, 2, 3, 4] rfl ?_
  exact k_X4_extend_171 X hA hr hT hEX hL3 _ _ _ _ _ h
def wp_X4_extend_119 (K : HF → Prop) (EX : (HF → Prop) → HF → Int32 → Int32 → Int32 → Prop) (L3 : HF → Int32 → Int32 → Int32 → Int32 → Prop) (F : HF) (v1 : Int32) (v2 : Int32) (v3 : Int32) (v4 : Int32) (v5 : Int32) (s0 : Int32) : Prop := wp_X0_isWhole (fun x5 F307 => ((x5 = (nI 0)) → (((¬ s0 = (nI 0)) → (wp_X4_extend_161 K EX L3  F307 v1 v2 v3 v4 v5)) ∧ ((s0 = (nI 0)) → (wp_X1_kindOf (fun x6 F510 => ((¬ x6 = (nI 4)) → (wp_X4_extend_171 K EX L3  F510 v1 v2 v3 v4)) ∧ ((x6 = (nI 4)) → (wp_X4_extend_161 K EX L3  F510 v1 v2 v3 v4 v5))) F307 4 v4)))) ∧ ((¬ x5 = (nI 0)) → (((s0 = (nI 0)) → (wp_X4_extend_171 K EX L3  F307 v1 v2 v3 v4)) ∧ ((¬ s0 = (nI 0)) → (wp_X4_noteFound (fun F511 => wp_X4_extend_171 K EX L3  F511 v1 v2 v3 v4) F307 ))))) F 80
set_option maxRecDepth 100000 in
set_option maxHeartbeats 4000000 in
theorem k_X4_extend_119 {p : Program} {l : Launch} {e : Env} {s : State} {m : MethodId} {args : Array Value} {below : List Frame} {meth : Method} {c : Code} {D : va_G} {dA : Nat → ClassId} {ad : Nat → Nat} {R : List Nat} {A : Nat → Prop} {K : HF → Prop} {EX : (HF → Prop) → HF → Int32 → Int32 → Int32 → Prop} {dp : Nat} {L3 : HF → Int32 → Int32 → Int32 → Int32 → Prop} (X : Cx p s m args meth c cX4_extend 8 RX4 D dA) (hA : ∀ q, s.heap.size ≤ q → A q) (hr : meth.sig.returnType = none) (hT : Se R) (hEX : ∀ (K : HF → Prop) (F : HF) (a1 a2 a3 : Int32), EX K F a1 a2 a3 → MV l yX4_extend cX4_extend 8 (rmE dp) D dA ad R F [.ref (ad 79), .int a1, .int a2, .int a3] K) (hL3 : ∀ (F : HF) (v1 : Int32) (v2 : Int32) (v3 : Int32) (v4 : Int32), L3 F v1 v2 v3 v4 → J p l e (rmE (dp + 1)) s m args below meth c 8 D dA ad R A (QV D dA ad R A below args s K) F 3 [(0, .ref (ad 79)), (1, .int v1), (2, .int v2), (3, .int v3), (4, .int v4)] []) : ∀ (F : HF) (v1 : Int32) (v2 : Int32) (v3 : Int32) (v4 : Int32) (v5 : Int32) (s0 : Int32), wp_X4_extend_119 K EX L3  F v1 v2 v3 v4 v5 s0 → J p l e (rmE (dp + 1)) s m args below meth c 8 D dA ad R A (QV D dA ad R A below args s K) F 119 [(0, .ref (ad 79)), (1, .int v1), (2, .int v2), (3, .int v3), (4, .int v4), (5, .int v5)] [.int s0] := by
  intro F v1 v2 v3 v4 v5 s0 h
  unfold wp_X4_extend_119 at h
  refine r_istore (pc := 119) X [(7, .int s0), (0, .ref (ad 79)), (1, .int v1), (2, .int v2), (3, .int v3), (4, .int v4), (5, .int v5)] dX4_extend_119 (by decide) rfl ?_
  refine r_aload_n (pc := 121) X 1 dX4_extend_121 rfl rfl ?_
  refine fg_X4_34 (pc := 122) X hT.1 dX4_extend_122 ?_
  refine r_callIV (pc := 125) (As := []) (st := []) X hA (c_X0_isWhole hT.2.1 h) g_X4_118 cl_X0 hT.2.1.1 hd_X0_isWhole rfl rfl rfl (rmE_ok (Nat.le_of_ble_eq_true rfl) (Nat.le_of_ble_eq_true rfl)) rfl (Nat.le_of_ble_eq_true rfl) dX4_extend_125 (fun x5 F307 h => ?_)
  refine r_if_eq (pc := 128) (tgt := 143) X dX4_extend_128 (by decide) (fun hc => ?_) (fun hc => ?_)
  · replace h := h.1 hc
    refine r_iload (pc := 143) X 0 dX4_extend_143 rfl ?_
    refine r_if_ne (pc := 145) (tgt := 161) X dX4_extend_145 (by decide) (fun hc => ?_) (fun hc => ?_)
    · replace h := h.1 hc
      refine r_sub [1, 2, 3, 4, 5, 6] rfl ?_
      exact k_X4_extend_161 X hA hr hT hEX hL3 _ _ _ _ _ _ h
    · replace h := h.2 hc
      refine r_aload_n (pc := 148) X 1 dX4_extend_148 rfl rfl ?_
      refine fg_X4_25 (pc := 149) X hT.1 dX4_extend_149 ?_
      refine r_iload (pc := 152) X 5 dX4_extend_152 rfl ?_
      refine r_callIV (pc := 154) (As := [.int v4]) (st := []) X hA (c_X1_kindOf hT.2.1.2.2.2.2 h) g_X4_79 cl_X1 hT.2.1.2.2.2.2.1 hd_X1_kindOf rfl rfl rfl (rmE_ok (Nat.le_of_ble_eq_true rfl) (Nat.le_of_ble_eq_true rfl)) rfl (Nat.le_of_ble_eq_true rfl) dX4_extend_154 (fun x6 F510 h => ?_)
      refine r_iconst (pc := 157) (v := (nI 4)) X dX4_extend_157 (by decide) ?_
      refine r_icmp_ne (pc := 158) (tgt := 171) X dX4_extend_158 (by decide) (fun hc => ?_) (fun hc => ?_)
      · replace h := h.1 hc
        refine r_sub [1, 2, 3, 4, 5] rfl ?_
        exact k_X4_extend_171 X hA hr hT hEX hL3 _ _ _ _ _ h
      · replace h := h.2 hc
        refine r_sub [1, 2, 3, 4, 5, 6] rfl ?_
        exact k_X4_extend_161 X hA hr hT hEX hL3 _ _ _ _ _ _ h
  · replace h := h.2 hc
    refine r_iload (pc := 131) X 0 dX4_extend_131 rfl ?_
    refine r_if_eq (pc := 133) (tgt := 171) X dX4_extend_133 (by decide) (fun hc => ?_) (fun hc => ?_)
    · replace h := h.1 hc
      refine r_sub [1, 2, 3, 4, 5] rfl ?_
      exact k_X4_extend_171 X hA hr hT hEX hL3 _ _ _ _ _ h
    · replace h := h.2 hc
      refine r_aload_n (pc := 136) X 1 dX4_extend_136 rfl rfl ?_
      refine r_callVV (pc := 137) (As := []) (st := []) X hA (c_X4_noteFound hT h) g_X4_122 cl_X4 hT.1 hd_X4_noteFound rfl rfl rfl (rmE_ok (Nat.le_of_ble_eq_true rfl) (Nat.le_of_ble_eq_true rfl)) rfl (Nat.le_of_ble_eq_true rfl) dX4_extend_137 (fun F511 h => ?_)
      refine r_goto (pc := 140) (tgt := 171) X dX4_extend_140 (by decide) ?_
      refine r_sub [1, 2, 3, 4, 5] rfl ?_
      exact k_X4_extend_171 X hA hr hT hEX hL3 _ _ _ _ _ h
def wp_X4_extend_3 (K : HF → Prop) (EX : (HF → Prop) → HF → Int32 → Int32 → Int32 → Prop) : Nat → HF → Int32 → Int32 → Int32 → Int32 → Prop
  | 0 => fun _ _ _ _ _ => False
  | n3_ + 1 => fun F v1 v2 v3 v4 => wp_X1_birds (fun x1 F101 => ((x1 ≤ v4) → (K F101)) ∧ ((¬ x1 ≤ v4) → ((((nI 8) ≤ v1) → (K F101)) ∧ ((¬ (nI 8) ≤ v1) → ((((nI 256) ≤ (v2 ||| ((nI 1) <<< (v4 &&& 31)))) → (wp_X4_extend_178 K EX (wp_X4_extend_3 K EX n3_)  F101 v1 v2 v3 v4)) ∧ ((¬ (nI 256) ≤ (v2 ||| ((nI 1) <<< (v4 &&& 31)))) → ((vp_in (v2 ||| ((nI 1) <<< (v4 &&& 31))) 256) ∧ ((((F101 79 4) ≤ ((v1 + (nI 1)) + (F101 87 (v2 ||| ((nI 1) <<< (v4 &&& 31))).toNatClampNeg))) → (wp_X4_extend_178 K EX (wp_X4_extend_3 K EX n3_)  F101 v1 v2 v3 v4)) ∧ ((¬ (F101 79 4) ≤ ((v1 + (nI 1)) + (F101 87 (v2 ||| ((nI 1) <<< (v4 &&& 31))).toNatClampNeg))) → (wp_X0_mayJoin (fun x2 F202 => ((¬ x2 = (nI 0)) → (wp_X0_append (fun F203 => wp_X0_rest (fun F204 => wp_X0_placesSpanned (fun x3 F205 => wp_X0_walk (fun x4 F206 => ((¬ x4 = x3) → (wp_X4_extend_119 K EX (wp_X4_extend_3 K EX n3_)  F206 v1 v2 v3 v4 (v2 ||| ((nI 1) <<< (v4 &&& 31))) (nI 0))) ∧ ((x4 = x3) → (wp_X4_extend_119 K EX (wp_X4_extend_3 K EX n3_)  F206 v1 v2 v3 v4 (v2 ||| ((nI 1) <<< (v4 &&& 31))) (nI 1)))) F205 80 (nI 0) x3 (nI 0) v3) F204 80) F203 80) F202 80 v4)) ∧ ((x2 = (nI 0)) → (wp_X4_extend_178 K EX (wp_X4_extend_3 K EX n3_)  F202 v1 v2 v3 v4))) F101 80 v4)))))))))) F 4
set_option maxRecDepth 100000 in
set_option maxHeartbeats 4000000 in
theorem k_X4_extend_3 {p : Program} {l : Launch} {e : Env} {s : State} {m : MethodId} {args : Array Value} {below : List Frame} {meth : Method} {c : Code} {D : va_G} {dA : Nat → ClassId} {ad : Nat → Nat} {R : List Nat} {A : Nat → Prop} {K : HF → Prop} {EX : (HF → Prop) → HF → Int32 → Int32 → Int32 → Prop} {dp : Nat} (X : Cx p s m args meth c cX4_extend 8 RX4 D dA) (hA : ∀ q, s.heap.size ≤ q → A q) (hr : meth.sig.returnType = none) (hT : Se R) (hEX : ∀ (K : HF → Prop) (F : HF) (a1 a2 a3 : Int32), EX K F a1 a2 a3 → MV l yX4_extend cX4_extend 8 (rmE dp) D dA ad R F [.ref (ad 79), .int a1, .int a2, .int a3] K) : ∀ (n_ : Nat) (F : HF) (v1 : Int32) (v2 : Int32) (v3 : Int32) (v4 : Int32), wp_X4_extend_3 K EX  n_ F v1 v2 v3 v4 → J p l e (rmE (dp + 1)) s m args below meth c 8 D dA ad R A (QV D dA ad R A below args s K) F 3 [(0, .ref (ad 79)), (1, .int v1), (2, .int v2), (3, .int v3), (4, .int v4)] [] := by
  intro n_
  induction n_ with
  | zero => intro F v1 v2 v3 v4 h; exact h.elim
  | succ n_ ih =>
    intro F v1 v2 v3 v4 h
    unfold wp_X4_extend_3 at h
    refine r_iload (pc := 3) X 4 dX4_extend_3 rfl ?_
    refine r_aload_n (pc := 5) X 0 dX4_extend_5 rfl rfl ?_
    refine fg_X4_25 (pc := 6) X hT.1 dX4_extend_6 ?_
    refine r_callIV (pc := 9) (As := []) (st := [.int v4]) X hA (c_X1_birds hT.2.1.2.2.2.2 h) g_X4_63 cl_X1 hT.2.1.2.2.2.2.1 hd_X1_birds rfl rfl rfl (rmE_ok (Nat.le_of_ble_eq_true rfl) (Nat.le_of_ble_eq_true rfl)) rfl (Nat.le_of_ble_eq_true rfl) dX4_extend_9 (fun x1 F101 h => ?_)
    refine r_icmp_ge (pc := 12) (tgt := 184) X dX4_extend_12 (by decide) (fun hc => ?_) (fun hc => ?_)
    · replace h := h.1 hc
      exact r_vret (pc := 184) X hr dX4_extend_184 h
    · replace h := h.2 hc
      refine r_iload_n (pc := 15) X 1 dX4_extend_15 rfl rfl ?_
      refine r_bipush (pc := 16) (v := (nI 8)) X dX4_extend_16 (by decide) ?_
      refine r_icmp_ge (pc := 18) (tgt := 184) X dX4_extend_18 (by decide) (fun hc => ?_) (fun hc => ?_)
      · replace h := h.1 hc
        exact r_vret (pc := 184) X hr dX4_extend_184 h
      · replace h := h.2 hc
        refine r_iload_n (pc := 21) X 2 dX4_extend_21 rfl rfl ?_
        refine r_iconst (pc := 22) (v := (nI 1)) X dX4_extend_22 (by decide) ?_
        refine r_iload (pc := 23) X 4 dX4_extend_23 rfl ?_
        refine r_ishl (pc := 25) X dX4_extend_25 ?_
        refine r_ior (pc := 26) X dX4_extend_26 ?_
        refine r_istore (pc := 27) X [(5, .int (v2 ||| ((nI 1) <<< (v4 &&& 31)))), (0, .ref (ad 79)), (1, .int v1), (2, .int v2), (3, .int v3), (4, .int v4)] dX4_extend_27 (by decide) rfl ?_
        refine r_iload (pc := 29) X 0 dX4_extend_29 rfl ?_
        refine r_aload_n (pc := 31) X 1 dX4_extend_31 rfl rfl ?_
        refine fg_X4_15 (pc := 32) X hT.1 dX4_extend_32 ?_
        refine r_alen (pc := 35) (v := (nI 256)) X (Or.inl hT.2.2.2) rfl dX4_extend_35 ?_
        refine r_icmp_ge (pc := 36) (tgt := 178) X dX4_extend_36 (by decide) (fun hc => ?_) (fun hc => ?_)
        · replace h := h.1 hc
          refine r_sub [1, 2, 3, 4, 5] rfl ?_
          exact k_X4_extend_178 X hA hr hT hEX ih _ _ _ _ _ h
        · replace h := h.2 hc
          refine r_iload_n (pc := 39) X 2 dX4_extend_39 rfl rfl ?_
          refine r_iconst (pc := 40) (v := (nI 1)) X dX4_extend_40 (by decide) ?_
          refine r_iadd (pc := 41) X dX4_extend_41 ?_
          refine r_aload_n (pc := 42) X 1 dX4_extend_42 rfl rfl ?_
          refine fg_X4_15 (pc := 43) X hT.1 dX4_extend_43 ?_
          refine r_iload (pc := 46) X 0 dX4_extend_46 rfl ?_
          refine r_iald (pc := 48) X hT.2.2.2 h.1 dX4_extend_48 ?_
          replace h := h.2
          refine r_iadd (pc := 49) X dX4_extend_49 ?_
          refine r_aload_n (pc := 50) X 1 dX4_extend_50 rfl rfl ?_
          refine fg_X4_18 (pc := 51) X hT.1 dX4_extend_51 ?_
          refine r_icmp_ge (pc := 54) (tgt := 178) X dX4_extend_54 (by decide) (fun hc => ?_) (fun hc => ?_)
          · replace h := h.1 hc
            refine r_sub [1, 2, 3, 4, 5] rfl ?_
            exact k_X4_extend_178 X hA hr hT hEX ih _ _ _ _ _ h
          · replace h := h.2 hc
            refine r_aload_n (pc := 57) X 1 dX4_extend_57 rfl rfl ?_
            refine fg_X4_34 (pc := 58) X hT.1 dX4_extend_58 ?_
            refine r_iload (pc := 61) X 5 dX4_extend_61 rfl ?_
            refine r_callIV (pc := 63) (As := [.int v4]) (st := []) X hA (c_X0_mayJoin hT.2.1 h) g_X4_101 cl_X0 hT.2.1.1 hd_X0_mayJoin rfl rfl rfl (rmE_ok (Nat.le_of_ble_eq_true rfl) (Nat.le_of_ble_eq_true rfl)) rfl (Nat.le_of_ble_eq_true rfl) dX4_extend_63 (fun x2 F202 h => ?_)
            refine r_if_ne (pc := 66) (tgt := 72) X dX4_extend_66 (by decide) (fun hc => ?_) (fun hc => ?_)
            · replace h := h.1 hc
              refine r_aload_n (pc := 72) X 1 dX4_extend_72 rfl rfl ?_
              refine fg_X4_34 (pc := 73) X hT.1 dX4_extend_73 ?_
              refine r_iload (pc := 76) X 5 dX4_extend_76 rfl ?_
              refine r_callVV (pc := 78) (As := [.int v4]) (st := []) X hA (c_X0_append hT.2.1 h) g_X4_105 cl_X0 hT.2.1.1 hd_X0_append rfl rfl rfl (rmE_ok (Nat.le_of_ble_eq_true rfl) (Nat.le_of_ble_eq_true rfl)) rfl (Nat.le_of_ble_eq_true rfl) dX4_extend_78 (fun F203 h => ?_)
              refine r_aload_n (pc := 81) X 1 dX4_extend_81 rfl rfl ?_
              refine fg_X4_34 (pc := 82) X hT.1 dX4_extend_82 ?_
              refine r_callVV (pc := 85) (As := []) (st := []) X hA (c_X0_rest hT.2.1 h) g_X4_108 cl_X0 hT.2.1.1 hd_X0_rest rfl rfl rfl (rmE_ok (Nat.le_of_ble_eq_true rfl) (Nat.le_of_ble_eq_true rfl)) rfl (Nat.le_of_ble_eq_true rfl) dX4_extend_85 (fun F204 h => ?_)
              refine r_aload_n (pc := 88) X 1 dX4_extend_88 rfl rfl ?_
              refine fg_X4_34 (pc := 89) X hT.1 dX4_extend_89 ?_
              refine r_callIV (pc := 92) (As := []) (st := []) X hA (c_X0_placesSpanned hT.2.1 h) g_X4_111 cl_X0 hT.2.1.1 hd_X0_placesSpanned rfl rfl rfl (rmE_ok (Nat.le_of_ble_eq_true rfl) (Nat.le_of_ble_eq_true rfl)) rfl (Nat.le_of_ble_eq_true rfl) dX4_extend_92 (fun x3 F205 h => ?_)
              refine r_istore (pc := 95) X [(6, .int x3), (5, .int (v2 ||| ((nI 1) <<< (v4 &&& 31)))), (0, .ref (ad 79)), (1, .int v1), (2, .int v2), (3, .int v3), (4, .int v4)] dX4_extend_95 (by decide) rfl ?_
              refine r_aload_n (pc := 97) X 2 dX4_extend_97 rfl rfl ?_
              refine fg_X4_34 (pc := 98) X hT.1 dX4_extend_98 ?_
              refine r_iconst (pc := 101) (v := (nI 0)) X dX4_extend_101 (by decide) ?_
              refine r_iload (pc := 102) X 0 dX4_extend_102 rfl ?_
              refine r_iconst (pc := 104) (v := (nI 0)) X dX4_extend_104 (by decide) ?_
              refine r_iload_n (pc := 105) X 5 dX4_extend_105 rfl rfl ?_
              refine r_callIV (pc := 106) (As := [.int (nI 0), .int x3, .int (nI 0), .int v3]) (st := []) X hA (c_X0_walk hT.2.1 h) g_X4_114 cl_X0 hT.2.1.1 hd_X0_walk rfl rfl rfl (rmE_ok (Nat.le_of_ble_eq_true rfl) (Nat.le_of_ble_eq_true rfl)) rfl (Nat.le_of_ble_eq_true rfl) dX4_extend_106 (fun x4 F206 h => ?_)
              refine r_iload (pc := 109) X 0 dX4_extend_109 rfl ?_
              refine r_icmp_ne (pc := 111) (tgt := 118) X dX4_extend_111 (by decide) (fun hc => ?_) (fun hc => ?_)
              · replace h := h.1 hc
                refine r_iconst (pc := 118) (v := (nI 0)) X dX4_extend_118 (by decide) ?_
                refine r_sub [2, 3, 4, 5, 6, 1] rfl ?_
                exact k_X4_extend_119 X hA hr hT hEX ih _ _ _ _ _ _ _ h
              · replace h := h.2 hc
                refine r_iconst (pc := 114) (v := (nI 1)) X dX4_extend_114 (by decide) ?_
                refine r_goto (pc := 115) (tgt := 119) X dX4_extend_115 (by decide) ?_
                refine r_sub [2, 3, 4, 5, 6, 1] rfl ?_
                exact k_X4_extend_119 X hA hr hT hEX ih _ _ _ _ _ _ _ h
            · replace h := h.2 hc
              refine r_goto (pc := 69) (tgt := 178) X dX4_extend_69 (by decide) ?_
              refine r_sub [1, 2, 3, 4, 5] rfl ?_
              exact k_X4_extend_178 X hA hr hT hEX ih _ _ _ _ _ h
def wp_X4_extend : Nat → (HF → Prop) → HF → Int32 → Int32 → Int32 → Prop
  | 0 => fun _ _ _ _ _ => False
  | d + 1 => fun K F a1 a2 a3 => ∃ m_, wp_X4_extend_3 K (wp_X4_extend d)  m_ F a1 a2 a3 (nI 0)
set_option maxRecDepth 100000 in
set_option maxHeartbeats 4000000 in
theorem c_X4_extend {l : Launch} {D : va_G} {dA : Nat → ClassId} {ad : Nat → Nat} {R : List Nat} (hT : Se R) : ∀ (d : Nat) (K : HF → Prop) (F : HF) (a1 a2 a3 : Int32), wp_X4_extend d K F a1 a2 a3 → MV l yX4_extend cX4_extend 8 (rmE d) D dA ad R F [.ref (ad 79), .int a1, .int a2, .int a3] K := by
  intro d
  induction d with
  | zero => intro K F a1 a2 a3 h; exact h.elim
  | succ dp hEX =>
    intro K F a1 a2 a3 h
    refine MV.of (own := RX4) (by decide) rfl (Nat.le_of_ble_eq_true rfl) ?_
    intro p e s m args below meth c A hA X hr
    unfold wp_X4_extend at h
    show J p l e (rmE (dp + 1)) s m args below meth c 8 D dA ad R A (QV D dA ad R A below args s K) F 0 [(0, .ref (ad 79)), (1, .int a1), (2, .int a2), (3, .int a3)] []
    refine r_iconst (pc := 0) (v := (nI 0)) X dX4_extend_0 (by decide) ?_
    refine r_istore (pc := 1) X [(4, .int (nI 0)), (0, .ref (ad 79)), (1, .int a1), (2, .int a2), (3, .int a3)] dX4_extend_1 (by decide) rfl ?_
    refine r_sub [1, 2, 3, 4, 0] rfl ?_
    obtain ⟨n1, h⟩ := h
    exact k_X4_extend_3 X hA hr hT hEX  n1 _ _ _ _ _ h
theorem dX4_couldBear_0 : decode cX4_couldBear 0 = .ok (.aload_n 0, 1) := by decide +kernel
theorem dX4_couldBear_1 : decode cX4_couldBear 1 = .ok (.getfield 25, 3) := by decide +kernel
theorem dX4_couldBear_4 : decode cX4_couldBear 4 = .ok (.iload_n 1, 1) := by decide +kernel
theorem dX4_couldBear_5 : decode cX4_couldBear 5 = .ok (.invokevirtual 79, 3) := by decide +kernel
theorem dX4_couldBear_8 : decode cX4_couldBear 8 = .ok (.istore 4, 2) := by decide +kernel
theorem dX4_couldBear_10 : decode cX4_couldBear 10 = .ok (.iload_n 2, 1) := by decide +kernel
theorem dX4_couldBear_11 : decode cX4_couldBear 11 = .ok (.aload_n 0, 1) := by decide +kernel
theorem dX4_couldBear_12 : decode cX4_couldBear 12 = .ok (.getfield 25, 3) := by decide +kernel
theorem dX4_couldBear_15 : decode cX4_couldBear 15 = .ok (.iload_n 1, 1) := by decide +kernel
theorem dX4_couldBear_16 : decode cX4_couldBear 16 = .ok (.invokevirtual 66, 3) := by decide +kernel
theorem dX4_couldBear_19 : decode cX4_couldBear 19 = .ok (.iadd, 1) := by decide +kernel
theorem dX4_couldBear_20 : decode cX4_couldBear 20 = .ok (.istore 5, 2) := by decide +kernel
theorem dX4_couldBear_22 : decode cX4_couldBear 22 = .ok (.iload_n 2, 1) := by decide +kernel
theorem dX4_couldBear_23 : decode cX4_couldBear 23 = .ok (.ifCond .le 19, 3) := by decide +kernel
theorem dX4_couldBear_26 : decode cX4_couldBear 26 = .ok (.iload 5, 2) := by decide +kernel
theorem dX4_couldBear_28 : decode cX4_couldBear 28 = .ok (.aload_n 0, 1) := by decide +kernel
theorem dX4_couldBear_29 : decode cX4_couldBear 29 = .ok (.getfield 25, 3) := by decide +kernel
theorem dX4_couldBear_32 : decode cX4_couldBear 32 = .ok (.invokevirtual 53, 3) := by decide +kernel
theorem dX4_couldBear_35 : decode cX4_couldBear 35 = .ok (.if_icmp .ge 7, 3) := by decide +kernel
theorem dX4_couldBear_38 : decode cX4_couldBear 38 = .ok (.iconst 1, 1) := by decide +kernel
theorem dX4_couldBear_39 : decode cX4_couldBear 39 = .ok (.goto 4, 3) := by decide +kernel
theorem dX4_couldBear_42 : decode cX4_couldBear 42 = .ok (.iconst 0, 1) := by decide +kernel
theorem dX4_couldBear_43 : decode cX4_couldBear 43 = .ok (.istore 6, 2) := by decide +kernel
theorem dX4_couldBear_45 : decode cX4_couldBear 45 = .ok (.aload_n 0, 1) := by decide +kernel
theorem dX4_couldBear_46 : decode cX4_couldBear 46 = .ok (.getfield 25, 3) := by decide +kernel
theorem dX4_couldBear_49 : decode cX4_couldBear 49 = .ok (.iload_n 1, 1) := by decide +kernel
theorem dX4_couldBear_50 : decode cX4_couldBear 50 = .ok (.invokevirtual 82, 3) := by decide +kernel
theorem dX4_couldBear_53 : decode cX4_couldBear 53 = .ok (.istore 7, 2) := by decide +kernel
theorem dX4_couldBear_55 : decode cX4_couldBear 55 = .ok (.iconst 0, 1) := by decide +kernel
theorem dX4_couldBear_56 : decode cX4_couldBear 56 = .ok (.iload_n 2, 1) := by decide +kernel
theorem dX4_couldBear_57 : decode cX4_couldBear 57 = .ok (.iconst 2, 1) := by decide +kernel
theorem dX4_couldBear_58 : decode cX4_couldBear 58 = .ok (.isub, 1) := by decide +kernel
theorem dX4_couldBear_59 : decode cX4_couldBear 59 = .ok (.invokestatic 85, 3) := by decide +kernel
theorem dX4_couldBear_62 : decode cX4_couldBear 62 = .ok (.istore 8, 2) := by decide +kernel
theorem dX4_couldBear_64 : decode cX4_couldBear 64 = .ok (.iload 8, 2) := by decide +kernel
theorem dX4_couldBear_66 : decode cX4_couldBear 66 = .ok (.iload 5, 2) := by decide +kernel
theorem dX4_couldBear_68 : decode cX4_couldBear 68 = .ok (.iconst 2, 1) := by decide +kernel
theorem dX4_couldBear_69 : decode cX4_couldBear 69 = .ok (.iadd, 1) := by decide +kernel
theorem dX4_couldBear_70 : decode cX4_couldBear 70 = .ok (.if_icmp .ge 94, 3) := by decide +kernel
theorem dX4_couldBear_73 : decode cX4_couldBear 73 = .ok (.iload 8, 2) := by decide +kernel
theorem dX4_couldBear_75 : decode cX4_couldBear 75 = .ok (.aload_n 0, 1) := by decide +kernel
theorem dX4_couldBear_76 : decode cX4_couldBear 76 = .ok (.getfield 25, 3) := by decide +kernel
theorem dX4_couldBear_79 : decode cX4_couldBear 79 = .ok (.invokevirtual 53, 3) := by decide +kernel
theorem dX4_couldBear_82 : decode cX4_couldBear 82 = .ok (.if_icmp .ge 82, 3) := by decide +kernel
theorem dX4_couldBear_85 : decode cX4_couldBear 85 = .ok (.iload 8, 2) := by decide +kernel
theorem dX4_couldBear_87 : decode cX4_couldBear 87 = .ok (.iload_n 2, 1) := by decide +kernel
theorem dX4_couldBear_88 : decode cX4_couldBear 88 = .ok (.if_icmp .ge 10, 3) := by decide +kernel
theorem dX4_couldBear_91 : decode cX4_couldBear 91 = .ok (.iload_n 2, 1) := by decide +kernel
theorem dX4_couldBear_92 : decode cX4_couldBear 92 = .ok (.iload 8, 2) := by decide +kernel
theorem dX4_couldBear_94 : decode cX4_couldBear 94 = .ok (.isub, 1) := by decide +kernel
theorem dX4_couldBear_95 : decode cX4_couldBear 95 = .ok (.goto 14, 3) := by decide +kernel
theorem dX4_couldBear_98 : decode cX4_couldBear 98 = .ok (.iconst 0, 1) := by decide +kernel
theorem dX4_couldBear_99 : decode cX4_couldBear 99 = .ok (.iload 8, 2) := by decide +kernel
theorem dX4_couldBear_101 : decode cX4_couldBear 101 = .ok (.iload 5, 2) := by decide +kernel
theorem dX4_couldBear_103 : decode cX4_couldBear 103 = .ok (.isub, 1) := by decide +kernel
theorem dX4_couldBear_104 : decode cX4_couldBear 104 = .ok (.iconst 1, 1) := by decide +kernel
theorem dX4_couldBear_105 : decode cX4_couldBear 105 = .ok (.iadd, 1) := by decide +kernel
theorem dX4_couldBear_106 : decode cX4_couldBear 106 = .ok (.invokestatic 85, 3) := by decide +kernel
theorem dX4_couldBear_109 : decode cX4_couldBear 109 = .ok (.istore 9, 2) := by decide +kernel
theorem dX4_couldBear_111 : decode cX4_couldBear 111 = .ok (.iload_n 3, 1) := by decide +kernel
theorem dX4_couldBear_112 : decode cX4_couldBear 112 = .ok (.aload_n 0, 1) := by decide +kernel
theorem dX4_couldBear_113 : decode cX4_couldBear 113 = .ok (.getfield 25, 3) := by decide +kernel
theorem dX4_couldBear_116 : decode cX4_couldBear 116 = .ok (.iload 8, 2) := by decide +kernel
theorem dX4_couldBear_118 : decode cX4_couldBear 118 = .ok (.invokevirtual 88, 3) := by decide +kernel
theorem dX4_couldBear_121 : decode cX4_couldBear 121 = .ok (.iadd, 1) := by decide +kernel
theorem dX4_couldBear_122 : decode cX4_couldBear 122 = .ok (.iload 9, 2) := by decide +kernel
theorem dX4_couldBear_124 : decode cX4_couldBear 124 = .ok (.invokestatic 91, 3) := by decide +kernel
theorem dX4_couldBear_127 : decode cX4_couldBear 127 = .ok (.istore 10, 2) := by decide +kernel
theorem dX4_couldBear_129 : decode cX4_couldBear 129 = .ok (.iload 10, 2) := by decide +kernel
theorem dX4_couldBear_131 : decode cX4_couldBear 131 = .ok (.iload 4, 2) := by decide +kernel
theorem dX4_couldBear_133 : decode cX4_couldBear 133 = .ok (.iload 7, 2) := by decide +kernel
theorem dX4_couldBear_135 : decode cX4_couldBear 135 = .ok (.iload 6, 2) := by decide +kernel
theorem dX4_couldBear_137 : decode cX4_couldBear 137 = .ok (.iconst 1, 1) := by decide +kernel
theorem dX4_couldBear_138 : decode cX4_couldBear 138 = .ok (.invokestatic 94, 3) := by decide +kernel
theorem dX4_couldBear_141 : decode cX4_couldBear 141 = .ok (.if_icmp .le 5, 3) := by decide +kernel
theorem dX4_couldBear_144 : decode cX4_couldBear 144 = .ok (.iconst 0, 1) := by decide +kernel
theorem dX4_couldBear_145 : decode cX4_couldBear 145 = .ok (.ireturn, 1) := by decide +kernel
theorem dX4_couldBear_146 : decode cX4_couldBear 146 = .ok (.iload 7, 2) := by decide +kernel
theorem dX4_couldBear_148 : decode cX4_couldBear 148 = .ok (.iload 4, 2) := by decide +kernel
theorem dX4_couldBear_150 : decode cX4_couldBear 150 = .ok (.iload 10, 2) := by decide +kernel
theorem dX4_couldBear_152 : decode cX4_couldBear 152 = .ok (.invokestatic 98, 3) := by decide +kernel
theorem dX4_couldBear_155 : decode cX4_couldBear 155 = .ok (.isub, 1) := by decide +kernel
theorem dX4_couldBear_156 : decode cX4_couldBear 156 = .ok (.istore 7, 2) := by decide +kernel
theorem dX4_couldBear_158 : decode cX4_couldBear 158 = .ok (.iinc 8 1, 3) := by decide +kernel
theorem dX4_couldBear_161 : decode cX4_couldBear 161 = .ok (.goto (-97), 3) := by decide +kernel
theorem dX4_couldBear_164 : decode cX4_couldBear 164 = .ok (.iconst 1, 1) := by decide +kernel
theorem dX4_couldBear_165 : decode cX4_couldBear 165 = .ok (.ireturn, 1) := by decide +kernel
theorem hd_X4_couldBear : yX4_couldBear.cls = RX4 ∧ yX4_couldBear.cls ≠ "java/lang/invoke/MethodHandle" ∧ yX4_couldBear.cls ≠ "java/lang/invoke/VarHandle" ∧ (parseMethodDescriptor yX4_couldBear.desc).map (fun d => d.parameters.length) = some 3 := by decide +kernel
abbrev rm_X4_couldBear : Room := { frames := 1, cells := 0, slots := 0, locals := 23 }
def wp_X4_couldBear_109 (K : Int32 → HF → Prop) (L64 : HF → Int32 → Int32 → Int32 → Int32 → Int32 → Int32 → Int32 → Prop) (F : HF) (v2 : Int32) (v3 : Int32) (v4 : Int32) (v5 : Int32) (v6 : Int32) (v7 : Int32) (v8 : Int32) (s0 : Int32) : Prop := wp_X1_windIn (fun x5 F405 => wp_X0_partOf (fun x6 F406 => wp_X0_powerOf (fun x7 F407 => ((x6 ≤ x7) → (wp_X0_tiredBy (fun x8 F408 => L64 F408 v2 v3 v4 v5 v6 (v7 - x8) (v8 + (nI 1))) F407 v4 x6)) ∧ ((¬ x6 ≤ x7) → (K (nI 0) F407))) F406 v4 v7 v6 (nI 1)) F405 (v3 + x5) s0) F 4 v8
set_option maxRecDepth 100000 in
set_option maxHeartbeats 4000000 in
theorem k_X4_couldBear_109 {p : Program} {l : Launch} {e : Env} {s : State} {m : MethodId} {args : Array Value} {below : List Frame} {meth : Method} {c : Code} {D : va_G} {dA : Nat → ClassId} {ad : Nat → Nat} {R : List Nat} {A : Nat → Prop} {K : Int32 → HF → Prop} {L64 : HF → Int32 → Int32 → Int32 → Int32 → Int32 → Int32 → Int32 → Prop} (X : Cx p s m args meth c cX4_couldBear 11 RX4 D dA) (hA : ∀ q, s.heap.size ≤ q → A q) (hr : meth.sig.returnType = some .boolean) (hT : Se R) (hL64 : ∀ (F : HF) (v2 : Int32) (v3 : Int32) (v4 : Int32) (v5 : Int32) (v6 : Int32) (v7 : Int32) (v8 : Int32), L64 F v2 v3 v4 v5 v6 v7 v8 → J p l e rm_X4_couldBear s m args below meth c 11 D dA ad R A (QI D dA ad R A below args s K) F 64 [(0, .ref (ad 79)), (2, .int v2), (3, .int v3), (4, .int v4), (5, .int v5), (6, .int v6), (7, .int v7), (8, .int v8)] []) : ∀ (F : HF) (v2 : Int32) (v3 : Int32) (v4 : Int32) (v5 : Int32) (v6 : Int32) (v7 : Int32) (v8 : Int32) (s0 : Int32), wp_X4_couldBear_109 K L64  F v2 v3 v4 v5 v6 v7 v8 s0 → J p l e rm_X4_couldBear s m args below meth c 11 D dA ad R A (QI D dA ad R A below args s K) F 109 [(0, .ref (ad 79)), (2, .int v2), (3, .int v3), (4, .int v4), (5, .int v5), (6, .int v6), (7, .int v7), (8, .int v8)] [.int s0] := by
  intro F v2 v3 v4 v5 v6 v7 v8 s0 h
  unfold wp_X4_couldBear_109 at h
  refine r_istore (pc := 109) X [(9, .int s0), (0, .ref (ad 79)), (2, .int v2), (3, .int v3), (4, .int v4), (5, .int v5), (6, .int v6), (7, .int v7), (8, .int v8)] dX4_couldBear_109 (by decide) rfl ?_
  refine r_iload_n (pc := 111) X 3 dX4_couldBear_111 rfl rfl ?_
  refine r_aload_n (pc := 112) X 1 dX4_couldBear_112 rfl rfl ?_
  refine fg_X4_25 (pc := 113) X hT.1 dX4_couldBear_113 ?_
  refine r_iload (pc := 116) X 8 dX4_couldBear_116 rfl ?_
  refine r_callIV (pc := 118) (As := [.int v8]) (st := [.int v3]) X hA (c_X1_windIn hT.2.1.2.2.2.2 h) g_X4_88 cl_X1 hT.2.1.2.2.2.2.1 hd_X1_windIn rfl rfl rfl ⟨Nat.le_of_ble_eq_true rfl, Nat.le_of_ble_eq_true rfl⟩ rfl (Nat.le_of_ble_eq_true rfl) dX4_couldBear_118 (fun x5 F405 h => ?_)
  refine r_iadd (pc := 121) X dX4_couldBear_121 ?_
  refine r_iload (pc := 122) X 0 dX4_couldBear_122 rfl ?_
  refine r_callISx (pc := 124) (As := [.int (v3 + x5), .int s0]) (st := []) X hA (c_X0_partOf  h) g_X4_91 hd_X0_partOf.2 rfl rfl rfl ⟨Nat.le_of_ble_eq_true rfl, Nat.le_of_ble_eq_true rfl⟩ rfl (Nat.le_of_ble_eq_true rfl) dX4_couldBear_124 (fun x6 F406 h => ?_)
  refine r_istore (pc := 127) X [(10, .int x6), (9, .int s0), (0, .ref (ad 79)), (2, .int v2), (3, .int v3), (4, .int v4), (5, .int v5), (6, .int v6), (7, .int v7), (8, .int v8)] dX4_couldBear_127 (by decide) rfl ?_
  refine r_iload (pc := 129) X 0 dX4_couldBear_129 rfl ?_
  refine r_iload (pc := 131) X 5 dX4_couldBear_131 rfl ?_
  refine r_iload (pc := 133) X 8 dX4_couldBear_133 rfl ?_
  refine r_iload (pc := 135) X 7 dX4_couldBear_135 rfl ?_
  refine r_iconst (pc := 137) (v := (nI 1)) X dX4_couldBear_137 (by decide) ?_
  refine r_callISx (pc := 138) (As := [.int v4, .int v7, .int v6, .int (nI 1)]) (st := [.int x6]) X hA (c_X0_powerOf  h) g_X4_94 hd_X0_powerOf.2 rfl rfl rfl ⟨Nat.le_of_ble_eq_true rfl, Nat.le_of_ble_eq_true rfl⟩ rfl (Nat.le_of_ble_eq_true rfl) dX4_couldBear_138 (fun x7 F407 h => ?_)
  refine r_icmp_le (pc := 141) (tgt := 146) X dX4_couldBear_141 (by decide) (fun hc => ?_) (fun hc => ?_)
  · replace h := h.1 hc
    refine r_iload (pc := 146) X 8 dX4_couldBear_146 rfl ?_
    refine r_iload (pc := 148) X 5 dX4_couldBear_148 rfl ?_
    refine r_iload (pc := 150) X 0 dX4_couldBear_150 rfl ?_
    refine r_callISx (pc := 152) (As := [.int v4, .int x6]) (st := [.int v7]) X hA (c_X0_tiredBy  h) g_X4_98 hd_X0_tiredBy.2 rfl rfl rfl ⟨Nat.le_of_ble_eq_true rfl, Nat.le_of_ble_eq_true rfl⟩ rfl (Nat.le_of_ble_eq_true rfl) dX4_couldBear_152 (fun x8 F408 h => ?_)
    refine r_isub (pc := 155) X dX4_couldBear_155 ?_
    refine r_istore (pc := 156) X [(7, .int (v7 - x8)), (10, .int x6), (9, .int s0), (0, .ref (ad 79)), (2, .int v2), (3, .int v3), (4, .int v4), (5, .int v5), (6, .int v6), (8, .int v8)] dX4_couldBear_156 (by decide) rfl ?_
    refine r_iinc (pc := 158) (v := (v8 + (nI 1))) X 9 [(8, .int (v8 + (nI 1))), (7, .int (v7 - x8)), (10, .int x6), (9, .int s0), (0, .ref (ad 79)), (2, .int v2), (3, .int v3), (4, .int v4), (5, .int v5), (6, .int v6)] dX4_couldBear_158 rfl rfl (by decide) rfl ?_
    refine r_goto (pc := 161) (tgt := 64) X dX4_couldBear_161 (by decide) ?_
    refine r_sub [4, 5, 6, 7, 8, 9, 1, 0] rfl ?_
    exact hL64 _ _ _ _ _ _ _ _ h
  · replace h := h.2 hc
    refine r_iconst (pc := 144) (v := (nI 0)) X dX4_couldBear_144 (by decide) ?_
    exact r_zret (pc := 145) X hr dX4_couldBear_145 nb0 h
def wp_X4_couldBear_64 (K : Int32 → HF → Prop) : Nat → HF → Int32 → Int32 → Int32 → Int32 → Int32 → Int32 → Int32 → Prop
  | 0 => fun _ _ _ _ _ _ _ _ => False
  | n64_ + 1 => fun F v2 v3 v4 v5 v6 v7 v8 => (((v5 + (nI 2)) ≤ v8) → (K (nI 1) F)) ∧ ((¬ (v5 + (nI 2)) ≤ v8) → (wp_X1_width (fun x4 F304 => ((x4 ≤ v8) → (K (nI 1) F304)) ∧ ((¬ x4 ≤ v8) → (((v2 ≤ v8) → (wp_X4_couldBear_109 K (wp_X4_couldBear_64 K n64_)  F304 v2 v3 v4 v5 v6 v7 v8 (if (nI 0) < ((v8 - v5) + (nI 1)) then ((v8 - v5) + (nI 1)) else (nI 0)))) ∧ ((¬ v2 ≤ v8) → (wp_X4_couldBear_109 K (wp_X4_couldBear_64 K n64_)  F304 v2 v3 v4 v5 v6 v7 v8 (v2 - v8)))))) F 4))
set_option maxRecDepth 100000 in
set_option maxHeartbeats 4000000 in
theorem k_X4_couldBear_64 {p : Program} {l : Launch} {e : Env} {s : State} {m : MethodId} {args : Array Value} {below : List Frame} {meth : Method} {c : Code} {D : va_G} {dA : Nat → ClassId} {ad : Nat → Nat} {R : List Nat} {A : Nat → Prop} {K : Int32 → HF → Prop} (X : Cx p s m args meth c cX4_couldBear 11 RX4 D dA) (hA : ∀ q, s.heap.size ≤ q → A q) (hr : meth.sig.returnType = some .boolean) (hT : Se R) : ∀ (n_ : Nat) (F : HF) (v2 : Int32) (v3 : Int32) (v4 : Int32) (v5 : Int32) (v6 : Int32) (v7 : Int32) (v8 : Int32), wp_X4_couldBear_64 K  n_ F v2 v3 v4 v5 v6 v7 v8 → J p l e rm_X4_couldBear s m args below meth c 11 D dA ad R A (QI D dA ad R A below args s K) F 64 [(0, .ref (ad 79)), (2, .int v2), (3, .int v3), (4, .int v4), (5, .int v5), (6, .int v6), (7, .int v7), (8, .int v8)] [] := by
  intro n_
  induction n_ with
  | zero => intro F v2 v3 v4 v5 v6 v7 v8 h; exact h.elim
  | succ n_ ih =>
    intro F v2 v3 v4 v5 v6 v7 v8 h
    unfold wp_X4_couldBear_64 at h
    refine r_iload (pc := 64) X 7 dX4_couldBear_64 rfl ?_
    refine r_iload (pc := 66) X 4 dX4_couldBear_66 rfl ?_
    refine r_iconst (pc := 68) (v := (nI 2)) X dX4_couldBear_68 (by decide) ?_
    refine r_iadd (pc := 69) X dX4_couldBear_69 ?_
    refine r_icmp_ge (pc := 70) (tgt := 164) X dX4_couldBear_70 (by decide) (fun hc => ?_) (fun hc => ?_)
    · replace h := h.1 hc
      refine r_iconst (pc := 164) (v := (nI 1)) X dX4_couldBear_164 (by decide) ?_
      exact r_zret (pc := 165) X hr dX4_couldBear_165 nb1 h
    · replace h := h.2 hc
      refine r_iload (pc := 73) X 7 dX4_couldBear_73 rfl ?_
      refine r_aload_n (pc := 75) X 0 dX4_couldBear_75 rfl rfl ?_
      refine fg_X4_25 (pc := 76) X hT.1 dX4_couldBear_76 ?_
      refine r_callIV (pc := 79) (As := []) (st := [.int v8]) X hA (c_X1_width hT.2.1.2.2.2.2 h) g_X4_53 cl_X1 hT.2.1.2.2.2.2.1 hd_X1_width rfl rfl rfl ⟨Nat.le_of_ble_eq_true rfl, Nat.le_of_ble_eq_true rfl⟩ rfl (Nat.le_of_ble_eq_true rfl) dX4_couldBear_79 (fun x4 F304 h => ?_)
      refine r_icmp_ge (pc := 82) (tgt := 164) X dX4_couldBear_82 (by decide) (fun hc => ?_) (fun hc => ?_)
      · replace h := h.1 hc
        refine r_iconst (pc := 164) (v := (nI 1)) X dX4_couldBear_164 (by decide) ?_
        exact r_zret (pc := 165) X hr dX4_couldBear_165 nb1 h
      · replace h := h.2 hc
        refine r_iload (pc := 85) X 7 dX4_couldBear_85 rfl ?_
        refine r_iload_n (pc := 87) X 1 dX4_couldBear_87 rfl rfl ?_
        refine r_icmp_ge (pc := 88) (tgt := 98) X dX4_couldBear_88 (by decide) (fun hc => ?_) (fun hc => ?_)
        · replace h := h.1 hc
          refine r_iconst (pc := 98) (v := (nI 0)) X dX4_couldBear_98 (by decide) ?_
          refine r_iload (pc := 99) X 7 dX4_couldBear_99 rfl ?_
          refine r_iload (pc := 101) X 4 dX4_couldBear_101 rfl ?_
          refine r_isub (pc := 103) X dX4_couldBear_103 ?_
          refine r_iconst (pc := 104) (v := (nI 1)) X dX4_couldBear_104 (by decide) ?_
          refine r_iadd (pc := 105) X dX4_couldBear_105 ?_
          refine r_mmax (pc := 106) X w_705 w_193 w_62 w_194 (Nat.le_of_ble_eq_true rfl) (Nat.le_of_ble_eq_true rfl) dX4_couldBear_106 ?_
          exact k_X4_couldBear_109 X hA hr hT ih _ _ _ _ _ _ _ _ _ h
        · replace h := h.2 hc
          refine r_iload_n (pc := 91) X 1 dX4_couldBear_91 rfl rfl ?_
          refine r_iload (pc := 92) X 7 dX4_couldBear_92 rfl ?_
          refine r_isub (pc := 94) X dX4_couldBear_94 ?_
          refine r_goto (pc := 95) (tgt := 109) X dX4_couldBear_95 (by decide) ?_
          exact k_X4_couldBear_109 X hA hr hT ih _ _ _ _ _ _ _ _ _ h
def wp_X4_couldBear_43 (K : Int32 → HF → Prop) (F : HF) (v1 : Int32) (v2 : Int32) (v3 : Int32) (v4 : Int32) (v5 : Int32) (s0 : Int32) : Prop := wp_X1_strengthOf (fun x3 F203 => ∃ m_, wp_X4_couldBear_64 K  m_ F203 v2 v3 v4 v5 s0 x3 (if (nI 0) < (v2 - (nI 2)) then (v2 - (nI 2)) else (nI 0))) F 4 v1
set_option maxRecDepth 100000 in
set_option maxHeartbeats 4000000 in
theorem k_X4_couldBear_43 {p : Program} {l : Launch} {e : Env} {s : State} {m : MethodId} {args : Array Value} {below : List Frame} {meth : Method} {c : Code} {D : va_G} {dA : Nat → ClassId} {ad : Nat → Nat} {R : List Nat} {A : Nat → Prop} {K : Int32 → HF → Prop} (X : Cx p s m args meth c cX4_couldBear 11 RX4 D dA) (hA : ∀ q, s.heap.size ≤ q → A q) (hr : meth.sig.returnType = some .boolean) (hT : Se R) : ∀ (F : HF) (v1 : Int32) (v2 : Int32) (v3 : Int32) (v4 : Int32) (v5 : Int32) (s0 : Int32), wp_X4_couldBear_43 K  F v1 v2 v3 v4 v5 s0 → J p l e rm_X4_couldBear s m args below meth c 11 D dA ad R A (QI D dA ad R A below args s K) F 43 [(0, .ref (ad 79)), (1, .int v1), (2, .int v2), (3, .int v3), (4, .int v4), (5, .int v5)] [.int s0] := by
  intro F v1 v2 v3 v4 v5 s0 h
  unfold wp_X4_couldBear_43 at h
  refine r_istore (pc := 43) X [(6, .int s0), (0, .ref (ad 79)), (1, .int v1), (2, .int v2), (3, .int v3), (4, .int v4), (5, .int v5)] dX4_couldBear_43 (by decide) rfl ?_
  refine r_aload_n (pc := 45) X 1 dX4_couldBear_45 rfl rfl ?_
  refine fg_X4_25 (pc := 46) X hT.1 dX4_couldBear_46 ?_
  refine r_iload_n (pc := 49) X 2 dX4_couldBear_49 rfl rfl ?_
  refine r_callIV (pc := 50) (As := [.int v1]) (st := []) X hA (c_X1_strengthOf hT.2.1.2.2.2.2 h) g_X4_82 cl_X1 hT.2.1.2.2.2.2.1 hd_X1_strengthOf rfl rfl rfl ⟨Nat.le_of_ble_eq_true rfl, Nat.le_of_ble_eq_true rfl⟩ rfl (Nat.le_of_ble_eq_true rfl) dX4_couldBear_50 (fun x3 F203 h => ?_)
  refine r_istore (pc := 53) X [(7, .int x3), (6, .int s0), (0, .ref (ad 79)), (1, .int v1), (2, .int v2), (3, .int v3), (4, .int v4), (5, .int v5)] dX4_couldBear_53 (by decide) rfl ?_
  refine r_iconst (pc := 55) (v := (nI 0)) X dX4_couldBear_55 (by decide) ?_
  refine r_iload_n (pc := 56) X 4 dX4_couldBear_56 rfl rfl ?_
  refine r_iconst (pc := 57) (v := (nI 2)) X dX4_couldBear_57 (by decide) ?_
  refine r_isub (pc := 58) X dX4_couldBear_58 ?_
  refine r_mmax (pc := 59) X w_705 w_193 w_62 w_194 (Nat.le_of_ble_eq_true rfl) (Nat.le_of_ble_eq_true rfl) dX4_couldBear_59 ?_
  refine r_istore (pc := 62) X [(8, .int (if (nI 0) < (v2 - (nI 2)) then (v2 - (nI 2)) else (nI 0))), (7, .int x3), (6, .int s0), (0, .ref (ad 79)), (1, .int v1), (2, .int v2), (3, .int v3), (4, .int v4), (5, .int v5)] dX4_couldBear_62 (by decide) rfl ?_
  refine r_sub [3, 5, 6, 7, 8, 2, 1, 0] rfl ?_
  obtain ⟨n1, h⟩ := h
  exact k_X4_couldBear_64 X hA hr hT  n1 _ _ _ _ _ _ _ _ h
def wp_X4_couldBear_42 (K : Int32 → HF → Prop) (F : HF) (v1 : Int32) (v2 : Int32) (v3 : Int32) (v4 : Int32) (v5 : Int32) : Prop := wp_X4_couldBear_43 K  F v1 v2 v3 v4 v5 (nI 0)
set_option maxRecDepth 100000 in
set_option maxHeartbeats 4000000 in
theorem k_X4_couldBear_42 {p : Program} {l : Launch} {e : Env} {s : State} {m : MethodId} {args : Array Value} {below : List Frame} {meth : Method} {c : Code} {D : va_G} {dA : Nat → ClassId} {ad : Nat → Nat} {R : List Nat} {A : Nat → Prop} {K : Int32 → HF → Prop} (X : Cx p s m args meth c cX4_couldBear 11 RX4 D dA) (hA : ∀ q, s.heap.size ≤ q → A q) (hr : meth.sig.returnType = some .boolean) (hT : Se R) : ∀ (F : HF) (v1 : Int32) (v2 : Int32) (v3 : Int32) (v4 : Int32) (v5 : Int32), wp_X4_couldBear_42 K  F v1 v2 v3 v4 v5 → J p l e rm_X4_couldBear s m args below meth c 11 D dA ad R A (QI D dA ad R A below args s K) F 42 [(0, .ref (ad 79)), (1, .int v1), (2, .int v2), (3, .int v3), (4, .int v4), (5, .int v5)] [] := by
  intro F v1 v2 v3 v4 v5 h
  unfold wp_X4_couldBear_42 at h
  refine r_iconst (pc := 42) (v := (nI 0)) X dX4_couldBear_42 (by decide) ?_
  exact k_X4_couldBear_43 X hA hr hT  _ _ _ _ _ _ _ h
def wp_X4_couldBear (K : Int32 → HF → Prop) (F : HF) (a1 : Int32) (a2 : Int32) (a3 : Int32) : Prop := wp_X1_kindOf (fun x1 F1 => wp_X1_lengthOf (fun x2 F2 => ((a2 ≤ (nI 0)) → (wp_X4_couldBear_42 K  F2 a1 a2 a3 x1 (a2 + x2))) ∧ ((¬ a2 ≤ (nI 0)) → (wp_X1_width (fun x9 F409 => ((x9 ≤ (a2 + x2)) → (wp_X4_couldBear_42 K  F409 a1 a2 a3 x1 (a2 + x2))) ∧ ((¬ x9 ≤ (a2 + x2)) → (wp_X4_couldBear_43 K  F409 a1 a2 a3 x1 (a2 + x2) (nI 1)))) F2 4))) F1 4 a1) F 4 a1
set_option maxRecDepth 100000 in
set_option maxHeartbeats 4000000 in
theorem c_X4_couldBear {l : Launch} {D : va_G} {dA : Nat → ClassId} {ad : Nat → Nat} {R : List Nat} {F : HF} {a1 : Int32} {a2 : Int32} {a3 : Int32} {K : Int32 → HF → Prop} (hT : Se R) (h : wp_X4_couldBear K F a1 a2 a3) : MI l yX4_couldBear cX4_couldBear 11 .boolean rm_X4_couldBear D dA ad R F [.ref (ad 79), .int a1, .int a2, .int a3] K := by
  refine MI.of (own := RX4) (by decide) rfl (Nat.le_of_ble_eq_true rfl) ?_
  intro p e s m args below meth c A hA X hr
  unfold wp_X4_couldBear at h
  show J p l e rm_X4_couldBear s m args below meth c 11 D dA ad R A (QI D dA ad R A below args s K) F 0 [(0, .ref (ad 79)), (1, .int a1), (2, .int a2), (3, .int a3)] []
  refine r_aload_n (pc := 0) X 0 dX4_couldBear_0 rfl rfl ?_
  refine fg_X4_25 (pc := 1) X hT.1 dX4_couldBear_1 ?_
  refine r_iload_n (pc := 4) X 1 dX4_couldBear_4 rfl rfl ?_
  refine r_callIV (pc := 5) (As := [.int a1]) (st := []) X hA (c_X1_kindOf hT.2.1.2.2.2.2 h) g_X4_79 cl_X1 hT.2.1.2.2.2.2.1 hd_X1_kindOf rfl rfl rfl ⟨Nat.le_of_ble_eq_true rfl, Nat.le_of_ble_eq_true rfl⟩ rfl (Nat.le_of_ble_eq_true rfl) dX4_couldBear_5 (fun x1 F1 h => ?_)
  refine r_istore (pc := 8) X [(4, .int x1), (0, .ref (ad 79)), (1, .int a1), (2, .int a2), (3, .int a3)] dX4_couldBear_8 (by decide) rfl ?_
  refine r_iload_n (pc := 10) X 3 dX4_couldBear_10 rfl rfl ?_
  refine r_aload_n (pc := 11) X 1 dX4_couldBear_11 rfl rfl ?_
  refine fg_X4_25 (pc := 12) X hT.1 dX4_couldBear_12 ?_
  refine r_iload_n (pc := 15) X 2 dX4_couldBear_15 rfl rfl ?_
  refine r_callIV (pc := 16) (As := [.int a1]) (st := [.int a2]) X hA (c_X1_lengthOf hT.2.1.2.2.2.2 h) g_X4_66 cl_X1 hT.2.1.2.2.2.2.1 hd_X1_lengthOf rfl rfl rfl ⟨Nat.le_of_ble_eq_true rfl, Nat.le_of_ble_eq_true rfl⟩ rfl (Nat.le_of_ble_eq_true rfl) dX4_couldBear_16 (fun x2 F2 h => ?_)
  refine r_iadd (pc := 19) X dX4_couldBear_19 ?_
  refine r_istore (pc := 20) X [(5, .int (a2 + x2)), (4, .int x1), (0, .ref (ad 79)), (1, .int a1), (2, .int a2), (3, .int a3)] dX4_couldBear_20 (by decide) rfl ?_
  refine r_iload_n (pc := 22) X 4 dX4_couldBear_22 rfl rfl ?_
  refine r_if_le (pc := 23) (tgt := 42) X dX4_couldBear_23 (by decide) (fun hc => ?_) (fun hc => ?_)
  · replace h := h.1 hc
    refine r_sub [2, 3, 4, 5, 1, 0] rfl ?_
    exact k_X4_couldBear_42 X hA hr hT  _ _ _ _ _ _ h
  · replace h := h.2 hc
    refine r_iload (pc := 26) X 0 dX4_couldBear_26 rfl ?_
    refine r_aload_n (pc := 28) X 2 dX4_couldBear_28 rfl rfl ?_
    refine fg_X4_25 (pc := 29) X hT.1 dX4_couldBear_29 ?_
    refine r_callIV (pc := 32) (As := []) (st := [.int (a2 + x2)]) X hA (c_X1_width hT.2.1.2.2.2.2 h) g_X4_53 cl_X1 hT.2.1.2.2.2.2.1 hd_X1_width rfl rfl rfl ⟨Nat.le_of_ble_eq_true rfl, Nat.le_of_ble_eq_true rfl⟩ rfl (Nat.le_of_ble_eq_true rfl) dX4_couldBear_32 (fun x9 F409 h => ?_)
    refine r_icmp_ge (pc := 35) (tgt := 42) X dX4_couldBear_35 (by decide) (fun hc => ?_) (fun hc => ?_)
    · replace h := h.1 hc
      refine r_sub [2, 3, 4, 5, 1, 0] rfl ?_
      exact k_X4_couldBear_42 X hA hr hT  _ _ _ _ _ _ h
    · replace h := h.2 hc
      refine r_iconst (pc := 38) (v := (nI 1)) X dX4_couldBear_38 (by decide) ?_
      refine r_goto (pc := 39) (tgt := 43) X dX4_couldBear_39 (by decide) ?_
      refine r_sub [2, 3, 4, 5, 1, 0] rfl ?_
      exact k_X4_couldBear_43 X hA hr hT  _ _ _ _ _ _ _ h
theorem dX4_leastMoreBehind_0 : decode cX4_leastMoreBehind 0 = .ok (.bipush 9, 2) := by decide +kernel
theorem dX4_leastMoreBehind_2 : decode cX4_leastMoreBehind 2 = .ok (.istore 4, 2) := by decide +kernel
theorem dX4_leastMoreBehind_4 : decode cX4_leastMoreBehind 4 = .ok (.iconst 0, 1) := by decide +kernel
theorem dX4_leastMoreBehind_5 : decode cX4_leastMoreBehind 5 = .ok (.istore 5, 2) := by decide +kernel
theorem dX4_leastMoreBehind_7 : decode cX4_leastMoreBehind 7 = .ok (.iload 5, 2) := by decide +kernel
theorem dX4_leastMoreBehind_9 : decode cX4_leastMoreBehind 9 = .ok (.aload_n 0, 1) := by decide +kernel
theorem dX4_leastMoreBehind_10 : decode cX4_leastMoreBehind 10 = .ok (.getfield 25, 3) := by decide +kernel
theorem dX4_leastMoreBehind_13 : decode cX4_leastMoreBehind 13 = .ok (.invokevirtual 63, 3) := by decide +kernel
theorem dX4_leastMoreBehind_16 : decode cX4_leastMoreBehind 16 = .ok (.if_icmp .ge 60, 3) := by decide +kernel
theorem dX4_leastMoreBehind_19 : decode cX4_leastMoreBehind 19 = .ok (.iload_n 1, 1) := by decide +kernel
theorem dX4_leastMoreBehind_20 : decode cX4_leastMoreBehind 20 = .ok (.iconst 1, 1) := by decide +kernel
theorem dX4_leastMoreBehind_21 : decode cX4_leastMoreBehind 21 = .ok (.iload 5, 2) := by decide +kernel
theorem dX4_leastMoreBehind_23 : decode cX4_leastMoreBehind 23 = .ok (.ishl, 1) := by decide +kernel
theorem dX4_leastMoreBehind_24 : decode cX4_leastMoreBehind 24 = .ok (.ior, 1) := by decide +kernel
theorem dX4_leastMoreBehind_25 : decode cX4_leastMoreBehind 25 = .ok (.istore 6, 2) := by decide +kernel
theorem dX4_leastMoreBehind_27 : decode cX4_leastMoreBehind 27 = .ok (.iload 6, 2) := by decide +kernel
theorem dX4_leastMoreBehind_29 : decode cX4_leastMoreBehind 29 = .ok (.iload_n 1, 1) := by decide +kernel
theorem dX4_leastMoreBehind_30 : decode cX4_leastMoreBehind 30 = .ok (.if_icmp .eq 40, 3) := by decide +kernel
theorem dX4_leastMoreBehind_33 : decode cX4_leastMoreBehind 33 = .ok (.iload 6, 2) := by decide +kernel
theorem dX4_leastMoreBehind_35 : decode cX4_leastMoreBehind 35 = .ok (.aload_n 0, 1) := by decide +kernel
theorem dX4_leastMoreBehind_36 : decode cX4_leastMoreBehind 36 = .ok (.getfield 15, 3) := by decide +kernel
theorem dX4_leastMoreBehind_39 : decode cX4_leastMoreBehind 39 = .ok (.arraylength, 1) := by decide +kernel
theorem dX4_leastMoreBehind_40 : decode cX4_leastMoreBehind 40 = .ok (.if_icmp .ge 30, 3) := by decide +kernel
theorem dX4_leastMoreBehind_43 : decode cX4_leastMoreBehind 43 = .ok (.aload_n 0, 1) := by decide +kernel
theorem dX4_leastMoreBehind_44 : decode cX4_leastMoreBehind 44 = .ok (.iload 5, 2) := by decide +kernel
theorem dX4_leastMoreBehind_46 : decode cX4_leastMoreBehind 46 = .ok (.iload_n 2, 1) := by decide +kernel
theorem dX4_leastMoreBehind_47 : decode cX4_leastMoreBehind 47 = .ok (.iload_n 3, 1) := by decide +kernel
theorem dX4_leastMoreBehind_48 : decode cX4_leastMoreBehind 48 = .ok (.invokevirtual 69, 3) := by decide +kernel
theorem dX4_leastMoreBehind_51 : decode cX4_leastMoreBehind 51 = .ok (.ifCond .eq 19, 3) := by decide +kernel
theorem dX4_leastMoreBehind_54 : decode cX4_leastMoreBehind 54 = .ok (.iload 4, 2) := by decide +kernel
theorem dX4_leastMoreBehind_56 : decode cX4_leastMoreBehind 56 = .ok (.aload_n 0, 1) := by decide +kernel
theorem dX4_leastMoreBehind_57 : decode cX4_leastMoreBehind 57 = .ok (.getfield 15, 3) := by decide +kernel
theorem dX4_leastMoreBehind_60 : decode cX4_leastMoreBehind 60 = .ok (.iload 6, 2) := by decide +kernel
theorem dX4_leastMoreBehind_62 : decode cX4_leastMoreBehind 62 = .ok (.iaload, 1) := by decide +kernel
theorem dX4_leastMoreBehind_63 : decode cX4_leastMoreBehind 63 = .ok (.iconst 1, 1) := by decide +kernel
theorem dX4_leastMoreBehind_64 : decode cX4_leastMoreBehind 64 = .ok (.iadd, 1) := by decide +kernel
theorem dX4_leastMoreBehind_65 : decode cX4_leastMoreBehind 65 = .ok (.invokestatic 73, 3) := by decide +kernel
theorem dX4_leastMoreBehind_68 : decode cX4_leastMoreBehind 68 = .ok (.istore 4, 2) := by decide +kernel
theorem dX4_leastMoreBehind_70 : decode cX4_leastMoreBehind 70 = .ok (.iinc 5 1, 3) := by decide +kernel
theorem dX4_leastMoreBehind_73 : decode cX4_leastMoreBehind 73 = .ok (.goto (-66), 3) := by decide +kernel
theorem dX4_leastMoreBehind_76 : decode cX4_leastMoreBehind 76 = .ok (.iload 4, 2) := by decide +kernel
theorem dX4_leastMoreBehind_78 : decode cX4_leastMoreBehind 78 = .ok (.ireturn, 1) := by decide +kernel
theorem hd_X4_leastMoreBehind : yX4_leastMoreBehind.cls = RX4 ∧ yX4_leastMoreBehind.cls ≠ "java/lang/invoke/MethodHandle" ∧ yX4_leastMoreBehind.cls ≠ "java/lang/invoke/VarHandle" ∧ (parseMethodDescriptor yX4_leastMoreBehind.desc).map (fun d => d.parameters.length) = some 3 := by decide +kernel
abbrev rm_X4_leastMoreBehind : Room := { frames := 2, cells := 0, slots := 0, locals := 53 }
def wp_X4_leastMoreBehind_70 (K : Int32 → HF → Prop) (L7 : HF → Int32 → Int32 → Int32 → Int32 → Int32 → Prop) (F : HF) (v1 : Int32) (v2 : Int32) (v3 : Int32) (v4 : Int32) (v5 : Int32) : Prop := L7 F v1 v2 v3 v4 (v5 + (nI 1))
set_option maxRecDepth 100000 in
set_option maxHeartbeats 4000000 in
theorem k_X4_leastMoreBehind_70 {p : Program} {l : Launch} {e : Env} {s : State} {m : MethodId} {args : Array Value} {below : List Frame} {meth : Method} {c : Code} {D : va_G} {dA : Nat → ClassId} {ad : Nat → Nat} {R : List Nat} {A : Nat → Prop} {K : Int32 → HF → Prop} {L7 : HF → Int32 → Int32 → Int32 → Int32 → Int32 → Prop} (X : Cx p s m args meth c cX4_leastMoreBehind 7 RX4 D dA) (hA : ∀ q, s.heap.size ≤ q → A q) (hr : meth.sig.returnType = some .int) (hT : Se R) (hL7 : ∀ (F : HF) (v1 : Int32) (v2 : Int32) (v3 : Int32) (v4 : Int32) (v5 : Int32), L7 F v1 v2 v3 v4 v5 → J p l e rm_X4_leastMoreBehind s m args below meth c 7 D dA ad R A (QI D dA ad R A below args s K) F 7 [(0, .ref (ad 79)), (1, .int v1), (2, .int v2), (3, .int v3), (4, .int v4), (5, .int v5)] []) : ∀ (F : HF) (v1 : Int32) (v2 : Int32) (v3 : Int32) (v4 : Int32) (v5 : Int32), wp_X4_leastMoreBehind_70 K L7  F v1 v2 v3 v4 v5 → J p l e rm_X4_leastMoreBehind s m args below meth c 7 D dA ad R A (QI D dA ad R A below args s K) F 70 [(0, .ref (ad 79)), (1, .int v1), (2, .int v2), (3, .int v3), (4, .int v4), (5, .int v5)] [] := by
  intro F v1 v2 v3 v4 v5 h
  unfold wp_X4_leastMoreBehind_70 at h
  refine r_iinc (pc := 70) (v := (v5 + (nI 1))) X 5 [(5, .int (v5 + (nI 1))), (0, .ref (ad 79)), (1, .int v1), (2, .int v2), (3, .int v3), (4, .int v4)] dX4_leastMoreBehind_70 rfl rfl (by decide) rfl ?_
  refine r_goto (pc := 73) (tgt := 7) X dX4_leastMoreBehind_73 (by decide) ?_
  refine r_sub [1, 2, 3, 4, 5, 0] rfl ?_
  exact hL7 _ _ _ _ _ _ h
def wp_X4_leastMoreBehind_7 (K : Int32 → HF → Prop) : Nat → HF → Int32 → Int32 → Int32 → Int32 → Int32 → Prop
  | 0 => fun _ _ _ _ _ _ => False
  | n7_ + 1 => fun F v1 v2 v3 v4 v5 => wp_X1_birds (fun x1 F101 => ((x1 ≤ v5) → (K v4 F101)) ∧ ((¬ x1 ≤ v5) → ((((v1 ||| ((nI 1) <<< (v5 &&& 31))) = v1) → (wp_X4_leastMoreBehind_70 K (wp_X4_leastMoreBehind_7 K n7_)  F101 v1 v2 v3 v4 v5)) ∧ ((¬ (v1 ||| ((nI 1) <<< (v5 &&& 31))) = v1) → ((((nI 256) ≤ (v1 ||| ((nI 1) <<< (v5 &&& 31)))) → (wp_X4_leastMoreBehind_70 K (wp_X4_leastMoreBehind_7 K n7_)  F101 v1 v2 v3 v4 v5)) ∧ ((¬ (nI 256) ≤ (v1 ||| ((nI 1) <<< (v5 &&& 31)))) → (wp_X4_couldBear (fun x2 F202 => ((x2 = (nI 0)) → (wp_X4_leastMoreBehind_70 K (wp_X4_leastMoreBehind_7 K n7_)  F202 v1 v2 v3 v4 v5)) ∧ ((¬ x2 = (nI 0)) → ((vp_in (v1 ||| ((nI 1) <<< (v5 &&& 31))) 256) ∧ (wp_X4_leastMoreBehind_70 K (wp_X4_leastMoreBehind_7 K n7_)  F202 v1 v2 v3 (if ((F202 87 (v1 ||| ((nI 1) <<< (v5 &&& 31))).toNatClampNeg) + (nI 1)) < v4 then ((F202 87 (v1 ||| ((nI 1) <<< (v5 &&& 31))).toNatClampNeg) + (nI 1)) else v4) v5)))) F101 v5 v2 v3))))))) F 4
set_option maxRecDepth 100000 in
set_option maxHeartbeats 4000000 in
theorem k_X4_leastMoreBehind_7 {p : Program} {l : Launch} {e : Env} {s : State} {m : MethodId} {args : Array Value} {below : List Frame} {meth : Method} {c : Code} {D : va_G} {dA : Nat → ClassId} {ad : Nat → Nat} {R : List Nat} {A : Nat → Prop} {K : Int32 → HF → Prop} (X : Cx p s m args meth c cX4_leastMoreBehind 7 RX4 D dA) (hA : ∀ q, s.heap.size ≤ q → A q) (hr : meth.sig.returnType = some .int) (hT : Se R) : ∀ (n_ : Nat) (F : HF) (v1 : Int32) (v2 : Int32) (v3 : Int32) (v4 : Int32) (v5 : Int32), wp_X4_leastMoreBehind_7 K  n_ F v1 v2 v3 v4 v5 → J p l e rm_X4_leastMoreBehind s m args below meth c 7 D dA ad R A (QI D dA ad R A below args s K) F 7 [(0, .ref (ad 79)), (1, .int v1), (2, .int v2), (3, .int v3), (4, .int v4), (5, .int v5)] [] := by
  intro n_
  induction n_ with
  | zero => intro F v1 v2 v3 v4 v5 h; exact h.elim
  | succ n_ ih =>
    intro F v1 v2 v3 v4 v5 h
    unfold wp_X4_leastMoreBehind_7 at h
    refine r_iload (pc := 7) X 5 dX4_leastMoreBehind_7 rfl ?_
    refine r_aload_n (pc := 9) X 0 dX4_leastMoreBehind_9 rfl rfl ?_
    refine fg_X4_25 (pc := 10) X hT.1 dX4_leastMoreBehind_10 ?_
    refine r_callIV (pc := 13) (As := []) (st := [.int v5]) X hA (c_X1_birds hT.2.1.2.2.2.2 h) g_X4_63 cl_X1 hT.2.1.2.2.2.2.1 hd_X1_birds rfl rfl rfl ⟨Nat.le_of_ble_eq_true rfl, Nat.le_of_ble_eq_true rfl⟩ rfl (Nat.le_of_ble_eq_true rfl) dX4_leastMoreBehind_13 (fun x1 F101 h => ?_)
    refine r_icmp_ge (pc := 16) (tgt := 76) X dX4_leastMoreBehind_16 (by decide) (fun hc => ?_) (fun hc => ?_)
    · replace h := h.1 hc
      refine r_iload (pc := 76) X 4 dX4_leastMoreBehind_76 rfl ?_
      exact r_iret (pc := 78) X hr dX4_leastMoreBehind_78 h
    · replace h := h.2 hc
      refine r_iload_n (pc := 19) X 1 dX4_leastMoreBehind_19 rfl rfl ?_
      refine r_iconst (pc := 20) (v := (nI 1)) X dX4_leastMoreBehind_20 (by decide) ?_
      refine r_iload (pc := 21) X 5 dX4_leastMoreBehind_21 rfl ?_
      refine r_ishl (pc := 23) X dX4_leastMoreBehind_23 ?_
      refine r_ior (pc := 24) X dX4_leastMoreBehind_24 ?_
      refine r_istore (pc := 25) X [(6, .int (v1 ||| ((nI 1) <<< (v5 &&& 31)))), (0, .ref (ad 79)), (1, .int v1), (2, .int v2), (3, .int v3), (4, .int v4), (5, .int v5)] dX4_leastMoreBehind_25 (by decide) rfl ?_
      refine r_iload (pc := 27) X 0 dX4_leastMoreBehind_27 rfl ?_
      refine r_iload_n (pc := 29) X 2 dX4_leastMoreBehind_29 rfl rfl ?_
      refine r_icmp_eq (pc := 30) (tgt := 70) X dX4_leastMoreBehind_30 (by decide) (fun hc => ?_) (fun hc => ?_)
      · replace h := h.1 hc
        refine r_sub [1, 2, 3, 4, 5, 6] rfl ?_
        exact k_X4_leastMoreBehind_70 X hA hr hT ih _ _ _ _ _ _ h
      · replace h := h.2 hc
        refine r_iload (pc := 33) X 0 dX4_leastMoreBehind_33 rfl ?_
        refine r_aload_n (pc := 35) X 1 dX4_leastMoreBehind_35 rfl rfl ?_
        refine fg_X4_15 (pc := 36) X hT.1 dX4_leastMoreBehind_36 ?_
        refine r_alen (pc := 39) (v := (nI 256)) X (Or.inl hT.2.2.2) rfl dX4_leastMoreBehind_39 ?_
        refine r_icmp_ge (pc := 40) (tgt := 70) X dX4_leastMoreBehind_40 (by decide) (fun hc => ?_) (fun hc => ?_)
        · replace h := h.1 hc
          refine r_sub [1, 2, 3, 4, 5, 6] rfl ?_
          exact k_X4_leastMoreBehind_70 X hA hr hT ih _ _ _ _ _ _ h
        · replace h := h.2 hc
          refine r_aload_n (pc := 43) X 1 dX4_leastMoreBehind_43 rfl rfl ?_
          refine r_iload (pc := 44) X 6 dX4_leastMoreBehind_44 rfl ?_
          refine r_iload_n (pc := 46) X 3 dX4_leastMoreBehind_46 rfl rfl ?_
          refine r_iload_n (pc := 47) X 4 dX4_leastMoreBehind_47 rfl rfl ?_
          refine r_callIV (pc := 48) (As := [.int v5, .int v2, .int v3]) (st := []) X hA (c_X4_couldBear hT h) g_X4_69 cl_X4 hT.1 hd_X4_couldBear rfl rfl rfl ⟨Nat.le_of_ble_eq_true rfl, Nat.le_of_ble_eq_true rfl⟩ rfl (Nat.le_of_ble_eq_true rfl) dX4_leastMoreBehind_48 (fun x2 F202 h => ?_)
          refine r_if_eq (pc := 51) (tgt := 70) X dX4_leastMoreBehind_51 (by decide) (fun hc => ?_) (fun hc => ?_)
          · replace h := h.1 hc
            refine r_sub [1, 2, 3, 4, 5, 6] rfl ?_
            exact k_X4_leastMoreBehind_70 X hA hr hT ih _ _ _ _ _ _ h
          · replace h := h.2 hc
            refine r_iload (pc := 54) X 5 dX4_leastMoreBehind_54 rfl ?_
            refine r_aload_n (pc := 56) X 1 dX4_leastMoreBehind_56 rfl rfl ?_
            refine fg_X4_15 (pc := 57) X hT.1 dX4_leastMoreBehind_57 ?_
            refine r_iload (pc := 60) X 0 dX4_leastMoreBehind_60 rfl ?_
            refine r_iald (pc := 62) X hT.2.2.2 h.1 dX4_leastMoreBehind_62 ?_
            replace h := h.2
            refine r_iconst (pc := 63) (v := (nI 1)) X dX4_leastMoreBehind_63 (by decide) ?_
            refine r_iadd (pc := 64) X dX4_leastMoreBehind_64 ?_
            refine r_mmin (pc := 65) X w_710 w_711 w_62 w_712 (Nat.le_of_ble_eq_true rfl) (Nat.le_of_ble_eq_true rfl) dX4_leastMoreBehind_65 ?_
            refine r_istore (pc := 68) X [(4, .int (if ((F202 87 (v1 ||| ((nI 1) <<< (v5 &&& 31))).toNatClampNeg) + (nI 1)) < v4 then ((F202 87 (v1 ||| ((nI 1) <<< (v5 &&& 31))).toNatClampNeg) + (nI 1)) else v4)), (6, .int (v1 ||| ((nI 1) <<< (v5 &&& 31)))), (0, .ref (ad 79)), (1, .int v1), (2, .int v2), (3, .int v3), (5, .int v5)] dX4_leastMoreBehind_68 (by decide) rfl ?_
            refine r_sub [2, 3, 4, 5, 0, 6] rfl ?_
            exact k_X4_leastMoreBehind_70 X hA hr hT ih _ _ _ _ _ _ h
def wp_X4_leastMoreBehind (K : Int32 → HF → Prop) (F : HF) (a1 : Int32) (a2 : Int32) (a3 : Int32) : Prop := ∃ m_, wp_X4_leastMoreBehind_7 K  m_ F a1 a2 a3 (nI 9) (nI 0)
set_option maxRecDepth 100000 in
set_option maxHeartbeats 4000000 in
theorem c_X4_leastMoreBehind {l : Launch} {D : va_G} {dA : Nat → ClassId} {ad : Nat → Nat} {R : List Nat} {F : HF} {a1 : Int32} {a2 : Int32} {a3 : Int32} {K : Int32 → HF → Prop} (hT : Se R) (h : wp_X4_leastMoreBehind K F a1 a2 a3) : MI l yX4_leastMoreBehind cX4_leastMoreBehind 7 .int rm_X4_leastMoreBehind D dA ad R F [.ref (ad 79), .int a1, .int a2, .int a3] K := by
  refine MI.of (own := RX4) (by decide) rfl (Nat.le_of_ble_eq_true rfl) ?_
  intro p e s m args below meth c A hA X hr
  unfold wp_X4_leastMoreBehind at h
  show J p l e rm_X4_leastMoreBehind s m args below meth c 7 D dA ad R A (QI D dA ad R A below args s K) F 0 [(0, .ref (ad 79)), (1, .int a1), (2, .int a2), (3, .int a3)] []
  refine r_bipush (pc := 0) (v := (nI 9)) X dX4_leastMoreBehind_0 (by decide) ?_
  refine r_istore (pc := 2) X [(4, .int (nI 9)), (0, .ref (ad 79)), (1, .int a1), (2, .int a2), (3, .int a3)] dX4_leastMoreBehind_2 (by decide) rfl ?_
  refine r_iconst (pc := 4) (v := (nI 0)) X dX4_leastMoreBehind_4 (by decide) ?_
  refine r_istore (pc := 5) X [(5, .int (nI 0)), (4, .int (nI 9)), (0, .ref (ad 79)), (1, .int a1), (2, .int a2), (3, .int a3)] dX4_leastMoreBehind_5 (by decide) rfl ?_
  refine r_sub [2, 3, 4, 5, 1, 0] rfl ?_
  obtain ⟨n1, h⟩ := h
  exact k_X4_leastMoreBehind_7 X hA hr hT  n1 _ _ _ _ _ _ h
theorem dX4_placesOf_0 : decode cX4_placesOf 0 = .ok (.iconst 0, 1) := by decide +kernel
theorem dX4_placesOf_1 : decode cX4_placesOf 1 = .ok (.istore_n 2, 1) := by decide +kernel
theorem dX4_placesOf_2 : decode cX4_placesOf 2 = .ok (.iconst 0, 1) := by decide +kernel
theorem dX4_placesOf_3 : decode cX4_placesOf 3 = .ok (.istore_n 3, 1) := by decide +kernel
theorem dX4_placesOf_4 : decode cX4_placesOf 4 = .ok (.iload_n 3, 1) := by decide +kernel
theorem dX4_placesOf_5 : decode cX4_placesOf 5 = .ok (.aload_n 0, 1) := by decide +kernel
theorem dX4_placesOf_6 : decode cX4_placesOf 6 = .ok (.getfield 25, 3) := by decide +kernel
theorem dX4_placesOf_9 : decode cX4_placesOf 9 = .ok (.invokevirtual 63, 3) := by decide +kernel
theorem dX4_placesOf_12 : decode cX4_placesOf 12 = .ok (.if_icmp .ge 26, 3) := by decide +kernel
theorem dX4_placesOf_15 : decode cX4_placesOf 15 = .ok (.iload_n 2, 1) := by decide +kernel
theorem dX4_placesOf_16 : decode cX4_placesOf 16 = .ok (.iload_n 1, 1) := by decide +kernel
theorem dX4_placesOf_17 : decode cX4_placesOf 17 = .ok (.iload_n 3, 1) := by decide +kernel
theorem dX4_placesOf_18 : decode cX4_placesOf 18 = .ok (.ishr, 1) := by decide +kernel
theorem dX4_placesOf_19 : decode cX4_placesOf 19 = .ok (.iconst 1, 1) := by decide +kernel
theorem dX4_placesOf_20 : decode cX4_placesOf 20 = .ok (.iand, 1) := by decide +kernel
theorem dX4_placesOf_21 : decode cX4_placesOf 21 = .ok (.aload_n 0, 1) := by decide +kernel
theorem dX4_placesOf_22 : decode cX4_placesOf 22 = .ok (.getfield 25, 3) := by decide +kernel
theorem dX4_placesOf_25 : decode cX4_placesOf 25 = .ok (.iload_n 3, 1) := by decide +kernel
theorem dX4_placesOf_26 : decode cX4_placesOf 26 = .ok (.invokevirtual 66, 3) := by decide +kernel
theorem dX4_placesOf_29 : decode cX4_placesOf 29 = .ok (.imul, 1) := by decide +kernel
theorem dX4_placesOf_30 : decode cX4_placesOf 30 = .ok (.iadd, 1) := by decide +kernel
theorem dX4_placesOf_31 : decode cX4_placesOf 31 = .ok (.istore_n 2, 1) := by decide +kernel
theorem dX4_placesOf_32 : decode cX4_placesOf 32 = .ok (.iinc 3 1, 3) := by decide +kernel
theorem dX4_placesOf_35 : decode cX4_placesOf 35 = .ok (.goto (-31), 3) := by decide +kernel
theorem dX4_placesOf_38 : decode cX4_placesOf 38 = .ok (.iload_n 2, 1) := by decide +kernel
theorem dX4_placesOf_39 : decode cX4_placesOf 39 = .ok (.ireturn, 1) := by decide +kernel
theorem hd_X4_placesOf : yX4_placesOf.cls = RX4 ∧ yX4_placesOf.cls ≠ "java/lang/invoke/MethodHandle" ∧ yX4_placesOf.cls ≠ "java/lang/invoke/VarHandle" ∧ (parseMethodDescriptor yX4_placesOf.desc).map (fun d => d.parameters.length) = some 1 := by decide +kernel
abbrev rm_X4_placesOf : Room := { frames := 1, cells := 0, slots := 0, locals := 21 }
def wp_X4_placesOf_4 (K : Int32 → HF → Prop) : Nat → HF → Int32 → Int32 → Int32 → Prop
  | 0 => fun _ _ _ _ => False
  | n4_ + 1 => fun F v1 v2 v3 => wp_X1_birds (fun x1 F101 => ((x1 ≤ v3) → (K v2 F101)) ∧ ((¬ x1 ≤ v3) → (wp_X1_lengthOf (fun x2 F102 => wp_X4_placesOf_4 K  n4_ F102 v1 (v2 + (((v1 >>> (v3 &&& 31)) &&& (nI 1)) * x2)) (v3 + (nI 1))) F101 4 v3))) F 4
set_option maxRecDepth 100000 in
set_option maxHeartbeats 4000000 in
theorem k_X4_placesOf_4 {p : Program} {l : Launch} {e : Env} {s : State} {m : MethodId} {args : Array Value} {below : List Frame} {meth : Method} {c : Code} {D : va_G} {dA : Nat → ClassId} {ad : Nat → Nat} {R : List Nat} {A : Nat → Prop} {K : Int32 → HF → Prop} (X : Cx p s m args meth c cX4_placesOf 4 RX4 D dA) (hA : ∀ q, s.heap.size ≤ q → A q) (hr : meth.sig.returnType = some .int) (hT : Se R) : ∀ (n_ : Nat) (F : HF) (v1 : Int32) (v2 : Int32) (v3 : Int32), wp_X4_placesOf_4 K  n_ F v1 v2 v3 → J p l e rm_X4_placesOf s m args below meth c 4 D dA ad R A (QI D dA ad R A below args s K) F 4 [(0, .ref (ad 79)), (1, .int v1), (2, .int v2), (3, .int v3)] [] := by
  intro n_
  induction n_ with
  | zero => intro F v1 v2 v3 h; exact h.elim
  | succ n_ ih =>
    intro F v1 v2 v3 h
    unfold wp_X4_placesOf_4 at h
    refine r_iload_n (pc := 4) X 3 dX4_placesOf_4 rfl rfl ?_
    refine r_aload_n (pc := 5) X 0 dX4_placesOf_5 rfl rfl ?_
    refine fg_X4_25 (pc := 6) X hT.1 dX4_placesOf_6 ?_
    refine r_callIV (pc := 9) (As := []) (st := [.int v3]) X hA (c_X1_birds hT.2.1.2.2.2.2 h) g_X4_63 cl_X1 hT.2.1.2.2.2.2.1 hd_X1_birds rfl rfl rfl ⟨Nat.le_of_ble_eq_true rfl, Nat.le_of_ble_eq_true rfl⟩ rfl (Nat.le_of_ble_eq_true rfl) dX4_placesOf_9 (fun x1 F101 h => ?_)
    refine r_icmp_ge (pc := 12) (tgt := 38) X dX4_placesOf_12 (by decide) (fun hc => ?_) (fun hc => ?_)
    · replace h := h.1 hc
      refine r_iload_n (pc := 38) X 2 dX4_placesOf_38 rfl rfl ?_
      exact r_iret (pc := 39) X hr dX4_placesOf_39 h
    · replace h := h.2 hc
      refine r_iload_n (pc := 15) X 2 dX4_placesOf_15 rfl rfl ?_
      refine r_iload_n (pc := 16) X 1 dX4_placesOf_16 rfl rfl ?_
      refine r_iload_n (pc := 17) X 3 dX4_placesOf_17 rfl rfl ?_
      refine r_ishr (pc := 18) X dX4_placesOf_18 ?_
      refine r_iconst (pc := 19) (v := (nI 1)) X dX4_placesOf_19 (by decide) ?_
      refine r_iand (pc := 20) X dX4_placesOf_20 ?_
      refine r_aload_n (pc := 21) X 0 dX4_placesOf_21 rfl rfl ?_
      refine fg_X4_25 (pc := 22) X hT.1 dX4_placesOf_22 ?_
      refine r_iload_n (pc := 25) X 3 dX4_placesOf_25 rfl rfl ?_
      refine r_callIV (pc := 26) (As := [.int v3]) (st := [.int ((v1 >>> (v3 &&& 31)) &&& (nI 1)), .int v2]) X hA (c_X1_lengthOf hT.2.1.2.2.2.2 h) g_X4_66 cl_X1 hT.2.1.2.2.2.2.1 hd_X1_lengthOf rfl rfl rfl ⟨Nat.le_of_ble_eq_true rfl, Nat.le_of_ble_eq_true rfl⟩ rfl (Nat.le_of_ble_eq_true rfl) dX4_placesOf_26 (fun x2 F102 h => ?_)
      refine r_imul (pc := 29) X dX4_placesOf_29 ?_
      refine r_iadd (pc := 30) X dX4_placesOf_30 ?_
      refine r_istore_n (pc := 31) X [(2, .int (v2 + (((v1 >>> (v3 &&& 31)) &&& (nI 1)) * x2))), (0, .ref (ad 79)), (1, .int v1), (3, .int v3)] dX4_placesOf_31 rfl (by decide) rfl ?_
      refine r_iinc (pc := 32) (v := (v3 + (nI 1))) X 3 [(3, .int (v3 + (nI 1))), (2, .int (v2 + (((v1 >>> (v3 &&& 31)) &&& (nI 1)) * x2))), (0, .ref (ad 79)), (1, .int v1)] dX4_placesOf_32 rfl rfl (by decide) rfl ?_
      refine r_goto (pc := 35) (tgt := 4) X dX4_placesOf_35 (by decide) ?_
      refine r_sub [2, 3, 1, 0] rfl ?_
      exact ih _ _ _ _ h
def wp_X4_placesOf (K : Int32 → HF → Prop) (F : HF) (a1 : Int32) : Prop := ∃ m_, wp_X4_placesOf_4 K  m_ F a1 (nI 0) (nI 0)
set_option maxRecDepth 100000 in
set_option maxHeartbeats 4000000 in
theorem c_X4_placesOf {l : Launch} {D : va_G} {dA : Nat → ClassId} {ad : Nat → Nat} {R : List Nat} {F : HF} {a1 : Int32} {K : Int32 → HF → Prop} (hT : Se R) (h : wp_X4_placesOf K F a1) : MI l yX4_placesOf cX4_placesOf 4 .int rm_X4_placesOf D dA ad R F [.ref (ad 79), .int a1] K := by
  refine MI.of (own := RX4) (by decide) rfl (Nat.le_of_ble_eq_true rfl) ?_
  intro p e s m args below meth c A hA X hr
  unfold wp_X4_placesOf at h
  show J p l e rm_X4_placesOf s m args below meth c 4 D dA ad R A (QI D dA ad R A below args s K) F 0 [(0, .ref (ad 79)), (1, .int a1)] []
  refine r_iconst (pc := 0) (v := (nI 0)) X dX4_placesOf_0 (by decide) ?_
  refine r_istore_n (pc := 1) X [(2, .int (nI 0)), (0, .ref (ad 79)), (1, .int a1)] dX4_placesOf_1 rfl (by decide) rfl ?_
  refine r_iconst (pc := 2) (v := (nI 0)) X dX4_placesOf_2 (by decide) ?_
  refine r_istore_n (pc := 3) X [(3, .int (nI 0)), (2, .int (nI 0)), (0, .ref (ad 79)), (1, .int a1)] dX4_placesOf_3 rfl (by decide) rfl ?_
  refine r_sub [2, 3, 1, 0] rfl ?_
  obtain ⟨n1, h⟩ := h
  exact k_X4_placesOf_4 X hA hr hT  n1 _ _ _ _ h
theorem dX4_findLeastMore_0 : decode cX4_findLeastMore 0 = .ok (.aload_n 0, 1) := by decide +kernel
theorem dX4_findLeastMore_1 : decode cX4_findLeastMore 1 = .ok (.getfield 15, 3) := by decide +kernel
theorem dX4_findLeastMore_4 : decode cX4_findLeastMore 4 = .ok (.arraylength, 1) := by decide +kernel
theorem dX4_findLeastMore_5 : decode cX4_findLeastMore 5 = .ok (.iconst 1, 1) := by decide +kernel
theorem dX4_findLeastMore_6 : decode cX4_findLeastMore 6 = .ok (.isub, 1) := by decide +kernel
theorem dX4_findLeastMore_7 : decode cX4_findLeastMore 7 = .ok (.istore_n 2, 1) := by decide +kernel
theorem dX4_findLeastMore_8 : decode cX4_findLeastMore 8 = .ok (.iload_n 2, 1) := by decide +kernel
theorem dX4_findLeastMore_9 : decode cX4_findLeastMore 9 = .ok (.ifCond .lt 43, 3) := by decide +kernel
theorem dX4_findLeastMore_12 : decode cX4_findLeastMore 12 = .ok (.aload_n 0, 1) := by decide +kernel
theorem dX4_findLeastMore_13 : decode cX4_findLeastMore 13 = .ok (.iload_n 2, 1) := by decide +kernel
theorem dX4_findLeastMore_14 : decode cX4_findLeastMore 14 = .ok (.invokevirtual 49, 3) := by decide +kernel
theorem dX4_findLeastMore_17 : decode cX4_findLeastMore 17 = .ok (.istore_n 3, 1) := by decide +kernel
theorem dX4_findLeastMore_18 : decode cX4_findLeastMore 18 = .ok (.aload_n 0, 1) := by decide +kernel
theorem dX4_findLeastMore_19 : decode cX4_findLeastMore 19 = .ok (.getfield 15, 3) := by decide +kernel
theorem dX4_findLeastMore_22 : decode cX4_findLeastMore 22 = .ok (.iload_n 2, 1) := by decide +kernel
theorem dX4_findLeastMore_23 : decode cX4_findLeastMore 23 = .ok (.iload_n 3, 1) := by decide +kernel
theorem dX4_findLeastMore_24 : decode cX4_findLeastMore 24 = .ok (.aload_n 0, 1) := by decide +kernel
theorem dX4_findLeastMore_25 : decode cX4_findLeastMore 25 = .ok (.getfield 25, 3) := by decide +kernel
theorem dX4_findLeastMore_28 : decode cX4_findLeastMore 28 = .ok (.invokevirtual 53, 3) := by decide +kernel
theorem dX4_findLeastMore_31 : decode cX4_findLeastMore 31 = .ok (.if_icmp .lt 7, 3) := by decide +kernel
theorem dX4_findLeastMore_34 : decode cX4_findLeastMore 34 = .ok (.iconst 0, 1) := by decide +kernel
theorem dX4_findLeastMore_35 : decode cX4_findLeastMore 35 = .ok (.goto 10, 3) := by decide +kernel
theorem dX4_findLeastMore_38 : decode cX4_findLeastMore 38 = .ok (.aload_n 0, 1) := by decide +kernel
theorem dX4_findLeastMore_39 : decode cX4_findLeastMore 39 = .ok (.iload_n 2, 1) := by decide +kernel
theorem dX4_findLeastMore_40 : decode cX4_findLeastMore 40 = .ok (.iload_n 3, 1) := by decide +kernel
theorem dX4_findLeastMore_41 : decode cX4_findLeastMore 41 = .ok (.iload_n 1, 1) := by decide +kernel
theorem dX4_findLeastMore_42 : decode cX4_findLeastMore 42 = .ok (.invokevirtual 59, 3) := by decide +kernel
theorem dX4_findLeastMore_45 : decode cX4_findLeastMore 45 = .ok (.iastore, 1) := by decide +kernel
theorem dX4_findLeastMore_46 : decode cX4_findLeastMore 46 = .ok (.iinc 2 (-1), 3) := by decide +kernel
theorem dX4_findLeastMore_49 : decode cX4_findLeastMore 49 = .ok (.goto (-41), 3) := by decide +kernel
theorem dX4_findLeastMore_52 : decode cX4_findLeastMore 52 = .ok (.return_, 1) := by decide +kernel
theorem hd_X4_findLeastMore : yX4_findLeastMore.cls = RX4 ∧ yX4_findLeastMore.cls ≠ "java/lang/invoke/MethodHandle" ∧ yX4_findLeastMore.cls ≠ "java/lang/invoke/VarHandle" ∧ (parseMethodDescriptor yX4_findLeastMore.desc).map (fun d => d.parameters.length) = some 1 := by decide +kernel
abbrev rm_X4_findLeastMore : Room := { frames := 3, cells := 0, slots := 0, locals := 79 }
def wp_X4_findLeastMore_45 (K : HF → Prop) (L8 : HF → Int32 → Int32 → Prop) (F : HF) (v1 : Int32) (v2 : Int32) (s1 : Int32) (s2 : Int32) : Prop := (vp_in s1 256) ∧ (∀ F204 : HF, F204 = hup F 87 s1.toNatClampNeg s2 → (L8 F204 v1 (v2 + (-1 : Int32))))
set_option maxRecDepth 100000 in
set_option maxHeartbeats 4000000 in
theorem k_X4_findLeastMore_45 {p : Program} {l : Launch} {e : Env} {s : State} {m : MethodId} {args : Array Value} {below : List Frame} {meth : Method} {c : Code} {D : va_G} {dA : Nat → ClassId} {ad : Nat → Nat} {R : List Nat} {A : Nat → Prop} {K : HF → Prop} {L8 : HF → Int32 → Int32 → Prop} (X : Cx p s m args meth c cX4_findLeastMore 4 RX4 D dA) (hA : ∀ q, s.heap.size ≤ q → A q) (hr : meth.sig.returnType = none) (hT : Se R) (hL8 : ∀ (F : HF) (v1 : Int32) (v2 : Int32), L8 F v1 v2 → J p l e rm_X4_findLeastMore s m args below meth c 4 D dA ad R A (QV D dA ad R A below args s K) F 8 [(0, .ref (ad 79)), (1, .int v1), (2, .int v2)] []) : ∀ (F : HF) (v1 : Int32) (v2 : Int32) (s1 : Int32) (s2 : Int32), wp_X4_findLeastMore_45 K L8  F v1 v2 s1 s2 → J p l e rm_X4_findLeastMore s m args below meth c 4 D dA ad R A (QV D dA ad R A below args s K) F 45 [(0, .ref (ad 79)), (1, .int v1), (2, .int v2)] [.int s2, .int s1, .ref (ad 87)] := by
  intro F v1 v2 s1 s2 h
  unfold wp_X4_findLeastMore_45 at h
  refine r_iast (pc := 45) X hT.2.2.2 h.1 dX4_findLeastMore_45 (fun F204 e1 => ?_)
  replace h := h.2 F204 e1
  refine r_iinc (pc := 46) (v := (v2 + (-1 : Int32))) X 2 [(2, .int (v2 + (-1 : Int32))), (0, .ref (ad 79)), (1, .int v1)] dX4_findLeastMore_46 rfl rfl (by decide) rfl ?_
  refine r_goto (pc := 49) (tgt := 8) X dX4_findLeastMore_49 (by decide) ?_
  refine r_sub [1, 2, 0] rfl ?_
  exact hL8 _ _ _ h
def wp_X4_findLeastMore_8 (K : HF → Prop) : Nat → HF → Int32 → Int32 → Prop
  | 0 => fun _ _ _ => False
  | n8_ + 1 => fun F v1 v2 => ((v2 < (nI 0)) → (K F)) ∧ ((¬ v2 < (nI 0)) → (wp_X4_placesOf (fun x1 F101 => wp_X1_width (fun x2 F102 => ((x1 < x2) → (wp_X4_leastMoreBehind (fun x3 F103 => wp_X4_findLeastMore_45 K (wp_X4_findLeastMore_8 K n8_)  F103 v1 v2 v2 x3) F102 v2 x1 v1)) ∧ ((¬ x1 < x2) → (wp_X4_findLeastMore_45 K (wp_X4_findLeastMore_8 K n8_)  F102 v1 v2 v2 (nI 0)))) F101 4) F v2))
set_option maxRecDepth 100000 in
set_option maxHeartbeats 4000000 in
theorem k_X4_findLeastMore_8 {p : Program} {l : Launch} {e : Env} {s : State} {m : MethodId} {args : Array Value} {below : List Frame} {meth : Method} {c : Code} {D : va_G} {dA : Nat → ClassId} {ad : Nat → Nat} {R : List Nat} {A : Nat → Prop} {K : HF → Prop} (X : Cx p s m args meth c cX4_findLeastMore 4 RX4 D dA) (hA : ∀ q, s.heap.size ≤ q → A q) (hr : meth.sig.returnType = none) (hT : Se R) : ∀ (n_ : Nat) (F : HF) (v1 : Int32) (v2 : Int32), wp_X4_findLeastMore_8 K  n_ F v1 v2 → J p l e rm_X4_findLeastMore s m args below meth c 4 D dA ad R A (QV D dA ad R A below args s K) F 8 [(0, .ref (ad 79)), (1, .int v1), (2, .int v2)] [] := by
  intro n_
  induction n_ with
  | zero => intro F v1 v2 h; exact h.elim
  | succ n_ ih =>
    intro F v1 v2 h
    unfold wp_X4_findLeastMore_8 at h
    refine r_iload_n (pc := 8) X 2 dX4_findLeastMore_8 rfl rfl ?_
    refine r_if_lt (pc := 9) (tgt := 52) X dX4_findLeastMore_9 (by decide) (fun hc => ?_) (fun hc => ?_)
    · replace h := h.1 hc
      exact r_vret (pc := 52) X hr dX4_findLeastMore_52 h
    · replace h := h.2 hc
      refine r_aload_n (pc := 12) X 0 dX4_findLeastMore_12 rfl rfl ?_
      refine r_iload_n (pc := 13) X 2 dX4_findLeastMore_13 rfl rfl ?_
      refine r_callIV (pc := 14) (As := [.int v2]) (st := []) X hA (c_X4_placesOf hT h) g_X4_49 cl_X4 hT.1 hd_X4_placesOf rfl rfl rfl ⟨Nat.le_of_ble_eq_true rfl, Nat.le_of_ble_eq_true rfl⟩ rfl (Nat.le_of_ble_eq_true rfl) dX4_findLeastMore_14 (fun x1 F101 h => ?_)
      refine r_istore_n (pc := 17) X [(3, .int x1), (0, .ref (ad 79)), (1, .int v1), (2, .int v2)] dX4_findLeastMore_17 rfl (by decide) rfl ?_
      refine r_aload_n (pc := 18) X 1 dX4_findLeastMore_18 rfl rfl ?_
      refine fg_X4_15 (pc := 19) X hT.1 dX4_findLeastMore_19 ?_
      refine r_iload_n (pc := 22) X 3 dX4_findLeastMore_22 rfl rfl ?_
      refine r_iload_n (pc := 23) X 0 dX4_findLeastMore_23 rfl rfl ?_
      refine r_aload_n (pc := 24) X 1 dX4_findLeastMore_24 rfl rfl ?_
      refine fg_X4_25 (pc := 25) X hT.1 dX4_findLeastMore_25 ?_
      refine r_callIV (pc := 28) (As := []) (st := [.int x1, .int v2, .ref (ad 87)]) X hA (c_X1_width hT.2.1.2.2.2.2 h) g_X4_53 cl_X1 hT.2.1.2.2.2.2.1 hd_X1_width rfl rfl rfl ⟨Nat.le_of_ble_eq_true rfl, Nat.le_of_ble_eq_true rfl⟩ rfl (Nat.le_of_ble_eq_true rfl) dX4_findLeastMore_28 (fun x2 F102 h => ?_)
      refine r_icmp_lt (pc := 31) (tgt := 38) X dX4_findLeastMore_31 (by decide) (fun hc => ?_) (fun hc => ?_)
      · replace h := h.1 hc
        refine r_aload_n (pc := 38) X 1 dX4_findLeastMore_38 rfl rfl ?_
        refine r_iload_n (pc := 39) X 3 dX4_findLeastMore_39 rfl rfl ?_
        refine r_iload_n (pc := 40) X 0 dX4_findLeastMore_40 rfl rfl ?_
        refine r_iload_n (pc := 41) X 2 dX4_findLeastMore_41 rfl rfl ?_
        refine r_callIV (pc := 42) (As := [.int v2, .int x1, .int v1]) (st := [.int v2, .ref (ad 87)]) X hA (c_X4_leastMoreBehind hT h) g_X4_59 cl_X4 hT.1 hd_X4_leastMoreBehind rfl rfl rfl ⟨Nat.le_of_ble_eq_true rfl, Nat.le_of_ble_eq_true rfl⟩ rfl (Nat.le_of_ble_eq_true rfl) dX4_findLeastMore_42 (fun x3 F103 h => ?_)
        refine r_sub [1, 2, 3] rfl ?_
        exact k_X4_findLeastMore_45 X hA hr hT ih _ _ _ _ _ h
      · replace h := h.2 hc
        refine r_iconst (pc := 34) (v := (nI 0)) X dX4_findLeastMore_34 (by decide) ?_
        refine r_goto (pc := 35) (tgt := 45) X dX4_findLeastMore_35 (by decide) ?_
        refine r_sub [1, 2, 3] rfl ?_
        exact k_X4_findLeastMore_45 X hA hr hT ih _ _ _ _ _ h
def wp_X4_findLeastMore (K : HF → Prop) (F : HF) (a1 : Int32) : Prop := ∃ m_, wp_X4_findLeastMore_8 K  m_ F a1 ((nI 256) - (nI 1))
set_option maxRecDepth 100000 in
set_option maxHeartbeats 4000000 in
theorem c_X4_findLeastMore {l : Launch} {D : va_G} {dA : Nat → ClassId} {ad : Nat → Nat} {R : List Nat} {F : HF} {a1 : Int32} {K : HF → Prop} (hT : Se R) (h : wp_X4_findLeastMore K F a1) : MV l yX4_findLeastMore cX4_findLeastMore 4 rm_X4_findLeastMore D dA ad R F [.ref (ad 79), .int a1] K := by
  refine MV.of (own := RX4) (by decide) rfl (Nat.le_of_ble_eq_true rfl) ?_
  intro p e s m args below meth c A hA X hr
  unfold wp_X4_findLeastMore at h
  show J p l e rm_X4_findLeastMore s m args below meth c 4 D dA ad R A (QV D dA ad R A below args s K) F 0 [(0, .ref (ad 79)), (1, .int a1)] []
  refine r_aload_n (pc := 0) X 0 dX4_findLeastMore_0 rfl rfl ?_
  refine fg_X4_15 (pc := 1) X hT.1 dX4_findLeastMore_1 ?_
  refine r_alen (pc := 4) (v := (nI 256)) X (Or.inl hT.2.2.2) rfl dX4_findLeastMore_4 ?_
  refine r_iconst (pc := 5) (v := (nI 1)) X dX4_findLeastMore_5 (by decide) ?_
  refine r_isub (pc := 6) X dX4_findLeastMore_6 ?_
  refine r_istore_n (pc := 7) X [(2, .int ((nI 256) - (nI 1))), (0, .ref (ad 79)), (1, .int a1)] dX4_findLeastMore_7 rfl (by decide) rfl ?_
  refine r_sub [1, 2, 0] rfl ?_
  obtain ⟨n1, h⟩ := h
  exact k_X4_findLeastMore_8 X hA hr hT  n1 _ _ _ h
theorem dX4_find_0 : decode cX4_find 0 = .ok (.iload_n 1, 1) := by decide +kernel
theorem dX4_find_1 : decode cX4_find 1 = .ok (.aload_n 0, 1) := by decide +kernel
theorem dX4_find_2 : decode cX4_find 2 = .ok (.getfield 22, 3) := by decide +kernel
theorem dX4_find_5 : decode cX4_find 5 = .ok (.if_icmp .ne 4, 3) := by decide +kernel
theorem dX4_find_8 : decode cX4_find 8 = .ok (.return_, 1) := by decide +kernel
theorem dX4_find_9 : decode cX4_find 9 = .ok (.aload_n 0, 1) := by decide +kernel
theorem dX4_find_10 : decode cX4_find 10 = .ok (.iload_n 1, 1) := by decide +kernel
theorem dX4_find_11 : decode cX4_find 11 = .ok (.putfield 22, 3) := by decide +kernel
theorem dX4_find_14 : decode cX4_find 14 = .ok (.aload_n 0, 1) := by decide +kernel
theorem dX4_find_15 : decode cX4_find 15 = .ok (.bipush 9, 2) := by decide +kernel
theorem dX4_find_17 : decode cX4_find 17 = .ok (.putfield 18, 3) := by decide +kernel
theorem dX4_find_20 : decode cX4_find 20 = .ok (.aload_n 0, 1) := by decide +kernel
theorem dX4_find_21 : decode cX4_find 21 = .ok (.getfield 34, 3) := by decide +kernel
theorem dX4_find_24 : decode cX4_find 24 = .ok (.invokevirtual 38, 3) := by decide +kernel
theorem dX4_find_27 : decode cX4_find 27 = .ok (.aload_n 0, 1) := by decide +kernel
theorem dX4_find_28 : decode cX4_find 28 = .ok (.iload_n 1, 1) := by decide +kernel
theorem dX4_find_29 : decode cX4_find 29 = .ok (.invokevirtual 41, 3) := by decide +kernel
theorem dX4_find_32 : decode cX4_find 32 = .ok (.aload_n 0, 1) := by decide +kernel
theorem dX4_find_33 : decode cX4_find 33 = .ok (.iconst 0, 1) := by decide +kernel
theorem dX4_find_34 : decode cX4_find 34 = .ok (.iconst 0, 1) := by decide +kernel
theorem dX4_find_35 : decode cX4_find 35 = .ok (.iload_n 1, 1) := by decide +kernel
theorem dX4_find_36 : decode cX4_find 36 = .ok (.invokevirtual 45, 3) := by decide +kernel
theorem dX4_find_39 : decode cX4_find 39 = .ok (.return_, 1) := by decide +kernel
theorem hd_X4_find : yX4_find.cls = RX4 ∧ yX4_find.cls ≠ "java/lang/invoke/MethodHandle" ∧ yX4_find.cls ≠ "java/lang/invoke/VarHandle" ∧ (parseMethodDescriptor yX4_find.desc).map (fun d => d.parameters.length) = some 1 := by decide +kernel
abbrev rm_X4_find : Room := { frames := 16, cells := 0, slots := 0, locals := 412 }
def wp_X4_find (K : HF → Prop) (F : HF) (a1 : Int32) : Prop := ((¬ a1 = (F 79 5)) → (∀ F1 : HF, F1 = hup F 79 5 a1 → (∀ F2 : HF, F2 = hup F1 79 4 (nI 9) → (wp_X0_clear (fun F3 => wp_X4_findLeastMore (fun F4 => wp_X4_extend 10 (fun F5 => K F5) F4 (nI 0) (nI 0) a1) F3 a1) F2 80)))) ∧ ((a1 = (F 79 5)) → (K F))
set_option maxRecDepth 100000 in
set_option maxHeartbeats 4000000 in
theorem c_X4_find {l : Launch} {D : va_G} {dA : Nat → ClassId} {ad : Nat → Nat} {R : List Nat} {F : HF} {a1 : Int32} {K : HF → Prop} (hT : Se R) (h : wp_X4_find K F a1) : MV l yX4_find cX4_find 2 rm_X4_find D dA ad R F [.ref (ad 79), .int a1] K := by
  refine MV.of (own := RX4) (by decide) rfl (Nat.le_of_ble_eq_true rfl) ?_
  intro p e s m args below meth c A hA X hr
  unfold wp_X4_find at h
  show J p l e rm_X4_find s m args below meth c 2 D dA ad R A (QV D dA ad R A below args s K) F 0 [(0, .ref (ad 79)), (1, .int a1)] []
  refine r_iload_n (pc := 0) X 1 dX4_find_0 rfl rfl ?_
  refine r_aload_n (pc := 1) X 0 dX4_find_1 rfl rfl ?_
  refine fg_X4_22 (pc := 2) X hT.1 dX4_find_2 ?_
  refine r_icmp_ne (pc := 5) (tgt := 9) X dX4_find_5 (by decide) (fun hc => ?_) (fun hc => ?_)
  · replace h := h.1 hc
    refine r_aload_n (pc := 9) X 0 dX4_find_9 rfl rfl ?_
    refine r_iload_n (pc := 10) X 1 dX4_find_10 rfl rfl ?_
    refine fp_X4_22 (pc := 11) X hT.1 dX4_find_11 (fun F1 e1 => ?_)
    replace h := h F1 e1
    refine r_aload_n (pc := 14) X 0 dX4_find_14 rfl rfl ?_
    refine r_bipush (pc := 15) (v := (nI 9)) X dX4_find_15 (by decide) ?_
    refine fp_X4_18 (pc := 17) X hT.1 dX4_find_17 (fun F2 e1 => ?_)
    replace h := h F2 e1
    refine r_aload_n (pc := 20) X 0 dX4_find_20 rfl rfl ?_
    refine fg_X4_34 (pc := 21) X hT.1 dX4_find_21 ?_
    refine r_callVV (pc := 24) (As := []) (st := []) X hA (c_X0_clear hT.2.1 h) g_X4_38 cl_X0 hT.2.1.1 hd_X0_clear rfl rfl rfl ⟨Nat.le_of_ble_eq_true rfl, Nat.le_of_ble_eq_true rfl⟩ rfl (Nat.le_of_ble_eq_true rfl) dX4_find_24 (fun F3 h => ?_)
    refine r_aload_n (pc := 27) X 0 dX4_find_27 rfl rfl ?_
    refine r_iload_n (pc := 28) X 1 dX4_find_28 rfl rfl ?_
    refine r_callVV (pc := 29) (As := [.int a1]) (st := []) X hA (c_X4_findLeastMore hT h) g_X4_41 cl_X4 hT.1 hd_X4_findLeastMore rfl rfl rfl ⟨Nat.le_of_ble_eq_true rfl, Nat.le_of_ble_eq_true rfl⟩ rfl (Nat.le_of_ble_eq_true rfl) dX4_find_29 (fun F4 h => ?_)
    refine r_aload_n (pc := 32) X 0 dX4_find_32 rfl rfl ?_
    refine r_iconst (pc := 33) (v := (nI 0)) X dX4_find_33 (by decide) ?_
    refine r_iconst (pc := 34) (v := (nI 0)) X dX4_find_34 (by decide) ?_
    refine r_iload_n (pc := 35) X 1 dX4_find_35 rfl rfl ?_
    refine r_callVV (pc := 36) (As := [.int (nI 0), .int (nI 0), .int a1]) (st := []) X hA (c_X4_extend hT 10 _ _ _ _ _ h) g_X4_45 cl_X4 hT.1 hd_X4_extend rfl rfl rfl ⟨Nat.le_of_ble_eq_true rfl, Nat.le_of_ble_eq_true rfl⟩ rfl (Nat.le_of_ble_eq_true rfl) dX4_find_36 (fun F5 h => ?_)
    exact r_vret (pc := 39) X hr dX4_find_39 h
  · replace h := h.2 hc
    exact r_vret (pc := 8) X hr dX4_find_8 h
theorem dX4_foundSize_0 : decode cX4_foundSize 0 = .ok (.aload_n 0, 1) := by decide +kernel
theorem dX4_foundSize_1 : decode cX4_foundSize 1 = .ok (.getfield 18, 3) := by decide +kernel
theorem dX4_foundSize_4 : decode cX4_foundSize 4 = .ok (.bipush 9, 2) := by decide +kernel
theorem dX4_foundSize_6 : decode cX4_foundSize 6 = .ok (.if_icmp .ne 8, 3) := by decide +kernel
theorem dX4_foundSize_9 : decode cX4_foundSize 9 = .ok (.bipush (-4), 2) := by decide +kernel
theorem dX4_foundSize_11 : decode cX4_foundSize 11 = .ok (.goto 7, 3) := by decide +kernel
theorem dX4_foundSize_14 : decode cX4_foundSize 14 = .ok (.aload_n 0, 1) := by decide +kernel
theorem dX4_foundSize_15 : decode cX4_foundSize 15 = .ok (.getfield 18, 3) := by decide +kernel
theorem dX4_foundSize_18 : decode cX4_foundSize 18 = .ok (.ireturn, 1) := by decide +kernel
theorem hd_X4_foundSize : yX4_foundSize.cls = RX4 ∧ yX4_foundSize.cls ≠ "java/lang/invoke/MethodHandle" ∧ yX4_foundSize.cls ≠ "java/lang/invoke/VarHandle" ∧ (parseMethodDescriptor yX4_foundSize.desc).map (fun d => d.parameters.length) = some 0 := by decide +kernel
abbrev rm_X4_foundSize : Room := { frames := 0, cells := 0, slots := 0, locals := 0 }
def wp_X4_foundSize (K : Int32 → HF → Prop) (F : HF) : Prop := ((¬ (F 79 4) = (nI 9)) → (K (F 79 4) F)) ∧ (((F 79 4) = (nI 9)) → (K (-4 : Int32) F))
set_option maxRecDepth 100000 in
set_option maxHeartbeats 4000000 in
theorem c_X4_foundSize {l : Launch} {D : va_G} {dA : Nat → ClassId} {ad : Nat → Nat} {R : List Nat} {F : HF} {K : Int32 → HF → Prop} (hT : Se R) (h : wp_X4_foundSize K F ) : MI l yX4_foundSize cX4_foundSize 1 .int rm_X4_foundSize D dA ad R F [.ref (ad 79)] K := by
  refine MI.of (own := RX4) (by decide) rfl (Nat.le_of_ble_eq_true rfl) ?_
  intro p e s m args below meth c A hA X hr
  unfold wp_X4_foundSize at h
  show J p l e rm_X4_foundSize s m args below meth c 1 D dA ad R A (QI D dA ad R A below args s K) F 0 [(0, .ref (ad 79))] []
  refine r_aload_n (pc := 0) X 0 dX4_foundSize_0 rfl rfl ?_
  refine fg_X4_18 (pc := 1) X hT.1 dX4_foundSize_1 ?_
  refine r_bipush (pc := 4) (v := (nI 9)) X dX4_foundSize_4 (by decide) ?_
  refine r_icmp_ne (pc := 6) (tgt := 14) X dX4_foundSize_6 (by decide) (fun hc => ?_) (fun hc => ?_)
  · replace h := h.1 hc
    refine r_aload_n (pc := 14) X 0 dX4_foundSize_14 rfl rfl ?_
    refine fg_X4_18 (pc := 15) X hT.1 dX4_foundSize_15 ?_
    exact r_iret (pc := 18) X hr dX4_foundSize_18 h
  · replace h := h.2 hc
    refine r_bipush (pc := 9) (v := (-4 : Int32)) X dX4_foundSize_9 (by decide) ?_
    refine r_goto (pc := 11) (tgt := 18) X dX4_foundSize_11 (by decide) ?_
    exact r_iret (pc := 18) X hr dX4_foundSize_18 h
theorem dX4_foundAt_0 : decode cX4_foundAt 0 = .ok (.aload_n 0, 1) := by decide +kernel
theorem dX4_foundAt_1 : decode cX4_foundAt 1 = .ok (.getfield 18, 3) := by decide +kernel
theorem dX4_foundAt_4 : decode cX4_foundAt 4 = .ok (.bipush 9, 2) := by decide +kernel
theorem dX4_foundAt_6 : decode cX4_foundAt 6 = .ok (.if_icmp .eq 15, 3) := by decide +kernel
theorem dX4_foundAt_9 : decode cX4_foundAt 9 = .ok (.iload_n 1, 1) := by decide +kernel
theorem dX4_foundAt_10 : decode cX4_foundAt 10 = .ok (.ifCond .lt 11, 3) := by decide +kernel
theorem dX4_foundAt_13 : decode cX4_foundAt 13 = .ok (.iload_n 1, 1) := by decide +kernel
theorem dX4_foundAt_14 : decode cX4_foundAt 14 = .ok (.aload_n 0, 1) := by decide +kernel
theorem dX4_foundAt_15 : decode cX4_foundAt 15 = .ok (.getfield 18, 3) := by decide +kernel
theorem dX4_foundAt_18 : decode cX4_foundAt 18 = .ok (.if_icmp .lt 8, 3) := by decide +kernel
theorem dX4_foundAt_21 : decode cX4_foundAt 21 = .ok (.bipush (-4), 2) := by decide +kernel
theorem dX4_foundAt_23 : decode cX4_foundAt 23 = .ok (.goto 9, 3) := by decide +kernel
theorem dX4_foundAt_26 : decode cX4_foundAt 26 = .ok (.aload_n 0, 1) := by decide +kernel
theorem dX4_foundAt_27 : decode cX4_foundAt 27 = .ok (.getfield 9, 3) := by decide +kernel
theorem dX4_foundAt_30 : decode cX4_foundAt 30 = .ok (.iload_n 1, 1) := by decide +kernel
theorem dX4_foundAt_31 : decode cX4_foundAt 31 = .ok (.iaload, 1) := by decide +kernel
theorem dX4_foundAt_32 : decode cX4_foundAt 32 = .ok (.ireturn, 1) := by decide +kernel
theorem hd_X4_foundAt : yX4_foundAt.cls = RX4 ∧ yX4_foundAt.cls ≠ "java/lang/invoke/MethodHandle" ∧ yX4_foundAt.cls ≠ "java/lang/invoke/VarHandle" ∧ (parseMethodDescriptor yX4_foundAt.desc).map (fun d => d.parameters.length) = some 1 := by decide +kernel
abbrev rm_X4_foundAt : Room := { frames := 0, cells := 0, slots := 0, locals := 0 }
def wp_X4_foundAt (K : Int32 → HF → Prop) (F : HF) (a1 : Int32) : Prop := (((F 79 4) = (nI 9)) → (K (-4 : Int32) F)) ∧ ((¬ (F 79 4) = (nI 9)) → (((a1 < (nI 0)) → (K (-4 : Int32) F)) ∧ ((¬ a1 < (nI 0)) → (((a1 < (F 79 4)) → ((vp_in a1 8) ∧ (K (F 84 a1.toNatClampNeg) F))) ∧ ((¬ a1 < (F 79 4)) → (K (-4 : Int32) F))))))
set_option maxRecDepth 100000 in
set_option maxHeartbeats 4000000 in
theorem c_X4_foundAt {l : Launch} {D : va_G} {dA : Nat → ClassId} {ad : Nat → Nat} {R : List Nat} {F : HF} {a1 : Int32} {K : Int32 → HF → Prop} (hT : Se R) (h : wp_X4_foundAt K F a1) : MI l yX4_foundAt cX4_foundAt 2 .int rm_X4_foundAt D dA ad R F [.ref (ad 79), .int a1] K := by
  refine MI.of (own := RX4) (by decide) rfl (Nat.le_of_ble_eq_true rfl) ?_
  intro p e s m args below meth c A hA X hr
  unfold wp_X4_foundAt at h
  show J p l e rm_X4_foundAt s m args below meth c 2 D dA ad R A (QI D dA ad R A below args s K) F 0 [(0, .ref (ad 79)), (1, .int a1)] []
  refine r_aload_n (pc := 0) X 0 dX4_foundAt_0 rfl rfl ?_
  refine fg_X4_18 (pc := 1) X hT.1 dX4_foundAt_1 ?_
  refine r_bipush (pc := 4) (v := (nI 9)) X dX4_foundAt_4 (by decide) ?_
  refine r_icmp_eq (pc := 6) (tgt := 21) X dX4_foundAt_6 (by decide) (fun hc => ?_) (fun hc => ?_)
  · replace h := h.1 hc
    refine r_bipush (pc := 21) (v := (-4 : Int32)) X dX4_foundAt_21 (by decide) ?_
    refine r_goto (pc := 23) (tgt := 32) X dX4_foundAt_23 (by decide) ?_
    exact r_iret (pc := 32) X hr dX4_foundAt_32 h
  · replace h := h.2 hc
    refine r_iload_n (pc := 9) X 1 dX4_foundAt_9 rfl rfl ?_
    refine r_if_lt (pc := 10) (tgt := 21) X dX4_foundAt_10 (by decide) (fun hc => ?_) (fun hc => ?_)
    · replace h := h.1 hc
      refine r_bipush (pc := 21) (v := (-4 : Int32)) X dX4_foundAt_21 (by decide) ?_
      refine r_goto (pc := 23) (tgt := 32) X dX4_foundAt_23 (by decide) ?_
      exact r_iret (pc := 32) X hr dX4_foundAt_32 h
    · replace h := h.2 hc
      refine r_iload_n (pc := 13) X 1 dX4_foundAt_13 rfl rfl ?_
      refine r_aload_n (pc := 14) X 0 dX4_foundAt_14 rfl rfl ?_
      refine fg_X4_18 (pc := 15) X hT.1 dX4_foundAt_15 ?_
      refine r_icmp_lt (pc := 18) (tgt := 26) X dX4_foundAt_18 (by decide) (fun hc => ?_) (fun hc => ?_)
      · replace h := h.1 hc
        refine r_aload_n (pc := 26) X 0 dX4_foundAt_26 rfl rfl ?_
        refine fg_X4_9 (pc := 27) X hT.1 dX4_foundAt_27 ?_
        refine r_iload_n (pc := 30) X 1 dX4_foundAt_30 rfl rfl ?_
        refine r_iald (pc := 31) X hT.2.2.1 h.1 dX4_foundAt_31 ?_
        replace h := h.2
        exact r_iret (pc := 32) X hr dX4_foundAt_32 h
      · replace h := h.2 hc
        refine r_bipush (pc := 21) (v := (-4 : Int32)) X dX4_foundAt_21 (by decide) ?_
        refine r_goto (pc := 23) (tgt := 32) X dX4_foundAt_23 (by decide) ?_
        exact r_iret (pc := 32) X hr dX4_foundAt_32 h
