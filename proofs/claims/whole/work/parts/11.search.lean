theorem dX4_begin_0 : decode cX4_begin 0 = .ok (.aload_n 0, 1) := by decide +kernel
theorem dX4_begin_1 : decode cX4_begin 1 = .ok (.iconst (-1), 1) := by decide +kernel
theorem dX4_begin_2 : decode cX4_begin 2 = .ok (.putfield 19, 3) := by decide +kernel
theorem dX4_begin_5 : decode cX4_begin 5 = .ok (.return_, 1) := by decide +kernel
theorem hd_X4_begin : yX4_begin.cls = RX4 ∧ yX4_begin.cls ≠ "java/lang/invoke/MethodHandle" ∧ yX4_begin.cls ≠ "java/lang/invoke/VarHandle" ∧ (parseMethodDescriptor yX4_begin.desc).map (fun d => d.parameters.length) = some 0 := by decide +kernel
abbrev rm_X4_begin : Room := { frames := 0, cells := 0, slots := 0, locals := 0 }
def wp_X4_begin (K : HF → Prop) (F : HF) : Prop := ∀ F1 : HF, F1 = hup F 79 4 (-1 : Int32) → (K F1)
set_option maxRecDepth 100000 in
set_option maxHeartbeats 4000000 in
theorem c_X4_begin {l : Launch} {D : va_G} {dA : Nat → ClassId} {ad : Nat → Nat} {R : List Nat} {F : HF} {K : HF → Prop} (hT : Se R) (h : wp_X4_begin K F ) : MV l yX4_begin cX4_begin 1 rm_X4_begin D dA ad R F [.ref (ad 79)] K := by
  refine MV.of (own := RX4) (by decide) rfl (Nat.le_of_ble_eq_true rfl) ?_
  intro p e s m args below meth c A hA X hr
  unfold wp_X4_begin at h
  show J p l e rm_X4_begin s m args below meth c 1 D dA ad R A (QV D dA ad R A below args s K) F 0 [(0, .ref (ad 79))] []
  refine r_aload_n (pc := 0) X 0 dX4_begin_0 rfl rfl ?_
  refine r_iconst (pc := 1) (v := (-1 : Int32)) X dX4_begin_1 (by decide) ?_
  refine fp_X4_19 (pc := 2) X hT.1 dX4_begin_2 (fun F1 e1 => ?_)
  replace h := h F1 e1
  exact r_vret (pc := 5) X hr dX4_begin_5 h
theorem dX4_noteFound_0 : decode cX4_noteFound 0 = .ok (.aload_n 0, 1) := by decide +kernel
theorem dX4_noteFound_1 : decode cX4_noteFound 1 = .ok (.aload_n 0, 1) := by decide +kernel
theorem dX4_noteFound_2 : decode cX4_noteFound 2 = .ok (.getfield 31, 3) := by decide +kernel
theorem dX4_noteFound_5 : decode cX4_noteFound 5 = .ok (.invokevirtual 80, 3) := by decide +kernel
theorem dX4_noteFound_8 : decode cX4_noteFound 8 = .ok (.putfield 15, 3) := by decide +kernel
theorem dX4_noteFound_11 : decode cX4_noteFound 11 = .ok (.iconst 0, 1) := by decide +kernel
theorem dX4_noteFound_12 : decode cX4_noteFound 12 = .ok (.istore_n 1, 1) := by decide +kernel
theorem dX4_noteFound_13 : decode cX4_noteFound 13 = .ok (.iload_n 1, 1) := by decide +kernel
theorem dX4_noteFound_14 : decode cX4_noteFound 14 = .ok (.aload_n 0, 1) := by decide +kernel
theorem dX4_noteFound_15 : decode cX4_noteFound 15 = .ok (.getfield 15, 3) := by decide +kernel
theorem dX4_noteFound_18 : decode cX4_noteFound 18 = .ok (.if_icmp .ge 32, 3) := by decide +kernel
theorem dX4_noteFound_21 : decode cX4_noteFound 21 = .ok (.iload_n 1, 1) := by decide +kernel
theorem dX4_noteFound_22 : decode cX4_noteFound 22 = .ok (.aload_n 0, 1) := by decide +kernel
theorem dX4_noteFound_23 : decode cX4_noteFound 23 = .ok (.getfield 9, 3) := by decide +kernel
theorem dX4_noteFound_26 : decode cX4_noteFound 26 = .ok (.arraylength, 1) := by decide +kernel
theorem dX4_noteFound_27 : decode cX4_noteFound 27 = .ok (.if_icmp .ge 23, 3) := by decide +kernel
theorem dX4_noteFound_30 : decode cX4_noteFound 30 = .ok (.aload_n 0, 1) := by decide +kernel
theorem dX4_noteFound_31 : decode cX4_noteFound 31 = .ok (.getfield 9, 3) := by decide +kernel
theorem dX4_noteFound_34 : decode cX4_noteFound 34 = .ok (.iload_n 1, 1) := by decide +kernel
theorem dX4_noteFound_35 : decode cX4_noteFound 35 = .ok (.aload_n 0, 1) := by decide +kernel
theorem dX4_noteFound_36 : decode cX4_noteFound 36 = .ok (.getfield 31, 3) := by decide +kernel
theorem dX4_noteFound_39 : decode cX4_noteFound 39 = .ok (.iload_n 1, 1) := by decide +kernel
theorem dX4_noteFound_40 : decode cX4_noteFound 40 = .ok (.invokevirtual 83, 3) := by decide +kernel
theorem dX4_noteFound_43 : decode cX4_noteFound 43 = .ok (.iastore, 1) := by decide +kernel
theorem dX4_noteFound_44 : decode cX4_noteFound 44 = .ok (.iinc 1 1, 3) := by decide +kernel
theorem dX4_noteFound_47 : decode cX4_noteFound 47 = .ok (.goto (-34), 3) := by decide +kernel
theorem dX4_noteFound_50 : decode cX4_noteFound 50 = .ok (.return_, 1) := by decide +kernel
theorem hd_X4_noteFound : yX4_noteFound.cls = RX4 ∧ yX4_noteFound.cls ≠ "java/lang/invoke/MethodHandle" ∧ yX4_noteFound.cls ≠ "java/lang/invoke/VarHandle" ∧ (parseMethodDescriptor yX4_noteFound.desc).map (fun d => d.parameters.length) = some 0 := by decide +kernel
abbrev rm_X4_noteFound : Room := { frames := 1, cells := 0, slots := 0, locals := 21 }
def wp_X4_noteFound_13 (K : HF → Prop) : Nat → HF → Int32 → Prop
  | 0 => fun _ _ => False
  | n13_ + 1 => fun F v1 => (((F 79 3) ≤ v1) → (K F)) ∧ ((¬ (F 79 3) ≤ v1) → ((((nI 8) ≤ v1) → (K F)) ∧ ((¬ (nI 8) ≤ v1) → (wp_X0_birdAt (fun x2 F103 => (vp_in v1 8) ∧ (∀ F104 : HF, F104 = hup F103 84 v1.toNatClampNeg x2 → (wp_X4_noteFound_13 K  n13_ F104 (v1 + (nI 1))))) F 80 v1))))
set_option maxRecDepth 100000 in
set_option maxHeartbeats 4000000 in
theorem k_X4_noteFound_13 {p : Program} {l : Launch} {e : Env} {s : State} {m : MethodId} {args : Array Value} {below : List Frame} {meth : Method} {c : Code} {D : va_G} {dA : Nat → ClassId} {ad : Nat → Nat} {R : List Nat} {A : Nat → Prop} {K : HF → Prop} (X : Cx p s m args meth c cX4_noteFound 2 RX4 D dA) (hA : ∀ q, s.heap.size ≤ q → A q) (hr : meth.sig.returnType = none) (hT : Se R) : ∀ (n_ : Nat) (F : HF) (v1 : Int32), wp_X4_noteFound_13 K  n_ F v1 → J p l e rm_X4_noteFound s m args below meth c 2 D dA ad R A (QV D dA ad R A below args s K) F 13 [(0, .ref (ad 79)), (1, .int v1)] [] := by
  intro n_
  induction n_ with
  | zero => intro F v1 h; exact h.elim
  | succ n_ ih =>
    intro F v1 h
    unfold wp_X4_noteFound_13 at h
    refine r_iload_n (pc := 13) X 1 dX4_noteFound_13 rfl rfl ?_
    refine r_aload_n (pc := 14) X 0 dX4_noteFound_14 rfl rfl ?_
    refine fg_X4_15 (pc := 15) X hT.1 dX4_noteFound_15 ?_
    refine r_icmp_ge (pc := 18) (tgt := 50) X dX4_noteFound_18 (by decide) (fun hc => ?_) (fun hc => ?_)
    · replace h := h.1 hc
      exact r_vret (pc := 50) X hr dX4_noteFound_50 h
    · replace h := h.2 hc
      refine r_iload_n (pc := 21) X 1 dX4_noteFound_21 rfl rfl ?_
      refine r_aload_n (pc := 22) X 0 dX4_noteFound_22 rfl rfl ?_
      refine fg_X4_9 (pc := 23) X hT.1 dX4_noteFound_23 ?_
      refine r_alen (pc := 26) (v := (nI 8)) X (Or.inl hT.2.2) rfl dX4_noteFound_26 ?_
      refine r_icmp_ge (pc := 27) (tgt := 50) X dX4_noteFound_27 (by decide) (fun hc => ?_) (fun hc => ?_)
      · replace h := h.1 hc
        exact r_vret (pc := 50) X hr dX4_noteFound_50 h
      · replace h := h.2 hc
        refine r_aload_n (pc := 30) X 0 dX4_noteFound_30 rfl rfl ?_
        refine fg_X4_9 (pc := 31) X hT.1 dX4_noteFound_31 ?_
        refine r_iload_n (pc := 34) X 1 dX4_noteFound_34 rfl rfl ?_
        refine r_aload_n (pc := 35) X 0 dX4_noteFound_35 rfl rfl ?_
        refine fg_X4_31 (pc := 36) X hT.1 dX4_noteFound_36 ?_
        refine r_iload_n (pc := 39) X 1 dX4_noteFound_39 rfl rfl ?_
        refine r_callIV (pc := 40) (As := [.int v1]) (st := [.int v1, .ref (ad 84)]) X hA (c_X0_birdAt hT.2.1 h) g_X4_83 cl_X0 hT.2.1.1 hd_X0_birdAt rfl rfl rfl ⟨Nat.le_of_ble_eq_true rfl, Nat.le_of_ble_eq_true rfl⟩ rfl (Nat.le_of_ble_eq_true rfl) dX4_noteFound_40 (fun x2 F103 h => ?_)
        refine r_iast (pc := 43) X hT.2.2 h.1 dX4_noteFound_43 (fun F104 e1 => ?_)
        replace h := h.2 F104 e1
        refine r_iinc (pc := 44) (v := (v1 + (nI 1))) X 1 [(1, .int (v1 + (nI 1))), (0, .ref (ad 79))] dX4_noteFound_44 rfl rfl (by decide) rfl ?_
        refine r_goto (pc := 47) (tgt := 13) X dX4_noteFound_47 (by decide) ?_
        refine r_sub [1, 0] rfl ?_
        exact ih _ _ h
def wp_X4_noteFound (K : HF → Prop) (F : HF) : Prop := wp_X0_size (fun x1 F1 => ∀ F2 : HF, F2 = hup F1 79 3 x1 → (∃ m_, wp_X4_noteFound_13 K  m_ F2 (nI 0))) F 80
set_option maxRecDepth 100000 in
set_option maxHeartbeats 4000000 in
theorem c_X4_noteFound {l : Launch} {D : va_G} {dA : Nat → ClassId} {ad : Nat → Nat} {R : List Nat} {F : HF} {K : HF → Prop} (hT : Se R) (h : wp_X4_noteFound K F ) : MV l yX4_noteFound cX4_noteFound 2 rm_X4_noteFound D dA ad R F [.ref (ad 79)] K := by
  refine MV.of (own := RX4) (by decide) rfl (Nat.le_of_ble_eq_true rfl) ?_
  intro p e s m args below meth c A hA X hr
  unfold wp_X4_noteFound at h
  show J p l e rm_X4_noteFound s m args below meth c 2 D dA ad R A (QV D dA ad R A below args s K) F 0 [(0, .ref (ad 79))] []
  refine r_aload_n (pc := 0) X 0 dX4_noteFound_0 rfl rfl ?_
  refine r_aload_n (pc := 1) X 0 dX4_noteFound_1 rfl rfl ?_
  refine fg_X4_31 (pc := 2) X hT.1 dX4_noteFound_2 ?_
  refine r_callIV (pc := 5) (As := []) (st := [.ref (ad 79)]) X hA (c_X0_size hT.2.1 h) g_X4_80 cl_X0 hT.2.1.1 hd_X0_size rfl rfl rfl ⟨Nat.le_of_ble_eq_true rfl, Nat.le_of_ble_eq_true rfl⟩ rfl (Nat.le_of_ble_eq_true rfl) dX4_noteFound_5 (fun x1 F1 h => ?_)
  refine fp_X4_15 (pc := 8) X hT.1 dX4_noteFound_8 (fun F2 e1 => ?_)
  replace h := h F2 e1
  refine r_iconst (pc := 11) (v := (nI 0)) X dX4_noteFound_11 (by decide) ?_
  refine r_istore_n (pc := 12) X [(1, .int (nI 0)), (0, .ref (ad 79))] dX4_noteFound_12 rfl (by decide) rfl ?_
  refine r_sub [1, 0] rfl ?_
  obtain ⟨n1, h⟩ := h
  exact k_X4_noteFound_13 X hA hr hT  n1 _ _ h
theorem dX4_extend_0 : decode cX4_extend 0 = .ok (.iconst 0, 1) := by decide +kernel
theorem dX4_extend_1 : decode cX4_extend 1 = .ok (.istore_n 3, 1) := by decide +kernel
theorem dX4_extend_2 : decode cX4_extend 2 = .ok (.iload_n 3, 1) := by decide +kernel
theorem dX4_extend_3 : decode cX4_extend 3 = .ok (.aload_n 0, 1) := by decide +kernel
theorem dX4_extend_4 : decode cX4_extend 4 = .ok (.getfield 22, 3) := by decide +kernel
theorem dX4_extend_7 : decode cX4_extend 7 = .ok (.invokevirtual 42, 3) := by decide +kernel
theorem dX4_extend_10 : decode cX4_extend 10 = .ok (.if_icmp .ge 135, 3) := by decide +kernel
theorem dX4_extend_13 : decode cX4_extend 13 = .ok (.iload_n 1, 1) := by decide +kernel
theorem dX4_extend_14 : decode cX4_extend 14 = .ok (.iconst 1, 1) := by decide +kernel
theorem dX4_extend_15 : decode cX4_extend 15 = .ok (.iadd, 1) := by decide +kernel
theorem dX4_extend_16 : decode cX4_extend 16 = .ok (.aload_n 0, 1) := by decide +kernel
theorem dX4_extend_17 : decode cX4_extend 17 = .ok (.getfield 15, 3) := by decide +kernel
theorem dX4_extend_20 : decode cX4_extend 20 = .ok (.if_icmp .ge 125, 3) := by decide +kernel
theorem dX4_extend_23 : decode cX4_extend 23 = .ok (.aload_n 0, 1) := by decide +kernel
theorem dX4_extend_24 : decode cX4_extend 24 = .ok (.getfield 31, 3) := by decide +kernel
theorem dX4_extend_27 : decode cX4_extend 27 = .ok (.iload_n 3, 1) := by decide +kernel
theorem dX4_extend_28 : decode cX4_extend 28 = .ok (.invokevirtual 48, 3) := by decide +kernel
theorem dX4_extend_31 : decode cX4_extend 31 = .ok (.ifCond .ne 6, 3) := by decide +kernel
theorem dX4_extend_34 : decode cX4_extend 34 = .ok (.goto 105, 3) := by decide +kernel
theorem dX4_extend_37 : decode cX4_extend 37 = .ok (.aload_n 0, 1) := by decide +kernel
theorem dX4_extend_38 : decode cX4_extend 38 = .ok (.getfield 31, 3) := by decide +kernel
theorem dX4_extend_41 : decode cX4_extend 41 = .ok (.iload_n 3, 1) := by decide +kernel
theorem dX4_extend_42 : decode cX4_extend 42 = .ok (.invokevirtual 52, 3) := by decide +kernel
theorem dX4_extend_45 : decode cX4_extend 45 = .ok (.aload_n 0, 1) := by decide +kernel
theorem dX4_extend_46 : decode cX4_extend 46 = .ok (.getfield 31, 3) := by decide +kernel
theorem dX4_extend_49 : decode cX4_extend 49 = .ok (.invokevirtual 56, 3) := by decide +kernel
theorem dX4_extend_52 : decode cX4_extend 52 = .ok (.aload_n 0, 1) := by decide +kernel
theorem dX4_extend_53 : decode cX4_extend 53 = .ok (.getfield 31, 3) := by decide +kernel
theorem dX4_extend_56 : decode cX4_extend 56 = .ok (.invokevirtual 59, 3) := by decide +kernel
theorem dX4_extend_59 : decode cX4_extend 59 = .ok (.istore 4, 2) := by decide +kernel
theorem dX4_extend_61 : decode cX4_extend 61 = .ok (.aload_n 0, 1) := by decide +kernel
theorem dX4_extend_62 : decode cX4_extend 62 = .ok (.getfield 31, 3) := by decide +kernel
theorem dX4_extend_65 : decode cX4_extend 65 = .ok (.iconst 0, 1) := by decide +kernel
theorem dX4_extend_66 : decode cX4_extend 66 = .ok (.iload 4, 2) := by decide +kernel
theorem dX4_extend_68 : decode cX4_extend 68 = .ok (.iconst 0, 1) := by decide +kernel
theorem dX4_extend_69 : decode cX4_extend 69 = .ok (.iload_n 2, 1) := by decide +kernel
theorem dX4_extend_70 : decode cX4_extend 70 = .ok (.invokevirtual 62, 3) := by decide +kernel
theorem dX4_extend_73 : decode cX4_extend 73 = .ok (.iload 4, 2) := by decide +kernel
theorem dX4_extend_75 : decode cX4_extend 75 = .ok (.if_icmp .ne 7, 3) := by decide +kernel
theorem dX4_extend_78 : decode cX4_extend 78 = .ok (.iconst 1, 1) := by decide +kernel
theorem dX4_extend_79 : decode cX4_extend 79 = .ok (.goto 4, 3) := by decide +kernel
theorem dX4_extend_82 : decode cX4_extend 82 = .ok (.iconst 0, 1) := by decide +kernel
theorem dX4_extend_83 : decode cX4_extend 83 = .ok (.istore 5, 2) := by decide +kernel
theorem dX4_extend_85 : decode cX4_extend 85 = .ok (.aload_n 0, 1) := by decide +kernel
theorem dX4_extend_86 : decode cX4_extend 86 = .ok (.getfield 31, 3) := by decide +kernel
theorem dX4_extend_89 : decode cX4_extend 89 = .ok (.invokevirtual 66, 3) := by decide +kernel
theorem dX4_extend_92 : decode cX4_extend 92 = .ok (.ifCond .eq 15, 3) := by decide +kernel
theorem dX4_extend_95 : decode cX4_extend 95 = .ok (.iload 5, 2) := by decide +kernel
theorem dX4_extend_97 : decode cX4_extend 97 = .ok (.ifCond .eq 35, 3) := by decide +kernel
theorem dX4_extend_100 : decode cX4_extend 100 = .ok (.aload_n 0, 1) := by decide +kernel
theorem dX4_extend_101 : decode cX4_extend 101 = .ok (.invokevirtual 70, 3) := by decide +kernel
theorem dX4_extend_104 : decode cX4_extend 104 = .ok (.goto 28, 3) := by decide +kernel
theorem dX4_extend_107 : decode cX4_extend 107 = .ok (.iload 5, 2) := by decide +kernel
theorem dX4_extend_109 : decode cX4_extend 109 = .ok (.ifCond .ne 15, 3) := by decide +kernel
theorem dX4_extend_112 : decode cX4_extend 112 = .ok (.aload_n 0, 1) := by decide +kernel
theorem dX4_extend_113 : decode cX4_extend 113 = .ok (.getfield 22, 3) := by decide +kernel
theorem dX4_extend_116 : decode cX4_extend 116 = .ok (.iload_n 3, 1) := by decide +kernel
theorem dX4_extend_117 : decode cX4_extend 117 = .ok (.invokevirtual 73, 3) := by decide +kernel
theorem dX4_extend_120 : decode cX4_extend 120 = .ok (.iconst 4, 1) := by decide +kernel
theorem dX4_extend_121 : decode cX4_extend 121 = .ok (.if_icmp .ne 11, 3) := by decide +kernel
theorem dX4_extend_124 : decode cX4_extend 124 = .ok (.aload_n 0, 1) := by decide +kernel
theorem dX4_extend_125 : decode cX4_extend 125 = .ok (.iload_n 1, 1) := by decide +kernel
theorem dX4_extend_126 : decode cX4_extend 126 = .ok (.iconst 1, 1) := by decide +kernel
theorem dX4_extend_127 : decode cX4_extend 127 = .ok (.iadd, 1) := by decide +kernel
theorem dX4_extend_128 : decode cX4_extend 128 = .ok (.iload_n 2, 1) := by decide +kernel
theorem dX4_extend_129 : decode cX4_extend 129 = .ok (.invokevirtual 38, 3) := by decide +kernel
theorem dX4_extend_132 : decode cX4_extend 132 = .ok (.aload_n 0, 1) := by decide +kernel
theorem dX4_extend_133 : decode cX4_extend 133 = .ok (.getfield 31, 3) := by decide +kernel
theorem dX4_extend_136 : decode cX4_extend 136 = .ok (.invokevirtual 77, 3) := by decide +kernel
theorem dX4_extend_139 : decode cX4_extend 139 = .ok (.iinc 3 1, 3) := by decide +kernel
theorem dX4_extend_142 : decode cX4_extend 142 = .ok (.goto (-140), 3) := by decide +kernel
theorem dX4_extend_145 : decode cX4_extend 145 = .ok (.return_, 1) := by decide +kernel
theorem hd_X4_extend : yX4_extend.cls = RX4 ∧ yX4_extend.cls ≠ "java/lang/invoke/MethodHandle" ∧ yX4_extend.cls ≠ "java/lang/invoke/VarHandle" ∧ (parseMethodDescriptor yX4_extend.desc).map (fun d => d.parameters.length) = some 2 := by decide +kernel
def rmE (d : Nat) : Room := { frames := 5 + d, cells := 0, slots := 0, locals := 116 + 25 * d }
theorem rmE_ok {d f g : Nat} (h1 : f ≤ 5) (h2 : g ≤ 116) : f ≤ (rmE d).frames ∧ g ≤ (rmE d).locals := ⟨Nat.le_trans h1 (Nat.le_add_right _ _), Nat.le_trans h2 (Nat.le_add_right _ _)⟩
theorem rmE_s (d : Nat) : (rmE d).frames + 1 ≤ (rmE (d + 1)).frames ∧ 8 + (6 + 11) + (rmE d).locals ≤ (rmE (d + 1)).locals := ⟨by show 5 + d + 1 ≤ 5 + (d + 1); omega, by show 8 + (6 + 11) + (116 + 25 * d) ≤ 116 + 25 * (d + 1); omega⟩
def wp_X4_extend_139 (K : HF → Prop) (EX : (HF → Prop) → HF → Int32 → Int32 → Prop) (L2 : HF → Int32 → Int32 → Int32 → Prop) (F : HF) (v1 : Int32) (v2 : Int32) (v3 : Int32) : Prop := L2 F v1 v2 (v3 + (nI 1))
set_option maxRecDepth 100000 in
set_option maxHeartbeats 4000000 in
theorem k_X4_extend_139 {p : Program} {l : Launch} {e : Env} {s : State} {m : MethodId} {args : Array Value} {below : List Frame} {meth : Method} {c : Code} {D : va_G} {dA : Nat → ClassId} {ad : Nat → Nat} {R : List Nat} {A : Nat → Prop} {K : HF → Prop} {EX : (HF → Prop) → HF → Int32 → Int32 → Prop} {dp : Nat} {L2 : HF → Int32 → Int32 → Int32 → Prop} (X : Cx p s m args meth c cX4_extend 6 RX4 D dA) (hA : ∀ q, s.heap.size ≤ q → A q) (hr : meth.sig.returnType = none) (hT : Se R) (hEX : ∀ (K : HF → Prop) (F : HF) (a1 a2 : Int32), EX K F a1 a2 → MV l yX4_extend cX4_extend 6 (rmE dp) D dA ad R F [.ref (ad 79), .int a1, .int a2] K) (hL2 : ∀ (F : HF) (v1 : Int32) (v2 : Int32) (v3 : Int32), L2 F v1 v2 v3 → J p l e (rmE (dp + 1)) s m args below meth c 6 D dA ad R A (QV D dA ad R A below args s K) F 2 [(0, .ref (ad 79)), (1, .int v1), (2, .int v2), (3, .int v3)] []) : ∀ (F : HF) (v1 : Int32) (v2 : Int32) (v3 : Int32), wp_X4_extend_139 K EX L2  F v1 v2 v3 → J p l e (rmE (dp + 1)) s m args below meth c 6 D dA ad R A (QV D dA ad R A below args s K) F 139 [(0, .ref (ad 79)), (1, .int v1), (2, .int v2), (3, .int v3)] [] := by
  intro F v1 v2 v3 h
  unfold wp_X4_extend_139 at h
  refine r_iinc (pc := 139) (v := (v3 + (nI 1))) X 3 [(3, .int (v3 + (nI 1))), (0, .ref (ad 79)), (1, .int v1), (2, .int v2)] dX4_extend_139 rfl rfl (by decide) rfl ?_
  refine r_goto (pc := 142) (tgt := 2) X dX4_extend_142 (by decide) ?_
  refine r_sub [1, 2, 3, 0] rfl ?_
  exact hL2 _ _ _ _ h
def wp_X4_extend_132 (K : HF → Prop) (EX : (HF → Prop) → HF → Int32 → Int32 → Prop) (L2 : HF → Int32 → Int32 → Int32 → Prop) (F : HF) (v1 : Int32) (v2 : Int32) (v3 : Int32) : Prop := wp_X0_dropLast (fun F409 => wp_X4_extend_139 K EX L2  F409 v1 v2 v3) F 80
set_option maxRecDepth 100000 in
set_option maxHeartbeats 4000000 in
theorem k_X4_extend_132 {p : Program} {l : Launch} {e : Env} {s : State} {m : MethodId} {args : Array Value} {below : List Frame} {meth : Method} {c : Code} {D : va_G} {dA : Nat → ClassId} {ad : Nat → Nat} {R : List Nat} {A : Nat → Prop} {K : HF → Prop} {EX : (HF → Prop) → HF → Int32 → Int32 → Prop} {dp : Nat} {L2 : HF → Int32 → Int32 → Int32 → Prop} (X : Cx p s m args meth c cX4_extend 6 RX4 D dA) (hA : ∀ q, s.heap.size ≤ q → A q) (hr : meth.sig.returnType = none) (hT : Se R) (hEX : ∀ (K : HF → Prop) (F : HF) (a1 a2 : Int32), EX K F a1 a2 → MV l yX4_extend cX4_extend 6 (rmE dp) D dA ad R F [.ref (ad 79), .int a1, .int a2] K) (hL2 : ∀ (F : HF) (v1 : Int32) (v2 : Int32) (v3 : Int32), L2 F v1 v2 v3 → J p l e (rmE (dp + 1)) s m args below meth c 6 D dA ad R A (QV D dA ad R A below args s K) F 2 [(0, .ref (ad 79)), (1, .int v1), (2, .int v2), (3, .int v3)] []) : ∀ (F : HF) (v1 : Int32) (v2 : Int32) (v3 : Int32), wp_X4_extend_132 K EX L2  F v1 v2 v3 → J p l e (rmE (dp + 1)) s m args below meth c 6 D dA ad R A (QV D dA ad R A below args s K) F 132 [(0, .ref (ad 79)), (1, .int v1), (2, .int v2), (3, .int v3)] [] := by
  intro F v1 v2 v3 h
  unfold wp_X4_extend_132 at h
  refine r_aload_n (pc := 132) X 0 dX4_extend_132 rfl rfl ?_
  refine fg_X4_31 (pc := 133) X hT.1 dX4_extend_133 ?_
  refine r_callVV (pc := 136) (As := []) (st := []) X hA (c_X0_dropLast hT.2.1 h) g_X4_77 cl_X0 hT.2.1.1 hd_X0_dropLast rfl rfl rfl (rmE_ok (Nat.le_of_ble_eq_true rfl) (Nat.le_of_ble_eq_true rfl)) rfl (Nat.le_of_ble_eq_true rfl) dX4_extend_136 (fun F409 h => ?_)
  exact k_X4_extend_139 X hA hr hT hEX hL2 _ _ _ _ h
def wp_X4_extend_124 (K : HF → Prop) (EX : (HF → Prop) → HF → Int32 → Int32 → Prop) (L2 : HF → Int32 → Int32 → Int32 → Prop) (F : HF) (v1 : Int32) (v2 : Int32) (v3 : Int32) : Prop := EX (fun F308 => wp_X4_extend_132 K EX L2  F308 v1 v2 v3) F (v1 + (nI 1)) v2
set_option maxRecDepth 100000 in
set_option maxHeartbeats 4000000 in
theorem k_X4_extend_124 {p : Program} {l : Launch} {e : Env} {s : State} {m : MethodId} {args : Array Value} {below : List Frame} {meth : Method} {c : Code} {D : va_G} {dA : Nat → ClassId} {ad : Nat → Nat} {R : List Nat} {A : Nat → Prop} {K : HF → Prop} {EX : (HF → Prop) → HF → Int32 → Int32 → Prop} {dp : Nat} {L2 : HF → Int32 → Int32 → Int32 → Prop} (X : Cx p s m args meth c cX4_extend 6 RX4 D dA) (hA : ∀ q, s.heap.size ≤ q → A q) (hr : meth.sig.returnType = none) (hT : Se R) (hEX : ∀ (K : HF → Prop) (F : HF) (a1 a2 : Int32), EX K F a1 a2 → MV l yX4_extend cX4_extend 6 (rmE dp) D dA ad R F [.ref (ad 79), .int a1, .int a2] K) (hL2 : ∀ (F : HF) (v1 : Int32) (v2 : Int32) (v3 : Int32), L2 F v1 v2 v3 → J p l e (rmE (dp + 1)) s m args below meth c 6 D dA ad R A (QV D dA ad R A below args s K) F 2 [(0, .ref (ad 79)), (1, .int v1), (2, .int v2), (3, .int v3)] []) : ∀ (F : HF) (v1 : Int32) (v2 : Int32) (v3 : Int32), wp_X4_extend_124 K EX L2  F v1 v2 v3 → J p l e (rmE (dp + 1)) s m args below meth c 6 D dA ad R A (QV D dA ad R A below args s K) F 124 [(0, .ref (ad 79)), (1, .int v1), (2, .int v2), (3, .int v3)] [] := by
  intro F v1 v2 v3 h
  unfold wp_X4_extend_124 at h
  refine r_aload_n (pc := 124) X 0 dX4_extend_124 rfl rfl ?_
  refine r_iload_n (pc := 125) X 1 dX4_extend_125 rfl rfl ?_
  refine r_iconst (pc := 126) (v := (nI 1)) X dX4_extend_126 (by decide) ?_
  refine r_iadd (pc := 127) X dX4_extend_127 ?_
  refine r_iload_n (pc := 128) X 2 dX4_extend_128 rfl rfl ?_
  refine r_callVV (pc := 129) (As := [.int (v1 + (nI 1)), .int v2]) (st := []) X hA (hEX _ _ _ _ h) g_X4_38 cl_X4 hT.1 hd_X4_extend rfl rfl rfl (rmE_s dp) rfl (Nat.le_of_ble_eq_true rfl) dX4_extend_129 (fun F308 h => ?_)
  exact k_X4_extend_132 X hA hr hT hEX hL2 _ _ _ _ h
def wp_X4_extend_83 (K : HF → Prop) (EX : (HF → Prop) → HF → Int32 → Int32 → Prop) (L2 : HF → Int32 → Int32 → Int32 → Prop) (F : HF) (v1 : Int32) (v2 : Int32) (v3 : Int32) (s0 : Int32) : Prop := wp_X0_isWhole (fun x5 F207 => ((x5 = (nI 0)) → (((¬ s0 = (nI 0)) → (wp_X4_extend_124 K EX L2  F207 v1 v2 v3)) ∧ ((s0 = (nI 0)) → (wp_X1_kindOf (fun x6 F510 => ((¬ x6 = (nI 4)) → (wp_X4_extend_132 K EX L2  F510 v1 v2 v3)) ∧ ((x6 = (nI 4)) → (wp_X4_extend_124 K EX L2  F510 v1 v2 v3))) F207 4 v3)))) ∧ ((¬ x5 = (nI 0)) → (((s0 = (nI 0)) → (wp_X4_extend_132 K EX L2  F207 v1 v2 v3)) ∧ ((¬ s0 = (nI 0)) → (wp_X4_noteFound (fun F511 => wp_X4_extend_132 K EX L2  F511 v1 v2 v3) F207 ))))) F 80
set_option maxRecDepth 100000 in
set_option maxHeartbeats 4000000 in
theorem k_X4_extend_83 {p : Program} {l : Launch} {e : Env} {s : State} {m : MethodId} {args : Array Value} {below : List Frame} {meth : Method} {c : Code} {D : va_G} {dA : Nat → ClassId} {ad : Nat → Nat} {R : List Nat} {A : Nat → Prop} {K : HF → Prop} {EX : (HF → Prop) → HF → Int32 → Int32 → Prop} {dp : Nat} {L2 : HF → Int32 → Int32 → Int32 → Prop} (X : Cx p s m args meth c cX4_extend 6 RX4 D dA) (hA : ∀ q, s.heap.size ≤ q → A q) (hr : meth.sig.returnType = none) (hT : Se R) (hEX : ∀ (K : HF → Prop) (F : HF) (a1 a2 : Int32), EX K F a1 a2 → MV l yX4_extend cX4_extend 6 (rmE dp) D dA ad R F [.ref (ad 79), .int a1, .int a2] K) (hL2 : ∀ (F : HF) (v1 : Int32) (v2 : Int32) (v3 : Int32), L2 F v1 v2 v3 → J p l e (rmE (dp + 1)) s m args below meth c 6 D dA ad R A (QV D dA ad R A below args s K) F 2 [(0, .ref (ad 79)), (1, .int v1), (2, .int v2), (3, .int v3)] []) : ∀ (F : HF) (v1 : Int32) (v2 : Int32) (v3 : Int32) (s0 : Int32), wp_X4_extend_83 K EX L2  F v1 v2 v3 s0 → J p l e (rmE (dp + 1)) s m args below meth c 6 D dA ad R A (QV D dA ad R A below args s K) F 83 [(0, .ref (ad 79)), (1, .int v1), (2, .int v2), (3, .int v3)] [.int s0] := by
  intro F v1 v2 v3 s0 h
  unfold wp_X4_extend_83 at h
  refine r_istore (pc := 83) X [(5, .int s0), (0, .ref (ad 79)), (1, .int v1), (2, .int v2), (3, .int v3)] dX4_extend_83 (by decide) rfl ?_
  refine r_aload_n (pc := 85) X 1 dX4_extend_85 rfl rfl ?_
  refine fg_X4_31 (pc := 86) X hT.1 dX4_extend_86 ?_
  refine r_callIV (pc := 89) (As := []) (st := []) X hA (c_X0_isWhole hT.2.1 h) g_X4_66 cl_X0 hT.2.1.1 hd_X0_isWhole rfl rfl rfl (rmE_ok (Nat.le_of_ble_eq_true rfl) (Nat.le_of_ble_eq_true rfl)) rfl (Nat.le_of_ble_eq_true rfl) dX4_extend_89 (fun x5 F207 h => ?_)
  refine r_if_eq (pc := 92) (tgt := 107) X dX4_extend_92 (by decide) (fun hc => ?_) (fun hc => ?_)
  · replace h := h.1 hc
    refine r_iload (pc := 107) X 0 dX4_extend_107 rfl ?_
    refine r_if_ne (pc := 109) (tgt := 124) X dX4_extend_109 (by decide) (fun hc => ?_) (fun hc => ?_)
    · replace h := h.1 hc
      refine r_sub [1, 2, 3, 4] rfl ?_
      exact k_X4_extend_124 X hA hr hT hEX hL2 _ _ _ _ h
    · replace h := h.2 hc
      refine r_aload_n (pc := 112) X 1 dX4_extend_112 rfl rfl ?_
      refine fg_X4_22 (pc := 113) X hT.1 dX4_extend_113 ?_
      refine r_iload_n (pc := 116) X 4 dX4_extend_116 rfl rfl ?_
      refine r_callIV (pc := 117) (As := [.int v3]) (st := []) X hA (c_X1_kindOf hT.2.1.2.2.2.2 h) g_X4_73 cl_X1 hT.2.1.2.2.2.2.1 hd_X1_kindOf rfl rfl rfl (rmE_ok (Nat.le_of_ble_eq_true rfl) (Nat.le_of_ble_eq_true rfl)) rfl (Nat.le_of_ble_eq_true rfl) dX4_extend_117 (fun x6 F510 h => ?_)
      refine r_iconst (pc := 120) (v := (nI 4)) X dX4_extend_120 (by decide) ?_
      refine r_icmp_ne (pc := 121) (tgt := 132) X dX4_extend_121 (by decide) (fun hc => ?_) (fun hc => ?_)
      · replace h := h.1 hc
        refine r_sub [1, 2, 3, 4] rfl ?_
        exact k_X4_extend_132 X hA hr hT hEX hL2 _ _ _ _ h
      · replace h := h.2 hc
        refine r_sub [1, 2, 3, 4] rfl ?_
        exact k_X4_extend_124 X hA hr hT hEX hL2 _ _ _ _ h
  · replace h := h.2 hc
    refine r_iload (pc := 95) X 0 dX4_extend_95 rfl ?_
    refine r_if_eq (pc := 97) (tgt := 132) X dX4_extend_97 (by decide) (fun hc => ?_) (fun hc => ?_)
    · replace h := h.1 hc
      refine r_sub [1, 2, 3, 4] rfl ?_
      exact k_X4_extend_132 X hA hr hT hEX hL2 _ _ _ _ h
    · replace h := h.2 hc
      refine r_aload_n (pc := 100) X 1 dX4_extend_100 rfl rfl ?_
      refine r_callVV (pc := 101) (As := []) (st := []) X hA (c_X4_noteFound hT h) g_X4_70 cl_X4 hT.1 hd_X4_noteFound rfl rfl rfl (rmE_ok (Nat.le_of_ble_eq_true rfl) (Nat.le_of_ble_eq_true rfl)) rfl (Nat.le_of_ble_eq_true rfl) dX4_extend_101 (fun F511 h => ?_)
      refine r_goto (pc := 104) (tgt := 132) X dX4_extend_104 (by decide) ?_
      refine r_sub [1, 2, 3, 4] rfl ?_
      exact k_X4_extend_132 X hA hr hT hEX hL2 _ _ _ _ h
def wp_X4_extend_2 (K : HF → Prop) (EX : (HF → Prop) → HF → Int32 → Int32 → Prop) : Nat → HF → Int32 → Int32 → Int32 → Prop
  | 0 => fun _ _ _ _ => False
  | n2_ + 1 => fun F v1 v2 v3 => wp_X1_birds (fun x1 F101 => ((x1 ≤ v3) → (K F101)) ∧ ((¬ x1 ≤ v3) → ((((F101 79 3) ≤ (v1 + (nI 1))) → (K F101)) ∧ ((¬ (F101 79 3) ≤ (v1 + (nI 1))) → (wp_X0_mayJoin (fun x2 F102 => ((¬ x2 = (nI 0)) → (wp_X0_append (fun F103 => wp_X0_rest (fun F104 => wp_X0_placesSpanned (fun x3 F105 => wp_X0_walk (fun x4 F106 => ((¬ x4 = x3) → (wp_X4_extend_83 K EX (wp_X4_extend_2 K EX n2_)  F106 v1 v2 v3 (nI 0))) ∧ ((x4 = x3) → (wp_X4_extend_83 K EX (wp_X4_extend_2 K EX n2_)  F106 v1 v2 v3 (nI 1)))) F105 80 (nI 0) x3 (nI 0) v2) F104 80) F103 80) F102 80 v3)) ∧ ((x2 = (nI 0)) → (wp_X4_extend_139 K EX (wp_X4_extend_2 K EX n2_)  F102 v1 v2 v3))) F101 80 v3))))) F 4
set_option maxRecDepth 100000 in
set_option maxHeartbeats 4000000 in
theorem k_X4_extend_2 {p : Program} {l : Launch} {e : Env} {s : State} {m : MethodId} {args : Array Value} {below : List Frame} {meth : Method} {c : Code} {D : va_G} {dA : Nat → ClassId} {ad : Nat → Nat} {R : List Nat} {A : Nat → Prop} {K : HF → Prop} {EX : (HF → Prop) → HF → Int32 → Int32 → Prop} {dp : Nat} (X : Cx p s m args meth c cX4_extend 6 RX4 D dA) (hA : ∀ q, s.heap.size ≤ q → A q) (hr : meth.sig.returnType = none) (hT : Se R) (hEX : ∀ (K : HF → Prop) (F : HF) (a1 a2 : Int32), EX K F a1 a2 → MV l yX4_extend cX4_extend 6 (rmE dp) D dA ad R F [.ref (ad 79), .int a1, .int a2] K) : ∀ (n_ : Nat) (F : HF) (v1 : Int32) (v2 : Int32) (v3 : Int32), wp_X4_extend_2 K EX  n_ F v1 v2 v3 → J p l e (rmE (dp + 1)) s m args below meth c 6 D dA ad R A (QV D dA ad R A below args s K) F 2 [(0, .ref (ad 79)), (1, .int v1), (2, .int v2), (3, .int v3)] [] := by
  intro n_
  induction n_ with
  | zero => intro F v1 v2 v3 h; exact h.elim
  | succ n_ ih =>
    intro F v1 v2 v3 h
    unfold wp_X4_extend_2 at h
    refine r_iload_n (pc := 2) X 3 dX4_extend_2 rfl rfl ?_
    refine r_aload_n (pc := 3) X 0 dX4_extend_3 rfl rfl ?_
    refine fg_X4_22 (pc := 4) X hT.1 dX4_extend_4 ?_
    refine r_callIV (pc := 7) (As := []) (st := [.int v3]) X hA (c_X1_birds hT.2.1.2.2.2.2 h) g_X4_42 cl_X1 hT.2.1.2.2.2.2.1 hd_X1_birds rfl rfl rfl (rmE_ok (Nat.le_of_ble_eq_true rfl) (Nat.le_of_ble_eq_true rfl)) rfl (Nat.le_of_ble_eq_true rfl) dX4_extend_7 (fun x1 F101 h => ?_)
    refine r_icmp_ge (pc := 10) (tgt := 145) X dX4_extend_10 (by decide) (fun hc => ?_) (fun hc => ?_)
    · replace h := h.1 hc
      exact r_vret (pc := 145) X hr dX4_extend_145 h
    · replace h := h.2 hc
      refine r_iload_n (pc := 13) X 1 dX4_extend_13 rfl rfl ?_
      refine r_iconst (pc := 14) (v := (nI 1)) X dX4_extend_14 (by decide) ?_
      refine r_iadd (pc := 15) X dX4_extend_15 ?_
      refine r_aload_n (pc := 16) X 0 dX4_extend_16 rfl rfl ?_
      refine fg_X4_15 (pc := 17) X hT.1 dX4_extend_17 ?_
      refine r_icmp_ge (pc := 20) (tgt := 145) X dX4_extend_20 (by decide) (fun hc => ?_) (fun hc => ?_)
      · replace h := h.1 hc
        exact r_vret (pc := 145) X hr dX4_extend_145 h
      · replace h := h.2 hc
        refine r_aload_n (pc := 23) X 0 dX4_extend_23 rfl rfl ?_
        refine fg_X4_31 (pc := 24) X hT.1 dX4_extend_24 ?_
        refine r_iload_n (pc := 27) X 3 dX4_extend_27 rfl rfl ?_
        refine r_callIV (pc := 28) (As := [.int v3]) (st := []) X hA (c_X0_mayJoin hT.2.1 h) g_X4_48 cl_X0 hT.2.1.1 hd_X0_mayJoin rfl rfl rfl (rmE_ok (Nat.le_of_ble_eq_true rfl) (Nat.le_of_ble_eq_true rfl)) rfl (Nat.le_of_ble_eq_true rfl) dX4_extend_28 (fun x2 F102 h => ?_)
        refine r_if_ne (pc := 31) (tgt := 37) X dX4_extend_31 (by decide) (fun hc => ?_) (fun hc => ?_)
        · replace h := h.1 hc
          refine r_aload_n (pc := 37) X 0 dX4_extend_37 rfl rfl ?_
          refine fg_X4_31 (pc := 38) X hT.1 dX4_extend_38 ?_
          refine r_iload_n (pc := 41) X 3 dX4_extend_41 rfl rfl ?_
          refine r_callVV (pc := 42) (As := [.int v3]) (st := []) X hA (c_X0_append hT.2.1 h) g_X4_52 cl_X0 hT.2.1.1 hd_X0_append rfl rfl rfl (rmE_ok (Nat.le_of_ble_eq_true rfl) (Nat.le_of_ble_eq_true rfl)) rfl (Nat.le_of_ble_eq_true rfl) dX4_extend_42 (fun F103 h => ?_)
          refine r_aload_n (pc := 45) X 0 dX4_extend_45 rfl rfl ?_
          refine fg_X4_31 (pc := 46) X hT.1 dX4_extend_46 ?_
          refine r_callVV (pc := 49) (As := []) (st := []) X hA (c_X0_rest hT.2.1 h) g_X4_56 cl_X0 hT.2.1.1 hd_X0_rest rfl rfl rfl (rmE_ok (Nat.le_of_ble_eq_true rfl) (Nat.le_of_ble_eq_true rfl)) rfl (Nat.le_of_ble_eq_true rfl) dX4_extend_49 (fun F104 h => ?_)
          refine r_aload_n (pc := 52) X 0 dX4_extend_52 rfl rfl ?_
          refine fg_X4_31 (pc := 53) X hT.1 dX4_extend_53 ?_
          refine r_callIV (pc := 56) (As := []) (st := []) X hA (c_X0_placesSpanned hT.2.1 h) g_X4_59 cl_X0 hT.2.1.1 hd_X0_placesSpanned rfl rfl rfl (rmE_ok (Nat.le_of_ble_eq_true rfl) (Nat.le_of_ble_eq_true rfl)) rfl (Nat.le_of_ble_eq_true rfl) dX4_extend_56 (fun x3 F105 h => ?_)
          refine r_istore (pc := 59) X [(4, .int x3), (0, .ref (ad 79)), (1, .int v1), (2, .int v2), (3, .int v3)] dX4_extend_59 (by decide) rfl ?_
          refine r_aload_n (pc := 61) X 1 dX4_extend_61 rfl rfl ?_
          refine fg_X4_31 (pc := 62) X hT.1 dX4_extend_62 ?_
          refine r_iconst (pc := 65) (v := (nI 0)) X dX4_extend_65 (by decide) ?_
          refine r_iload (pc := 66) X 0 dX4_extend_66 rfl ?_
          refine r_iconst (pc := 68) (v := (nI 0)) X dX4_extend_68 (by decide) ?_
          refine r_iload_n (pc := 69) X 3 dX4_extend_69 rfl rfl ?_
          refine r_callIV (pc := 70) (As := [.int (nI 0), .int x3, .int (nI 0), .int v2]) (st := []) X hA (c_X0_walk hT.2.1 h) g_X4_62 cl_X0 hT.2.1.1 hd_X0_walk rfl rfl rfl (rmE_ok (Nat.le_of_ble_eq_true rfl) (Nat.le_of_ble_eq_true rfl)) rfl (Nat.le_of_ble_eq_true rfl) dX4_extend_70 (fun x4 F106 h => ?_)
          refine r_iload (pc := 73) X 0 dX4_extend_73 rfl ?_
          refine r_icmp_ne (pc := 75) (tgt := 82) X dX4_extend_75 (by decide) (fun hc => ?_) (fun hc => ?_)
          · replace h := h.1 hc
            refine r_iconst (pc := 82) (v := (nI 0)) X dX4_extend_82 (by decide) ?_
            refine r_sub [1, 2, 3, 4] rfl ?_
            exact k_X4_extend_83 X hA hr hT hEX ih _ _ _ _ _ h
          · replace h := h.2 hc
            refine r_iconst (pc := 78) (v := (nI 1)) X dX4_extend_78 (by decide) ?_
            refine r_goto (pc := 79) (tgt := 83) X dX4_extend_79 (by decide) ?_
            refine r_sub [1, 2, 3, 4] rfl ?_
            exact k_X4_extend_83 X hA hr hT hEX ih _ _ _ _ _ h
        · replace h := h.2 hc
          refine r_goto (pc := 34) (tgt := 139) X dX4_extend_34 (by decide) ?_
          exact k_X4_extend_139 X hA hr hT hEX ih _ _ _ _ h
def wp_X4_extend : Nat → (HF → Prop) → HF → Int32 → Int32 → Prop
  | 0 => fun _ _ _ _ => False
  | d + 1 => fun K F a1 a2 => ∃ m_, wp_X4_extend_2 K (wp_X4_extend d)  m_ F a1 a2 (nI 0)
set_option maxRecDepth 100000 in
set_option maxHeartbeats 4000000 in
theorem c_X4_extend {l : Launch} {D : va_G} {dA : Nat → ClassId} {ad : Nat → Nat} {R : List Nat} (hT : Se R) : ∀ (d : Nat) (K : HF → Prop) (F : HF) (a1 a2 : Int32), wp_X4_extend d K F a1 a2 → MV l yX4_extend cX4_extend 6 (rmE d) D dA ad R F [.ref (ad 79), .int a1, .int a2] K := by
  intro d
  induction d with
  | zero => intro K F a1 a2 h; exact h.elim
  | succ dp hEX =>
    intro K F a1 a2 h
    refine MV.of (own := RX4) (by decide) rfl (Nat.le_of_ble_eq_true rfl) ?_
    intro p e s m args below meth c A hA X hr
    unfold wp_X4_extend at h
    show J p l e (rmE (dp + 1)) s m args below meth c 6 D dA ad R A (QV D dA ad R A below args s K) F 0 [(0, .ref (ad 79)), (1, .int a1), (2, .int a2)] []
    refine r_iconst (pc := 0) (v := (nI 0)) X dX4_extend_0 (by decide) ?_
    refine r_istore_n (pc := 1) X [(3, .int (nI 0)), (0, .ref (ad 79)), (1, .int a1), (2, .int a2)] dX4_extend_1 rfl (by decide) rfl ?_
    refine r_sub [1, 2, 3, 0] rfl ?_
    obtain ⟨n1, h⟩ := h
    exact k_X4_extend_2 X hA hr hT hEX  n1 _ _ _ _ h
theorem dX4_find_0 : decode cX4_find 0 = .ok (.iload_n 1, 1) := by decide +kernel
theorem dX4_find_1 : decode cX4_find 1 = .ok (.aload_n 0, 1) := by decide +kernel
theorem dX4_find_2 : decode cX4_find 2 = .ok (.getfield 19, 3) := by decide +kernel
theorem dX4_find_5 : decode cX4_find 5 = .ok (.if_icmp .ne 4, 3) := by decide +kernel
theorem dX4_find_8 : decode cX4_find 8 = .ok (.return_, 1) := by decide +kernel
theorem dX4_find_9 : decode cX4_find 9 = .ok (.aload_n 0, 1) := by decide +kernel
theorem dX4_find_10 : decode cX4_find 10 = .ok (.iload_n 1, 1) := by decide +kernel
theorem dX4_find_11 : decode cX4_find 11 = .ok (.putfield 19, 3) := by decide +kernel
theorem dX4_find_14 : decode cX4_find 14 = .ok (.aload_n 0, 1) := by decide +kernel
theorem dX4_find_15 : decode cX4_find 15 = .ok (.bipush 9, 2) := by decide +kernel
theorem dX4_find_17 : decode cX4_find 17 = .ok (.putfield 15, 3) := by decide +kernel
theorem dX4_find_20 : decode cX4_find 20 = .ok (.aload_n 0, 1) := by decide +kernel
theorem dX4_find_21 : decode cX4_find 21 = .ok (.getfield 31, 3) := by decide +kernel
theorem dX4_find_24 : decode cX4_find 24 = .ok (.invokevirtual 35, 3) := by decide +kernel
theorem dX4_find_27 : decode cX4_find 27 = .ok (.aload_n 0, 1) := by decide +kernel
theorem dX4_find_28 : decode cX4_find 28 = .ok (.iconst 0, 1) := by decide +kernel
theorem dX4_find_29 : decode cX4_find 29 = .ok (.iload_n 1, 1) := by decide +kernel
theorem dX4_find_30 : decode cX4_find 30 = .ok (.invokevirtual 38, 3) := by decide +kernel
theorem dX4_find_33 : decode cX4_find 33 = .ok (.return_, 1) := by decide +kernel
theorem hd_X4_find : yX4_find.cls = RX4 ∧ yX4_find.cls ≠ "java/lang/invoke/MethodHandle" ∧ yX4_find.cls ≠ "java/lang/invoke/VarHandle" ∧ (parseMethodDescriptor yX4_find.desc).map (fun d => d.parameters.length) = some 1 := by decide +kernel
abbrev rm_X4_find : Room := { frames := 16, cells := 0, slots := 0, locals := 391 }
def wp_X4_find (K : HF → Prop) (F : HF) (a1 : Int32) : Prop := ((¬ a1 = (F 79 4)) → (∀ F1 : HF, F1 = hup F 79 4 a1 → (∀ F2 : HF, F2 = hup F1 79 3 (nI 9) → (wp_X0_clear (fun F3 => wp_X4_extend 10 (fun F4 => K F4) F3 (nI 0) a1) F2 80)))) ∧ ((a1 = (F 79 4)) → (K F))
set_option maxRecDepth 100000 in
set_option maxHeartbeats 4000000 in
theorem c_X4_find {l : Launch} {D : va_G} {dA : Nat → ClassId} {ad : Nat → Nat} {R : List Nat} {F : HF} {a1 : Int32} {K : HF → Prop} (hT : Se R) (h : wp_X4_find K F a1) : MV l yX4_find cX4_find 2 rm_X4_find D dA ad R F [.ref (ad 79), .int a1] K := by
  refine MV.of (own := RX4) (by decide) rfl (Nat.le_of_ble_eq_true rfl) ?_
  intro p e s m args below meth c A hA X hr
  unfold wp_X4_find at h
  show J p l e rm_X4_find s m args below meth c 2 D dA ad R A (QV D dA ad R A below args s K) F 0 [(0, .ref (ad 79)), (1, .int a1)] []
  refine r_iload_n (pc := 0) X 1 dX4_find_0 rfl rfl ?_
  refine r_aload_n (pc := 1) X 0 dX4_find_1 rfl rfl ?_
  refine fg_X4_19 (pc := 2) X hT.1 dX4_find_2 ?_
  refine r_icmp_ne (pc := 5) (tgt := 9) X dX4_find_5 (by decide) (fun hc => ?_) (fun hc => ?_)
  · replace h := h.1 hc
    refine r_aload_n (pc := 9) X 0 dX4_find_9 rfl rfl ?_
    refine r_iload_n (pc := 10) X 1 dX4_find_10 rfl rfl ?_
    refine fp_X4_19 (pc := 11) X hT.1 dX4_find_11 (fun F1 e1 => ?_)
    replace h := h F1 e1
    refine r_aload_n (pc := 14) X 0 dX4_find_14 rfl rfl ?_
    refine r_bipush (pc := 15) (v := (nI 9)) X dX4_find_15 (by decide) ?_
    refine fp_X4_15 (pc := 17) X hT.1 dX4_find_17 (fun F2 e1 => ?_)
    replace h := h F2 e1
    refine r_aload_n (pc := 20) X 0 dX4_find_20 rfl rfl ?_
    refine fg_X4_31 (pc := 21) X hT.1 dX4_find_21 ?_
    refine r_callVV (pc := 24) (As := []) (st := []) X hA (c_X0_clear hT.2.1 h) g_X4_35 cl_X0 hT.2.1.1 hd_X0_clear rfl rfl rfl ⟨Nat.le_of_ble_eq_true rfl, Nat.le_of_ble_eq_true rfl⟩ rfl (Nat.le_of_ble_eq_true rfl) dX4_find_24 (fun F3 h => ?_)
    refine r_aload_n (pc := 27) X 0 dX4_find_27 rfl rfl ?_
    refine r_iconst (pc := 28) (v := (nI 0)) X dX4_find_28 (by decide) ?_
    refine r_iload_n (pc := 29) X 1 dX4_find_29 rfl rfl ?_
    refine r_callVV (pc := 30) (As := [.int (nI 0), .int a1]) (st := []) X hA (c_X4_extend hT 10 _ _ _ _ h) g_X4_38 cl_X4 hT.1 hd_X4_extend rfl rfl rfl ⟨Nat.le_of_ble_eq_true rfl, Nat.le_of_ble_eq_true rfl⟩ rfl (Nat.le_of_ble_eq_true rfl) dX4_find_30 (fun F4 h => ?_)
    exact r_vret (pc := 33) X hr dX4_find_33 h
  · replace h := h.2 hc
    exact r_vret (pc := 8) X hr dX4_find_8 h
theorem dX4_foundSize_0 : decode cX4_foundSize 0 = .ok (.aload_n 0, 1) := by decide +kernel
theorem dX4_foundSize_1 : decode cX4_foundSize 1 = .ok (.getfield 15, 3) := by decide +kernel
theorem dX4_foundSize_4 : decode cX4_foundSize 4 = .ok (.bipush 9, 2) := by decide +kernel
theorem dX4_foundSize_6 : decode cX4_foundSize 6 = .ok (.if_icmp .ne 8, 3) := by decide +kernel
theorem dX4_foundSize_9 : decode cX4_foundSize 9 = .ok (.bipush (-4), 2) := by decide +kernel
theorem dX4_foundSize_11 : decode cX4_foundSize 11 = .ok (.goto 7, 3) := by decide +kernel
theorem dX4_foundSize_14 : decode cX4_foundSize 14 = .ok (.aload_n 0, 1) := by decide +kernel
theorem dX4_foundSize_15 : decode cX4_foundSize 15 = .ok (.getfield 15, 3) := by decide +kernel
theorem dX4_foundSize_18 : decode cX4_foundSize 18 = .ok (.ireturn, 1) := by decide +kernel
theorem hd_X4_foundSize : yX4_foundSize.cls = RX4 ∧ yX4_foundSize.cls ≠ "java/lang/invoke/MethodHandle" ∧ yX4_foundSize.cls ≠ "java/lang/invoke/VarHandle" ∧ (parseMethodDescriptor yX4_foundSize.desc).map (fun d => d.parameters.length) = some 0 := by decide +kernel
abbrev rm_X4_foundSize : Room := { frames := 0, cells := 0, slots := 0, locals := 0 }
def wp_X4_foundSize (K : Int32 → HF → Prop) (F : HF) : Prop := ((¬ (F 79 3) = (nI 9)) → (K (F 79 3) F)) ∧ (((F 79 3) = (nI 9)) → (K (-4 : Int32) F))
set_option maxRecDepth 100000 in
set_option maxHeartbeats 4000000 in
theorem c_X4_foundSize {l : Launch} {D : va_G} {dA : Nat → ClassId} {ad : Nat → Nat} {R : List Nat} {F : HF} {K : Int32 → HF → Prop} (hT : Se R) (h : wp_X4_foundSize K F ) : MI l yX4_foundSize cX4_foundSize 1 .int rm_X4_foundSize D dA ad R F [.ref (ad 79)] K := by
  refine MI.of (own := RX4) (by decide) rfl (Nat.le_of_ble_eq_true rfl) ?_
  intro p e s m args below meth c A hA X hr
  unfold wp_X4_foundSize at h
  show J p l e rm_X4_foundSize s m args below meth c 1 D dA ad R A (QI D dA ad R A below args s K) F 0 [(0, .ref (ad 79))] []
  refine r_aload_n (pc := 0) X 0 dX4_foundSize_0 rfl rfl ?_
  refine fg_X4_15 (pc := 1) X hT.1 dX4_foundSize_1 ?_
  refine r_bipush (pc := 4) (v := (nI 9)) X dX4_foundSize_4 (by decide) ?_
  refine r_icmp_ne (pc := 6) (tgt := 14) X dX4_foundSize_6 (by decide) (fun hc => ?_) (fun hc => ?_)
  · replace h := h.1 hc
    refine r_aload_n (pc := 14) X 0 dX4_foundSize_14 rfl rfl ?_
    refine fg_X4_15 (pc := 15) X hT.1 dX4_foundSize_15 ?_
    exact r_iret (pc := 18) X hr dX4_foundSize_18 h
  · replace h := h.2 hc
    refine r_bipush (pc := 9) (v := (-4 : Int32)) X dX4_foundSize_9 (by decide) ?_
    refine r_goto (pc := 11) (tgt := 18) X dX4_foundSize_11 (by decide) ?_
    exact r_iret (pc := 18) X hr dX4_foundSize_18 h
theorem dX4_foundAt_0 : decode cX4_foundAt 0 = .ok (.aload_n 0, 1) := by decide +kernel
theorem dX4_foundAt_1 : decode cX4_foundAt 1 = .ok (.getfield 15, 3) := by decide +kernel
theorem dX4_foundAt_4 : decode cX4_foundAt 4 = .ok (.bipush 9, 2) := by decide +kernel
theorem dX4_foundAt_6 : decode cX4_foundAt 6 = .ok (.if_icmp .eq 15, 3) := by decide +kernel
theorem dX4_foundAt_9 : decode cX4_foundAt 9 = .ok (.iload_n 1, 1) := by decide +kernel
theorem dX4_foundAt_10 : decode cX4_foundAt 10 = .ok (.ifCond .lt 11, 3) := by decide +kernel
theorem dX4_foundAt_13 : decode cX4_foundAt 13 = .ok (.iload_n 1, 1) := by decide +kernel
theorem dX4_foundAt_14 : decode cX4_foundAt 14 = .ok (.aload_n 0, 1) := by decide +kernel
theorem dX4_foundAt_15 : decode cX4_foundAt 15 = .ok (.getfield 15, 3) := by decide +kernel
theorem dX4_foundAt_18 : decode cX4_foundAt 18 = .ok (.if_icmp .lt 8, 3) := by decide +kernel
theorem dX4_foundAt_21 : decode cX4_foundAt 21 = .ok (.bipush (-4), 2) := by decide +kernel
theorem dX4_foundAt_23 : decode cX4_foundAt 23 = .ok (.goto 9, 3) := by decide +kernel
theorem dX4_foundAt_26 : decode cX4_foundAt 26 = .ok (.aload_n 0, 1) := by decide +kernel
theorem dX4_foundAt_27 : decode cX4_foundAt 27 = .ok (.getfield 9, 3) := by decide +kernel
theorem dX4_foundAt_30 : decode cX4_foundAt 30 = .ok (.iload_n 1, 1) := by decide +kernel
theorem dX4_foundAt_31 : decode cX4_foundAt 31 = .ok (.iaload, 1) := by decide +kernel
theorem dX4_foundAt_32 : decode cX4_foundAt 32 = .ok (.ireturn, 1) := by decide +kernel
theorem hd_X4_foundAt : yX4_foundAt.cls = RX4 ∧ yX4_foundAt.cls ≠ "java/lang/invoke/MethodHandle" ∧ yX4_foundAt.cls ≠ "java/lang/invoke/VarHandle" ∧ (parseMethodDescriptor yX4_foundAt.desc).map (fun d => d.parameters.length) = some 1 := by decide +kernel
abbrev rm_X4_foundAt : Room := { frames := 0, cells := 0, slots := 0, locals := 0 }
def wp_X4_foundAt (K : Int32 → HF → Prop) (F : HF) (a1 : Int32) : Prop := (((F 79 3) = (nI 9)) → (K (-4 : Int32) F)) ∧ ((¬ (F 79 3) = (nI 9)) → (((a1 < (nI 0)) → (K (-4 : Int32) F)) ∧ ((¬ a1 < (nI 0)) → (((a1 < (F 79 3)) → ((vp_in a1 8) ∧ (K (F 84 a1.toNatClampNeg) F))) ∧ ((¬ a1 < (F 79 3)) → (K (-4 : Int32) F))))))
set_option maxRecDepth 100000 in
set_option maxHeartbeats 4000000 in
theorem c_X4_foundAt {l : Launch} {D : va_G} {dA : Nat → ClassId} {ad : Nat → Nat} {R : List Nat} {F : HF} {a1 : Int32} {K : Int32 → HF → Prop} (hT : Se R) (h : wp_X4_foundAt K F a1) : MI l yX4_foundAt cX4_foundAt 2 .int rm_X4_foundAt D dA ad R F [.ref (ad 79), .int a1] K := by
  refine MI.of (own := RX4) (by decide) rfl (Nat.le_of_ble_eq_true rfl) ?_
  intro p e s m args below meth c A hA X hr
  unfold wp_X4_foundAt at h
  show J p l e rm_X4_foundAt s m args below meth c 2 D dA ad R A (QI D dA ad R A below args s K) F 0 [(0, .ref (ad 79)), (1, .int a1)] []
  refine r_aload_n (pc := 0) X 0 dX4_foundAt_0 rfl rfl ?_
  refine fg_X4_15 (pc := 1) X hT.1 dX4_foundAt_1 ?_
  refine r_bipush (pc := 4) (v := (nI 9)) X dX4_foundAt_4 (by decide) ?_
  refine r_icmp_eq (pc := 6) (tgt := 21) X dX4_foundAt_6 (by decide) (fun hc => ?_) (fun hc => ?_)
  · replace h := h.1 hc
    refine r_bipush (pc := 21) (v := (-4 : Int32)) X dX4_foundAt_21 (by decide) ?_
    refine r_goto (pc := 23) (tgt := 32) X dX4_foundAt_23 (by decide) ?_
    exact r_iret (pc := 32) X hr dX4_foundAt_32 h
  · replace h := h.2 hc
    refine r_iload_n (pc := 9) X 1 dX4_foundAt_9 rfl rfl ?_
    refine r_if_lt (pc := 10) (tgt := 21) X dX4_foundAt_10 (by decide) (fun hc => ?_) (fun hc => ?_)
    · replace h := h.1 hc
      refine r_bipush (pc := 21) (v := (-4 : Int32)) X dX4_foundAt_21 (by decide) ?_
      refine r_goto (pc := 23) (tgt := 32) X dX4_foundAt_23 (by decide) ?_
      exact r_iret (pc := 32) X hr dX4_foundAt_32 h
    · replace h := h.2 hc
      refine r_iload_n (pc := 13) X 1 dX4_foundAt_13 rfl rfl ?_
      refine r_aload_n (pc := 14) X 0 dX4_foundAt_14 rfl rfl ?_
      refine fg_X4_15 (pc := 15) X hT.1 dX4_foundAt_15 ?_
      refine r_icmp_lt (pc := 18) (tgt := 26) X dX4_foundAt_18 (by decide) (fun hc => ?_) (fun hc => ?_)
      · replace h := h.1 hc
        refine r_aload_n (pc := 26) X 0 dX4_foundAt_26 rfl rfl ?_
        refine fg_X4_9 (pc := 27) X hT.1 dX4_foundAt_27 ?_
        refine r_iload_n (pc := 30) X 1 dX4_foundAt_30 rfl rfl ?_
        refine r_iald (pc := 31) X hT.2.2 h.1 dX4_foundAt_31 ?_
        replace h := h.2
        exact r_iret (pc := 32) X hr dX4_foundAt_32 h
      · replace h := h.2 hc
        refine r_bipush (pc := 21) (v := (-4 : Int32)) X dX4_foundAt_21 (by decide) ?_
        refine r_goto (pc := 23) (tgt := 32) X dX4_foundAt_23 (by decide) ?_
        exact r_iret (pc := 32) X hr dX4_foundAt_32 h
