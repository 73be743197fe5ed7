theorem dX7_span_0 : decode cX7_span 0 = .ok (.iload_n 1, 1) := by decide +kernel
theorem dX7_span_1 : decode cX7_span 1 = .ok (.iconst 0, 1) := by decide +kernel
theorem dX7_span_2 : decode cX7_span 2 = .ok (.aload_n 0, 1) := by decide +kernel
theorem dX7_span_3 : decode cX7_span 3 = .ok (.getfield 44, 3) := by decide +kernel
theorem dX7_span_6 : decode cX7_span 6 = .ok (.iconst 0, 1) := by decide +kernel
theorem dX7_span_7 : decode cX7_span 7 = .ok (.iaload, 1) := by decide +kernel
theorem dX7_span_8 : decode cX7_span 8 = .ok (.iconst 1, 1) := by decide +kernel
theorem dX7_span_9 : decode cX7_span 9 = .ok (.isub, 1) := by decide +kernel
theorem dX7_span_10 : decode cX7_span 10 = .ok (.invokestatic 87, 3) := by decide +kernel
theorem dX7_span_13 : decode cX7_span 13 = .ok (.ifCond .ne 5, 3) := by decide +kernel
theorem dX7_span_16 : decode cX7_span 16 = .ok (.iconst (-1), 1) := by decide +kernel
theorem dX7_span_17 : decode cX7_span 17 = .ok (.ireturn, 1) := by decide +kernel
theorem dX7_span_18 : decode cX7_span 18 = .ok (.aload_n 0, 1) := by decide +kernel
theorem dX7_span_19 : decode cX7_span 19 = .ok (.invokevirtual 167, 3) := by decide +kernel
theorem dX7_span_22 : decode cX7_span 22 = .ok (.aload_n 0, 1) := by decide +kernel
theorem dX7_span_23 : decode cX7_span 23 = .ok (.getfield 44, 3) := by decide +kernel
theorem dX7_span_26 : decode cX7_span 26 = .ok (.iconst 3, 1) := by decide +kernel
theorem dX7_span_27 : decode cX7_span 27 = .ok (.iaload, 1) := by decide +kernel
theorem dX7_span_28 : decode cX7_span 28 = .ok (.aload_n 0, 1) := by decide +kernel
theorem dX7_span_29 : decode cX7_span 29 = .ok (.getfield 35, 3) := by decide +kernel
theorem dX7_span_32 : decode cX7_span 32 = .ok (.invokestatic 170, 3) := by decide +kernel
theorem dX7_span_35 : decode cX7_span 35 = .ok (.ifCond .eq 38, 3) := by decide +kernel
theorem dX7_span_38 : decode cX7_span 38 = .ok (.aload_n 0, 1) := by decide +kernel
theorem dX7_span_39 : decode cX7_span 39 = .ok (.aload_n 0, 1) := by decide +kernel
theorem dX7_span_40 : decode cX7_span 40 = .ok (.getfield 44, 3) := by decide +kernel
theorem dX7_span_43 : decode cX7_span 43 = .ok (.aload_n 0, 1) := by decide +kernel
theorem dX7_span_44 : decode cX7_span 44 = .ok (.getfield 44, 3) := by decide +kernel
theorem dX7_span_47 : decode cX7_span 47 = .ok (.iconst 3, 1) := by decide +kernel
theorem dX7_span_48 : decode cX7_span 48 = .ok (.iaload, 1) := by decide +kernel
theorem dX7_span_49 : decode cX7_span 49 = .ok (.aload_n 0, 1) := by decide +kernel
theorem dX7_span_50 : decode cX7_span 50 = .ok (.aload_n 0, 1) := by decide +kernel
theorem dX7_span_51 : decode cX7_span 51 = .ok (.getfield 44, 3) := by decide +kernel
theorem dX7_span_54 : decode cX7_span 54 = .ok (.iconst 2, 1) := by decide +kernel
theorem dX7_span_55 : decode cX7_span 55 = .ok (.iaload, 1) := by decide +kernel
theorem dX7_span_56 : decode cX7_span 56 = .ok (.invokevirtual 174, 3) := by decide +kernel
theorem dX7_span_59 : decode cX7_span 59 = .ok (.aload_n 0, 1) := by decide +kernel
theorem dX7_span_60 : decode cX7_span 60 = .ok (.aload_n 0, 1) := by decide +kernel
theorem dX7_span_61 : decode cX7_span 61 = .ok (.getfield 44, 3) := by decide +kernel
theorem dX7_span_64 : decode cX7_span 64 = .ok (.iconst 1, 1) := by decide +kernel
theorem dX7_span_65 : decode cX7_span 65 = .ok (.iaload, 1) := by decide +kernel
theorem dX7_span_66 : decode cX7_span 66 = .ok (.invokevirtual 139, 3) := by decide +kernel
theorem dX7_span_69 : decode cX7_span 69 = .ok (.iadd, 1) := by decide +kernel
theorem dX7_span_70 : decode cX7_span 70 = .ok (.invokevirtual 177, 3) := by decide +kernel
theorem dX7_span_73 : decode cX7_span 73 = .ok (.iload_n 2, 1) := by decide +kernel
theorem dX7_span_74 : decode cX7_span 74 = .ok (.tableswitch 66 0 3 #[30, 39, 49, 59], 30) := by decide +kernel
theorem dX7_span_104 : decode cX7_span 104 = .ok (.aload_n 0, 1) := by decide +kernel
theorem dX7_span_105 : decode cX7_span 105 = .ok (.getfield 44, 3) := by decide +kernel
theorem dX7_span_108 : decode cX7_span 108 = .ok (.iconst 5, 1) := by decide +kernel
theorem dX7_span_109 : decode cX7_span 109 = .ok (.iload_n 1, 1) := by decide +kernel
theorem dX7_span_110 : decode cX7_span 110 = .ok (.iadd, 1) := by decide +kernel
theorem dX7_span_111 : decode cX7_span 111 = .ok (.iaload, 1) := by decide +kernel
theorem dX7_span_112 : decode cX7_span 112 = .ok (.ireturn, 1) := by decide +kernel
theorem dX7_span_113 : decode cX7_span 113 = .ok (.aload_n 0, 1) := by decide +kernel
theorem dX7_span_114 : decode cX7_span 114 = .ok (.aload_n 0, 1) := by decide +kernel
theorem dX7_span_115 : decode cX7_span 115 = .ok (.getfield 44, 3) := by decide +kernel
theorem dX7_span_118 : decode cX7_span 118 = .ok (.iload_n 1, 1) := by decide +kernel
theorem dX7_span_119 : decode cX7_span 119 = .ok (.invokevirtual 142, 3) := by decide +kernel
theorem dX7_span_122 : decode cX7_span 122 = .ok (.ireturn, 1) := by decide +kernel
theorem dX7_span_123 : decode cX7_span 123 = .ok (.aload_n 0, 1) := by decide +kernel
theorem dX7_span_124 : decode cX7_span 124 = .ok (.aload_n 0, 1) := by decide +kernel
theorem dX7_span_125 : decode cX7_span 125 = .ok (.getfield 44, 3) := by decide +kernel
theorem dX7_span_128 : decode cX7_span 128 = .ok (.iload_n 1, 1) := by decide +kernel
theorem dX7_span_129 : decode cX7_span 129 = .ok (.invokevirtual 160, 3) := by decide +kernel
theorem dX7_span_132 : decode cX7_span 132 = .ok (.ireturn, 1) := by decide +kernel
theorem dX7_span_133 : decode cX7_span 133 = .ok (.aload_n 0, 1) := by decide +kernel
theorem dX7_span_134 : decode cX7_span 134 = .ok (.getfield 62, 3) := by decide +kernel
theorem dX7_span_137 : decode cX7_span 137 = .ok (.iload_n 1, 1) := by decide +kernel
theorem dX7_span_138 : decode cX7_span 138 = .ok (.iaload, 1) := by decide +kernel
theorem dX7_span_139 : decode cX7_span 139 = .ok (.ireturn, 1) := by decide +kernel
theorem dX7_span_140 : decode cX7_span 140 = .ok (.iconst (-1), 1) := by decide +kernel
theorem dX7_span_141 : decode cX7_span 141 = .ok (.ireturn, 1) := by decide +kernel
theorem hd_X7_span : yX7_span.cls = RX7 ∧ yX7_span.cls ≠ "java/lang/invoke/MethodHandle" ∧ yX7_span.cls ≠ "java/lang/invoke/VarHandle" ∧ (parseMethodDescriptor yX7_span.desc).map (fun d => d.parameters.length) = some 2 := by decide +kernel
abbrev rm_X7_span : Room := { frames := 3, cells := 0, slots := 0, locals := 69 }
def wp_X7_span_73 (K : Int32 → HF → Prop) (F : HF) (v1 : Int32) (v2 : Int32) : Prop := (((v2 = (nI 0)) → ((vp_in ((nI 5) + v1) 21) ∧ (K (F 120 ((nI 5) + v1).toNatClampNeg) F)))) ∧ (((v2 = (nI 1)) → (wp_X7_firstOf (fun x3 F104 => K x3 F104) F 120 21 v1))) ∧ (((v2 = (nI 2)) → (wp_X7_powerOf (fun x4 F105 => K x4 F105) F 120 21 v1))) ∧ (((v2 = (nI 3)) → ((vp_in v1 8) ∧ (K (F 129 v1.toNatClampNeg) F)))) ∧ ((¬ v2 = (nI 0)) → (¬ v2 = (nI 1)) → (¬ v2 = (nI 2)) → (¬ v2 = (nI 3)) → (K (-1 : Int32) F))
set_option maxRecDepth 100000 in
set_option maxHeartbeats 4000000 in
theorem k_X7_span_73 {p : Program} {l : Launch} {e : Env} {s : State} {m : MethodId} {args : Array Value} {below : List Frame} {meth : Method} {c : Code} {D : va_G} {dA : Nat → ClassId} {ad : Nat → Nat} {R : List Nat} {A : Nat → Prop} {K : Int32 → HF → Prop} (X : Cx p s m args meth c cX7_span 3 RX7 D dA) (hA : ∀ q, s.heap.size ≤ q → A q) (hr : meth.sig.returnType = some .int) (hT : Md R) : ∀ (F : HF) (v1 : Int32) (v2 : Int32), wp_X7_span_73 K  F v1 v2 → J p l e rm_X7_span s m args below meth c 3 D dA ad R A (QI D dA ad R A below args s K) F 73 [(0, .ref (ad 100)), (1, .int v1), (2, .int v2)] [] := by
  intro F v1 v2 h
  unfold wp_X7_span_73 at h
  refine r_iload_n (pc := 73) X 2 dX7_span_73 rfl rfl ?_
  by_cases hc0 : v2 = (nI 0)
  · replace h := h.1 hc0
    refine r_tableIn (pc := 74) (off := 30) (tgt := 104) X dX7_span_74 (by rw [hc0]; decide) (by rw [hc0]; decide) (by rw [hc0]; decide) (by decide) ?_
    refine r_aload_n (pc := 104) X 0 dX7_span_104 rfl rfl ?_
    refine fg_X7_44 (pc := 105) X hT.1 dX7_span_105 ?_
    refine r_iconst (pc := 108) (v := (nI 5)) X dX7_span_108 (by decide) ?_
    refine r_iload_n (pc := 109) X 1 dX7_span_109 rfl rfl ?_
    refine r_iadd (pc := 110) X dX7_span_110 ?_
    refine r_iald (pc := 111) X hT.2.2.2.2.2.2.2.1 h.1 dX7_span_111 ?_
    replace h := h.2
    exact r_iret (pc := 112) X hr dX7_span_112 h
  · replace h := h.2
    by_cases hc1 : v2 = (nI 1)
    · replace h := h.1 hc1
      refine r_tableIn (pc := 74) (off := 39) (tgt := 113) X dX7_span_74 (by rw [hc1]; decide) (by rw [hc1]; decide) (by rw [hc1]; decide) (by decide) ?_
      refine r_aload_n (pc := 113) X 0 dX7_span_113 rfl rfl ?_
      refine r_aload_n (pc := 114) X 0 dX7_span_114 rfl rfl ?_
      refine fg_X7_44 (pc := 115) X hT.1 dX7_span_115 ?_
      refine r_iload_n (pc := 118) X 1 dX7_span_118 rfl rfl ?_
      refine r_callIV (pc := 119) (As := [.ref (ad 120), .int v1]) (st := []) X hA (c_X7_firstOf hT hT.2.2.2.2.2.2.2.1 h) g_X7_142 cl_X7 hT.1 hd_X7_firstOf rfl rfl rfl ⟨Nat.le_of_ble_eq_true rfl, Nat.le_of_ble_eq_true rfl⟩ rfl (Nat.le_of_ble_eq_true rfl) dX7_span_119 (fun x3 F104 h => ?_)
      exact r_iret (pc := 122) X hr dX7_span_122 h
    · replace h := h.2
      by_cases hc2 : v2 = (nI 2)
      · replace h := h.1 hc2
        refine r_tableIn (pc := 74) (off := 49) (tgt := 123) X dX7_span_74 (by rw [hc2]; decide) (by rw [hc2]; decide) (by rw [hc2]; decide) (by decide) ?_
        refine r_aload_n (pc := 123) X 0 dX7_span_123 rfl rfl ?_
        refine r_aload_n (pc := 124) X 0 dX7_span_124 rfl rfl ?_
        refine fg_X7_44 (pc := 125) X hT.1 dX7_span_125 ?_
        refine r_iload_n (pc := 128) X 1 dX7_span_128 rfl rfl ?_
        refine r_callIV (pc := 129) (As := [.ref (ad 120), .int v1]) (st := []) X hA (c_X7_powerOf hT hT.2.2.2.2.2.2.2.1 h) g_X7_160 cl_X7 hT.1 hd_X7_powerOf rfl rfl rfl ⟨Nat.le_of_ble_eq_true rfl, Nat.le_of_ble_eq_true rfl⟩ rfl (Nat.le_of_ble_eq_true rfl) dX7_span_129 (fun x4 F105 h => ?_)
        exact r_iret (pc := 132) X hr dX7_span_132 h
      · replace h := h.2
        by_cases hc3 : v2 = (nI 3)
        · replace h := h.1 hc3
          refine r_tableIn (pc := 74) (off := 59) (tgt := 133) X dX7_span_74 (by rw [hc3]; decide) (by rw [hc3]; decide) (by rw [hc3]; decide) (by decide) ?_
          refine r_aload_n (pc := 133) X 0 dX7_span_133 rfl rfl ?_
          refine fg_X7_62 (pc := 134) X hT.1 dX7_span_134 ?_
          refine r_iload_n (pc := 137) X 1 dX7_span_137 rfl rfl ?_
          refine r_iald (pc := 138) X hT.2.2.2.2.2.2.2.2.2.2.2.2.2.1 h.1 dX7_span_138 ?_
          replace h := h.2
          exact r_iret (pc := 139) X hr dX7_span_139 h
        · replace h := h.2
          replace h := h hc0 hc1 hc2 hc3
          refine r_tableOut (pc := 74) (tgt := 140) X dX7_span_74 (sw_out (x := v2) 3 (by decide) (fun k hk => by rcases (show k = 0 ∨ k = 1 ∨ k = 2 ∨ k = 3 by omega) with rfl | rfl | rfl | rfl <;> first | exact hc0 | exact hc1 | exact hc2 | exact hc3)) (by decide) ?_
          refine r_iconst (pc := 140) (v := (-1 : Int32)) X dX7_span_140 (by decide) ?_
          exact r_iret (pc := 141) X hr dX7_span_141 h
def wp_X7_span (K : Int32 → HF → Prop) (F : HF) (a1 : Int32) (a2 : Int32) : Prop := (vp_in (nI 0) 21) ∧ (wp_X7_in (fun x1 F1 => ((¬ x1 = (nI 0)) → (wp_X7_noLoads (fun F2 => (vp_in (nI 3) 21) ∧ (wp_X7_isOn (fun x2 F3 => ((x2 = (nI 0)) → (wp_X7_span_73 K  F3 a1 a2)) ∧ ((¬ x2 = (nI 0)) → ((vp_in (nI 3) 21) ∧ ((vp_in (nI 2) 21) ∧ (wp_X7_weightIn (fun x5 F106 => (vp_in (nI 1) 21) ∧ (wp_X7_windIn (fun x6 F107 => wp_X7_bear (fun F108 => wp_X7_span_73 K  F108 a1 a2) F107 120 21 (F3 120 (nI 3).toNatClampNeg) (x5 + x6)) F106 (F106 120 (nI 1).toNatClampNeg))) F3 (F3 120 (nI 2).toNatClampNeg)))))) F2 (F2 120 (nI 3).toNatClampNeg) (F2 100 17))) F1 )) ∧ ((x1 = (nI 0)) → (K (-1 : Int32) F1))) F a1 (nI 0) ((F 120 (nI 0).toNatClampNeg) - (nI 1)))
set_option maxRecDepth 100000 in
set_option maxHeartbeats 4000000 in
theorem c_X7_span {l : Launch} {D : va_G} {dA : Nat → ClassId} {ad : Nat → Nat} {R : List Nat} {F : HF} {a1 : Int32} {a2 : Int32} {K : Int32 → HF → Prop} (hT : Md R) (h : wp_X7_span K F a1 a2) : MI l yX7_span cX7_span 3 .int rm_X7_span D dA ad R F [.ref (ad 100), .int a1, .int a2] K := by
  refine MI.of (own := RX7) (by decide) rfl (Nat.le_of_ble_eq_true rfl) ?_
  intro p e s m args below meth c A hA X hr
  unfold wp_X7_span at h
  show J p l e rm_X7_span s m args below meth c 3 D dA ad R A (QI D dA ad R A below args s K) F 0 [(0, .ref (ad 100)), (1, .int a1), (2, .int a2)] []
  refine r_iload_n (pc := 0) X 1 dX7_span_0 rfl rfl ?_
  refine r_iconst (pc := 1) (v := (nI 0)) X dX7_span_1 (by decide) ?_
  refine r_aload_n (pc := 2) X 0 dX7_span_2 rfl rfl ?_
  refine fg_X7_44 (pc := 3) X hT.1 dX7_span_3 ?_
  refine r_iconst (pc := 6) (v := (nI 0)) X dX7_span_6 (by decide) ?_
  refine r_iald (pc := 7) X hT.2.2.2.2.2.2.2.1 h.1 dX7_span_7 ?_
  replace h := h.2
  refine r_iconst (pc := 8) (v := (nI 1)) X dX7_span_8 (by decide) ?_
  refine r_isub (pc := 9) X dX7_span_9 ?_
  refine r_callIS (pc := 10) (As := [.int a1, .int (nI 0), .int ((F 120 (nI 0).toNatClampNeg) - (nI 1))]) (st := []) X hA (c_X7_in  h) g_X7_87 hd_X7_in rfl rfl rfl ⟨Nat.le_of_ble_eq_true rfl, Nat.le_of_ble_eq_true rfl⟩ rfl (Nat.le_of_ble_eq_true rfl) dX7_span_10 (fun x1 F1 h => ?_)
  refine r_if_ne (pc := 13) (tgt := 18) X dX7_span_13 (by decide) (fun hc => ?_) (fun hc => ?_)
  · replace h := h.1 hc
    refine r_aload_n (pc := 18) X 0 dX7_span_18 rfl rfl ?_
    refine r_callVV (pc := 19) (As := []) (st := []) X hA (c_X7_noLoads hT h) g_X7_167 cl_X7 hT.1 hd_X7_noLoads rfl rfl rfl ⟨Nat.le_of_ble_eq_true rfl, Nat.le_of_ble_eq_true rfl⟩ rfl (Nat.le_of_ble_eq_true rfl) dX7_span_19 (fun F2 h => ?_)
    refine r_aload_n (pc := 22) X 0 dX7_span_22 rfl rfl ?_
    refine fg_X7_44 (pc := 23) X hT.1 dX7_span_23 ?_
    refine r_iconst (pc := 26) (v := (nI 3)) X dX7_span_26 (by decide) ?_
    refine r_iald (pc := 27) X hT.2.2.2.2.2.2.2.1 h.1 dX7_span_27 ?_
    replace h := h.2
    refine r_aload_n (pc := 28) X 0 dX7_span_28 rfl rfl ?_
    refine fg_X7_35 (pc := 29) X hT.1 dX7_span_29 ?_
    refine r_callIS (pc := 32) (As := [.int (F2 120 (nI 3).toNatClampNeg), .int (F2 100 17)]) (st := []) X hA (c_X7_isOn  h) g_X7_170 hd_X7_isOn rfl rfl rfl ⟨Nat.le_of_ble_eq_true rfl, Nat.le_of_ble_eq_true rfl⟩ rfl (Nat.le_of_ble_eq_true rfl) dX7_span_32 (fun x2 F3 h => ?_)
    refine r_if_eq (pc := 35) (tgt := 73) X dX7_span_35 (by decide) (fun hc => ?_) (fun hc => ?_)
    · replace h := h.1 hc
      exact k_X7_span_73 X hA hr hT  _ _ _ h
    · replace h := h.2 hc
      refine r_aload_n (pc := 38) X 0 dX7_span_38 rfl rfl ?_
      refine r_aload_n (pc := 39) X 0 dX7_span_39 rfl rfl ?_
      refine fg_X7_44 (pc := 40) X hT.1 dX7_span_40 ?_
      refine r_aload_n (pc := 43) X 0 dX7_span_43 rfl rfl ?_
      refine fg_X7_44 (pc := 44) X hT.1 dX7_span_44 ?_
      refine r_iconst (pc := 47) (v := (nI 3)) X dX7_span_47 (by decide) ?_
      refine r_iald (pc := 48) X hT.2.2.2.2.2.2.2.1 h.1 dX7_span_48 ?_
      replace h := h.2
      refine r_aload_n (pc := 49) X 0 dX7_span_49 rfl rfl ?_
      refine r_aload_n (pc := 50) X 0 dX7_span_50 rfl rfl ?_
      refine fg_X7_44 (pc := 51) X hT.1 dX7_span_51 ?_
      refine r_iconst (pc := 54) (v := (nI 2)) X dX7_span_54 (by decide) ?_
      refine r_iald (pc := 55) X hT.2.2.2.2.2.2.2.1 h.1 dX7_span_55 ?_
      replace h := h.2
      refine r_callIV (pc := 56) (As := [.int (F3 120 (nI 2).toNatClampNeg)]) (st := [.int (F3 120 (nI 3).toNatClampNeg), .ref (ad 120), .ref (ad 100)]) X hA (c_X7_weightIn hT h) g_X7_174 cl_X7 hT.1 hd_X7_weightIn rfl rfl rfl ⟨Nat.le_of_ble_eq_true rfl, Nat.le_of_ble_eq_true rfl⟩ rfl (Nat.le_of_ble_eq_true rfl) dX7_span_56 (fun x5 F106 h => ?_)
      refine r_aload_n (pc := 59) X 0 dX7_span_59 rfl rfl ?_
      refine r_aload_n (pc := 60) X 0 dX7_span_60 rfl rfl ?_
      refine fg_X7_44 (pc := 61) X hT.1 dX7_span_61 ?_
      refine r_iconst (pc := 64) (v := (nI 1)) X dX7_span_64 (by decide) ?_
      refine r_iald (pc := 65) X hT.2.2.2.2.2.2.2.1 h.1 dX7_span_65 ?_
      replace h := h.2
      refine r_callIV (pc := 66) (As := [.int (F106 120 (nI 1).toNatClampNeg)]) (st := [.int x5, .int (F3 120 (nI 3).toNatClampNeg), .ref (ad 120), .ref (ad 100)]) X hA (c_X7_windIn hT h) g_X7_139 cl_X7 hT.1 hd_X7_windIn rfl rfl rfl ⟨Nat.le_of_ble_eq_true rfl, Nat.le_of_ble_eq_true rfl⟩ rfl (Nat.le_of_ble_eq_true rfl) dX7_span_66 (fun x6 F107 h => ?_)
      refine r_iadd (pc := 69) X dX7_span_69 ?_
      refine r_callVV (pc := 70) (As := [.ref (ad 120), .int (F3 120 (nI 3).toNatClampNeg), .int (x5 + x6)]) (st := []) X hA (c_X7_bear hT hT.2.2.2.2.2.2.2.1 h) g_X7_177 cl_X7 hT.1 hd_X7_bear rfl rfl rfl ⟨Nat.le_of_ble_eq_true rfl, Nat.le_of_ble_eq_true rfl⟩ rfl (Nat.le_of_ble_eq_true rfl) dX7_span_70 (fun F108 h => ?_)
      exact k_X7_span_73 X hA hr hT  _ _ _ h
  · replace h := h.2 hc
    refine r_iconst (pc := 16) (v := (-1 : Int32)) X dX7_span_16 (by decide) ?_
    exact r_iret (pc := 17) X hr dX7_span_17 h
theorem dX7_copy_0 : decode cX7_copy 0 = .ok (.iconst 0, 1) := by decide +kernel
theorem dX7_copy_1 : decode cX7_copy 1 = .ok (.istore 4, 2) := by decide +kernel
theorem dX7_copy_3 : decode cX7_copy 3 = .ok (.iload 4, 2) := by decide +kernel
theorem dX7_copy_5 : decode cX7_copy 5 = .ok (.bipush 21, 2) := by decide +kernel
theorem dX7_copy_7 : decode cX7_copy 7 = .ok (.if_icmp .ge 21, 3) := by decide +kernel
theorem dX7_copy_10 : decode cX7_copy 10 = .ok (.aload_n 2, 1) := by decide +kernel
theorem dX7_copy_11 : decode cX7_copy 11 = .ok (.iload_n 3, 1) := by decide +kernel
theorem dX7_copy_12 : decode cX7_copy 12 = .ok (.iload 4, 2) := by decide +kernel
theorem dX7_copy_14 : decode cX7_copy 14 = .ok (.iadd, 1) := by decide +kernel
theorem dX7_copy_15 : decode cX7_copy 15 = .ok (.aload_n 0, 1) := by decide +kernel
theorem dX7_copy_16 : decode cX7_copy 16 = .ok (.iload_n 1, 1) := by decide +kernel
theorem dX7_copy_17 : decode cX7_copy 17 = .ok (.iload 4, 2) := by decide +kernel
theorem dX7_copy_19 : decode cX7_copy 19 = .ok (.iadd, 1) := by decide +kernel
theorem dX7_copy_20 : decode cX7_copy 20 = .ok (.iaload, 1) := by decide +kernel
theorem dX7_copy_21 : decode cX7_copy 21 = .ok (.iastore, 1) := by decide +kernel
theorem dX7_copy_22 : decode cX7_copy 22 = .ok (.iinc 4 1, 3) := by decide +kernel
theorem dX7_copy_25 : decode cX7_copy 25 = .ok (.goto (-22), 3) := by decide +kernel
theorem dX7_copy_28 : decode cX7_copy 28 = .ok (.return_, 1) := by decide +kernel
theorem hd_X7_copy : yX7_copy.cls = RX7 ∧ yX7_copy.cls ≠ "java/lang/invoke/MethodHandle" ∧ yX7_copy.cls ≠ "java/lang/invoke/VarHandle" ∧ (parseMethodDescriptor yX7_copy.desc).map (fun d => d.parameters.length) = some 4 := by decide +kernel
abbrev rm_X7_copy : Room := { frames := 0, cells := 0, slots := 0, locals := 0 }
def wp_X7_copy_3 (K : HF → Prop) (r1 : Nat) (z1 : Nat) (r3 : Nat) (z3 : Nat) : Nat → HF → Int32 → Int32 → Int32 → Prop
  | 0 => fun _ _ _ _ => False
  | n3_ + 1 => fun F v1 v3 v4 => (((nI 21) ≤ v4) → (K F)) ∧ ((¬ (nI 21) ≤ v4) → ((vp_in (v1 + v4) z1) ∧ ((vp_in (v3 + v4) z3) ∧ (∀ F101 : HF, F101 = hup F r3 (v3 + v4).toNatClampNeg (F r1 (v1 + v4).toNatClampNeg) → (wp_X7_copy_3 K r1 z1 r3 z3  n3_ F101 v1 v3 (v4 + (nI 1)))))))
set_option maxRecDepth 100000 in
set_option maxHeartbeats 4000000 in
theorem k_X7_copy_3 {p : Program} {l : Launch} {e : Env} {s : State} {m : MethodId} {args : Array Value} {below : List Frame} {meth : Method} {c : Code} {D : va_G} {dA : Nat → ClassId} {ad : Nat → Nat} {R : List Nat} {A : Nat → Prop} {K : HF → Prop} {r1 : Nat} {z1 : Nat} {r3 : Nat} {z3 : Nat} (X : Cx p s m args meth c cX7_copy 5 RX7 D dA) (hA : ∀ q, s.heap.size ≤ q → A q) (hr : meth.sig.returnType = none) (hr1 : IA R r1 z1) (hr3 : IA R r3 z3) : ∀ (n_ : Nat) (F : HF) (v1 : Int32) (v3 : Int32) (v4 : Int32), wp_X7_copy_3 K r1 z1 r3 z3 n_ F v1 v3 v4 → J p l e rm_X7_copy s m args below meth c 5 D dA ad R A (QV D dA ad R A below args s K) F 3 [(0, .ref (ad r1)), (1, .int v1), (2, .ref (ad r3)), (3, .int v3), (4, .int v4)] [] := by
  intro n_
  induction n_ with
  | zero => intro F v1 v3 v4 h; exact h.elim
  | succ n_ ih =>
    intro F v1 v3 v4 h
    unfold wp_X7_copy_3 at h
    refine r_iload (pc := 3) X 4 dX7_copy_3 rfl ?_
    refine r_bipush (pc := 5) (v := (nI 21)) X dX7_copy_5 (by decide) ?_
    refine r_icmp_ge (pc := 7) (tgt := 28) X dX7_copy_7 (by decide) (fun hc => ?_) (fun hc => ?_)
    · replace h := h.1 hc
      exact r_vret (pc := 28) X hr dX7_copy_28 h
    · replace h := h.2 hc
      refine r_aload_n (pc := 10) X 2 dX7_copy_10 rfl rfl ?_
      refine r_iload_n (pc := 11) X 3 dX7_copy_11 rfl rfl ?_
      refine r_iload (pc := 12) X 4 dX7_copy_12 rfl ?_
      refine r_iadd (pc := 14) X dX7_copy_14 ?_
      refine r_aload_n (pc := 15) X 0 dX7_copy_15 rfl rfl ?_
      refine r_iload_n (pc := 16) X 1 dX7_copy_16 rfl rfl ?_
      refine r_iload (pc := 17) X 4 dX7_copy_17 rfl ?_
      refine r_iadd (pc := 19) X dX7_copy_19 ?_
      refine r_iald (pc := 20) X hr1 h.1 dX7_copy_20 ?_
      replace h := h.2
      refine r_iast (pc := 21) X hr3 h.1 dX7_copy_21 (fun F101 e1 => ?_)
      replace h := h.2 F101 e1
      refine r_iinc (pc := 22) (v := (v4 + (nI 1))) X 4 [(4, .int (v4 + (nI 1))), (0, .ref (ad r1)), (1, .int v1), (2, .ref (ad r3)), (3, .int v3)] dX7_copy_22 rfl rfl (by decide) rfl ?_
      refine r_goto (pc := 25) (tgt := 3) X dX7_copy_25 (by decide) ?_
      refine r_sub [1, 2, 3, 4, 0] rfl ?_
      exact ih _ _ _ _ h
def wp_X7_copy (K : HF → Prop) (F : HF) (r1 : Nat) (z1 : Nat) (r3 : Nat) (z3 : Nat) (a2 : Int32) (a4 : Int32) : Prop := ∃ m_, wp_X7_copy_3 K r1 z1 r3 z3  m_ F a2 a4 (nI 0)
set_option maxRecDepth 100000 in
set_option maxHeartbeats 4000000 in
theorem c_X7_copy {l : Launch} {D : va_G} {dA : Nat → ClassId} {ad : Nat → Nat} {R : List Nat} {F : HF} {r1 : Nat} {z1 : Nat} {r3 : Nat} {z3 : Nat} {a2 : Int32} {a4 : Int32} {K : HF → Prop} (hr1 : IA R r1 z1) (hr3 : IA R r3 z3) (h : wp_X7_copy K F r1 z1 r3 z3 a2 a4) : MV l yX7_copy cX7_copy 5 rm_X7_copy D dA ad R F [.ref (ad r1), .int a2, .ref (ad r3), .int a4] K := by
  refine MV.of (own := RX7) (by decide) rfl (Nat.le_of_ble_eq_true rfl) ?_
  intro p e s m args below meth c A hA X hr
  unfold wp_X7_copy at h
  show J p l e rm_X7_copy s m args below meth c 5 D dA ad R A (QV D dA ad R A below args s K) F 0 [(0, .ref (ad r1)), (1, .int a2), (2, .ref (ad r3)), (3, .int a4)] []
  refine r_iconst (pc := 0) (v := (nI 0)) X dX7_copy_0 (by decide) ?_
  refine r_istore (pc := 1) X [(4, .int (nI 0)), (0, .ref (ad r1)), (1, .int a2), (2, .ref (ad r3)), (3, .int a4)] dX7_copy_1 (by decide) rfl ?_
  refine r_sub [1, 2, 3, 4, 0] rfl ?_
  obtain ⟨n1, h⟩ := h
  exact k_X7_copy_3 X hA hr hr1 hr3  n1 _ _ _ _ h
theorem dX7_note_0 : decode cX7_note 0 = .ok (.aload_n 0, 1) := by decide +kernel
theorem dX7_note_1 : decode cX7_note 1 = .ok (.getfield 78, 3) := by decide +kernel
theorem dX7_note_4 : decode cX7_note 4 = .ok (.bipush 8, 2) := by decide +kernel
theorem dX7_note_6 : decode cX7_note 6 = .ok (.if_icmp .ne 43, 3) := by decide +kernel
theorem dX7_note_9 : decode cX7_note 9 = .ok (.iconst 0, 1) := by decide +kernel
theorem dX7_note_10 : decode cX7_note 10 = .ok (.istore_n 1, 1) := by decide +kernel
theorem dX7_note_11 : decode cX7_note 11 = .ok (.iload_n 1, 1) := by decide +kernel
theorem dX7_note_12 : decode cX7_note 12 = .ok (.sipush 147, 3) := by decide +kernel
theorem dX7_note_15 : decode cX7_note 15 = .ok (.if_icmp .ge 24, 3) := by decide +kernel
theorem dX7_note_18 : decode cX7_note 18 = .ok (.aload_n 0, 1) := by decide +kernel
theorem dX7_note_19 : decode cX7_note 19 = .ok (.getfield 50, 3) := by decide +kernel
theorem dX7_note_22 : decode cX7_note 22 = .ok (.iload_n 1, 1) := by decide +kernel
theorem dX7_note_23 : decode cX7_note 23 = .ok (.aload_n 0, 1) := by decide +kernel
theorem dX7_note_24 : decode cX7_note 24 = .ok (.getfield 50, 3) := by decide +kernel
theorem dX7_note_27 : decode cX7_note 27 = .ok (.iload_n 1, 1) := by decide +kernel
theorem dX7_note_28 : decode cX7_note 28 = .ok (.bipush 21, 2) := by decide +kernel
theorem dX7_note_30 : decode cX7_note 30 = .ok (.iadd, 1) := by decide +kernel
theorem dX7_note_31 : decode cX7_note 31 = .ok (.iaload, 1) := by decide +kernel
theorem dX7_note_32 : decode cX7_note 32 = .ok (.iastore, 1) := by decide +kernel
theorem dX7_note_33 : decode cX7_note 33 = .ok (.iinc 1 1, 3) := by decide +kernel
theorem dX7_note_36 : decode cX7_note 36 = .ok (.goto (-25), 3) := by decide +kernel
theorem dX7_note_39 : decode cX7_note 39 = .ok (.aload_n 0, 1) := by decide +kernel
theorem dX7_note_40 : decode cX7_note 40 = .ok (.dup, 1) := by decide +kernel
theorem dX7_note_41 : decode cX7_note 41 = .ok (.getfield 78, 3) := by decide +kernel
theorem dX7_note_44 : decode cX7_note 44 = .ok (.iconst 1, 1) := by decide +kernel
theorem dX7_note_45 : decode cX7_note 45 = .ok (.isub, 1) := by decide +kernel
theorem dX7_note_46 : decode cX7_note 46 = .ok (.putfield 78, 3) := by decide +kernel
theorem dX7_note_49 : decode cX7_note 49 = .ok (.aload_n 0, 1) := by decide +kernel
theorem dX7_note_50 : decode cX7_note 50 = .ok (.getfield 44, 3) := by decide +kernel
theorem dX7_note_53 : decode cX7_note 53 = .ok (.iconst 0, 1) := by decide +kernel
theorem dX7_note_54 : decode cX7_note 54 = .ok (.aload_n 0, 1) := by decide +kernel
theorem dX7_note_55 : decode cX7_note 55 = .ok (.getfield 50, 3) := by decide +kernel
theorem dX7_note_58 : decode cX7_note 58 = .ok (.bipush 21, 2) := by decide +kernel
theorem dX7_note_60 : decode cX7_note 60 = .ok (.aload_n 0, 1) := by decide +kernel
theorem dX7_note_61 : decode cX7_note 61 = .ok (.getfield 78, 3) := by decide +kernel
theorem dX7_note_64 : decode cX7_note 64 = .ok (.imul, 1) := by decide +kernel
theorem dX7_note_65 : decode cX7_note 65 = .ok (.invokestatic 185, 3) := by decide +kernel
theorem dX7_note_68 : decode cX7_note 68 = .ok (.aload_n 0, 1) := by decide +kernel
theorem dX7_note_69 : decode cX7_note 69 = .ok (.dup, 1) := by decide +kernel
theorem dX7_note_70 : decode cX7_note 70 = .ok (.getfield 78, 3) := by decide +kernel
theorem dX7_note_73 : decode cX7_note 73 = .ok (.iconst 1, 1) := by decide +kernel
theorem dX7_note_74 : decode cX7_note 74 = .ok (.iadd, 1) := by decide +kernel
theorem dX7_note_75 : decode cX7_note 75 = .ok (.putfield 78, 3) := by decide +kernel
theorem dX7_note_78 : decode cX7_note 78 = .ok (.return_, 1) := by decide +kernel
theorem hd_X7_note : yX7_note.cls = RX7 ∧ yX7_note.cls ≠ "java/lang/invoke/MethodHandle" ∧ yX7_note.cls ≠ "java/lang/invoke/VarHandle" ∧ (parseMethodDescriptor yX7_note.desc).map (fun d => d.parameters.length) = some 0 := by decide +kernel
abbrev rm_X7_note : Room := { frames := 1, cells := 0, slots := 0, locals := 24 }
def wp_X7_note_49 (K : HF → Prop) (F : HF) : Prop := wp_X7_copy (fun F101 => ∀ F102 : HF, F102 = hup F101 100 23 ((F101 100 23) + (nI 1)) → (K F102)) F 120 21 122 168 (nI 0) ((nI 21) * (F 100 23))
set_option maxRecDepth 100000 in
set_option maxHeartbeats 4000000 in
theorem k_X7_note_49 {p : Program} {l : Launch} {e : Env} {s : State} {m : MethodId} {args : Array Value} {below : List Frame} {meth : Method} {c : Code} {D : va_G} {dA : Nat → ClassId} {ad : Nat → Nat} {R : List Nat} {A : Nat → Prop} {K : HF → Prop} (X : Cx p s m args meth c cX7_note 2 RX7 D dA) (hA : ∀ q, s.heap.size ≤ q → A q) (hr : meth.sig.returnType = none) (hT : Md R) : ∀ (F : HF), wp_X7_note_49 K  F  → J p l e rm_X7_note s m args below meth c 2 D dA ad R A (QV D dA ad R A below args s K) F 49 [(0, .ref (ad 100))] [] := by
  intro F  h
  unfold wp_X7_note_49 at h
  refine r_aload_n (pc := 49) X 0 dX7_note_49 rfl rfl ?_
  refine fg_X7_44 (pc := 50) X hT.1 dX7_note_50 ?_
  refine r_iconst (pc := 53) (v := (nI 0)) X dX7_note_53 (by decide) ?_
  refine r_aload_n (pc := 54) X 0 dX7_note_54 rfl rfl ?_
  refine fg_X7_50 (pc := 55) X hT.1 dX7_note_55 ?_
  refine r_bipush (pc := 58) (v := (nI 21)) X dX7_note_58 (by decide) ?_
  refine r_aload_n (pc := 60) X 0 dX7_note_60 rfl rfl ?_
  refine fg_X7_78 (pc := 61) X hT.1 dX7_note_61 ?_
  refine r_imul (pc := 64) X dX7_note_64 ?_
  refine r_callVS (pc := 65) (As := [.ref (ad 120), .int (nI 0), .ref (ad 122), .int ((nI 21) * (F 100 23))]) (st := []) X hA (c_X7_copy hT.2.2.2.2.2.2.2.1 hT.2.2.2.2.2.2.2.2.2.1 h) g_X7_185 hd_X7_copy rfl rfl rfl ⟨Nat.le_of_ble_eq_true rfl, Nat.le_of_ble_eq_true rfl⟩ rfl (Nat.le_of_ble_eq_true rfl) dX7_note_65 (fun F101 h => ?_)
  refine r_aload_n (pc := 68) X 0 dX7_note_68 rfl rfl ?_
  refine r_dup (pc := 69) X dX7_note_69 rfl ?_
  refine fg_X7_78 (pc := 70) X hT.1 dX7_note_70 ?_
  refine r_iconst (pc := 73) (v := (nI 1)) X dX7_note_73 (by decide) ?_
  refine r_iadd (pc := 74) X dX7_note_74 ?_
  refine fp_X7_78 (pc := 75) X hT.1 dX7_note_75 (fun F102 e1 => ?_)
  replace h := h F102 e1
  exact r_vret (pc := 78) X hr dX7_note_78 h
def wp_X7_note_11 (K : HF → Prop) : Nat → HF → Int32 → Prop
  | 0 => fun _ _ => False
  | n11_ + 1 => fun F v1 => (((nI 147) ≤ v1) → (∀ F203 : HF, F203 = hup F 100 23 ((F 100 23) - (nI 1)) → (wp_X7_note_49 K  F203))) ∧ ((¬ (nI 147) ≤ v1) → ((vp_in (v1 + (nI 21)) 168) ∧ ((vp_in v1 168) ∧ (∀ F204 : HF, F204 = hup F 122 v1.toNatClampNeg (F 122 (v1 + (nI 21)).toNatClampNeg) → (wp_X7_note_11 K  n11_ F204 (v1 + (nI 1)))))))
set_option maxRecDepth 100000 in
set_option maxHeartbeats 4000000 in
theorem k_X7_note_11 {p : Program} {l : Launch} {e : Env} {s : State} {m : MethodId} {args : Array Value} {below : List Frame} {meth : Method} {c : Code} {D : va_G} {dA : Nat → ClassId} {ad : Nat → Nat} {R : List Nat} {A : Nat → Prop} {K : HF → Prop} (X : Cx p s m args meth c cX7_note 2 RX7 D dA) (hA : ∀ q, s.heap.size ≤ q → A q) (hr : meth.sig.returnType = none) (hT : Md R) : ∀ (n_ : Nat) (F : HF) (v1 : Int32), wp_X7_note_11 K  n_ F v1 → J p l e rm_X7_note s m args below meth c 2 D dA ad R A (QV D dA ad R A below args s K) F 11 [(0, .ref (ad 100)), (1, .int v1)] [] := by
  intro n_
  induction n_ with
  | zero => intro F v1 h; exact h.elim
  | succ n_ ih =>
    intro F v1 h
    unfold wp_X7_note_11 at h
    refine r_iload_n (pc := 11) X 1 dX7_note_11 rfl rfl ?_
    refine r_sipush (pc := 12) (v := (nI 147)) X dX7_note_12 (by decide) ?_
    refine r_icmp_ge (pc := 15) (tgt := 39) X dX7_note_15 (by decide) (fun hc => ?_) (fun hc => ?_)
    · replace h := h.1 hc
      refine r_aload_n (pc := 39) X 0 dX7_note_39 rfl rfl ?_
      refine r_dup (pc := 40) X dX7_note_40 rfl ?_
      refine fg_X7_78 (pc := 41) X hT.1 dX7_note_41 ?_
      refine r_iconst (pc := 44) (v := (nI 1)) X dX7_note_44 (by decide) ?_
      refine r_isub (pc := 45) X dX7_note_45 ?_
      refine fp_X7_78 (pc := 46) X hT.1 dX7_note_46 (fun F203 e1 => ?_)
      replace h := h F203 e1
      refine r_sub [0] rfl ?_
      exact k_X7_note_49 X hA hr hT  _ h
    · replace h := h.2 hc
      refine r_aload_n (pc := 18) X 0 dX7_note_18 rfl rfl ?_
      refine fg_X7_50 (pc := 19) X hT.1 dX7_note_19 ?_
      refine r_iload_n (pc := 22) X 1 dX7_note_22 rfl rfl ?_
      refine r_aload_n (pc := 23) X 0 dX7_note_23 rfl rfl ?_
      refine fg_X7_50 (pc := 24) X hT.1 dX7_note_24 ?_
      refine r_iload_n (pc := 27) X 1 dX7_note_27 rfl rfl ?_
      refine r_bipush (pc := 28) (v := (nI 21)) X dX7_note_28 (by decide) ?_
      refine r_iadd (pc := 30) X dX7_note_30 ?_
      refine r_iald (pc := 31) X hT.2.2.2.2.2.2.2.2.2.1 h.1 dX7_note_31 ?_
      replace h := h.2
      refine r_iast (pc := 32) X hT.2.2.2.2.2.2.2.2.2.1 h.1 dX7_note_32 (fun F204 e1 => ?_)
      replace h := h.2 F204 e1
      refine r_iinc (pc := 33) (v := (v1 + (nI 1))) X 1 [(1, .int (v1 + (nI 1))), (0, .ref (ad 100))] dX7_note_33 rfl rfl (by decide) rfl ?_
      refine r_goto (pc := 36) (tgt := 11) X dX7_note_36 (by decide) ?_
      refine r_sub [1, 0] rfl ?_
      exact ih _ _ h
def wp_X7_note (K : HF → Prop) (F : HF) : Prop := ((¬ (F 100 23) = (nI 8)) → (wp_X7_note_49 K  F)) ∧ (((F 100 23) = (nI 8)) → (∃ m_, wp_X7_note_11 K  m_ F (nI 0)))
set_option maxRecDepth 100000 in
set_option maxHeartbeats 4000000 in
theorem c_X7_note {l : Launch} {D : va_G} {dA : Nat → ClassId} {ad : Nat → Nat} {R : List Nat} {F : HF} {K : HF → Prop} (hT : Md R) (h : wp_X7_note K F ) : MV l yX7_note cX7_note 2 rm_X7_note D dA ad R F [.ref (ad 100)] K := by
  refine MV.of (own := RX7) (by decide) rfl (Nat.le_of_ble_eq_true rfl) ?_
  intro p e s m args below meth c A hA X hr
  unfold wp_X7_note at h
  show J p l e rm_X7_note s m args below meth c 2 D dA ad R A (QV D dA ad R A below args s K) F 0 [(0, .ref (ad 100))] []
  refine r_aload_n (pc := 0) X 0 dX7_note_0 rfl rfl ?_
  refine fg_X7_78 (pc := 1) X hT.1 dX7_note_1 ?_
  refine r_bipush (pc := 4) (v := (nI 8)) X dX7_note_4 (by decide) ?_
  refine r_icmp_ne (pc := 6) (tgt := 49) X dX7_note_6 (by decide) (fun hc => ?_) (fun hc => ?_)
  · replace h := h.1 hc
    exact k_X7_note_49 X hA hr hT  _ h
  · replace h := h.2 hc
    refine r_iconst (pc := 9) (v := (nI 0)) X dX7_note_9 (by decide) ?_
    refine r_istore_n (pc := 10) X [(1, .int (nI 0)), (0, .ref (ad 100))] dX7_note_10 rfl (by decide) rfl ?_
    refine r_sub [1, 0] rfl ?_
    obtain ⟨n1, h⟩ := h
    exact k_X7_note_11 X hA hr hT  n1 _ _ h
theorem dX7_isShut_0 : decode cX7_isShut 0 = .ok (.aload_n 0, 1) := by decide +kernel
theorem dX7_isShut_1 : decode cX7_isShut 1 = .ok (.getfield 44, 3) := by decide +kernel
theorem dX7_isShut_4 : decode cX7_isShut 4 = .ok (.iconst 3, 1) := by decide +kernel
theorem dX7_isShut_5 : decode cX7_isShut 5 = .ok (.iaload, 1) := by decide +kernel
theorem dX7_isShut_6 : decode cX7_isShut 6 = .ok (.aload_n 0, 1) := by decide +kernel
theorem dX7_isShut_7 : decode cX7_isShut 7 = .ok (.getfield 35, 3) := by decide +kernel
theorem dX7_isShut_10 : decode cX7_isShut 10 = .ok (.invokestatic 170, 3) := by decide +kernel
theorem dX7_isShut_13 : decode cX7_isShut 13 = .ok (.ifCond .ne 13, 3) := by decide +kernel
theorem dX7_isShut_16 : decode cX7_isShut 16 = .ok (.aload_n 0, 1) := by decide +kernel
theorem dX7_isShut_17 : decode cX7_isShut 17 = .ok (.getfield 44, 3) := by decide +kernel
theorem dX7_isShut_20 : decode cX7_isShut 20 = .ok (.iconst 4, 1) := by decide +kernel
theorem dX7_isShut_21 : decode cX7_isShut 21 = .ok (.iaload, 1) := by decide +kernel
theorem dX7_isShut_22 : decode cX7_isShut 22 = .ok (.iconst 1, 1) := by decide +kernel
theorem dX7_isShut_23 : decode cX7_isShut 23 = .ok (.if_icmp .ne 7, 3) := by decide +kernel
theorem dX7_isShut_26 : decode cX7_isShut 26 = .ok (.iconst 1, 1) := by decide +kernel
theorem dX7_isShut_27 : decode cX7_isShut 27 = .ok (.goto 4, 3) := by decide +kernel
theorem dX7_isShut_30 : decode cX7_isShut 30 = .ok (.iconst 0, 1) := by decide +kernel
theorem dX7_isShut_31 : decode cX7_isShut 31 = .ok (.ireturn, 1) := by decide +kernel
theorem hd_X7_isShut : yX7_isShut.cls = RX7 ∧ yX7_isShut.cls ≠ "java/lang/invoke/MethodHandle" ∧ yX7_isShut.cls ≠ "java/lang/invoke/VarHandle" ∧ (parseMethodDescriptor yX7_isShut.desc).map (fun d => d.parameters.length) = some 0 := by decide +kernel
abbrev rm_X7_isShut : Room := { frames := 2, cells := 0, slots := 0, locals := 43 }
def wp_X7_isShut (K : Int32 → HF → Prop) (F : HF) : Prop := (vp_in (nI 3) 21) ∧ (wp_X7_isOn (fun x1 F1 => ((¬ x1 = (nI 0)) → (K (nI 1) F1)) ∧ ((x1 = (nI 0)) → ((vp_in (nI 4) 21) ∧ (((¬ (F1 120 (nI 4).toNatClampNeg) = (nI 1)) → (K (nI 0) F1)) ∧ (((F1 120 (nI 4).toNatClampNeg) = (nI 1)) → (K (nI 1) F1)))))) F (F 120 (nI 3).toNatClampNeg) (F 100 17))
set_option maxRecDepth 100000 in
set_option maxHeartbeats 4000000 in
theorem c_X7_isShut {l : Launch} {D : va_G} {dA : Nat → ClassId} {ad : Nat → Nat} {R : List Nat} {F : HF} {K : Int32 → HF → Prop} (hT : Md R) (h : wp_X7_isShut K F ) : MI l yX7_isShut cX7_isShut 1 .boolean rm_X7_isShut D dA ad R F [.ref (ad 100)] K := by
  refine MI.of (own := RX7) (by decide) rfl (Nat.le_of_ble_eq_true rfl) ?_
  intro p e s m args below meth c A hA X hr
  unfold wp_X7_isShut at h
  show J p l e rm_X7_isShut s m args below meth c 1 D dA ad R A (QI D dA ad R A below args s K) F 0 [(0, .ref (ad 100))] []
  refine r_aload_n (pc := 0) X 0 dX7_isShut_0 rfl rfl ?_
  refine fg_X7_44 (pc := 1) X hT.1 dX7_isShut_1 ?_
  refine r_iconst (pc := 4) (v := (nI 3)) X dX7_isShut_4 (by decide) ?_
  refine r_iald (pc := 5) X hT.2.2.2.2.2.2.2.1 h.1 dX7_isShut_5 ?_
  replace h := h.2
  refine r_aload_n (pc := 6) X 0 dX7_isShut_6 rfl rfl ?_
  refine fg_X7_35 (pc := 7) X hT.1 dX7_isShut_7 ?_
  refine r_callIS (pc := 10) (As := [.int (F 120 (nI 3).toNatClampNeg), .int (F 100 17)]) (st := []) X hA (c_X7_isOn  h) g_X7_170 hd_X7_isOn rfl rfl rfl ⟨Nat.le_of_ble_eq_true rfl, Nat.le_of_ble_eq_true rfl⟩ rfl (Nat.le_of_ble_eq_true rfl) dX7_isShut_10 (fun x1 F1 h => ?_)
  refine r_if_ne (pc := 13) (tgt := 26) X dX7_isShut_13 (by decide) (fun hc => ?_) (fun hc => ?_)
  · replace h := h.1 hc
    refine r_iconst (pc := 26) (v := (nI 1)) X dX7_isShut_26 (by decide) ?_
    refine r_goto (pc := 27) (tgt := 31) X dX7_isShut_27 (by decide) ?_
    exact r_zret (pc := 31) X hr dX7_isShut_31 nb1 h
  · replace h := h.2 hc
    refine r_aload_n (pc := 16) X 0 dX7_isShut_16 rfl rfl ?_
    refine fg_X7_44 (pc := 17) X hT.1 dX7_isShut_17 ?_
    refine r_iconst (pc := 20) (v := (nI 4)) X dX7_isShut_20 (by decide) ?_
    refine r_iald (pc := 21) X hT.2.2.2.2.2.2.2.1 h.1 dX7_isShut_21 ?_
    replace h := h.2
    refine r_iconst (pc := 22) (v := (nI 1)) X dX7_isShut_22 (by decide) ?_
    refine r_icmp_ne (pc := 23) (tgt := 30) X dX7_isShut_23 (by decide) (fun hc => ?_) (fun hc => ?_)
    · replace h := h.1 hc
      refine r_iconst (pc := 30) (v := (nI 0)) X dX7_isShut_30 (by decide) ?_
      exact r_zret (pc := 31) X hr dX7_isShut_31 nb0 h
    · replace h := h.2 hc
      refine r_iconst (pc := 26) (v := (nI 1)) X dX7_isShut_26 (by decide) ?_
      refine r_goto (pc := 27) (tgt := 31) X dX7_isShut_27 (by decide) ?_
      exact r_zret (pc := 31) X hr dX7_isShut_31 nb1 h
theorem dX7_mayJoin_0 : decode cX7_mayJoin 0 = .ok (.iconst 0, 1) := by decide +kernel
theorem dX7_mayJoin_1 : decode cX7_mayJoin 1 = .ok (.istore_n 3, 1) := by decide +kernel
theorem dX7_mayJoin_2 : decode cX7_mayJoin 2 = .ok (.iconst 0, 1) := by decide +kernel
theorem dX7_mayJoin_3 : decode cX7_mayJoin 3 = .ok (.istore 4, 2) := by decide +kernel
theorem dX7_mayJoin_5 : decode cX7_mayJoin 5 = .ok (.iload 4, 2) := by decide +kernel
theorem dX7_mayJoin_7 : decode cX7_mayJoin 7 = .ok (.aload_n 1, 1) := by decide +kernel
theorem dX7_mayJoin_8 : decode cX7_mayJoin 8 = .ok (.iconst 0, 1) := by decide +kernel
theorem dX7_mayJoin_9 : decode cX7_mayJoin 9 = .ok (.iaload, 1) := by decide +kernel
theorem dX7_mayJoin_10 : decode cX7_mayJoin 10 = .ok (.if_icmp .ge 29, 3) := by decide +kernel
theorem dX7_mayJoin_13 : decode cX7_mayJoin 13 = .ok (.iload_n 3, 1) := by decide +kernel
theorem dX7_mayJoin_14 : decode cX7_mayJoin 14 = .ok (.ifCond .ne 13, 3) := by decide +kernel
theorem dX7_mayJoin_17 : decode cX7_mayJoin 17 = .ok (.aload_n 1, 1) := by decide +kernel
theorem dX7_mayJoin_18 : decode cX7_mayJoin 18 = .ok (.iconst 5, 1) := by decide +kernel
theorem dX7_mayJoin_19 : decode cX7_mayJoin 19 = .ok (.iload 4, 2) := by decide +kernel
theorem dX7_mayJoin_21 : decode cX7_mayJoin 21 = .ok (.iadd, 1) := by decide +kernel
theorem dX7_mayJoin_22 : decode cX7_mayJoin 22 = .ok (.iaload, 1) := by decide +kernel
theorem dX7_mayJoin_23 : decode cX7_mayJoin 23 = .ok (.iload_n 2, 1) := by decide +kernel
theorem dX7_mayJoin_24 : decode cX7_mayJoin 24 = .ok (.if_icmp .ne 7, 3) := by decide +kernel
theorem dX7_mayJoin_27 : decode cX7_mayJoin 27 = .ok (.iconst 1, 1) := by decide +kernel
theorem dX7_mayJoin_28 : decode cX7_mayJoin 28 = .ok (.goto 4, 3) := by decide +kernel
theorem dX7_mayJoin_31 : decode cX7_mayJoin 31 = .ok (.iconst 0, 1) := by decide +kernel
theorem dX7_mayJoin_32 : decode cX7_mayJoin 32 = .ok (.istore_n 3, 1) := by decide +kernel
theorem dX7_mayJoin_33 : decode cX7_mayJoin 33 = .ok (.iinc 4 1, 3) := by decide +kernel
theorem dX7_mayJoin_36 : decode cX7_mayJoin 36 = .ok (.goto (-31), 3) := by decide +kernel
theorem dX7_mayJoin_39 : decode cX7_mayJoin 39 = .ok (.iload_n 3, 1) := by decide +kernel
theorem dX7_mayJoin_40 : decode cX7_mayJoin 40 = .ok (.ifCond .ne 11, 3) := by decide +kernel
theorem dX7_mayJoin_43 : decode cX7_mayJoin 43 = .ok (.aload_n 0, 1) := by decide +kernel
theorem dX7_mayJoin_44 : decode cX7_mayJoin 44 = .ok (.aload_n 1, 1) := by decide +kernel
theorem dX7_mayJoin_45 : decode cX7_mayJoin 45 = .ok (.invokevirtual 189, 3) := by decide +kernel
theorem dX7_mayJoin_48 : decode cX7_mayJoin 48 = .ok (.ifCond .eq 5, 3) := by decide +kernel
theorem dX7_mayJoin_51 : decode cX7_mayJoin 51 = .ok (.iconst 0, 1) := by decide +kernel
theorem dX7_mayJoin_52 : decode cX7_mayJoin 52 = .ok (.ireturn, 1) := by decide +kernel
theorem dX7_mayJoin_53 : decode cX7_mayJoin 53 = .ok (.aload_n 1, 1) := by decide +kernel
theorem dX7_mayJoin_54 : decode cX7_mayJoin 54 = .ok (.iconst 0, 1) := by decide +kernel
theorem dX7_mayJoin_55 : decode cX7_mayJoin 55 = .ok (.iaload, 1) := by decide +kernel
theorem dX7_mayJoin_56 : decode cX7_mayJoin 56 = .ok (.ifCond .le 35, 3) := by decide +kernel
theorem dX7_mayJoin_59 : decode cX7_mayJoin 59 = .ok (.aload_n 0, 1) := by decide +kernel
theorem dX7_mayJoin_60 : decode cX7_mayJoin 60 = .ok (.iload_n 2, 1) := by decide +kernel
theorem dX7_mayJoin_61 : decode cX7_mayJoin 61 = .ok (.invokevirtual 150, 3) := by decide +kernel
theorem dX7_mayJoin_64 : decode cX7_mayJoin 64 = .ok (.iconst 3, 1) := by decide +kernel
theorem dX7_mayJoin_65 : decode cX7_mayJoin 65 = .ok (.if_icmp .ne 20, 3) := by decide +kernel
theorem dX7_mayJoin_68 : decode cX7_mayJoin 68 = .ok (.aload_n 0, 1) := by decide +kernel
theorem dX7_mayJoin_69 : decode cX7_mayJoin 69 = .ok (.aload_n 1, 1) := by decide +kernel
theorem dX7_mayJoin_70 : decode cX7_mayJoin 70 = .ok (.iconst 5, 1) := by decide +kernel
theorem dX7_mayJoin_71 : decode cX7_mayJoin 71 = .ok (.aload_n 1, 1) := by decide +kernel
theorem dX7_mayJoin_72 : decode cX7_mayJoin 72 = .ok (.iconst 0, 1) := by decide +kernel
theorem dX7_mayJoin_73 : decode cX7_mayJoin 73 = .ok (.iaload, 1) := by decide +kernel
theorem dX7_mayJoin_74 : decode cX7_mayJoin 74 = .ok (.iadd, 1) := by decide +kernel
theorem dX7_mayJoin_75 : decode cX7_mayJoin 75 = .ok (.iconst 1, 1) := by decide +kernel
theorem dX7_mayJoin_76 : decode cX7_mayJoin 76 = .ok (.isub, 1) := by decide +kernel
theorem dX7_mayJoin_77 : decode cX7_mayJoin 77 = .ok (.iaload, 1) := by decide +kernel
theorem dX7_mayJoin_78 : decode cX7_mayJoin 78 = .ok (.invokevirtual 150, 3) := by decide +kernel
theorem dX7_mayJoin_81 : decode cX7_mayJoin 81 = .ok (.iconst 3, 1) := by decide +kernel
theorem dX7_mayJoin_82 : decode cX7_mayJoin 82 = .ok (.if_icmp .eq 7, 3) := by decide +kernel
theorem dX7_mayJoin_85 : decode cX7_mayJoin 85 = .ok (.iconst 1, 1) := by decide +kernel
theorem dX7_mayJoin_86 : decode cX7_mayJoin 86 = .ok (.goto 4, 3) := by decide +kernel
theorem dX7_mayJoin_89 : decode cX7_mayJoin 89 = .ok (.iconst 0, 1) := by decide +kernel
theorem dX7_mayJoin_90 : decode cX7_mayJoin 90 = .ok (.ireturn, 1) := by decide +kernel
theorem dX7_mayJoin_91 : decode cX7_mayJoin 91 = .ok (.iconst 0, 1) := by decide +kernel
theorem dX7_mayJoin_92 : decode cX7_mayJoin 92 = .ok (.istore 4, 2) := by decide +kernel
theorem dX7_mayJoin_94 : decode cX7_mayJoin 94 = .ok (.iconst 0, 1) := by decide +kernel
theorem dX7_mayJoin_95 : decode cX7_mayJoin 95 = .ok (.istore 5, 2) := by decide +kernel
theorem dX7_mayJoin_97 : decode cX7_mayJoin 97 = .ok (.iload 5, 2) := by decide +kernel
theorem dX7_mayJoin_99 : decode cX7_mayJoin 99 = .ok (.aload_n 0, 1) := by decide +kernel
theorem dX7_mayJoin_100 : decode cX7_mayJoin 100 = .ok (.getfield 22, 3) := by decide +kernel
theorem dX7_mayJoin_103 : decode cX7_mayJoin 103 = .ok (.if_icmp .ge 31, 3) := by decide +kernel
theorem dX7_mayJoin_106 : decode cX7_mayJoin 106 = .ok (.iload 4, 2) := by decide +kernel
theorem dX7_mayJoin_108 : decode cX7_mayJoin 108 = .ok (.ifCond .ne 13, 3) := by decide +kernel
theorem dX7_mayJoin_111 : decode cX7_mayJoin 111 = .ok (.aload_n 0, 1) := by decide +kernel
theorem dX7_mayJoin_112 : decode cX7_mayJoin 112 = .ok (.iload 5, 2) := by decide +kernel
theorem dX7_mayJoin_114 : decode cX7_mayJoin 114 = .ok (.invokevirtual 150, 3) := by decide +kernel
theorem dX7_mayJoin_117 : decode cX7_mayJoin 117 = .ok (.iconst 1, 1) := by decide +kernel
theorem dX7_mayJoin_118 : decode cX7_mayJoin 118 = .ok (.if_icmp .ne 7, 3) := by decide +kernel
theorem dX7_mayJoin_121 : decode cX7_mayJoin 121 = .ok (.iconst 1, 1) := by decide +kernel
theorem dX7_mayJoin_122 : decode cX7_mayJoin 122 = .ok (.goto 4, 3) := by decide +kernel
theorem dX7_mayJoin_125 : decode cX7_mayJoin 125 = .ok (.iconst 0, 1) := by decide +kernel
theorem dX7_mayJoin_126 : decode cX7_mayJoin 126 = .ok (.istore 4, 2) := by decide +kernel
theorem dX7_mayJoin_128 : decode cX7_mayJoin 128 = .ok (.iinc 5 1, 3) := by decide +kernel
theorem dX7_mayJoin_131 : decode cX7_mayJoin 131 = .ok (.goto (-34), 3) := by decide +kernel
theorem dX7_mayJoin_134 : decode cX7_mayJoin 134 = .ok (.iload 4, 2) := by decide +kernel
theorem dX7_mayJoin_136 : decode cX7_mayJoin 136 = .ok (.ifCond .eq 12, 3) := by decide +kernel
theorem dX7_mayJoin_139 : decode cX7_mayJoin 139 = .ok (.aload_n 0, 1) := by decide +kernel
theorem dX7_mayJoin_140 : decode cX7_mayJoin 140 = .ok (.iload_n 2, 1) := by decide +kernel
theorem dX7_mayJoin_141 : decode cX7_mayJoin 141 = .ok (.invokevirtual 150, 3) := by decide +kernel
theorem dX7_mayJoin_144 : decode cX7_mayJoin 144 = .ok (.iconst 1, 1) := by decide +kernel
theorem dX7_mayJoin_145 : decode cX7_mayJoin 145 = .ok (.if_icmp .ne 7, 3) := by decide +kernel
theorem dX7_mayJoin_148 : decode cX7_mayJoin 148 = .ok (.iconst 1, 1) := by decide +kernel
theorem dX7_mayJoin_149 : decode cX7_mayJoin 149 = .ok (.goto 4, 3) := by decide +kernel
theorem dX7_mayJoin_152 : decode cX7_mayJoin 152 = .ok (.iconst 0, 1) := by decide +kernel
theorem dX7_mayJoin_153 : decode cX7_mayJoin 153 = .ok (.ireturn, 1) := by decide +kernel
theorem hd_X7_mayJoin : yX7_mayJoin.cls = RX7 ∧ yX7_mayJoin.cls ≠ "java/lang/invoke/MethodHandle" ∧ yX7_mayJoin.cls ≠ "java/lang/invoke/VarHandle" ∧ (parseMethodDescriptor yX7_mayJoin.desc).map (fun d => d.parameters.length) = some 2 := by decide +kernel
abbrev rm_X7_mayJoin : Room := { frames := 3, cells := 0, slots := 0, locals := 67 }
def wp_X7_mayJoin_126 (K : Int32 → HF → Prop) (L97 : HF → Int32 → Int32 → Int32 → Prop) (r1 : Nat) (z1 : Nat) (F : HF) (v2 : Int32) (v5 : Int32) (s0 : Int32) : Prop := L97 F v2 s0 (v5 + (nI 1))
set_option maxRecDepth 100000 in
set_option maxHeartbeats 4000000 in
theorem k_X7_mayJoin_126 {p : Program} {l : Launch} {e : Env} {s : State} {m : MethodId} {args : Array Value} {below : List Frame} {meth : Method} {c : Code} {D : va_G} {dA : Nat → ClassId} {ad : Nat → Nat} {R : List Nat} {A : Nat → Prop} {K : Int32 → HF → Prop} {L97 : HF → Int32 → Int32 → Int32 → Prop} {r1 : Nat} {z1 : Nat} (X : Cx p s m args meth c cX7_mayJoin 6 RX7 D dA) (hA : ∀ q, s.heap.size ≤ q → A q) (hr : meth.sig.returnType = some .boolean) (hT : Md R) (hr1 : IA R r1 z1) (hL97 : ∀ (F : HF) (v2 : Int32) (v4 : Int32) (v5 : Int32), L97 F v2 v4 v5 → J p l e rm_X7_mayJoin s m args below meth c 6 D dA ad R A (QI D dA ad R A below args s K) F 97 [(0, .ref (ad 100)), (2, .int v2), (4, .int v4), (5, .int v5)] []) : ∀ (F : HF) (v2 : Int32) (v5 : Int32) (s0 : Int32), wp_X7_mayJoin_126 K L97 r1 z1 F v2 v5 s0 → J p l e rm_X7_mayJoin s m args below meth c 6 D dA ad R A (QI D dA ad R A below args s K) F 126 [(0, .ref (ad 100)), (2, .int v2), (5, .int v5)] [.int s0] := by
  intro F v2 v5 s0 h
  unfold wp_X7_mayJoin_126 at h
  refine r_istore (pc := 126) X [(4, .int s0), (0, .ref (ad 100)), (2, .int v2), (5, .int v5)] dX7_mayJoin_126 (by decide) rfl ?_
  refine r_iinc (pc := 128) (v := (v5 + (nI 1))) X 3 [(5, .int (v5 + (nI 1))), (4, .int s0), (0, .ref (ad 100)), (2, .int v2)] dX7_mayJoin_128 rfl rfl (by decide) rfl ?_
  refine r_goto (pc := 131) (tgt := 97) X dX7_mayJoin_131 (by decide) ?_
  refine r_sub [2, 3, 1, 0] rfl ?_
  exact hL97 _ _ _ _ h
def wp_X7_mayJoin_121 (K : Int32 → HF → Prop) (L97 : HF → Int32 → Int32 → Int32 → Prop) (r1 : Nat) (z1 : Nat) (F : HF) (v2 : Int32) (v5 : Int32) : Prop := wp_X7_mayJoin_126 K L97 r1 z1  F v2 v5 (nI 1)
set_option maxRecDepth 100000 in
set_option maxHeartbeats 4000000 in
theorem k_X7_mayJoin_121 {p : Program} {l : Launch} {e : Env} {s : State} {m : MethodId} {args : Array Value} {below : List Frame} {meth : Method} {c : Code} {D : va_G} {dA : Nat → ClassId} {ad : Nat → Nat} {R : List Nat} {A : Nat → Prop} {K : Int32 → HF → Prop} {L97 : HF → Int32 → Int32 → Int32 → Prop} {r1 : Nat} {z1 : Nat} (X : Cx p s m args meth c cX7_mayJoin 6 RX7 D dA) (hA : ∀ q, s.heap.size ≤ q → A q) (hr : meth.sig.returnType = some .boolean) (hT : Md R) (hr1 : IA R r1 z1) (hL97 : ∀ (F : HF) (v2 : Int32) (v4 : Int32) (v5 : Int32), L97 F v2 v4 v5 → J p l e rm_X7_mayJoin s m args below meth c 6 D dA ad R A (QI D dA ad R A below args s K) F 97 [(0, .ref (ad 100)), (2, .int v2), (4, .int v4), (5, .int v5)] []) : ∀ (F : HF) (v2 : Int32) (v5 : Int32), wp_X7_mayJoin_121 K L97 r1 z1 F v2 v5 → J p l e rm_X7_mayJoin s m args below meth c 6 D dA ad R A (QI D dA ad R A below args s K) F 121 [(0, .ref (ad 100)), (2, .int v2), (5, .int v5)] [] := by
  intro F v2 v5 h
  unfold wp_X7_mayJoin_121 at h
  refine r_iconst (pc := 121) (v := (nI 1)) X dX7_mayJoin_121 (by decide) ?_
  refine r_goto (pc := 122) (tgt := 126) X dX7_mayJoin_122 (by decide) ?_
  exact k_X7_mayJoin_126 X hA hr hT hr1 hL97 _ _ _ _ h
def wp_X7_mayJoin_97 (K : Int32 → HF → Prop) (r1 : Nat) (z1 : Nat) : Nat → HF → Int32 → Int32 → Int32 → Prop
  | 0 => fun _ _ _ _ => False
  | n97_ + 1 => fun F v2 v4 v5 => (((F 100 13) ≤ v5) → (((v4 = (nI 0)) → (K (nI 1) F)) ∧ ((¬ v4 = (nI 0)) → (wp_X7_kindOf (fun x2 F202 => ((¬ x2 = (nI 1)) → (K (nI 0) F202)) ∧ ((x2 = (nI 1)) → (K (nI 1) F202))) F v2)))) ∧ ((¬ (F 100 13) ≤ v5) → (((¬ v4 = (nI 0)) → (wp_X7_mayJoin_121 K (wp_X7_mayJoin_97 K r1 z1 n97_) r1 z1  F v2 v5)) ∧ ((v4 = (nI 0)) → (wp_X7_kindOf (fun x3 F403 => ((¬ x3 = (nI 1)) → (wp_X7_mayJoin_126 K (wp_X7_mayJoin_97 K r1 z1 n97_) r1 z1  F403 v2 v5 (nI 0))) ∧ ((x3 = (nI 1)) → (wp_X7_mayJoin_121 K (wp_X7_mayJoin_97 K r1 z1 n97_) r1 z1  F403 v2 v5))) F v5))))
set_option maxRecDepth 100000 in
set_option maxHeartbeats 4000000 in
theorem k_X7_mayJoin_97 {p : Program} {l : Launch} {e : Env} {s : State} {m : MethodId} {args : Array Value} {below : List Frame} {meth : Method} {c : Code} {D : va_G} {dA : Nat → ClassId} {ad : Nat → Nat} {R : List Nat} {A : Nat → Prop} {K : Int32 → HF → Prop} {r1 : Nat} {z1 : Nat} (X : Cx p s m args meth c cX7_mayJoin 6 RX7 D dA) (hA : ∀ q, s.heap.size ≤ q → A q) (hr : meth.sig.returnType = some .boolean) (hT : Md R) (hr1 : IA R r1 z1) : ∀ (n_ : Nat) (F : HF) (v2 : Int32) (v4 : Int32) (v5 : Int32), wp_X7_mayJoin_97 K r1 z1 n_ F v2 v4 v5 → J p l e rm_X7_mayJoin s m args below meth c 6 D dA ad R A (QI D dA ad R A below args s K) F 97 [(0, .ref (ad 100)), (2, .int v2), (4, .int v4), (5, .int v5)] [] := by
  intro n_
  induction n_ with
  | zero => intro F v2 v4 v5 h; exact h.elim
  | succ n_ ih =>
    intro F v2 v4 v5 h
    unfold wp_X7_mayJoin_97 at h
    refine r_iload (pc := 97) X 3 dX7_mayJoin_97 rfl ?_
    refine r_aload_n (pc := 99) X 0 dX7_mayJoin_99 rfl rfl ?_
    refine fg_X7_22 (pc := 100) X hT.1 dX7_mayJoin_100 ?_
    refine r_icmp_ge (pc := 103) (tgt := 134) X dX7_mayJoin_103 (by decide) (fun hc => ?_) (fun hc => ?_)
    · replace h := h.1 hc
      refine r_iload (pc := 134) X 2 dX7_mayJoin_134 rfl ?_
      refine r_if_eq (pc := 136) (tgt := 148) X dX7_mayJoin_136 (by decide) (fun hc => ?_) (fun hc => ?_)
      · replace h := h.1 hc
        refine r_iconst (pc := 148) (v := (nI 1)) X dX7_mayJoin_148 (by decide) ?_
        refine r_goto (pc := 149) (tgt := 153) X dX7_mayJoin_149 (by decide) ?_
        exact r_zret (pc := 153) X hr dX7_mayJoin_153 nb1 h
      · replace h := h.2 hc
        refine r_aload_n (pc := 139) X 0 dX7_mayJoin_139 rfl rfl ?_
        refine r_iload_n (pc := 140) X 1 dX7_mayJoin_140 rfl rfl ?_
        refine r_callIV (pc := 141) (As := [.int v2]) (st := []) X hA (c_X7_kindOf hT h) g_X7_150 cl_X7 hT.1 hd_X7_kindOf rfl rfl rfl ⟨Nat.le_of_ble_eq_true rfl, Nat.le_of_ble_eq_true rfl⟩ rfl (Nat.le_of_ble_eq_true rfl) dX7_mayJoin_141 (fun x2 F202 h => ?_)
        refine r_iconst (pc := 144) (v := (nI 1)) X dX7_mayJoin_144 (by decide) ?_
        refine r_icmp_ne (pc := 145) (tgt := 152) X dX7_mayJoin_145 (by decide) (fun hc => ?_) (fun hc => ?_)
        · replace h := h.1 hc
          refine r_iconst (pc := 152) (v := (nI 0)) X dX7_mayJoin_152 (by decide) ?_
          exact r_zret (pc := 153) X hr dX7_mayJoin_153 nb0 h
        · replace h := h.2 hc
          refine r_iconst (pc := 148) (v := (nI 1)) X dX7_mayJoin_148 (by decide) ?_
          refine r_goto (pc := 149) (tgt := 153) X dX7_mayJoin_149 (by decide) ?_
          exact r_zret (pc := 153) X hr dX7_mayJoin_153 nb1 h
    · replace h := h.2 hc
      refine r_iload (pc := 106) X 2 dX7_mayJoin_106 rfl ?_
      refine r_if_ne (pc := 108) (tgt := 121) X dX7_mayJoin_108 (by decide) (fun hc => ?_) (fun hc => ?_)
      · replace h := h.1 hc
        refine r_sub [0, 1, 3] rfl ?_
        exact k_X7_mayJoin_121 X hA hr hT hr1 ih _ _ _ h
      · replace h := h.2 hc
        refine r_aload_n (pc := 111) X 0 dX7_mayJoin_111 rfl rfl ?_
        refine r_iload (pc := 112) X 3 dX7_mayJoin_112 rfl ?_
        refine r_callIV (pc := 114) (As := [.int v5]) (st := []) X hA (c_X7_kindOf hT h) g_X7_150 cl_X7 hT.1 hd_X7_kindOf rfl rfl rfl ⟨Nat.le_of_ble_eq_true rfl, Nat.le_of_ble_eq_true rfl⟩ rfl (Nat.le_of_ble_eq_true rfl) dX7_mayJoin_114 (fun x3 F403 h => ?_)
        refine r_iconst (pc := 117) (v := (nI 1)) X dX7_mayJoin_117 (by decide) ?_
        refine r_icmp_ne (pc := 118) (tgt := 125) X dX7_mayJoin_118 (by decide) (fun hc => ?_) (fun hc => ?_)
        · replace h := h.1 hc
          refine r_iconst (pc := 125) (v := (nI 0)) X dX7_mayJoin_125 (by decide) ?_
          refine r_sub [0, 1, 3] rfl ?_
          exact k_X7_mayJoin_126 X hA hr hT hr1 ih _ _ _ _ h
        · replace h := h.2 hc
          refine r_sub [0, 1, 3] rfl ?_
          exact k_X7_mayJoin_121 X hA hr hT hr1 ih _ _ _ h
def wp_X7_mayJoin_32 (K : Int32 → HF → Prop) (L5 : HF → Int32 → Int32 → Int32 → Prop) (r1 : Nat) (z1 : Nat) (F : HF) (v2 : Int32) (v4 : Int32) (s0 : Int32) : Prop := L5 F v2 s0 (v4 + (nI 1))
set_option maxRecDepth 100000 in
set_option maxHeartbeats 4000000 in
theorem k_X7_mayJoin_32 {p : Program} {l : Launch} {e : Env} {s : State} {m : MethodId} {args : Array Value} {below : List Frame} {meth : Method} {c : Code} {D : va_G} {dA : Nat → ClassId} {ad : Nat → Nat} {R : List Nat} {A : Nat → Prop} {K : Int32 → HF → Prop} {L5 : HF → Int32 → Int32 → Int32 → Prop} {r1 : Nat} {z1 : Nat} (X : Cx p s m args meth c cX7_mayJoin 6 RX7 D dA) (hA : ∀ q, s.heap.size ≤ q → A q) (hr : meth.sig.returnType = some .boolean) (hT : Md R) (hr1 : IA R r1 z1) (hL5 : ∀ (F : HF) (v2 : Int32) (v3 : Int32) (v4 : Int32), L5 F v2 v3 v4 → J p l e rm_X7_mayJoin s m args below meth c 6 D dA ad R A (QI D dA ad R A below args s K) F 5 [(0, .ref (ad 100)), (1, .ref (ad r1)), (2, .int v2), (3, .int v3), (4, .int v4)] []) : ∀ (F : HF) (v2 : Int32) (v4 : Int32) (s0 : Int32), wp_X7_mayJoin_32 K L5 r1 z1 F v2 v4 s0 → J p l e rm_X7_mayJoin s m args below meth c 6 D dA ad R A (QI D dA ad R A below args s K) F 32 [(0, .ref (ad 100)), (1, .ref (ad r1)), (2, .int v2), (4, .int v4)] [.int s0] := by
  intro F v2 v4 s0 h
  unfold wp_X7_mayJoin_32 at h
  refine r_istore_n (pc := 32) X [(3, .int s0), (0, .ref (ad 100)), (1, .ref (ad r1)), (2, .int v2), (4, .int v4)] dX7_mayJoin_32 rfl (by decide) rfl ?_
  refine r_iinc (pc := 33) (v := (v4 + (nI 1))) X 4 [(4, .int (v4 + (nI 1))), (3, .int s0), (0, .ref (ad 100)), (1, .ref (ad r1)), (2, .int v2)] dX7_mayJoin_33 rfl rfl (by decide) rfl ?_
  refine r_goto (pc := 36) (tgt := 5) X dX7_mayJoin_36 (by decide) ?_
  refine r_sub [2, 3, 4, 1, 0] rfl ?_
  exact hL5 _ _ _ _ h
def wp_X7_mayJoin_27 (K : Int32 → HF → Prop) (L5 : HF → Int32 → Int32 → Int32 → Prop) (r1 : Nat) (z1 : Nat) (F : HF) (v2 : Int32) (v4 : Int32) : Prop := wp_X7_mayJoin_32 K L5 r1 z1  F v2 v4 (nI 1)
set_option maxRecDepth 100000 in
set_option maxHeartbeats 4000000 in
theorem k_X7_mayJoin_27 {p : Program} {l : Launch} {e : Env} {s : State} {m : MethodId} {args : Array Value} {below : List Frame} {meth : Method} {c : Code} {D : va_G} {dA : Nat → ClassId} {ad : Nat → Nat} {R : List Nat} {A : Nat → Prop} {K : Int32 → HF → Prop} {L5 : HF → Int32 → Int32 → Int32 → Prop} {r1 : Nat} {z1 : Nat} (X : Cx p s m args meth c cX7_mayJoin 6 RX7 D dA) (hA : ∀ q, s.heap.size ≤ q → A q) (hr : meth.sig.returnType = some .boolean) (hT : Md R) (hr1 : IA R r1 z1) (hL5 : ∀ (F : HF) (v2 : Int32) (v3 : Int32) (v4 : Int32), L5 F v2 v3 v4 → J p l e rm_X7_mayJoin s m args below meth c 6 D dA ad R A (QI D dA ad R A below args s K) F 5 [(0, .ref (ad 100)), (1, .ref (ad r1)), (2, .int v2), (3, .int v3), (4, .int v4)] []) : ∀ (F : HF) (v2 : Int32) (v4 : Int32), wp_X7_mayJoin_27 K L5 r1 z1 F v2 v4 → J p l e rm_X7_mayJoin s m args below meth c 6 D dA ad R A (QI D dA ad R A below args s K) F 27 [(0, .ref (ad 100)), (1, .ref (ad r1)), (2, .int v2), (4, .int v4)] [] := by
  intro F v2 v4 h
  unfold wp_X7_mayJoin_27 at h
  refine r_iconst (pc := 27) (v := (nI 1)) X dX7_mayJoin_27 (by decide) ?_
  refine r_goto (pc := 28) (tgt := 32) X dX7_mayJoin_28 (by decide) ?_
  exact k_X7_mayJoin_32 X hA hr hT hr1 hL5 _ _ _ _ h
def wp_X7_mayJoin_5 (K : Int32 → HF → Prop) (r1 : Nat) (z1 : Nat) : Nat → HF → Int32 → Int32 → Int32 → Prop
  | 0 => fun _ _ _ _ => False
  | n5_ + 1 => fun F v2 v3 v4 => (vp_in (nI 0) z1) ∧ ((((F r1 (nI 0).toNatClampNeg) ≤ v4) → (((¬ v3 = (nI 0)) → (K (nI 0) F)) ∧ ((v3 = (nI 0)) → (wp_X7_isWhole (fun x1 F101 => ((x1 = (nI 0)) → ((vp_in (nI 0) z1) ∧ ((((F101 r1 (nI 0).toNatClampNeg) ≤ (nI 0)) → (∃ m_, wp_X7_mayJoin_97 K r1 z1  m_ F101 v2 (nI 0) (nI 0))) ∧ ((¬ (F101 r1 (nI 0).toNatClampNeg) ≤ (nI 0)) → (wp_X7_kindOf (fun x4 F404 => ((¬ x4 = (nI 3)) → (K (nI 1) F404)) ∧ ((x4 = (nI 3)) → ((vp_in (nI 0) z1) ∧ ((vp_in (((nI 5) + (F404 r1 (nI 0).toNatClampNeg)) - (nI 1)) z1) ∧ (wp_X7_kindOf (fun x5 F405 => ((x5 = (nI 3)) → (K (nI 0) F405)) ∧ ((¬ x5 = (nI 3)) → (K (nI 1) F405))) F404 (F404 r1 (((nI 5) + (F404 r1 (nI 0).toNatClampNeg)) - (nI 1)).toNatClampNeg)))))) F101 v2))))) ∧ ((¬ x1 = (nI 0)) → (K (nI 0) F101))) F r1 z1)))) ∧ ((¬ (F r1 (nI 0).toNatClampNeg) ≤ v4) → (((¬ v3 = (nI 0)) → (wp_X7_mayJoin_27 K (wp_X7_mayJoin_5 K r1 z1 n5_) r1 z1  F v2 v4)) ∧ ((v3 = (nI 0)) → ((vp_in ((nI 5) + v4) z1) ∧ (((¬ (F r1 ((nI 5) + v4).toNatClampNeg) = v2) → (wp_X7_mayJoin_32 K (wp_X7_mayJoin_5 K r1 z1 n5_) r1 z1  F v2 v4 (nI 0))) ∧ (((F r1 ((nI 5) + v4).toNatClampNeg) = v2) → (wp_X7_mayJoin_27 K (wp_X7_mayJoin_5 K r1 z1 n5_) r1 z1  F v2 v4))))))))
set_option maxRecDepth 100000 in
set_option maxHeartbeats 4000000 in
theorem k_X7_mayJoin_5 {p : Program} {l : Launch} {e : Env} {s : State} {m : MethodId} {args : Array Value} {below : List Frame} {meth : Method} {c : Code} {D : va_G} {dA : Nat → ClassId} {ad : Nat → Nat} {R : List Nat} {A : Nat → Prop} {K : Int32 → HF → Prop} {r1 : Nat} {z1 : Nat} (X : Cx p s m args meth c cX7_mayJoin 6 RX7 D dA) (hA : ∀ q, s.heap.size ≤ q → A q) (hr : meth.sig.returnType = some .boolean) (hT : Md R) (hr1 : IA R r1 z1) : ∀ (n_ : Nat) (F : HF) (v2 : Int32) (v3 : Int32) (v4 : Int32), wp_X7_mayJoin_5 K r1 z1 n_ F v2 v3 v4 → J p l e rm_X7_mayJoin s m args below meth c 6 D dA ad R A (QI D dA ad R A below args s K) F 5 [(0, .ref (ad 100)), (1, .ref (ad r1)), (2, .int v2), (3, .int v3), (4, .int v4)] [] := by
  intro n_
  induction n_ with
  | zero => intro F v2 v3 v4 h; exact h.elim
  | succ n_ ih =>
    intro F v2 v3 v4 h
    unfold wp_X7_mayJoin_5 at h
    refine r_iload (pc := 5) X 4 dX7_mayJoin_5 rfl ?_
    refine r_aload_n (pc := 7) X 1 dX7_mayJoin_7 rfl rfl ?_
    refine r_iconst (pc := 8) (v := (nI 0)) X dX7_mayJoin_8 (by decide) ?_
    refine r_iald (pc := 9) X hr1 h.1 dX7_mayJoin_9 ?_
    replace h := h.2
    refine r_icmp_ge (pc := 10) (tgt := 39) X dX7_mayJoin_10 (by decide) (fun hc => ?_) (fun hc => ?_)
    · replace h := h.1 hc
      refine r_iload_n (pc := 39) X 3 dX7_mayJoin_39 rfl rfl ?_
      refine r_if_ne (pc := 40) (tgt := 51) X dX7_mayJoin_40 (by decide) (fun hc => ?_) (fun hc => ?_)
      · replace h := h.1 hc
        refine r_iconst (pc := 51) (v := (nI 0)) X dX7_mayJoin_51 (by decide) ?_
        exact r_zret (pc := 52) X hr dX7_mayJoin_52 nb0 h
      · replace h := h.2 hc
        refine r_aload_n (pc := 43) X 0 dX7_mayJoin_43 rfl rfl ?_
        refine r_aload_n (pc := 44) X 1 dX7_mayJoin_44 rfl rfl ?_
        refine r_callIV (pc := 45) (As := [.ref (ad r1)]) (st := []) X hA (c_X7_isWhole hT hr1 h) g_X7_189 cl_X7 hT.1 hd_X7_isWhole rfl rfl rfl ⟨Nat.le_of_ble_eq_true rfl, Nat.le_of_ble_eq_true rfl⟩ rfl (Nat.le_of_ble_eq_true rfl) dX7_mayJoin_45 (fun x1 F101 h => ?_)
        refine r_if_eq (pc := 48) (tgt := 53) X dX7_mayJoin_48 (by decide) (fun hc => ?_) (fun hc => ?_)
        · replace h := h.1 hc
          refine r_aload_n (pc := 53) X 1 dX7_mayJoin_53 rfl rfl ?_
          refine r_iconst (pc := 54) (v := (nI 0)) X dX7_mayJoin_54 (by decide) ?_
          refine r_iald (pc := 55) X hr1 h.1 dX7_mayJoin_55 ?_
          replace h := h.2
          refine r_if_le (pc := 56) (tgt := 91) X dX7_mayJoin_56 (by decide) (fun hc => ?_) (fun hc => ?_)
          · replace h := h.1 hc
            refine r_iconst (pc := 91) (v := (nI 0)) X dX7_mayJoin_91 (by decide) ?_
            refine r_istore (pc := 92) X [(4, .int (nI 0)), (0, .ref (ad 100)), (1, .ref (ad r1)), (2, .int v2), (3, .int v3)] dX7_mayJoin_92 (by decide) rfl ?_
            refine r_iconst (pc := 94) (v := (nI 0)) X dX7_mayJoin_94 (by decide) ?_
            refine r_istore (pc := 95) X [(5, .int (nI 0)), (4, .int (nI 0)), (0, .ref (ad 100)), (1, .ref (ad r1)), (2, .int v2), (3, .int v3)] dX7_mayJoin_95 (by decide) rfl ?_
            refine r_sub [2, 4, 1, 0] rfl ?_
            obtain ⟨n1, h⟩ := h
            exact k_X7_mayJoin_97 X hA hr hT hr1  n1 _ _ _ _ h
          · replace h := h.2 hc
            refine r_aload_n (pc := 59) X 0 dX7_mayJoin_59 rfl rfl ?_
            refine r_iload_n (pc := 60) X 2 dX7_mayJoin_60 rfl rfl ?_
            refine r_callIV (pc := 61) (As := [.int v2]) (st := []) X hA (c_X7_kindOf hT h) g_X7_150 cl_X7 hT.1 hd_X7_kindOf rfl rfl rfl ⟨Nat.le_of_ble_eq_true rfl, Nat.le_of_ble_eq_true rfl⟩ rfl (Nat.le_of_ble_eq_true rfl) dX7_mayJoin_61 (fun x4 F404 h => ?_)
            refine r_iconst (pc := 64) (v := (nI 3)) X dX7_mayJoin_64 (by decide) ?_
            refine r_icmp_ne (pc := 65) (tgt := 85) X dX7_mayJoin_65 (by decide) (fun hc => ?_) (fun hc => ?_)
            · replace h := h.1 hc
              refine r_iconst (pc := 85) (v := (nI 1)) X dX7_mayJoin_85 (by decide) ?_
              refine r_goto (pc := 86) (tgt := 90) X dX7_mayJoin_86 (by decide) ?_
              exact r_zret (pc := 90) X hr dX7_mayJoin_90 nb1 h
            · replace h := h.2 hc
              refine r_aload_n (pc := 68) X 0 dX7_mayJoin_68 rfl rfl ?_
              refine r_aload_n (pc := 69) X 1 dX7_mayJoin_69 rfl rfl ?_
              refine r_iconst (pc := 70) (v := (nI 5)) X dX7_mayJoin_70 (by decide) ?_
              refine r_aload_n (pc := 71) X 1 dX7_mayJoin_71 rfl rfl ?_
              refine r_iconst (pc := 72) (v := (nI 0)) X dX7_mayJoin_72 (by decide) ?_
              refine r_iald (pc := 73) X hr1 h.1 dX7_mayJoin_73 ?_
              replace h := h.2
              refine r_iadd (pc := 74) X dX7_mayJoin_74 ?_
              refine r_iconst (pc := 75) (v := (nI 1)) X dX7_mayJoin_75 (by decide) ?_
              refine r_isub (pc := 76) X dX7_mayJoin_76 ?_
              refine r_iald (pc := 77) X hr1 h.1 dX7_mayJoin_77 ?_
              replace h := h.2
              refine r_callIV (pc := 78) (As := [.int (F404 r1 (((nI 5) + (F404 r1 (nI 0).toNatClampNeg)) - (nI 1)).toNatClampNeg)]) (st := []) X hA (c_X7_kindOf hT h) g_X7_150 cl_X7 hT.1 hd_X7_kindOf rfl rfl rfl ⟨Nat.le_of_ble_eq_true rfl, Nat.le_of_ble_eq_true rfl⟩ rfl (Nat.le_of_ble_eq_true rfl) dX7_mayJoin_78 (fun x5 F405 h => ?_)
              refine r_iconst (pc := 81) (v := (nI 3)) X dX7_mayJoin_81 (by decide) ?_
              refine r_icmp_eq (pc := 82) (tgt := 89) X dX7_mayJoin_82 (by decide) (fun hc => ?_) (fun hc => ?_)
              · replace h := h.1 hc
                refine r_iconst (pc := 89) (v := (nI 0)) X dX7_mayJoin_89 (by decide) ?_
                exact r_zret (pc := 90) X hr dX7_mayJoin_90 nb0 h
              · replace h := h.2 hc
                refine r_iconst (pc := 85) (v := (nI 1)) X dX7_mayJoin_85 (by decide) ?_
                refine r_goto (pc := 86) (tgt := 90) X dX7_mayJoin_86 (by decide) ?_
                exact r_zret (pc := 90) X hr dX7_mayJoin_90 nb1 h
        · replace h := h.2 hc
          refine r_iconst (pc := 51) (v := (nI 0)) X dX7_mayJoin_51 (by decide) ?_
          exact r_zret (pc := 52) X hr dX7_mayJoin_52 nb0 h
    · replace h := h.2 hc
      refine r_iload_n (pc := 13) X 3 dX7_mayJoin_13 rfl rfl ?_
      refine r_if_ne (pc := 14) (tgt := 27) X dX7_mayJoin_14 (by decide) (fun hc => ?_) (fun hc => ?_)
      · replace h := h.1 hc
        refine r_sub [0, 1, 2, 4] rfl ?_
        exact k_X7_mayJoin_27 X hA hr hT hr1 ih _ _ _ h
      · replace h := h.2 hc
        refine r_aload_n (pc := 17) X 1 dX7_mayJoin_17 rfl rfl ?_
        refine r_iconst (pc := 18) (v := (nI 5)) X dX7_mayJoin_18 (by decide) ?_
        refine r_iload (pc := 19) X 4 dX7_mayJoin_19 rfl ?_
        refine r_iadd (pc := 21) X dX7_mayJoin_21 ?_
        refine r_iald (pc := 22) X hr1 h.1 dX7_mayJoin_22 ?_
        replace h := h.2
        refine r_iload_n (pc := 23) X 2 dX7_mayJoin_23 rfl rfl ?_
        refine r_icmp_ne (pc := 24) (tgt := 31) X dX7_mayJoin_24 (by decide) (fun hc => ?_) (fun hc => ?_)
        · replace h := h.1 hc
          refine r_iconst (pc := 31) (v := (nI 0)) X dX7_mayJoin_31 (by decide) ?_
          refine r_sub [0, 1, 2, 4] rfl ?_
          exact k_X7_mayJoin_32 X hA hr hT hr1 ih _ _ _ _ h
        · replace h := h.2 hc
          refine r_sub [0, 1, 2, 4] rfl ?_
          exact k_X7_mayJoin_27 X hA hr hT hr1 ih _ _ _ h
def wp_X7_mayJoin (K : Int32 → HF → Prop) (F : HF) (r1 : Nat) (z1 : Nat) (a2 : Int32) : Prop := ∃ m_, wp_X7_mayJoin_5 K r1 z1  m_ F a2 (nI 0) (nI 0)
set_option maxRecDepth 100000 in
set_option maxHeartbeats 4000000 in
theorem c_X7_mayJoin {l : Launch} {D : va_G} {dA : Nat → ClassId} {ad : Nat → Nat} {R : List Nat} {F : HF} {r1 : Nat} {z1 : Nat} {a2 : Int32} {K : Int32 → HF → Prop} (hT : Md R) (hr1 : IA R r1 z1) (h : wp_X7_mayJoin K F r1 z1 a2) : MI l yX7_mayJoin cX7_mayJoin 6 .boolean rm_X7_mayJoin D dA ad R F [.ref (ad 100), .ref (ad r1), .int a2] K := by
  refine MI.of (own := RX7) (by decide) rfl (Nat.le_of_ble_eq_true rfl) ?_
  intro p e s m args below meth c A hA X hr
  unfold wp_X7_mayJoin at h
  show J p l e rm_X7_mayJoin s m args below meth c 6 D dA ad R A (QI D dA ad R A below args s K) F 0 [(0, .ref (ad 100)), (1, .ref (ad r1)), (2, .int a2)] []
  refine r_iconst (pc := 0) (v := (nI 0)) X dX7_mayJoin_0 (by decide) ?_
  refine r_istore_n (pc := 1) X [(3, .int (nI 0)), (0, .ref (ad 100)), (1, .ref (ad r1)), (2, .int a2)] dX7_mayJoin_1 rfl (by decide) rfl ?_
  refine r_iconst (pc := 2) (v := (nI 0)) X dX7_mayJoin_2 (by decide) ?_
  refine r_istore (pc := 3) X [(4, .int (nI 0)), (3, .int (nI 0)), (0, .ref (ad 100)), (1, .ref (ad r1)), (2, .int a2)] dX7_mayJoin_3 (by decide) rfl ?_
  refine r_sub [2, 3, 4, 1, 0] rfl ?_
  obtain ⟨n1, h⟩ := h
  exact k_X7_mayJoin_5 X hA hr hT hr1  n1 _ _ _ _ h
theorem dX7_join_0 : decode cX7_join 0 = .ok (.aload_n 0, 1) := by decide +kernel
theorem dX7_join_1 : decode cX7_join 1 = .ok (.iload_n 1, 1) := by decide +kernel
theorem dX7_join_2 : decode cX7_join 2 = .ok (.invokevirtual 133, 3) := by decide +kernel
theorem dX7_join_5 : decode cX7_join 5 = .ok (.ifCond .ne 5, 3) := by decide +kernel
theorem dX7_join_8 : decode cX7_join 8 = .ok (.iconst (-1), 1) := by decide +kernel
theorem dX7_join_9 : decode cX7_join 9 = .ok (.ireturn, 1) := by decide +kernel
theorem dX7_join_10 : decode cX7_join 10 = .ok (.aload_n 0, 1) := by decide +kernel
theorem dX7_join_11 : decode cX7_join 11 = .ok (.invokevirtual 192, 3) := by decide +kernel
theorem dX7_join_14 : decode cX7_join 14 = .ok (.ifCond .ne 15, 3) := by decide +kernel
theorem dX7_join_17 : decode cX7_join 17 = .ok (.aload_n 0, 1) := by decide +kernel
theorem dX7_join_18 : decode cX7_join 18 = .ok (.aload_n 0, 1) := by decide +kernel
theorem dX7_join_19 : decode cX7_join 19 = .ok (.getfield 44, 3) := by decide +kernel
theorem dX7_join_22 : decode cX7_join 22 = .ok (.iload_n 1, 1) := by decide +kernel
theorem dX7_join_23 : decode cX7_join 23 = .ok (.invokevirtual 195, 3) := by decide +kernel
theorem dX7_join_26 : decode cX7_join 26 = .ok (.ifCond .ne 6, 3) := by decide +kernel
theorem dX7_join_29 : decode cX7_join 29 = .ok (.bipush (-2), 2) := by decide +kernel
theorem dX7_join_31 : decode cX7_join 31 = .ok (.ireturn, 1) := by decide +kernel
theorem dX7_join_32 : decode cX7_join 32 = .ok (.aload_n 0, 1) := by decide +kernel
theorem dX7_join_33 : decode cX7_join 33 = .ok (.invokevirtual 198, 3) := by decide +kernel
theorem dX7_join_36 : decode cX7_join 36 = .ok (.aload_n 0, 1) := by decide +kernel
theorem dX7_join_37 : decode cX7_join 37 = .ok (.getfield 44, 3) := by decide +kernel
theorem dX7_join_40 : decode cX7_join 40 = .ok (.iconst 5, 1) := by decide +kernel
theorem dX7_join_41 : decode cX7_join 41 = .ok (.aload_n 0, 1) := by decide +kernel
theorem dX7_join_42 : decode cX7_join 42 = .ok (.getfield 44, 3) := by decide +kernel
theorem dX7_join_45 : decode cX7_join 45 = .ok (.iconst 0, 1) := by decide +kernel
theorem dX7_join_46 : decode cX7_join 46 = .ok (.iaload, 1) := by decide +kernel
theorem dX7_join_47 : decode cX7_join 47 = .ok (.iadd, 1) := by decide +kernel
theorem dX7_join_48 : decode cX7_join 48 = .ok (.iload_n 1, 1) := by decide +kernel
theorem dX7_join_49 : decode cX7_join 49 = .ok (.iastore, 1) := by decide +kernel
theorem dX7_join_50 : decode cX7_join 50 = .ok (.aload_n 0, 1) := by decide +kernel
theorem dX7_join_51 : decode cX7_join 51 = .ok (.getfield 44, 3) := by decide +kernel
theorem dX7_join_54 : decode cX7_join 54 = .ok (.iconst 0, 1) := by decide +kernel
theorem dX7_join_55 : decode cX7_join 55 = .ok (.dup2, 1) := by decide +kernel
theorem dX7_join_56 : decode cX7_join 56 = .ok (.iaload, 1) := by decide +kernel
theorem dX7_join_57 : decode cX7_join 57 = .ok (.iconst 1, 1) := by decide +kernel
theorem dX7_join_58 : decode cX7_join 58 = .ok (.iadd, 1) := by decide +kernel
theorem dX7_join_59 : decode cX7_join 59 = .ok (.iastore, 1) := by decide +kernel
theorem dX7_join_60 : decode cX7_join 60 = .ok (.aload_n 0, 1) := by decide +kernel
theorem dX7_join_61 : decode cX7_join 61 = .ok (.getfield 44, 3) := by decide +kernel
theorem dX7_join_64 : decode cX7_join 64 = .ok (.iconst 0, 1) := by decide +kernel
theorem dX7_join_65 : decode cX7_join 65 = .ok (.iaload, 1) := by decide +kernel
theorem dX7_join_66 : decode cX7_join 66 = .ok (.ireturn, 1) := by decide +kernel
theorem hd_X7_join : yX7_join.cls = RX7 ∧ yX7_join.cls ≠ "java/lang/invoke/MethodHandle" ∧ yX7_join.cls ≠ "java/lang/invoke/VarHandle" ∧ (parseMethodDescriptor yX7_join.desc).map (fun d => d.parameters.length) = some 1 := by decide +kernel
abbrev rm_X7_join : Room := { frames := 4, cells := 0, slots := 0, locals := 92 }
def wp_X7_join (K : Int32 → HF → Prop) (F : HF) (a1 : Int32) : Prop := wp_X7_isBird (fun x1 F1 => ((¬ x1 = (nI 0)) → (wp_X7_isShut (fun x2 F2 => ((¬ x2 = (nI 0)) → (K (-2 : Int32) F2)) ∧ ((x2 = (nI 0)) → (wp_X7_mayJoin (fun x3 F3 => ((¬ x3 = (nI 0)) → (wp_X7_note (fun F4 => (vp_in (nI 0) 21) ∧ ((vp_in ((nI 5) + (F4 120 (nI 0).toNatClampNeg)) 21) ∧ (∀ F5 : HF, F5 = hup F4 120 ((nI 5) + (F4 120 (nI 0).toNatClampNeg)).toNatClampNeg a1 → ((vp_in (nI 0) 21) ∧ ((vp_in (nI 0) 21) ∧ (∀ F6 : HF, F6 = hup F5 120 (nI 0).toNatClampNeg ((F5 120 (nI 0).toNatClampNeg) + (nI 1)) → ((vp_in (nI 0) 21) ∧ (K (F6 120 (nI 0).toNatClampNeg) F6)))))))) F3 )) ∧ ((x3 = (nI 0)) → (K (-2 : Int32) F3))) F2 120 21 a1))) F1 )) ∧ ((x1 = (nI 0)) → (K (-1 : Int32) F1))) F a1
set_option maxRecDepth 100000 in
set_option maxHeartbeats 4000000 in
theorem c_X7_join {l : Launch} {D : va_G} {dA : Nat → ClassId} {ad : Nat → Nat} {R : List Nat} {F : HF} {a1 : Int32} {K : Int32 → HF → Prop} (hT : Md R) (h : wp_X7_join K F a1) : MI l yX7_join cX7_join 2 .int rm_X7_join D dA ad R F [.ref (ad 100), .int a1] K := by
  refine MI.of (own := RX7) (by decide) rfl (Nat.le_of_ble_eq_true rfl) ?_
  intro p e s m args below meth c A hA X hr
  unfold wp_X7_join at h
  show J p l e rm_X7_join s m args below meth c 2 D dA ad R A (QI D dA ad R A below args s K) F 0 [(0, .ref (ad 100)), (1, .int a1)] []
  refine r_aload_n (pc := 0) X 0 dX7_join_0 rfl rfl ?_
  refine r_iload_n (pc := 1) X 1 dX7_join_1 rfl rfl ?_
  refine r_callIV (pc := 2) (As := [.int a1]) (st := []) X hA (c_X7_isBird hT h) g_X7_133 cl_X7 hT.1 hd_X7_isBird rfl rfl rfl ⟨Nat.le_of_ble_eq_true rfl, Nat.le_of_ble_eq_true rfl⟩ rfl (Nat.le_of_ble_eq_true rfl) dX7_join_2 (fun x1 F1 h => ?_)
  refine r_if_ne (pc := 5) (tgt := 10) X dX7_join_5 (by decide) (fun hc => ?_) (fun hc => ?_)
  · replace h := h.1 hc
    refine r_aload_n (pc := 10) X 0 dX7_join_10 rfl rfl ?_
    refine r_callIV (pc := 11) (As := []) (st := []) X hA (c_X7_isShut hT h) g_X7_192 cl_X7 hT.1 hd_X7_isShut rfl rfl rfl ⟨Nat.le_of_ble_eq_true rfl, Nat.le_of_ble_eq_true rfl⟩ rfl (Nat.le_of_ble_eq_true rfl) dX7_join_11 (fun x2 F2 h => ?_)
    refine r_if_ne (pc := 14) (tgt := 29) X dX7_join_14 (by decide) (fun hc => ?_) (fun hc => ?_)
    · replace h := h.1 hc
      refine r_bipush (pc := 29) (v := (-2 : Int32)) X dX7_join_29 (by decide) ?_
      exact r_iret (pc := 31) X hr dX7_join_31 h
    · replace h := h.2 hc
      refine r_aload_n (pc := 17) X 0 dX7_join_17 rfl rfl ?_
      refine r_aload_n (pc := 18) X 0 dX7_join_18 rfl rfl ?_
      refine fg_X7_44 (pc := 19) X hT.1 dX7_join_19 ?_
      refine r_iload_n (pc := 22) X 1 dX7_join_22 rfl rfl ?_
      refine r_callIV (pc := 23) (As := [.ref (ad 120), .int a1]) (st := []) X hA (c_X7_mayJoin hT hT.2.2.2.2.2.2.2.1 h) g_X7_195 cl_X7 hT.1 hd_X7_mayJoin rfl rfl rfl ⟨Nat.le_of_ble_eq_true rfl, Nat.le_of_ble_eq_true rfl⟩ rfl (Nat.le_of_ble_eq_true rfl) dX7_join_23 (fun x3 F3 h => ?_)
      refine r_if_ne (pc := 26) (tgt := 32) X dX7_join_26 (by decide) (fun hc => ?_) (fun hc => ?_)
      · replace h := h.1 hc
        refine r_aload_n (pc := 32) X 0 dX7_join_32 rfl rfl ?_
        refine r_callVV (pc := 33) (As := []) (st := []) X hA (c_X7_note hT h) g_X7_198 cl_X7 hT.1 hd_X7_note rfl rfl rfl ⟨Nat.le_of_ble_eq_true rfl, Nat.le_of_ble_eq_true rfl⟩ rfl (Nat.le_of_ble_eq_true rfl) dX7_join_33 (fun F4 h => ?_)
        refine r_aload_n (pc := 36) X 0 dX7_join_36 rfl rfl ?_
        refine fg_X7_44 (pc := 37) X hT.1 dX7_join_37 ?_
        refine r_iconst (pc := 40) (v := (nI 5)) X dX7_join_40 (by decide) ?_
        refine r_aload_n (pc := 41) X 0 dX7_join_41 rfl rfl ?_
        refine fg_X7_44 (pc := 42) X hT.1 dX7_join_42 ?_
        refine r_iconst (pc := 45) (v := (nI 0)) X dX7_join_45 (by decide) ?_
        refine r_iald (pc := 46) X hT.2.2.2.2.2.2.2.1 h.1 dX7_join_46 ?_
        replace h := h.2
        refine r_iadd (pc := 47) X dX7_join_47 ?_
        refine r_iload_n (pc := 48) X 1 dX7_join_48 rfl rfl ?_
        refine r_iast (pc := 49) X hT.2.2.2.2.2.2.2.1 h.1 dX7_join_49 (fun F5 e1 => ?_)
        replace h := h.2 F5 e1
        refine r_aload_n (pc := 50) X 0 dX7_join_50 rfl rfl ?_
        refine fg_X7_44 (pc := 51) X hT.1 dX7_join_51 ?_
        refine r_iconst (pc := 54) (v := (nI 0)) X dX7_join_54 (by decide) ?_
        refine r_dup2 (pc := 55) X dX7_join_55 rfl rfl ?_
        refine r_iald (pc := 56) X hT.2.2.2.2.2.2.2.1 h.1 dX7_join_56 ?_
        replace h := h.2
        refine r_iconst (pc := 57) (v := (nI 1)) X dX7_join_57 (by decide) ?_
        refine r_iadd (pc := 58) X dX7_join_58 ?_
        refine r_iast (pc := 59) X hT.2.2.2.2.2.2.2.1 h.1 dX7_join_59 (fun F6 e1 => ?_)
        replace h := h.2 F6 e1
        refine r_aload_n (pc := 60) X 0 dX7_join_60 rfl rfl ?_
        refine fg_X7_44 (pc := 61) X hT.1 dX7_join_61 ?_
        refine r_iconst (pc := 64) (v := (nI 0)) X dX7_join_64 (by decide) ?_
        refine r_iald (pc := 65) X hT.2.2.2.2.2.2.2.1 h.1 dX7_join_65 ?_
        replace h := h.2
        exact r_iret (pc := 66) X hr dX7_join_66 h
      · replace h := h.2 hc
        refine r_bipush (pc := 29) (v := (-2 : Int32)) X dX7_join_29 (by decide) ?_
        exact r_iret (pc := 31) X hr dX7_join_31 h
  · replace h := h.2 hc
    refine r_iconst (pc := 8) (v := (-1 : Int32)) X dX7_join_8 (by decide) ?_
    exact r_iret (pc := 9) X hr dX7_join_9 h
theorem dX7_leave_0 : decode cX7_leave 0 = .ok (.aload_n 0, 1) := by decide +kernel
theorem dX7_leave_1 : decode cX7_leave 1 = .ok (.invokevirtual 192, 3) := by decide +kernel
theorem dX7_leave_4 : decode cX7_leave 4 = .ok (.ifCond .ne 12, 3) := by decide +kernel
theorem dX7_leave_7 : decode cX7_leave 7 = .ok (.aload_n 0, 1) := by decide +kernel
theorem dX7_leave_8 : decode cX7_leave 8 = .ok (.getfield 44, 3) := by decide +kernel
theorem dX7_leave_11 : decode cX7_leave 11 = .ok (.iconst 0, 1) := by decide +kernel
theorem dX7_leave_12 : decode cX7_leave 12 = .ok (.iaload, 1) := by decide +kernel
theorem dX7_leave_13 : decode cX7_leave 13 = .ok (.ifCond .ne 6, 3) := by decide +kernel
theorem dX7_leave_16 : decode cX7_leave 16 = .ok (.bipush (-2), 2) := by decide +kernel
theorem dX7_leave_18 : decode cX7_leave 18 = .ok (.ireturn, 1) := by decide +kernel
theorem dX7_leave_19 : decode cX7_leave 19 = .ok (.aload_n 0, 1) := by decide +kernel
theorem dX7_leave_20 : decode cX7_leave 20 = .ok (.invokevirtual 198, 3) := by decide +kernel
theorem dX7_leave_23 : decode cX7_leave 23 = .ok (.aload_n 0, 1) := by decide +kernel
theorem dX7_leave_24 : decode cX7_leave 24 = .ok (.getfield 44, 3) := by decide +kernel
theorem dX7_leave_27 : decode cX7_leave 27 = .ok (.iconst 0, 1) := by decide +kernel
theorem dX7_leave_28 : decode cX7_leave 28 = .ok (.dup2, 1) := by decide +kernel
theorem dX7_leave_29 : decode cX7_leave 29 = .ok (.iaload, 1) := by decide +kernel
theorem dX7_leave_30 : decode cX7_leave 30 = .ok (.iconst 1, 1) := by decide +kernel
theorem dX7_leave_31 : decode cX7_leave 31 = .ok (.isub, 1) := by decide +kernel
theorem dX7_leave_32 : decode cX7_leave 32 = .ok (.iastore, 1) := by decide +kernel
theorem dX7_leave_33 : decode cX7_leave 33 = .ok (.aload_n 0, 1) := by decide +kernel
theorem dX7_leave_34 : decode cX7_leave 34 = .ok (.getfield 44, 3) := by decide +kernel
theorem dX7_leave_37 : decode cX7_leave 37 = .ok (.iconst 5, 1) := by decide +kernel
theorem dX7_leave_38 : decode cX7_leave 38 = .ok (.aload_n 0, 1) := by decide +kernel
theorem dX7_leave_39 : decode cX7_leave 39 = .ok (.getfield 44, 3) := by decide +kernel
theorem dX7_leave_42 : decode cX7_leave 42 = .ok (.iconst 0, 1) := by decide +kernel
theorem dX7_leave_43 : decode cX7_leave 43 = .ok (.iaload, 1) := by decide +kernel
theorem dX7_leave_44 : decode cX7_leave 44 = .ok (.iadd, 1) := by decide +kernel
theorem dX7_leave_45 : decode cX7_leave 45 = .ok (.iaload, 1) := by decide +kernel
theorem dX7_leave_46 : decode cX7_leave 46 = .ok (.ireturn, 1) := by decide +kernel
theorem hd_X7_leave : yX7_leave.cls = RX7 ∧ yX7_leave.cls ≠ "java/lang/invoke/MethodHandle" ∧ yX7_leave.cls ≠ "java/lang/invoke/VarHandle" ∧ (parseMethodDescriptor yX7_leave.desc).map (fun d => d.parameters.length) = some 0 := by decide +kernel
abbrev rm_X7_leave : Room := { frames := 3, cells := 0, slots := 0, locals := 63 }
def wp_X7_leave (K : Int32 → HF → Prop) (F : HF) : Prop := wp_X7_isShut (fun x1 F1 => ((¬ x1 = (nI 0)) → (K (-2 : Int32) F1)) ∧ ((x1 = (nI 0)) → ((vp_in (nI 0) 21) ∧ (((¬ (F1 120 (nI 0).toNatClampNeg) = (nI 0)) → (wp_X7_note (fun F2 => (vp_in (nI 0) 21) ∧ ((vp_in (nI 0) 21) ∧ (∀ F3 : HF, F3 = hup F2 120 (nI 0).toNatClampNeg ((F2 120 (nI 0).toNatClampNeg) - (nI 1)) → ((vp_in (nI 0) 21) ∧ ((vp_in ((nI 5) + (F3 120 (nI 0).toNatClampNeg)) 21) ∧ (K (F3 120 ((nI 5) + (F3 120 (nI 0).toNatClampNeg)).toNatClampNeg) F3)))))) F1 )) ∧ (((F1 120 (nI 0).toNatClampNeg) = (nI 0)) → (K (-2 : Int32) F1)))))) F 
set_option maxRecDepth 100000 in
set_option maxHeartbeats 4000000 in
theorem c_X7_leave {l : Launch} {D : va_G} {dA : Nat → ClassId} {ad : Nat → Nat} {R : List Nat} {F : HF} {K : Int32 → HF → Prop} (hT : Md R) (h : wp_X7_leave K F ) : MI l yX7_leave cX7_leave 1 .int rm_X7_leave D dA ad R F [.ref (ad 100)] K := by
  refine MI.of (own := RX7) (by decide) rfl (Nat.le_of_ble_eq_true rfl) ?_
  intro p e s m args below meth c A hA X hr
  unfold wp_X7_leave at h
  show J p l e rm_X7_leave s m args below meth c 1 D dA ad R A (QI D dA ad R A below args s K) F 0 [(0, .ref (ad 100))] []
  refine r_aload_n (pc := 0) X 0 dX7_leave_0 rfl rfl ?_
  refine r_callIV (pc := 1) (As := []) (st := []) X hA (c_X7_isShut hT h) g_X7_192 cl_X7 hT.1 hd_X7_isShut rfl rfl rfl ⟨Nat.le_of_ble_eq_true rfl, Nat.le_of_ble_eq_true rfl⟩ rfl (Nat.le_of_ble_eq_true rfl) dX7_leave_1 (fun x1 F1 h => ?_)
  refine r_if_ne (pc := 4) (tgt := 16) X dX7_leave_4 (by decide) (fun hc => ?_) (fun hc => ?_)
  · replace h := h.1 hc
    refine r_bipush (pc := 16) (v := (-2 : Int32)) X dX7_leave_16 (by decide) ?_
    exact r_iret (pc := 18) X hr dX7_leave_18 h
  · replace h := h.2 hc
    refine r_aload_n (pc := 7) X 0 dX7_leave_7 rfl rfl ?_
    refine fg_X7_44 (pc := 8) X hT.1 dX7_leave_8 ?_
    refine r_iconst (pc := 11) (v := (nI 0)) X dX7_leave_11 (by decide) ?_
    refine r_iald (pc := 12) X hT.2.2.2.2.2.2.2.1 h.1 dX7_leave_12 ?_
    replace h := h.2
    refine r_if_ne (pc := 13) (tgt := 19) X dX7_leave_13 (by decide) (fun hc => ?_) (fun hc => ?_)
    · replace h := h.1 hc
      refine r_aload_n (pc := 19) X 0 dX7_leave_19 rfl rfl ?_
      refine r_callVV (pc := 20) (As := []) (st := []) X hA (c_X7_note hT h) g_X7_198 cl_X7 hT.1 hd_X7_note rfl rfl rfl ⟨Nat.le_of_ble_eq_true rfl, Nat.le_of_ble_eq_true rfl⟩ rfl (Nat.le_of_ble_eq_true rfl) dX7_leave_20 (fun F2 h => ?_)
      refine r_aload_n (pc := 23) X 0 dX7_leave_23 rfl rfl ?_
      refine fg_X7_44 (pc := 24) X hT.1 dX7_leave_24 ?_
      refine r_iconst (pc := 27) (v := (nI 0)) X dX7_leave_27 (by decide) ?_
      refine r_dup2 (pc := 28) X dX7_leave_28 rfl rfl ?_
      refine r_iald (pc := 29) X hT.2.2.2.2.2.2.2.1 h.1 dX7_leave_29 ?_
      replace h := h.2
      refine r_iconst (pc := 30) (v := (nI 1)) X dX7_leave_30 (by decide) ?_
      refine r_isub (pc := 31) X dX7_leave_31 ?_
      refine r_iast (pc := 32) X hT.2.2.2.2.2.2.2.1 h.1 dX7_leave_32 (fun F3 e1 => ?_)
      replace h := h.2 F3 e1
      refine r_aload_n (pc := 33) X 0 dX7_leave_33 rfl rfl ?_
      refine fg_X7_44 (pc := 34) X hT.1 dX7_leave_34 ?_
      refine r_iconst (pc := 37) (v := (nI 5)) X dX7_leave_37 (by decide) ?_
      refine r_aload_n (pc := 38) X 0 dX7_leave_38 rfl rfl ?_
      refine fg_X7_44 (pc := 39) X hT.1 dX7_leave_39 ?_
      refine r_iconst (pc := 42) (v := (nI 0)) X dX7_leave_42 (by decide) ?_
      refine r_iald (pc := 43) X hT.2.2.2.2.2.2.2.1 h.1 dX7_leave_43 ?_
      replace h := h.2
      refine r_iadd (pc := 44) X dX7_leave_44 ?_
      refine r_iald (pc := 45) X hT.2.2.2.2.2.2.2.1 h.1 dX7_leave_45 ?_
      replace h := h.2
      exact r_iret (pc := 46) X hr dX7_leave_46 h
    · replace h := h.2 hc
      refine r_bipush (pc := 16) (v := (-2 : Int32)) X dX7_leave_16 (by decide) ?_
      exact r_iret (pc := 18) X hr dX7_leave_18 h
theorem dX7_step_0 : decode cX7_step 0 = .ok (.aload_n 0, 1) := by decide +kernel
theorem dX7_step_1 : decode cX7_step 1 = .ok (.aload_n 0, 1) := by decide +kernel
theorem dX7_step_2 : decode cX7_step 2 = .ok (.getfield 44, 3) := by decide +kernel
theorem dX7_step_5 : decode cX7_step 5 = .ok (.invokevirtual 189, 3) := by decide +kernel
theorem dX7_step_8 : decode cX7_step 8 = .ok (.ifCond .eq 26, 3) := by decide +kernel
theorem dX7_step_11 : decode cX7_step 11 = .ok (.aload_n 0, 1) := by decide +kernel
theorem dX7_step_12 : decode cX7_step 12 = .ok (.getfield 44, 3) := by decide +kernel
theorem dX7_step_15 : decode cX7_step 15 = .ok (.iconst 4, 1) := by decide +kernel
theorem dX7_step_16 : decode cX7_step 16 = .ok (.iaload, 1) := by decide +kernel
theorem dX7_step_17 : decode cX7_step 17 = .ok (.iconst 1, 1) := by decide +kernel
theorem dX7_step_18 : decode cX7_step 18 = .ok (.if_icmp .eq 16, 3) := by decide +kernel
theorem dX7_step_21 : decode cX7_step 21 = .ok (.aload_n 0, 1) := by decide +kernel
theorem dX7_step_22 : decode cX7_step 22 = .ok (.getfield 44, 3) := by decide +kernel
theorem dX7_step_25 : decode cX7_step 25 = .ok (.iconst 3, 1) := by decide +kernel
theorem dX7_step_26 : decode cX7_step 26 = .ok (.iaload, 1) := by decide +kernel
theorem dX7_step_27 : decode cX7_step 27 = .ok (.aload_n 0, 1) := by decide +kernel
theorem dX7_step_28 : decode cX7_step 28 = .ok (.getfield 35, 3) := by decide +kernel
theorem dX7_step_31 : decode cX7_step 31 = .ok (.if_icmp .ne 6, 3) := by decide +kernel
theorem dX7_step_34 : decode cX7_step 34 = .ok (.bipush (-2), 2) := by decide +kernel
theorem dX7_step_36 : decode cX7_step 36 = .ok (.ireturn, 1) := by decide +kernel
theorem dX7_step_37 : decode cX7_step 37 = .ok (.aload_n 0, 1) := by decide +kernel
theorem dX7_step_38 : decode cX7_step 38 = .ok (.invokevirtual 198, 3) := by decide +kernel
theorem dX7_step_41 : decode cX7_step 41 = .ok (.aload_n 0, 1) := by decide +kernel
theorem dX7_step_42 : decode cX7_step 42 = .ok (.getfield 44, 3) := by decide +kernel
theorem dX7_step_45 : decode cX7_step 45 = .ok (.iconst 3, 1) := by decide +kernel
theorem dX7_step_46 : decode cX7_step 46 = .ok (.dup2, 1) := by decide +kernel
theorem dX7_step_47 : decode cX7_step 47 = .ok (.iaload, 1) := by decide +kernel
theorem dX7_step_48 : decode cX7_step 48 = .ok (.iconst 1, 1) := by decide +kernel
theorem dX7_step_49 : decode cX7_step 49 = .ok (.iadd, 1) := by decide +kernel
theorem dX7_step_50 : decode cX7_step 50 = .ok (.iastore, 1) := by decide +kernel
theorem dX7_step_51 : decode cX7_step 51 = .ok (.aload_n 0, 1) := by decide +kernel
theorem dX7_step_52 : decode cX7_step 52 = .ok (.aload_n 0, 1) := by decide +kernel
theorem dX7_step_53 : decode cX7_step 53 = .ok (.getfield 44, 3) := by decide +kernel
theorem dX7_step_56 : decode cX7_step 56 = .ok (.aload_n 0, 1) := by decide +kernel
theorem dX7_step_57 : decode cX7_step 57 = .ok (.aload_n 0, 1) := by decide +kernel
theorem dX7_step_58 : decode cX7_step 58 = .ok (.getfield 44, 3) := by decide +kernel
theorem dX7_step_61 : decode cX7_step 61 = .ok (.iconst 1, 1) := by decide +kernel
theorem dX7_step_62 : decode cX7_step 62 = .ok (.iaload, 1) := by decide +kernel
theorem dX7_step_63 : decode cX7_step 63 = .ok (.invokevirtual 139, 3) := by decide +kernel
theorem dX7_step_66 : decode cX7_step 66 = .ok (.invokevirtual 201, 3) := by decide +kernel
theorem dX7_step_69 : decode cX7_step 69 = .ok (.ifCond .eq 12, 3) := by decide +kernel
theorem dX7_step_72 : decode cX7_step 72 = .ok (.aload_n 0, 1) := by decide +kernel
theorem dX7_step_73 : decode cX7_step 73 = .ok (.getfield 44, 3) := by decide +kernel
theorem dX7_step_76 : decode cX7_step 76 = .ok (.iconst 3, 1) := by decide +kernel
theorem dX7_step_77 : decode cX7_step 77 = .ok (.iaload, 1) := by decide +kernel
theorem dX7_step_78 : decode cX7_step 78 = .ok (.goto 5, 3) := by decide +kernel
theorem dX7_step_81 : decode cX7_step 81 = .ok (.bipush (-4), 2) := by decide +kernel
theorem dX7_step_83 : decode cX7_step 83 = .ok (.ireturn, 1) := by decide +kernel
theorem hd_X7_step : yX7_step.cls = RX7 ∧ yX7_step.cls ≠ "java/lang/invoke/MethodHandle" ∧ yX7_step.cls ≠ "java/lang/invoke/VarHandle" ∧ (parseMethodDescriptor yX7_step.desc).map (fun d => d.parameters.length) = some 0 := by decide +kernel
abbrev rm_X7_step : Room := { frames := 5, cells := 0, slots := 0, locals := 114 }
def wp_X7_step (K : Int32 → HF → Prop) (F : HF) : Prop := wp_X7_isWhole (fun x1 F1 => ((x1 = (nI 0)) → (K (-2 : Int32) F1)) ∧ ((¬ x1 = (nI 0)) → ((vp_in (nI 4) 21) ∧ ((((F1 120 (nI 4).toNatClampNeg) = (nI 1)) → (K (-2 : Int32) F1)) ∧ ((¬ (F1 120 (nI 4).toNatClampNeg) = (nI 1)) → ((vp_in (nI 3) 21) ∧ (((¬ (F1 120 (nI 3).toNatClampNeg) = (F1 100 17)) → (wp_X7_note (fun F2 => (vp_in (nI 3) 21) ∧ ((vp_in (nI 3) 21) ∧ (∀ F3 : HF, F3 = hup F2 120 (nI 3).toNatClampNeg ((F2 120 (nI 3).toNatClampNeg) + (nI 1)) → ((vp_in (nI 1) 21) ∧ (wp_X7_windIn (fun x2 F4 => wp_X7_passes (fun x3 F5 => ((x3 = (nI 0)) → (K (-4 : Int32) F5)) ∧ ((¬ x3 = (nI 0)) → ((vp_in (nI 3) 21) ∧ (K (F5 120 (nI 3).toNatClampNeg) F5)))) F4 120 21 x2) F3 (F3 120 (nI 1).toNatClampNeg)))))) F1 )) ∧ (((F1 120 (nI 3).toNatClampNeg) = (F1 100 17)) → (K (-2 : Int32) F1))))))))) F 120 21
set_option maxRecDepth 100000 in
set_option maxHeartbeats 4000000 in
theorem c_X7_step {l : Launch} {D : va_G} {dA : Nat → ClassId} {ad : Nat → Nat} {R : List Nat} {F : HF} {K : Int32 → HF → Prop} (hT : Md R) (h : wp_X7_step K F ) : MI l yX7_step cX7_step 1 .int rm_X7_step D dA ad R F [.ref (ad 100)] K := by
  refine MI.of (own := RX7) (by decide) rfl (Nat.le_of_ble_eq_true rfl) ?_
  intro p e s m args below meth c A hA X hr
  unfold wp_X7_step at h
  show J p l e rm_X7_step s m args below meth c 1 D dA ad R A (QI D dA ad R A below args s K) F 0 [(0, .ref (ad 100))] []
  refine r_aload_n (pc := 0) X 0 dX7_step_0 rfl rfl ?_
  refine r_aload_n (pc := 1) X 0 dX7_step_1 rfl rfl ?_
  refine fg_X7_44 (pc := 2) X hT.1 dX7_step_2 ?_
  refine r_callIV (pc := 5) (As := [.ref (ad 120)]) (st := []) X hA (c_X7_isWhole hT hT.2.2.2.2.2.2.2.1 h) g_X7_189 cl_X7 hT.1 hd_X7_isWhole rfl rfl rfl ⟨Nat.le_of_ble_eq_true rfl, Nat.le_of_ble_eq_true rfl⟩ rfl (Nat.le_of_ble_eq_true rfl) dX7_step_5 (fun x1 F1 h => ?_)
  refine r_if_eq (pc := 8) (tgt := 34) X dX7_step_8 (by decide) (fun hc => ?_) (fun hc => ?_)
  · replace h := h.1 hc
    refine r_bipush (pc := 34) (v := (-2 : Int32)) X dX7_step_34 (by decide) ?_
    exact r_iret (pc := 36) X hr dX7_step_36 h
  · replace h := h.2 hc
    refine r_aload_n (pc := 11) X 0 dX7_step_11 rfl rfl ?_
    refine fg_X7_44 (pc := 12) X hT.1 dX7_step_12 ?_
    refine r_iconst (pc := 15) (v := (nI 4)) X dX7_step_15 (by decide) ?_
    refine r_iald (pc := 16) X hT.2.2.2.2.2.2.2.1 h.1 dX7_step_16 ?_
    replace h := h.2
    refine r_iconst (pc := 17) (v := (nI 1)) X dX7_step_17 (by decide) ?_
    refine r_icmp_eq (pc := 18) (tgt := 34) X dX7_step_18 (by decide) (fun hc => ?_) (fun hc => ?_)
    · replace h := h.1 hc
      refine r_bipush (pc := 34) (v := (-2 : Int32)) X dX7_step_34 (by decide) ?_
      exact r_iret (pc := 36) X hr dX7_step_36 h
    · replace h := h.2 hc
      refine r_aload_n (pc := 21) X 0 dX7_step_21 rfl rfl ?_
      refine fg_X7_44 (pc := 22) X hT.1 dX7_step_22 ?_
      refine r_iconst (pc := 25) (v := (nI 3)) X dX7_step_25 (by decide) ?_
      refine r_iald (pc := 26) X hT.2.2.2.2.2.2.2.1 h.1 dX7_step_26 ?_
      replace h := h.2
      refine r_aload_n (pc := 27) X 0 dX7_step_27 rfl rfl ?_
      refine fg_X7_35 (pc := 28) X hT.1 dX7_step_28 ?_
      refine r_icmp_ne (pc := 31) (tgt := 37) X dX7_step_31 (by decide) (fun hc => ?_) (fun hc => ?_)
      · replace h := h.1 hc
        refine r_aload_n (pc := 37) X 0 dX7_step_37 rfl rfl ?_
        refine r_callVV (pc := 38) (As := []) (st := []) X hA (c_X7_note hT h) g_X7_198 cl_X7 hT.1 hd_X7_note rfl rfl rfl ⟨Nat.le_of_ble_eq_true rfl, Nat.le_of_ble_eq_true rfl⟩ rfl (Nat.le_of_ble_eq_true rfl) dX7_step_38 (fun F2 h => ?_)
        refine r_aload_n (pc := 41) X 0 dX7_step_41 rfl rfl ?_
        refine fg_X7_44 (pc := 42) X hT.1 dX7_step_42 ?_
        refine r_iconst (pc := 45) (v := (nI 3)) X dX7_step_45 (by decide) ?_
        refine r_dup2 (pc := 46) X dX7_step_46 rfl rfl ?_
        refine r_iald (pc := 47) X hT.2.2.2.2.2.2.2.1 h.1 dX7_step_47 ?_
        replace h := h.2
        refine r_iconst (pc := 48) (v := (nI 1)) X dX7_step_48 (by decide) ?_
        refine r_iadd (pc := 49) X dX7_step_49 ?_
        refine r_iast (pc := 50) X hT.2.2.2.2.2.2.2.1 h.1 dX7_step_50 (fun F3 e1 => ?_)
        replace h := h.2 F3 e1
        refine r_aload_n (pc := 51) X 0 dX7_step_51 rfl rfl ?_
        refine r_aload_n (pc := 52) X 0 dX7_step_52 rfl rfl ?_
        refine fg_X7_44 (pc := 53) X hT.1 dX7_step_53 ?_
        refine r_aload_n (pc := 56) X 0 dX7_step_56 rfl rfl ?_
        refine r_aload_n (pc := 57) X 0 dX7_step_57 rfl rfl ?_
        refine fg_X7_44 (pc := 58) X hT.1 dX7_step_58 ?_
        refine r_iconst (pc := 61) (v := (nI 1)) X dX7_step_61 (by decide) ?_
        refine r_iald (pc := 62) X hT.2.2.2.2.2.2.2.1 h.1 dX7_step_62 ?_
        replace h := h.2
        refine r_callIV (pc := 63) (As := [.int (F3 120 (nI 1).toNatClampNeg)]) (st := [.ref (ad 120), .ref (ad 100)]) X hA (c_X7_windIn hT h) g_X7_139 cl_X7 hT.1 hd_X7_windIn rfl rfl rfl ⟨Nat.le_of_ble_eq_true rfl, Nat.le_of_ble_eq_true rfl⟩ rfl (Nat.le_of_ble_eq_true rfl) dX7_step_63 (fun x2 F4 h => ?_)
        refine r_callIV (pc := 66) (As := [.ref (ad 120), .int x2]) (st := []) X hA (c_X7_passes hT hT.2.2.2.2.2.2.2.1 h) g_X7_201 cl_X7 hT.1 hd_X7_passes rfl rfl rfl ⟨Nat.le_of_ble_eq_true rfl, Nat.le_of_ble_eq_true rfl⟩ rfl (Nat.le_of_ble_eq_true rfl) dX7_step_66 (fun x3 F5 h => ?_)
        refine r_if_eq (pc := 69) (tgt := 81) X dX7_step_69 (by decide) (fun hc => ?_) (fun hc => ?_)
        · replace h := h.1 hc
          refine r_bipush (pc := 81) (v := (-4 : Int32)) X dX7_step_81 (by decide) ?_
          exact r_iret (pc := 83) X hr dX7_step_83 h
        · replace h := h.2 hc
          refine r_aload_n (pc := 72) X 0 dX7_step_72 rfl rfl ?_
          refine fg_X7_44 (pc := 73) X hT.1 dX7_step_73 ?_
          refine r_iconst (pc := 76) (v := (nI 3)) X dX7_step_76 (by decide) ?_
          refine r_iald (pc := 77) X hT.2.2.2.2.2.2.2.1 h.1 dX7_step_77 ?_
          replace h := h.2
          refine r_goto (pc := 78) (tgt := 83) X dX7_step_78 (by decide) ?_
          exact r_iret (pc := 83) X hr dX7_step_83 h
      · replace h := h.2 hc
        refine r_bipush (pc := 34) (v := (-2 : Int32)) X dX7_step_34 (by decide) ?_
        exact r_iret (pc := 36) X hr dX7_step_36 h
theorem dX7_stand_0 : decode cX7_stand 0 = .ok (.aload_n 0, 1) := by decide +kernel
theorem dX7_stand_1 : decode cX7_stand 1 = .ok (.getfield 44, 3) := by decide +kernel
theorem dX7_stand_4 : decode cX7_stand 4 = .ok (.iconst 3, 1) := by decide +kernel
theorem dX7_stand_5 : decode cX7_stand 5 = .ok (.iaload, 1) := by decide +kernel
theorem dX7_stand_6 : decode cX7_stand 6 = .ok (.aload_n 0, 1) := by decide +kernel
theorem dX7_stand_7 : decode cX7_stand 7 = .ok (.getfield 35, 3) := by decide +kernel
theorem dX7_stand_10 : decode cX7_stand 10 = .ok (.invokestatic 170, 3) := by decide +kernel
theorem dX7_stand_13 : decode cX7_stand 13 = .ok (.ifCond .eq 13, 3) := by decide +kernel
theorem dX7_stand_16 : decode cX7_stand 16 = .ok (.aload_n 0, 1) := by decide +kernel
theorem dX7_stand_17 : decode cX7_stand 17 = .ok (.getfield 44, 3) := by decide +kernel
theorem dX7_stand_20 : decode cX7_stand 20 = .ok (.iconst 4, 1) := by decide +kernel
theorem dX7_stand_21 : decode cX7_stand 21 = .ok (.iaload, 1) := by decide +kernel
theorem dX7_stand_22 : decode cX7_stand 22 = .ok (.iconst 1, 1) := by decide +kernel
theorem dX7_stand_23 : decode cX7_stand 23 = .ok (.if_icmp .ne 6, 3) := by decide +kernel
theorem dX7_stand_26 : decode cX7_stand 26 = .ok (.bipush (-2), 2) := by decide +kernel
theorem dX7_stand_28 : decode cX7_stand 28 = .ok (.ireturn, 1) := by decide +kernel
theorem dX7_stand_29 : decode cX7_stand 29 = .ok (.aload_n 0, 1) := by decide +kernel
theorem dX7_stand_30 : decode cX7_stand 30 = .ok (.invokevirtual 198, 3) := by decide +kernel
theorem dX7_stand_33 : decode cX7_stand 33 = .ok (.aload_n 0, 1) := by decide +kernel
theorem dX7_stand_34 : decode cX7_stand 34 = .ok (.aload_n 0, 1) := by decide +kernel
theorem dX7_stand_35 : decode cX7_stand 35 = .ok (.getfield 44, 3) := by decide +kernel
theorem dX7_stand_38 : decode cX7_stand 38 = .ok (.aload_n 0, 1) := by decide +kernel
theorem dX7_stand_39 : decode cX7_stand 39 = .ok (.aload_n 0, 1) := by decide +kernel
theorem dX7_stand_40 : decode cX7_stand 40 = .ok (.getfield 44, 3) := by decide +kernel
theorem dX7_stand_43 : decode cX7_stand 43 = .ok (.iconst 1, 1) := by decide +kernel
theorem dX7_stand_44 : decode cX7_stand 44 = .ok (.iaload, 1) := by decide +kernel
theorem dX7_stand_45 : decode cX7_stand 45 = .ok (.invokevirtual 139, 3) := by decide +kernel
theorem dX7_stand_48 : decode cX7_stand 48 = .ok (.invokevirtual 201, 3) := by decide +kernel
theorem dX7_stand_51 : decode cX7_stand 51 = .ok (.ifCond .eq 12, 3) := by decide +kernel
theorem dX7_stand_54 : decode cX7_stand 54 = .ok (.aload_n 0, 1) := by decide +kernel
theorem dX7_stand_55 : decode cX7_stand 55 = .ok (.getfield 44, 3) := by decide +kernel
theorem dX7_stand_58 : decode cX7_stand 58 = .ok (.iconst 3, 1) := by decide +kernel
theorem dX7_stand_59 : decode cX7_stand 59 = .ok (.iaload, 1) := by decide +kernel
theorem dX7_stand_60 : decode cX7_stand 60 = .ok (.goto 5, 3) := by decide +kernel
theorem dX7_stand_63 : decode cX7_stand 63 = .ok (.bipush (-4), 2) := by decide +kernel
theorem dX7_stand_65 : decode cX7_stand 65 = .ok (.ireturn, 1) := by decide +kernel
theorem hd_X7_stand : yX7_stand.cls = RX7 ∧ yX7_stand.cls ≠ "java/lang/invoke/MethodHandle" ∧ yX7_stand.cls ≠ "java/lang/invoke/VarHandle" ∧ (parseMethodDescriptor yX7_stand.desc).map (fun d => d.parameters.length) = some 0 := by decide +kernel
abbrev rm_X7_stand : Room := { frames := 5, cells := 0, slots := 0, locals := 114 }
def wp_X7_stand (K : Int32 → HF → Prop) (F : HF) : Prop := (vp_in (nI 3) 21) ∧ (wp_X7_isOn (fun x1 F1 => ((x1 = (nI 0)) → (K (-2 : Int32) F1)) ∧ ((¬ x1 = (nI 0)) → ((vp_in (nI 4) 21) ∧ (((¬ (F1 120 (nI 4).toNatClampNeg) = (nI 1)) → (wp_X7_note (fun F2 => (vp_in (nI 1) 21) ∧ (wp_X7_windIn (fun x2 F3 => wp_X7_passes (fun x3 F4 => ((x3 = (nI 0)) → (K (-4 : Int32) F4)) ∧ ((¬ x3 = (nI 0)) → ((vp_in (nI 3) 21) ∧ (K (F4 120 (nI 3).toNatClampNeg) F4)))) F3 120 21 x2) F2 (F2 120 (nI 1).toNatClampNeg))) F1 )) ∧ (((F1 120 (nI 4).toNatClampNeg) = (nI 1)) → (K (-2 : Int32) F1)))))) F (F 120 (nI 3).toNatClampNeg) (F 100 17))
set_option maxRecDepth 100000 in
set_option maxHeartbeats 4000000 in
theorem c_X7_stand {l : Launch} {D : va_G} {dA : Nat → ClassId} {ad : Nat → Nat} {R : List Nat} {F : HF} {K : Int32 → HF → Prop} (hT : Md R) (h : wp_X7_stand K F ) : MI l yX7_stand cX7_stand 1 .int rm_X7_stand D dA ad R F [.ref (ad 100)] K := by
  refine MI.of (own := RX7) (by decide) rfl (Nat.le_of_ble_eq_true rfl) ?_
  intro p e s m args below meth c A hA X hr
  unfold wp_X7_stand at h
  show J p l e rm_X7_stand s m args below meth c 1 D dA ad R A (QI D dA ad R A below args s K) F 0 [(0, .ref (ad 100))] []
  refine r_aload_n (pc := 0) X 0 dX7_stand_0 rfl rfl ?_
  refine fg_X7_44 (pc := 1) X hT.1 dX7_stand_1 ?_
  refine r_iconst (pc := 4) (v := (nI 3)) X dX7_stand_4 (by decide) ?_
  refine r_iald (pc := 5) X hT.2.2.2.2.2.2.2.1 h.1 dX7_stand_5 ?_
  replace h := h.2
  refine r_aload_n (pc := 6) X 0 dX7_stand_6 rfl rfl ?_
  refine fg_X7_35 (pc := 7) X hT.1 dX7_stand_7 ?_
  refine r_callIS (pc := 10) (As := [.int (F 120 (nI 3).toNatClampNeg), .int (F 100 17)]) (st := []) X hA (c_X7_isOn  h) g_X7_170 hd_X7_isOn rfl rfl rfl ⟨Nat.le_of_ble_eq_true rfl, Nat.le_of_ble_eq_true rfl⟩ rfl (Nat.le_of_ble_eq_true rfl) dX7_stand_10 (fun x1 F1 h => ?_)
  refine r_if_eq (pc := 13) (tgt := 26) X dX7_stand_13 (by decide) (fun hc => ?_) (fun hc => ?_)
  · replace h := h.1 hc
    refine r_bipush (pc := 26) (v := (-2 : Int32)) X dX7_stand_26 (by decide) ?_
    exact r_iret (pc := 28) X hr dX7_stand_28 h
  · replace h := h.2 hc
    refine r_aload_n (pc := 16) X 0 dX7_stand_16 rfl rfl ?_
    refine fg_X7_44 (pc := 17) X hT.1 dX7_stand_17 ?_
    refine r_iconst (pc := 20) (v := (nI 4)) X dX7_stand_20 (by decide) ?_
    refine r_iald (pc := 21) X hT.2.2.2.2.2.2.2.1 h.1 dX7_stand_21 ?_
    replace h := h.2
    refine r_iconst (pc := 22) (v := (nI 1)) X dX7_stand_22 (by decide) ?_
    refine r_icmp_ne (pc := 23) (tgt := 29) X dX7_stand_23 (by decide) (fun hc => ?_) (fun hc => ?_)
    · replace h := h.1 hc
      refine r_aload_n (pc := 29) X 0 dX7_stand_29 rfl rfl ?_
      refine r_callVV (pc := 30) (As := []) (st := []) X hA (c_X7_note hT h) g_X7_198 cl_X7 hT.1 hd_X7_note rfl rfl rfl ⟨Nat.le_of_ble_eq_true rfl, Nat.le_of_ble_eq_true rfl⟩ rfl (Nat.le_of_ble_eq_true rfl) dX7_stand_30 (fun F2 h => ?_)
      refine r_aload_n (pc := 33) X 0 dX7_stand_33 rfl rfl ?_
      refine r_aload_n (pc := 34) X 0 dX7_stand_34 rfl rfl ?_
      refine fg_X7_44 (pc := 35) X hT.1 dX7_stand_35 ?_
      refine r_aload_n (pc := 38) X 0 dX7_stand_38 rfl rfl ?_
      refine r_aload_n (pc := 39) X 0 dX7_stand_39 rfl rfl ?_
      refine fg_X7_44 (pc := 40) X hT.1 dX7_stand_40 ?_
      refine r_iconst (pc := 43) (v := (nI 1)) X dX7_stand_43 (by decide) ?_
      refine r_iald (pc := 44) X hT.2.2.2.2.2.2.2.1 h.1 dX7_stand_44 ?_
      replace h := h.2
      refine r_callIV (pc := 45) (As := [.int (F2 120 (nI 1).toNatClampNeg)]) (st := [.ref (ad 120), .ref (ad 100)]) X hA (c_X7_windIn hT h) g_X7_139 cl_X7 hT.1 hd_X7_windIn rfl rfl rfl ⟨Nat.le_of_ble_eq_true rfl, Nat.le_of_ble_eq_true rfl⟩ rfl (Nat.le_of_ble_eq_true rfl) dX7_stand_45 (fun x2 F3 h => ?_)
      refine r_callIV (pc := 48) (As := [.ref (ad 120), .int x2]) (st := []) X hA (c_X7_passes hT hT.2.2.2.2.2.2.2.1 h) g_X7_201 cl_X7 hT.1 hd_X7_passes rfl rfl rfl ⟨Nat.le_of_ble_eq_true rfl, Nat.le_of_ble_eq_true rfl⟩ rfl (Nat.le_of_ble_eq_true rfl) dX7_stand_48 (fun x3 F4 h => ?_)
      refine r_if_eq (pc := 51) (tgt := 63) X dX7_stand_51 (by decide) (fun hc => ?_) (fun hc => ?_)
      · replace h := h.1 hc
        refine r_bipush (pc := 63) (v := (-4 : Int32)) X dX7_stand_63 (by decide) ?_
        exact r_iret (pc := 65) X hr dX7_stand_65 h
      · replace h := h.2 hc
        refine r_aload_n (pc := 54) X 0 dX7_stand_54 rfl rfl ?_
        refine fg_X7_44 (pc := 55) X hT.1 dX7_stand_55 ?_
        refine r_iconst (pc := 58) (v := (nI 3)) X dX7_stand_58 (by decide) ?_
        refine r_iald (pc := 59) X hT.2.2.2.2.2.2.2.1 h.1 dX7_stand_59 ?_
        replace h := h.2
        refine r_goto (pc := 60) (tgt := 65) X dX7_stand_60 (by decide) ?_
        exact r_iret (pc := 65) X hr dX7_stand_65 h
    · replace h := h.2 hc
      refine r_bipush (pc := 26) (v := (-2 : Int32)) X dX7_stand_26 (by decide) ?_
      exact r_iret (pc := 28) X hr dX7_stand_28 h
theorem dX7_year_0 : decode cX7_year 0 = .ok (.iload_n 1, 1) := by decide +kernel
theorem dX7_year_1 : decode cX7_year 1 = .ok (.iconst 0, 1) := by decide +kernel
theorem dX7_year_2 : decode cX7_year 2 = .ok (.bipush 20, 2) := by decide +kernel
theorem dX7_year_4 : decode cX7_year 4 = .ok (.invokestatic 87, 3) := by decide +kernel
theorem dX7_year_7 : decode cX7_year 7 = .ok (.ifCond .ne 5, 3) := by decide +kernel
theorem dX7_year_10 : decode cX7_year 10 = .ok (.iconst (-1), 1) := by decide +kernel
theorem dX7_year_11 : decode cX7_year 11 = .ok (.ireturn, 1) := by decide +kernel
theorem dX7_year_12 : decode cX7_year 12 = .ok (.aload_n 0, 1) := by decide +kernel
theorem dX7_year_13 : decode cX7_year 13 = .ok (.invokevirtual 192, 3) := by decide +kernel
theorem dX7_year_16 : decode cX7_year 16 = .ok (.ifCond .eq 6, 3) := by decide +kernel
theorem dX7_year_19 : decode cX7_year 19 = .ok (.bipush (-2), 2) := by decide +kernel
theorem dX7_year_21 : decode cX7_year 21 = .ok (.ireturn, 1) := by decide +kernel
theorem dX7_year_22 : decode cX7_year 22 = .ok (.aload_n 0, 1) := by decide +kernel
theorem dX7_year_23 : decode cX7_year 23 = .ok (.invokevirtual 198, 3) := by decide +kernel
theorem dX7_year_26 : decode cX7_year 26 = .ok (.aload_n 0, 1) := by decide +kernel
theorem dX7_year_27 : decode cX7_year 27 = .ok (.getfield 44, 3) := by decide +kernel
theorem dX7_year_30 : decode cX7_year 30 = .ok (.iconst 2, 1) := by decide +kernel
theorem dX7_year_31 : decode cX7_year 31 = .ok (.iload_n 1, 1) := by decide +kernel
theorem dX7_year_32 : decode cX7_year 32 = .ok (.iastore, 1) := by decide +kernel
theorem dX7_year_33 : decode cX7_year 33 = .ok (.aload_n 0, 1) := by decide +kernel
theorem dX7_year_34 : decode cX7_year 34 = .ok (.iload_n 1, 1) := by decide +kernel
theorem dX7_year_35 : decode cX7_year 35 = .ok (.invokevirtual 174, 3) := by decide +kernel
theorem dX7_year_38 : decode cX7_year 38 = .ok (.ireturn, 1) := by decide +kernel
theorem hd_X7_year : yX7_year.cls = RX7 ∧ yX7_year.cls ≠ "java/lang/invoke/MethodHandle" ∧ yX7_year.cls ≠ "java/lang/invoke/VarHandle" ∧ (parseMethodDescriptor yX7_year.desc).map (fun d => d.parameters.length) = some 1 := by decide +kernel
abbrev rm_X7_year : Room := { frames := 3, cells := 0, slots := 0, locals := 63 }
def wp_X7_year (K : Int32 → HF → Prop) (F : HF) (a1 : Int32) : Prop := wp_X7_in (fun x1 F1 => ((¬ x1 = (nI 0)) → (wp_X7_isShut (fun x2 F2 => ((x2 = (nI 0)) → (wp_X7_note (fun F3 => (vp_in (nI 2) 21) ∧ (∀ F4 : HF, F4 = hup F3 120 (nI 2).toNatClampNeg a1 → (wp_X7_weightIn (fun x3 F5 => K x3 F5) F4 a1))) F2 )) ∧ ((¬ x2 = (nI 0)) → (K (-2 : Int32) F2))) F1 )) ∧ ((x1 = (nI 0)) → (K (-1 : Int32) F1))) F a1 (nI 0) (nI 20)
set_option maxRecDepth 100000 in
set_option maxHeartbeats 4000000 in
theorem c_X7_year {l : Launch} {D : va_G} {dA : Nat → ClassId} {ad : Nat → Nat} {R : List Nat} {F : HF} {a1 : Int32} {K : Int32 → HF → Prop} (hT : Md R) (h : wp_X7_year K F a1) : MI l yX7_year cX7_year 2 .int rm_X7_year D dA ad R F [.ref (ad 100), .int a1] K := by
  refine MI.of (own := RX7) (by decide) rfl (Nat.le_of_ble_eq_true rfl) ?_
  intro p e s m args below meth c A hA X hr
  unfold wp_X7_year at h
  show J p l e rm_X7_year s m args below meth c 2 D dA ad R A (QI D dA ad R A below args s K) F 0 [(0, .ref (ad 100)), (1, .int a1)] []
  refine r_iload_n (pc := 0) X 1 dX7_year_0 rfl rfl ?_
  refine r_iconst (pc := 1) (v := (nI 0)) X dX7_year_1 (by decide) ?_
  refine r_bipush (pc := 2) (v := (nI 20)) X dX7_year_2 (by decide) ?_
  refine r_callIS (pc := 4) (As := [.int a1, .int (nI 0), .int (nI 20)]) (st := []) X hA (c_X7_in  h) g_X7_87 hd_X7_in rfl rfl rfl ⟨Nat.le_of_ble_eq_true rfl, Nat.le_of_ble_eq_true rfl⟩ rfl (Nat.le_of_ble_eq_true rfl) dX7_year_4 (fun x1 F1 h => ?_)
  refine r_if_ne (pc := 7) (tgt := 12) X dX7_year_7 (by decide) (fun hc => ?_) (fun hc => ?_)
  · replace h := h.1 hc
    refine r_aload_n (pc := 12) X 0 dX7_year_12 rfl rfl ?_
    refine r_callIV (pc := 13) (As := []) (st := []) X hA (c_X7_isShut hT h) g_X7_192 cl_X7 hT.1 hd_X7_isShut rfl rfl rfl ⟨Nat.le_of_ble_eq_true rfl, Nat.le_of_ble_eq_true rfl⟩ rfl (Nat.le_of_ble_eq_true rfl) dX7_year_13 (fun x2 F2 h => ?_)
    refine r_if_eq (pc := 16) (tgt := 22) X dX7_year_16 (by decide) (fun hc => ?_) (fun hc => ?_)
    · replace h := h.1 hc
      refine r_aload_n (pc := 22) X 0 dX7_year_22 rfl rfl ?_
      refine r_callVV (pc := 23) (As := []) (st := []) X hA (c_X7_note hT h) g_X7_198 cl_X7 hT.1 hd_X7_note rfl rfl rfl ⟨Nat.le_of_ble_eq_true rfl, Nat.le_of_ble_eq_true rfl⟩ rfl (Nat.le_of_ble_eq_true rfl) dX7_year_23 (fun F3 h => ?_)
      refine r_aload_n (pc := 26) X 0 dX7_year_26 rfl rfl ?_
      refine fg_X7_44 (pc := 27) X hT.1 dX7_year_27 ?_
      refine r_iconst (pc := 30) (v := (nI 2)) X dX7_year_30 (by decide) ?_
      refine r_iload_n (pc := 31) X 1 dX7_year_31 rfl rfl ?_
      refine r_iast (pc := 32) X hT.2.2.2.2.2.2.2.1 h.1 dX7_year_32 (fun F4 e1 => ?_)
      replace h := h.2 F4 e1
      refine r_aload_n (pc := 33) X 0 dX7_year_33 rfl rfl ?_
      refine r_iload_n (pc := 34) X 1 dX7_year_34 rfl rfl ?_
      refine r_callIV (pc := 35) (As := [.int a1]) (st := []) X hA (c_X7_weightIn hT h) g_X7_174 cl_X7 hT.1 hd_X7_weightIn rfl rfl rfl ⟨Nat.le_of_ble_eq_true rfl, Nat.le_of_ble_eq_true rfl⟩ rfl (Nat.le_of_ble_eq_true rfl) dX7_year_35 (fun x3 F5 h => ?_)
      exact r_iret (pc := 38) X hr dX7_year_38 h
    · replace h := h.2 hc
      refine r_bipush (pc := 19) (v := (-2 : Int32)) X dX7_year_19 (by decide) ?_
      exact r_iret (pc := 21) X hr dX7_year_21 h
  · replace h := h.2 hc
    refine r_iconst (pc := 10) (v := (-1 : Int32)) X dX7_year_10 (by decide) ?_
    exact r_iret (pc := 11) X hr dX7_year_11 h
theorem dX7_undo_0 : decode cX7_undo 0 = .ok (.aload_n 0, 1) := by decide +kernel
theorem dX7_undo_1 : decode cX7_undo 1 = .ok (.getfield 78, 3) := by decide +kernel
theorem dX7_undo_4 : decode cX7_undo 4 = .ok (.ifCond .ne 6, 3) := by decide +kernel
theorem dX7_undo_7 : decode cX7_undo 7 = .ok (.bipush (-2), 2) := by decide +kernel
theorem dX7_undo_9 : decode cX7_undo 9 = .ok (.ireturn, 1) := by decide +kernel
theorem dX7_undo_10 : decode cX7_undo 10 = .ok (.aload_n 0, 1) := by decide +kernel
theorem dX7_undo_11 : decode cX7_undo 11 = .ok (.dup, 1) := by decide +kernel
theorem dX7_undo_12 : decode cX7_undo 12 = .ok (.getfield 78, 3) := by decide +kernel
theorem dX7_undo_15 : decode cX7_undo 15 = .ok (.iconst 1, 1) := by decide +kernel
theorem dX7_undo_16 : decode cX7_undo 16 = .ok (.isub, 1) := by decide +kernel
theorem dX7_undo_17 : decode cX7_undo 17 = .ok (.putfield 78, 3) := by decide +kernel
theorem dX7_undo_20 : decode cX7_undo 20 = .ok (.aload_n 0, 1) := by decide +kernel
theorem dX7_undo_21 : decode cX7_undo 21 = .ok (.getfield 50, 3) := by decide +kernel
theorem dX7_undo_24 : decode cX7_undo 24 = .ok (.bipush 21, 2) := by decide +kernel
theorem dX7_undo_26 : decode cX7_undo 26 = .ok (.aload_n 0, 1) := by decide +kernel
theorem dX7_undo_27 : decode cX7_undo 27 = .ok (.getfield 78, 3) := by decide +kernel
theorem dX7_undo_30 : decode cX7_undo 30 = .ok (.imul, 1) := by decide +kernel
theorem dX7_undo_31 : decode cX7_undo 31 = .ok (.aload_n 0, 1) := by decide +kernel
theorem dX7_undo_32 : decode cX7_undo 32 = .ok (.getfield 44, 3) := by decide +kernel
theorem dX7_undo_35 : decode cX7_undo 35 = .ok (.iconst 0, 1) := by decide +kernel
theorem dX7_undo_36 : decode cX7_undo 36 = .ok (.invokestatic 185, 3) := by decide +kernel
theorem dX7_undo_39 : decode cX7_undo 39 = .ok (.aload_n 0, 1) := by decide +kernel
theorem dX7_undo_40 : decode cX7_undo 40 = .ok (.getfield 78, 3) := by decide +kernel
theorem dX7_undo_43 : decode cX7_undo 43 = .ok (.ireturn, 1) := by decide +kernel
theorem hd_X7_undo : yX7_undo.cls = RX7 ∧ yX7_undo.cls ≠ "java/lang/invoke/MethodHandle" ∧ yX7_undo.cls ≠ "java/lang/invoke/VarHandle" ∧ (parseMethodDescriptor yX7_undo.desc).map (fun d => d.parameters.length) = some 0 := by decide +kernel
abbrev rm_X7_undo : Room := { frames := 1, cells := 0, slots := 0, locals := 24 }
def wp_X7_undo (K : Int32 → HF → Prop) (F : HF) : Prop := ((¬ (F 100 23) = (nI 0)) → (∀ F1 : HF, F1 = hup F 100 23 ((F 100 23) - (nI 1)) → (wp_X7_copy (fun F2 => K (F2 100 23) F2) F1 122 168 120 21 ((nI 21) * (F1 100 23)) (nI 0)))) ∧ (((F 100 23) = (nI 0)) → (K (-2 : Int32) F))
set_option maxRecDepth 100000 in
set_option maxHeartbeats 4000000 in
theorem c_X7_undo {l : Launch} {D : va_G} {dA : Nat → ClassId} {ad : Nat → Nat} {R : List Nat} {F : HF} {K : Int32 → HF → Prop} (hT : Md R) (h : wp_X7_undo K F ) : MI l yX7_undo cX7_undo 1 .int rm_X7_undo D dA ad R F [.ref (ad 100)] K := by
  refine MI.of (own := RX7) (by decide) rfl (Nat.le_of_ble_eq_true rfl) ?_
  intro p e s m args below meth c A hA X hr
  unfold wp_X7_undo at h
  show J p l e rm_X7_undo s m args below meth c 1 D dA ad R A (QI D dA ad R A below args s K) F 0 [(0, .ref (ad 100))] []
  refine r_aload_n (pc := 0) X 0 dX7_undo_0 rfl rfl ?_
  refine fg_X7_78 (pc := 1) X hT.1 dX7_undo_1 ?_
  refine r_if_ne (pc := 4) (tgt := 10) X dX7_undo_4 (by decide) (fun hc => ?_) (fun hc => ?_)
  · replace h := h.1 hc
    refine r_aload_n (pc := 10) X 0 dX7_undo_10 rfl rfl ?_
    refine r_dup (pc := 11) X dX7_undo_11 rfl ?_
    refine fg_X7_78 (pc := 12) X hT.1 dX7_undo_12 ?_
    refine r_iconst (pc := 15) (v := (nI 1)) X dX7_undo_15 (by decide) ?_
    refine r_isub (pc := 16) X dX7_undo_16 ?_
    refine fp_X7_78 (pc := 17) X hT.1 dX7_undo_17 (fun F1 e1 => ?_)
    replace h := h F1 e1
    refine r_aload_n (pc := 20) X 0 dX7_undo_20 rfl rfl ?_
    refine fg_X7_50 (pc := 21) X hT.1 dX7_undo_21 ?_
    refine r_bipush (pc := 24) (v := (nI 21)) X dX7_undo_24 (by decide) ?_
    refine r_aload_n (pc := 26) X 0 dX7_undo_26 rfl rfl ?_
    refine fg_X7_78 (pc := 27) X hT.1 dX7_undo_27 ?_
    refine r_imul (pc := 30) X dX7_undo_30 ?_
    refine r_aload_n (pc := 31) X 0 dX7_undo_31 rfl rfl ?_
    refine fg_X7_44 (pc := 32) X hT.1 dX7_undo_32 ?_
    refine r_iconst (pc := 35) (v := (nI 0)) X dX7_undo_35 (by decide) ?_
    refine r_callVS (pc := 36) (As := [.ref (ad 122), .int ((nI 21) * (F1 100 23)), .ref (ad 120), .int (nI 0)]) (st := []) X hA (c_X7_copy hT.2.2.2.2.2.2.2.2.2.1 hT.2.2.2.2.2.2.2.1 h) g_X7_185 hd_X7_copy rfl rfl rfl ⟨Nat.le_of_ble_eq_true rfl, Nat.le_of_ble_eq_true rfl⟩ rfl (Nat.le_of_ble_eq_true rfl) dX7_undo_36 (fun F2 h => ?_)
    refine r_aload_n (pc := 39) X 0 dX7_undo_39 rfl rfl ?_
    refine fg_X7_78 (pc := 40) X hT.1 dX7_undo_40 ?_
    exact r_iret (pc := 43) X hr dX7_undo_43 h
  · replace h := h.2 hc
    refine r_bipush (pc := 7) (v := (-2 : Int32)) X dX7_undo_7 (by decide) ?_
    exact r_iret (pc := 9) X hr dX7_undo_9 h
theorem dX7_goesOver_0 : decode cX7_goesOver 0 = .ok (.aload_n 1, 1) := by decide +kernel
theorem dX7_goesOver_1 : decode cX7_goesOver 1 = .ok (.iconst 3, 1) := by decide +kernel
theorem dX7_goesOver_2 : decode cX7_goesOver 2 = .ok (.iaload, 1) := by decide +kernel
theorem dX7_goesOver_3 : decode cX7_goesOver 3 = .ok (.aload_n 0, 1) := by decide +kernel
theorem dX7_goesOver_4 : decode cX7_goesOver 4 = .ok (.getfield 35, 3) := by decide +kernel
theorem dX7_goesOver_7 : decode cX7_goesOver 7 = .ok (.if_icmp .ge 27, 3) := by decide +kernel
theorem dX7_goesOver_10 : decode cX7_goesOver 10 = .ok (.aload_n 1, 1) := by decide +kernel
theorem dX7_goesOver_11 : decode cX7_goesOver 11 = .ok (.iconst 3, 1) := by decide +kernel
theorem dX7_goesOver_12 : decode cX7_goesOver 12 = .ok (.dup2, 1) := by decide +kernel
theorem dX7_goesOver_13 : decode cX7_goesOver 13 = .ok (.iaload, 1) := by decide +kernel
theorem dX7_goesOver_14 : decode cX7_goesOver 14 = .ok (.iconst 1, 1) := by decide +kernel
theorem dX7_goesOver_15 : decode cX7_goesOver 15 = .ok (.iadd, 1) := by decide +kernel
theorem dX7_goesOver_16 : decode cX7_goesOver 16 = .ok (.iastore, 1) := by decide +kernel
theorem dX7_goesOver_17 : decode cX7_goesOver 17 = .ok (.aload_n 0, 1) := by decide +kernel
theorem dX7_goesOver_18 : decode cX7_goesOver 18 = .ok (.aload_n 1, 1) := by decide +kernel
theorem dX7_goesOver_19 : decode cX7_goesOver 19 = .ok (.aload_n 0, 1) := by decide +kernel
theorem dX7_goesOver_20 : decode cX7_goesOver 20 = .ok (.aload_n 1, 1) := by decide +kernel
theorem dX7_goesOver_21 : decode cX7_goesOver 21 = .ok (.iconst 1, 1) := by decide +kernel
theorem dX7_goesOver_22 : decode cX7_goesOver 22 = .ok (.iaload, 1) := by decide +kernel
theorem dX7_goesOver_23 : decode cX7_goesOver 23 = .ok (.invokevirtual 139, 3) := by decide +kernel
theorem dX7_goesOver_26 : decode cX7_goesOver 26 = .ok (.invokevirtual 201, 3) := by decide +kernel
theorem dX7_goesOver_29 : decode cX7_goesOver 29 = .ok (.ifCond .ne (-29), 3) := by decide +kernel
theorem dX7_goesOver_32 : decode cX7_goesOver 32 = .ok (.iconst 0, 1) := by decide +kernel
theorem dX7_goesOver_33 : decode cX7_goesOver 33 = .ok (.ireturn, 1) := by decide +kernel
theorem dX7_goesOver_34 : decode cX7_goesOver 34 = .ok (.iconst 1, 1) := by decide +kernel
theorem dX7_goesOver_35 : decode cX7_goesOver 35 = .ok (.ireturn, 1) := by decide +kernel
theorem hd_X7_goesOver : yX7_goesOver.cls = RX7 ∧ yX7_goesOver.cls ≠ "java/lang/invoke/MethodHandle" ∧ yX7_goesOver.cls ≠ "java/lang/invoke/VarHandle" ∧ (parseMethodDescriptor yX7_goesOver.desc).map (fun d => d.parameters.length) = some 1 := by decide +kernel
abbrev rm_X7_goesOver : Room := { frames := 5, cells := 0, slots := 0, locals := 114 }
def wp_X7_goesOver_0 (K : Int32 → HF → Prop) (r1 : Nat) (z1 : Nat) : Nat → HF → Prop
  | 0 => fun _  => False
  | n0_ + 1 => fun F  => (vp_in (nI 3) z1) ∧ ((((F 100 17) ≤ (F r1 (nI 3).toNatClampNeg)) → (K (nI 1) F)) ∧ ((¬ (F 100 17) ≤ (F r1 (nI 3).toNatClampNeg)) → ((vp_in (nI 3) z1) ∧ ((vp_in (nI 3) z1) ∧ (∀ F101 : HF, F101 = hup F r1 (nI 3).toNatClampNeg ((F r1 (nI 3).toNatClampNeg) + (nI 1)) → ((vp_in (nI 1) z1) ∧ (wp_X7_windIn (fun x1 F102 => wp_X7_passes (fun x2 F103 => ((¬ x2 = (nI 0)) → (wp_X7_goesOver_0 K r1 z1  n0_ F103)) ∧ ((x2 = (nI 0)) → (K (nI 0) F103))) F102 r1 z1 x1) F101 (F101 r1 (nI 1).toNatClampNeg))))))))
set_option maxRecDepth 100000 in
set_option maxHeartbeats 4000000 in
theorem k_X7_goesOver_0 {p : Program} {l : Launch} {e : Env} {s : State} {m : MethodId} {args : Array Value} {below : List Frame} {meth : Method} {c : Code} {D : va_G} {dA : Nat → ClassId} {ad : Nat → Nat} {R : List Nat} {A : Nat → Prop} {K : Int32 → HF → Prop} {r1 : Nat} {z1 : Nat} (X : Cx p s m args meth c cX7_goesOver 2 RX7 D dA) (hA : ∀ q, s.heap.size ≤ q → A q) (hr : meth.sig.returnType = some .boolean) (hT : Md R) (hr1 : IA R r1 z1) : ∀ (n_ : Nat) (F : HF), wp_X7_goesOver_0 K r1 z1 n_ F  → J p l e rm_X7_goesOver s m args below meth c 2 D dA ad R A (QI D dA ad R A below args s K) F 0 [(0, .ref (ad 100)), (1, .ref (ad r1))] [] := by
  intro n_
  induction n_ with
  | zero => intro F  h; exact h.elim
  | succ n_ ih =>
    intro F  h
    unfold wp_X7_goesOver_0 at h
    refine r_aload_n (pc := 0) X 1 dX7_goesOver_0 rfl rfl ?_
    refine r_iconst (pc := 1) (v := (nI 3)) X dX7_goesOver_1 (by decide) ?_
    refine r_iald (pc := 2) X hr1 h.1 dX7_goesOver_2 ?_
    replace h := h.2
    refine r_aload_n (pc := 3) X 0 dX7_goesOver_3 rfl rfl ?_
    refine fg_X7_35 (pc := 4) X hT.1 dX7_goesOver_4 ?_
    refine r_icmp_ge (pc := 7) (tgt := 34) X dX7_goesOver_7 (by decide) (fun hc => ?_) (fun hc => ?_)
    · replace h := h.1 hc
      refine r_iconst (pc := 34) (v := (nI 1)) X dX7_goesOver_34 (by decide) ?_
      exact r_zret (pc := 35) X hr dX7_goesOver_35 nb1 h
    · replace h := h.2 hc
      refine r_aload_n (pc := 10) X 1 dX7_goesOver_10 rfl rfl ?_
      refine r_iconst (pc := 11) (v := (nI 3)) X dX7_goesOver_11 (by decide) ?_
      refine r_dup2 (pc := 12) X dX7_goesOver_12 rfl rfl ?_
      refine r_iald (pc := 13) X hr1 h.1 dX7_goesOver_13 ?_
      replace h := h.2
      refine r_iconst (pc := 14) (v := (nI 1)) X dX7_goesOver_14 (by decide) ?_
      refine r_iadd (pc := 15) X dX7_goesOver_15 ?_
      refine r_iast (pc := 16) X hr1 h.1 dX7_goesOver_16 (fun F101 e1 => ?_)
      replace h := h.2 F101 e1
      refine r_aload_n (pc := 17) X 0 dX7_goesOver_17 rfl rfl ?_
      refine r_aload_n (pc := 18) X 1 dX7_goesOver_18 rfl rfl ?_
      refine r_aload_n (pc := 19) X 0 dX7_goesOver_19 rfl rfl ?_
      refine r_aload_n (pc := 20) X 1 dX7_goesOver_20 rfl rfl ?_
      refine r_iconst (pc := 21) (v := (nI 1)) X dX7_goesOver_21 (by decide) ?_
      refine r_iald (pc := 22) X hr1 h.1 dX7_goesOver_22 ?_
      replace h := h.2
      refine r_callIV (pc := 23) (As := [.int (F101 r1 (nI 1).toNatClampNeg)]) (st := [.ref (ad r1), .ref (ad 100)]) X hA (c_X7_windIn hT h) g_X7_139 cl_X7 hT.1 hd_X7_windIn rfl rfl rfl ⟨Nat.le_of_ble_eq_true rfl, Nat.le_of_ble_eq_true rfl⟩ rfl (Nat.le_of_ble_eq_true rfl) dX7_goesOver_23 (fun x1 F102 h => ?_)
      refine r_callIV (pc := 26) (As := [.ref (ad r1), .int x1]) (st := []) X hA (c_X7_passes hT hr1 h) g_X7_201 cl_X7 hT.1 hd_X7_passes rfl rfl rfl ⟨Nat.le_of_ble_eq_true rfl, Nat.le_of_ble_eq_true rfl⟩ rfl (Nat.le_of_ble_eq_true rfl) dX7_goesOver_26 (fun x2 F103 h => ?_)
      refine r_if_ne (pc := 29) (tgt := 0) X dX7_goesOver_29 (by decide) (fun hc => ?_) (fun hc => ?_)
      · replace h := h.1 hc
        exact ih _ h
      · replace h := h.2 hc
        refine r_iconst (pc := 32) (v := (nI 0)) X dX7_goesOver_32 (by decide) ?_
        exact r_zret (pc := 33) X hr dX7_goesOver_33 nb0 h
def wp_X7_goesOver (K : Int32 → HF → Prop) (F : HF) (r1 : Nat) (z1 : Nat) : Prop := ∃ m_, wp_X7_goesOver_0 K r1 z1  m_ F
set_option maxRecDepth 100000 in
set_option maxHeartbeats 4000000 in
theorem c_X7_goesOver {l : Launch} {D : va_G} {dA : Nat → ClassId} {ad : Nat → Nat} {R : List Nat} {F : HF} {r1 : Nat} {z1 : Nat} {K : Int32 → HF → Prop} (hT : Md R) (hr1 : IA R r1 z1) (h : wp_X7_goesOver K F r1 z1) : MI l yX7_goesOver cX7_goesOver 2 .boolean rm_X7_goesOver D dA ad R F [.ref (ad 100), .ref (ad r1)] K := by
  refine MI.of (own := RX7) (by decide) rfl (Nat.le_of_ble_eq_true rfl) ?_
  intro p e s m args below meth c A hA X hr
  unfold wp_X7_goesOver at h
  show J p l e rm_X7_goesOver s m args below meth c 2 D dA ad R A (QI D dA ad R A below args s K) F 0 [(0, .ref (ad 100)), (1, .ref (ad r1))] []
  obtain ⟨n1, h⟩ := h
  exact k_X7_goesOver_0 X hA hr hT hr1  n1 _ h
theorem dX7_over_0 : decode cX7_over 0 = .ok (.iload_n 1, 1) := by decide +kernel
theorem dX7_over_1 : decode cX7_over 1 = .ok (.iconst 0, 1) := by decide +kernel
theorem dX7_over_2 : decode cX7_over 2 = .ok (.iconst 1, 1) := by decide +kernel
theorem dX7_over_3 : decode cX7_over 3 = .ok (.invokestatic 87, 3) := by decide +kernel
theorem dX7_over_6 : decode cX7_over 6 = .ok (.ifCond .ne 5, 3) := by decide +kernel
theorem dX7_over_9 : decode cX7_over 9 = .ok (.iconst (-1), 1) := by decide +kernel
theorem dX7_over_10 : decode cX7_over 10 = .ok (.ireturn, 1) := by decide +kernel
theorem dX7_over_11 : decode cX7_over 11 = .ok (.aload_n 0, 1) := by decide +kernel
theorem dX7_over_12 : decode cX7_over 12 = .ok (.aload_n 0, 1) := by decide +kernel
theorem dX7_over_13 : decode cX7_over 13 = .ok (.getfield 44, 3) := by decide +kernel
theorem dX7_over_16 : decode cX7_over 16 = .ok (.invokevirtual 189, 3) := by decide +kernel
theorem dX7_over_19 : decode cX7_over 19 = .ok (.ifCond .eq 13, 3) := by decide +kernel
theorem dX7_over_22 : decode cX7_over 22 = .ok (.aload_n 0, 1) := by decide +kernel
theorem dX7_over_23 : decode cX7_over 23 = .ok (.getfield 44, 3) := by decide +kernel
theorem dX7_over_26 : decode cX7_over 26 = .ok (.iconst 4, 1) := by decide +kernel
theorem dX7_over_27 : decode cX7_over 27 = .ok (.iaload, 1) := by decide +kernel
theorem dX7_over_28 : decode cX7_over 28 = .ok (.iconst 1, 1) := by decide +kernel
theorem dX7_over_29 : decode cX7_over 29 = .ok (.if_icmp .ne 6, 3) := by decide +kernel
theorem dX7_over_32 : decode cX7_over 32 = .ok (.bipush (-2), 2) := by decide +kernel
theorem dX7_over_34 : decode cX7_over 34 = .ok (.ireturn, 1) := by decide +kernel
theorem dX7_over_35 : decode cX7_over 35 = .ok (.aload_n 0, 1) := by decide +kernel
theorem dX7_over_36 : decode cX7_over 36 = .ok (.getfield 44, 3) := by decide +kernel
theorem dX7_over_39 : decode cX7_over 39 = .ok (.iconst 0, 1) := by decide +kernel
theorem dX7_over_40 : decode cX7_over 40 = .ok (.aload_n 0, 1) := by decide +kernel
theorem dX7_over_41 : decode cX7_over 41 = .ok (.getfield 47, 3) := by decide +kernel
theorem dX7_over_44 : decode cX7_over 44 = .ok (.iconst 0, 1) := by decide +kernel
theorem dX7_over_45 : decode cX7_over 45 = .ok (.invokestatic 185, 3) := by decide +kernel
theorem dX7_over_48 : decode cX7_over 48 = .ok (.aload_n 0, 1) := by decide +kernel
theorem dX7_over_49 : decode cX7_over 49 = .ok (.aload_n 0, 1) := by decide +kernel
theorem dX7_over_50 : decode cX7_over 50 = .ok (.getfield 47, 3) := by decide +kernel
theorem dX7_over_53 : decode cX7_over 53 = .ok (.invokevirtual 204, 3) := by decide +kernel
theorem dX7_over_56 : decode cX7_over 56 = .ok (.ifCond .eq 8, 3) := by decide +kernel
theorem dX7_over_59 : decode cX7_over 59 = .ok (.bipush (-4), 2) := by decide +kernel
theorem dX7_over_61 : decode cX7_over 61 = .ok (.goto 24, 3) := by decide +kernel
theorem dX7_over_64 : decode cX7_over 64 = .ok (.iload_n 1, 1) := by decide +kernel
theorem dX7_over_65 : decode cX7_over 65 = .ok (.ifCond .ne 14, 3) := by decide +kernel
theorem dX7_over_68 : decode cX7_over 68 = .ok (.aload_n 0, 1) := by decide +kernel
theorem dX7_over_69 : decode cX7_over 69 = .ok (.getfield 47, 3) := by decide +kernel
theorem dX7_over_72 : decode cX7_over 72 = .ok (.iconst 1, 1) := by decide +kernel
theorem dX7_over_73 : decode cX7_over 73 = .ok (.iaload, 1) := by decide +kernel
theorem dX7_over_74 : decode cX7_over 74 = .ok (.iconst 1, 1) := by decide +kernel
theorem dX7_over_75 : decode cX7_over 75 = .ok (.isub, 1) := by decide +kernel
theorem dX7_over_76 : decode cX7_over 76 = .ok (.goto 9, 3) := by decide +kernel
theorem dX7_over_79 : decode cX7_over 79 = .ok (.aload_n 0, 1) := by decide +kernel
theorem dX7_over_80 : decode cX7_over 80 = .ok (.getfield 47, 3) := by decide +kernel
theorem dX7_over_83 : decode cX7_over 83 = .ok (.iconst 3, 1) := by decide +kernel
theorem dX7_over_84 : decode cX7_over 84 = .ok (.iaload, 1) := by decide +kernel
theorem dX7_over_85 : decode cX7_over 85 = .ok (.ireturn, 1) := by decide +kernel
theorem hd_X7_over : yX7_over.cls = RX7 ∧ yX7_over.cls ≠ "java/lang/invoke/MethodHandle" ∧ yX7_over.cls ≠ "java/lang/invoke/VarHandle" ∧ (parseMethodDescriptor yX7_over.desc).map (fun d => d.parameters.length) = some 1 := by decide +kernel
abbrev rm_X7_over : Room := { frames := 6, cells := 0, slots := 0, locals := 135 }
def wp_X7_over (K : Int32 → HF → Prop) (F : HF) (a1 : Int32) : Prop := wp_X7_in (fun x1 F1 => ((¬ x1 = (nI 0)) → (wp_X7_isWhole (fun x2 F2 => ((x2 = (nI 0)) → (K (-2 : Int32) F2)) ∧ ((¬ x2 = (nI 0)) → ((vp_in (nI 4) 21) ∧ (((¬ (F2 120 (nI 4).toNatClampNeg) = (nI 1)) → (wp_X7_copy (fun F3 => wp_X7_goesOver (fun x3 F4 => ((x3 = (nI 0)) → (((¬ a1 = (nI 0)) → ((vp_in (nI 3) 21) ∧ (K (F4 121 (nI 3).toNatClampNeg) F4))) ∧ ((a1 = (nI 0)) → ((vp_in (nI 1) 21) ∧ (K ((F4 121 (nI 1).toNatClampNeg) - (nI 1)) F4))))) ∧ ((¬ x3 = (nI 0)) → (K (-4 : Int32) F4))) F3 121 21) F2 120 21 121 21 (nI 0) (nI 0))) ∧ (((F2 120 (nI 4).toNatClampNeg) = (nI 1)) → (K (-2 : Int32) F2)))))) F1 120 21)) ∧ ((x1 = (nI 0)) → (K (-1 : Int32) F1))) F a1 (nI 0) (nI 1)
set_option maxRecDepth 100000 in
set_option maxHeartbeats 4000000 in
theorem c_X7_over {l : Launch} {D : va_G} {dA : Nat → ClassId} {ad : Nat → Nat} {R : List Nat} {F : HF} {a1 : Int32} {K : Int32 → HF → Prop} (hT : Md R) (h : wp_X7_over K F a1) : MI l yX7_over cX7_over 2 .int rm_X7_over D dA ad R F [.ref (ad 100), .int a1] K := by
  refine MI.of (own := RX7) (by decide) rfl (Nat.le_of_ble_eq_true rfl) ?_
  intro p e s m args below meth c A hA X hr
  unfold wp_X7_over at h
  show J p l e rm_X7_over s m args below meth c 2 D dA ad R A (QI D dA ad R A below args s K) F 0 [(0, .ref (ad 100)), (1, .int a1)] []
  refine r_iload_n (pc := 0) X 1 dX7_over_0 rfl rfl ?_
  refine r_iconst (pc := 1) (v := (nI 0)) X dX7_over_1 (by decide) ?_
  refine r_iconst (pc := 2) (v := (nI 1)) X dX7_over_2 (by decide) ?_
  refine r_callIS (pc := 3) (As := [.int a1, .int (nI 0), .int (nI 1)]) (st := []) X hA (c_X7_in  h) g_X7_87 hd_X7_in rfl rfl rfl ⟨Nat.le_of_ble_eq_true rfl, Nat.le_of_ble_eq_true rfl⟩ rfl (Nat.le_of_ble_eq_true rfl) dX7_over_3 (fun x1 F1 h => ?_)
  refine r_if_ne (pc := 6) (tgt := 11) X dX7_over_6 (by decide) (fun hc => ?_) (fun hc => ?_)
  · replace h := h.1 hc
    refine r_aload_n (pc := 11) X 0 dX7_over_11 rfl rfl ?_
    refine r_aload_n (pc := 12) X 0 dX7_over_12 rfl rfl ?_
    refine fg_X7_44 (pc := 13) X hT.1 dX7_over_13 ?_
    refine r_callIV (pc := 16) (As := [.ref (ad 120)]) (st := []) X hA (c_X7_isWhole hT hT.2.2.2.2.2.2.2.1 h) g_X7_189 cl_X7 hT.1 hd_X7_isWhole rfl rfl rfl ⟨Nat.le_of_ble_eq_true rfl, Nat.le_of_ble_eq_true rfl⟩ rfl (Nat.le_of_ble_eq_true rfl) dX7_over_16 (fun x2 F2 h => ?_)
    refine r_if_eq (pc := 19) (tgt := 32) X dX7_over_19 (by decide) (fun hc => ?_) (fun hc => ?_)
    · replace h := h.1 hc
      refine r_bipush (pc := 32) (v := (-2 : Int32)) X dX7_over_32 (by decide) ?_
      exact r_iret (pc := 34) X hr dX7_over_34 h
    · replace h := h.2 hc
      refine r_aload_n (pc := 22) X 0 dX7_over_22 rfl rfl ?_
      refine fg_X7_44 (pc := 23) X hT.1 dX7_over_23 ?_
      refine r_iconst (pc := 26) (v := (nI 4)) X dX7_over_26 (by decide) ?_
      refine r_iald (pc := 27) X hT.2.2.2.2.2.2.2.1 h.1 dX7_over_27 ?_
      replace h := h.2
      refine r_iconst (pc := 28) (v := (nI 1)) X dX7_over_28 (by decide) ?_
      refine r_icmp_ne (pc := 29) (tgt := 35) X dX7_over_29 (by decide) (fun hc => ?_) (fun hc => ?_)
      · replace h := h.1 hc
        refine r_aload_n (pc := 35) X 0 dX7_over_35 rfl rfl ?_
        refine fg_X7_44 (pc := 36) X hT.1 dX7_over_36 ?_
        refine r_iconst (pc := 39) (v := (nI 0)) X dX7_over_39 (by decide) ?_
        refine r_aload_n (pc := 40) X 0 dX7_over_40 rfl rfl ?_
        refine fg_X7_47 (pc := 41) X hT.1 dX7_over_41 ?_
        refine r_iconst (pc := 44) (v := (nI 0)) X dX7_over_44 (by decide) ?_
        refine r_callVS (pc := 45) (As := [.ref (ad 120), .int (nI 0), .ref (ad 121), .int (nI 0)]) (st := []) X hA (c_X7_copy hT.2.2.2.2.2.2.2.1 hT.2.2.2.2.2.2.2.2.1 h) g_X7_185 hd_X7_copy rfl rfl rfl ⟨Nat.le_of_ble_eq_true rfl, Nat.le_of_ble_eq_true rfl⟩ rfl (Nat.le_of_ble_eq_true rfl) dX7_over_45 (fun F3 h => ?_)
        refine r_aload_n (pc := 48) X 0 dX7_over_48 rfl rfl ?_
        refine r_aload_n (pc := 49) X 0 dX7_over_49 rfl rfl ?_
        refine fg_X7_47 (pc := 50) X hT.1 dX7_over_50 ?_
        refine r_callIV (pc := 53) (As := [.ref (ad 121)]) (st := []) X hA (c_X7_goesOver hT hT.2.2.2.2.2.2.2.2.1 h) g_X7_204 cl_X7 hT.1 hd_X7_goesOver rfl rfl rfl ⟨Nat.le_of_ble_eq_true rfl, Nat.le_of_ble_eq_true rfl⟩ rfl (Nat.le_of_ble_eq_true rfl) dX7_over_53 (fun x3 F4 h => ?_)
        refine r_if_eq (pc := 56) (tgt := 64) X dX7_over_56 (by decide) (fun hc => ?_) (fun hc => ?_)
        · replace h := h.1 hc
          refine r_iload_n (pc := 64) X 1 dX7_over_64 rfl rfl ?_
          refine r_if_ne (pc := 65) (tgt := 79) X dX7_over_65 (by decide) (fun hc => ?_) (fun hc => ?_)
          · replace h := h.1 hc
            refine r_aload_n (pc := 79) X 0 dX7_over_79 rfl rfl ?_
            refine fg_X7_47 (pc := 80) X hT.1 dX7_over_80 ?_
            refine r_iconst (pc := 83) (v := (nI 3)) X dX7_over_83 (by decide) ?_
            refine r_iald (pc := 84) X hT.2.2.2.2.2.2.2.2.1 h.1 dX7_over_84 ?_
            replace h := h.2
            exact r_iret (pc := 85) X hr dX7_over_85 h
          · replace h := h.2 hc
            refine r_aload_n (pc := 68) X 0 dX7_over_68 rfl rfl ?_
            refine fg_X7_47 (pc := 69) X hT.1 dX7_over_69 ?_
            refine r_iconst (pc := 72) (v := (nI 1)) X dX7_over_72 (by decide) ?_
            refine r_iald (pc := 73) X hT.2.2.2.2.2.2.2.2.1 h.1 dX7_over_73 ?_
            replace h := h.2
            refine r_iconst (pc := 74) (v := (nI 1)) X dX7_over_74 (by decide) ?_
            refine r_isub (pc := 75) X dX7_over_75 ?_
            refine r_goto (pc := 76) (tgt := 85) X dX7_over_76 (by decide) ?_
            exact r_iret (pc := 85) X hr dX7_over_85 h
        · replace h := h.2 hc
          refine r_bipush (pc := 59) (v := (-4 : Int32)) X dX7_over_59 (by decide) ?_
          refine r_goto (pc := 61) (tgt := 85) X dX7_over_61 (by decide) ?_
          exact r_iret (pc := 85) X hr dX7_over_85 h
      · replace h := h.2 hc
        refine r_bipush (pc := 32) (v := (-2 : Int32)) X dX7_over_32 (by decide) ?_
        exact r_iret (pc := 34) X hr dX7_over_34 h
  · replace h := h.2 hc
    refine r_iconst (pc := 9) (v := (-1 : Int32)) X dX7_over_9 (by decide) ?_
    exact r_iret (pc := 10) X hr dX7_over_10 h
theorem dX7_freshen_0 : decode cX7_freshen 0 = .ok (.iconst 0, 1) := by decide +kernel
theorem dX7_freshen_1 : decode cX7_freshen 1 = .ok (.istore_n 2, 1) := by decide +kernel
theorem dX7_freshen_2 : decode cX7_freshen 2 = .ok (.iload_n 2, 1) := by decide +kernel
theorem dX7_freshen_3 : decode cX7_freshen 3 = .ok (.bipush 8, 2) := by decide +kernel
theorem dX7_freshen_5 : decode cX7_freshen 5 = .ok (.if_icmp .ge 16, 3) := by decide +kernel
theorem dX7_freshen_8 : decode cX7_freshen 8 = .ok (.aload_n 1, 1) := by decide +kernel
theorem dX7_freshen_9 : decode cX7_freshen 9 = .ok (.bipush 13, 2) := by decide +kernel
theorem dX7_freshen_11 : decode cX7_freshen 11 = .ok (.iload_n 2, 1) := by decide +kernel
theorem dX7_freshen_12 : decode cX7_freshen 12 = .ok (.iadd, 1) := by decide +kernel
theorem dX7_freshen_13 : decode cX7_freshen 13 = .ok (.iconst 0, 1) := by decide +kernel
theorem dX7_freshen_14 : decode cX7_freshen 14 = .ok (.iastore, 1) := by decide +kernel
theorem dX7_freshen_15 : decode cX7_freshen 15 = .ok (.iinc 2 1, 3) := by decide +kernel
theorem dX7_freshen_18 : decode cX7_freshen 18 = .ok (.goto (-16), 3) := by decide +kernel
theorem dX7_freshen_21 : decode cX7_freshen 21 = .ok (.aload_n 1, 1) := by decide +kernel
theorem dX7_freshen_22 : decode cX7_freshen 22 = .ok (.iconst 1, 1) := by decide +kernel
theorem dX7_freshen_23 : decode cX7_freshen 23 = .ok (.iconst 0, 1) := by decide +kernel
theorem dX7_freshen_24 : decode cX7_freshen 24 = .ok (.iastore, 1) := by decide +kernel
theorem dX7_freshen_25 : decode cX7_freshen 25 = .ok (.aload_n 1, 1) := by decide +kernel
theorem dX7_freshen_26 : decode cX7_freshen 26 = .ok (.iconst 3, 1) := by decide +kernel
theorem dX7_freshen_27 : decode cX7_freshen 27 = .ok (.iconst (-1), 1) := by decide +kernel
theorem dX7_freshen_28 : decode cX7_freshen 28 = .ok (.iastore, 1) := by decide +kernel
theorem dX7_freshen_29 : decode cX7_freshen 29 = .ok (.aload_n 1, 1) := by decide +kernel
theorem dX7_freshen_30 : decode cX7_freshen 30 = .ok (.iconst 4, 1) := by decide +kernel
theorem dX7_freshen_31 : decode cX7_freshen 31 = .ok (.iconst 0, 1) := by decide +kernel
theorem dX7_freshen_32 : decode cX7_freshen 32 = .ok (.iastore, 1) := by decide +kernel
theorem dX7_freshen_33 : decode cX7_freshen 33 = .ok (.return_, 1) := by decide +kernel
theorem hd_X7_freshen : yX7_freshen.cls = RX7 ∧ yX7_freshen.cls ≠ "java/lang/invoke/MethodHandle" ∧ yX7_freshen.cls ≠ "java/lang/invoke/VarHandle" ∧ (parseMethodDescriptor yX7_freshen.desc).map (fun d => d.parameters.length) = some 1 := by decide +kernel
abbrev rm_X7_freshen : Room := { frames := 0, cells := 0, slots := 0, locals := 0 }
def wp_X7_freshen_2 (K : HF → Prop) (r1 : Nat) (z1 : Nat) : Nat → HF → Int32 → Prop
  | 0 => fun _ _ => False
  | n2_ + 1 => fun F v2 => (((nI 8) ≤ v2) → ((vp_in (nI 1) z1) ∧ (∀ F101 : HF, F101 = hup F r1 (nI 1).toNatClampNeg (nI 0) → ((vp_in (nI 3) z1) ∧ (∀ F102 : HF, F102 = hup F101 r1 (nI 3).toNatClampNeg (-1 : Int32) → ((vp_in (nI 4) z1) ∧ (∀ F103 : HF, F103 = hup F102 r1 (nI 4).toNatClampNeg (nI 0) → (K F103)))))))) ∧ ((¬ (nI 8) ≤ v2) → ((vp_in ((nI 13) + v2) z1) ∧ (∀ F104 : HF, F104 = hup F r1 ((nI 13) + v2).toNatClampNeg (nI 0) → (wp_X7_freshen_2 K r1 z1  n2_ F104 (v2 + (nI 1))))))
set_option maxRecDepth 100000 in
set_option maxHeartbeats 4000000 in
theorem k_X7_freshen_2 {p : Program} {l : Launch} {e : Env} {s : State} {m : MethodId} {args : Array Value} {below : List Frame} {meth : Method} {c : Code} {D : va_G} {dA : Nat → ClassId} {ad : Nat → Nat} {R : List Nat} {A : Nat → Prop} {K : HF → Prop} {r1 : Nat} {z1 : Nat} (X : Cx p s m args meth c cX7_freshen 3 RX7 D dA) (hA : ∀ q, s.heap.size ≤ q → A q) (hr : meth.sig.returnType = none) (hT : Md R) (hr1 : IA R r1 z1) : ∀ (n_ : Nat) (F : HF) (v2 : Int32), wp_X7_freshen_2 K r1 z1 n_ F v2 → J p l e rm_X7_freshen s m args below meth c 3 D dA ad R A (QV D dA ad R A below args s K) F 2 [(1, .ref (ad r1)), (2, .int v2)] [] := by
  intro n_
  induction n_ with
  | zero => intro F v2 h; exact h.elim
  | succ n_ ih =>
    intro F v2 h
    unfold wp_X7_freshen_2 at h
    refine r_iload_n (pc := 2) X 1 dX7_freshen_2 rfl rfl ?_
    refine r_bipush (pc := 3) (v := (nI 8)) X dX7_freshen_3 (by decide) ?_
    refine r_icmp_ge (pc := 5) (tgt := 21) X dX7_freshen_5 (by decide) (fun hc => ?_) (fun hc => ?_)
    · replace h := h.1 hc
      refine r_aload_n (pc := 21) X 0 dX7_freshen_21 rfl rfl ?_
      refine r_iconst (pc := 22) (v := (nI 1)) X dX7_freshen_22 (by decide) ?_
      refine r_iconst (pc := 23) (v := (nI 0)) X dX7_freshen_23 (by decide) ?_
      refine r_iast (pc := 24) X hr1 h.1 dX7_freshen_24 (fun F101 e1 => ?_)
      replace h := h.2 F101 e1
      refine r_aload_n (pc := 25) X 0 dX7_freshen_25 rfl rfl ?_
      refine r_iconst (pc := 26) (v := (nI 3)) X dX7_freshen_26 (by decide) ?_
      refine r_iconst (pc := 27) (v := (-1 : Int32)) X dX7_freshen_27 (by decide) ?_
      refine r_iast (pc := 28) X hr1 h.1 dX7_freshen_28 (fun F102 e1 => ?_)
      replace h := h.2 F102 e1
      refine r_aload_n (pc := 29) X 0 dX7_freshen_29 rfl rfl ?_
      refine r_iconst (pc := 30) (v := (nI 4)) X dX7_freshen_30 (by decide) ?_
      refine r_iconst (pc := 31) (v := (nI 0)) X dX7_freshen_31 (by decide) ?_
      refine r_iast (pc := 32) X hr1 h.1 dX7_freshen_32 (fun F103 e1 => ?_)
      replace h := h.2 F103 e1
      exact r_vret (pc := 33) X hr dX7_freshen_33 h
    · replace h := h.2 hc
      refine r_aload_n (pc := 8) X 0 dX7_freshen_8 rfl rfl ?_
      refine r_bipush (pc := 9) (v := (nI 13)) X dX7_freshen_9 (by decide) ?_
      refine r_iload_n (pc := 11) X 1 dX7_freshen_11 rfl rfl ?_
      refine r_iadd (pc := 12) X dX7_freshen_12 ?_
      refine r_iconst (pc := 13) (v := (nI 0)) X dX7_freshen_13 (by decide) ?_
      refine r_iast (pc := 14) X hr1 h.1 dX7_freshen_14 (fun F104 e1 => ?_)
      replace h := h.2 F104 e1
      refine r_iinc (pc := 15) (v := (v2 + (nI 1))) X 1 [(2, .int (v2 + (nI 1))), (1, .ref (ad r1))] dX7_freshen_15 rfl rfl (by decide) rfl ?_
      refine r_goto (pc := 18) (tgt := 2) X dX7_freshen_18 (by decide) ?_
      refine r_sub [1, 0] rfl ?_
      exact ih _ _ h
def wp_X7_freshen (K : HF → Prop) (F : HF) (r1 : Nat) (z1 : Nat) : Prop := ∃ m_, wp_X7_freshen_2 K r1 z1  m_ F (nI 0)
set_option maxRecDepth 100000 in
set_option maxHeartbeats 4000000 in
theorem c_X7_freshen {l : Launch} {D : va_G} {dA : Nat → ClassId} {ad : Nat → Nat} {R : List Nat} {F : HF} {r1 : Nat} {z1 : Nat} {K : HF → Prop} (hT : Md R) (hr1 : IA R r1 z1) (h : wp_X7_freshen K F r1 z1) : MV l yX7_freshen cX7_freshen 3 rm_X7_freshen D dA ad R F [.ref (ad 100), .ref (ad r1)] K := by
  refine MV.of (own := RX7) (by decide) rfl (Nat.le_of_ble_eq_true rfl) ?_
  intro p e s m args below meth c A hA X hr
  unfold wp_X7_freshen at h
  show J p l e rm_X7_freshen s m args below meth c 3 D dA ad R A (QV D dA ad R A below args s K) F 0 [(0, .ref (ad 100)), (1, .ref (ad r1))] []
  refine r_iconst (pc := 0) (v := (nI 0)) X dX7_freshen_0 (by decide) ?_
  refine r_istore_n (pc := 1) X [(2, .int (nI 0)), (0, .ref (ad 100)), (1, .ref (ad r1))] dX7_freshen_1 rfl (by decide) rfl ?_
  refine r_sub [2, 0] rfl ?_
  obtain ⟨n1, h⟩ := h
  exact k_X7_freshen_2 X hA hr hT hr1  n1 _ _ h
theorem dX7_findOf_0 : decode cX7_findOf 0 = .ok (.aload_n 0, 1) := by decide +kernel
theorem dX7_findOf_1 : decode cX7_findOf 1 = .ok (.getfield 44, 3) := by decide +kernel
theorem dX7_findOf_4 : decode cX7_findOf 4 = .ok (.iconst 0, 1) := by decide +kernel
theorem dX7_findOf_5 : decode cX7_findOf 5 = .ok (.aload_n 0, 1) := by decide +kernel
theorem dX7_findOf_6 : decode cX7_findOf 6 = .ok (.getfield 65, 3) := by decide +kernel
theorem dX7_findOf_9 : decode cX7_findOf 9 = .ok (.iconst 0, 1) := by decide +kernel
theorem dX7_findOf_10 : decode cX7_findOf 10 = .ok (.invokestatic 185, 3) := by decide +kernel
theorem dX7_findOf_13 : decode cX7_findOf 13 = .ok (.aload_n 0, 1) := by decide +kernel
theorem dX7_findOf_14 : decode cX7_findOf 14 = .ok (.getfield 65, 3) := by decide +kernel
theorem dX7_findOf_17 : decode cX7_findOf 17 = .ok (.iconst 0, 1) := by decide +kernel
theorem dX7_findOf_18 : decode cX7_findOf 18 = .ok (.iconst 0, 1) := by decide +kernel
theorem dX7_findOf_19 : decode cX7_findOf 19 = .ok (.iastore, 1) := by decide +kernel
theorem dX7_findOf_20 : decode cX7_findOf 20 = .ok (.aload_n 0, 1) := by decide +kernel
theorem dX7_findOf_21 : decode cX7_findOf 21 = .ok (.getfield 68, 3) := by decide +kernel
theorem dX7_findOf_24 : decode cX7_findOf 24 = .ok (.iconst 0, 1) := by decide +kernel
theorem dX7_findOf_25 : decode cX7_findOf 25 = .ok (.iconst 0, 1) := by decide +kernel
theorem dX7_findOf_26 : decode cX7_findOf 26 = .ok (.iastore, 1) := by decide +kernel
theorem dX7_findOf_27 : decode cX7_findOf 27 = .ok (.iconst 0, 1) := by decide +kernel
theorem dX7_findOf_28 : decode cX7_findOf 28 = .ok (.istore_n 2, 1) := by decide +kernel
theorem dX7_findOf_29 : decode cX7_findOf 29 = .ok (.iload_n 2, 1) := by decide +kernel
theorem dX7_findOf_30 : decode cX7_findOf 30 = .ok (.ifCond .lt 148, 3) := by decide +kernel
theorem dX7_findOf_33 : decode cX7_findOf 33 = .ok (.aload_n 0, 1) := by decide +kernel
theorem dX7_findOf_34 : decode cX7_findOf 34 = .ok (.getfield 65, 3) := by decide +kernel
theorem dX7_findOf_37 : decode cX7_findOf 37 = .ok (.iconst 0, 1) := by decide +kernel
theorem dX7_findOf_38 : decode cX7_findOf 38 = .ok (.iload_n 2, 1) := by decide +kernel
theorem dX7_findOf_39 : decode cX7_findOf 39 = .ok (.iastore, 1) := by decide +kernel
theorem dX7_findOf_40 : decode cX7_findOf 40 = .ok (.iload_n 2, 1) := by decide +kernel
theorem dX7_findOf_41 : decode cX7_findOf 41 = .ok (.iload_n 1, 1) := by decide +kernel
theorem dX7_findOf_42 : decode cX7_findOf 42 = .ok (.if_icmp .ge 20, 3) := by decide +kernel
theorem dX7_findOf_45 : decode cX7_findOf 45 = .ok (.aload_n 0, 1) := by decide +kernel
theorem dX7_findOf_46 : decode cX7_findOf 46 = .ok (.getfield 68, 3) := by decide +kernel
theorem dX7_findOf_49 : decode cX7_findOf 49 = .ok (.iload_n 2, 1) := by decide +kernel
theorem dX7_findOf_50 : decode cX7_findOf 50 = .ok (.iaload, 1) := by decide +kernel
theorem dX7_findOf_51 : decode cX7_findOf 51 = .ok (.aload_n 0, 1) := by decide +kernel
theorem dX7_findOf_52 : decode cX7_findOf 52 = .ok (.getfield 22, 3) := by decide +kernel
theorem dX7_findOf_55 : decode cX7_findOf 55 = .ok (.if_icmp .ge 7, 3) := by decide +kernel
theorem dX7_findOf_58 : decode cX7_findOf 58 = .ok (.iconst 1, 1) := by decide +kernel
theorem dX7_findOf_59 : decode cX7_findOf 59 = .ok (.goto 4, 3) := by decide +kernel
theorem dX7_findOf_62 : decode cX7_findOf 62 = .ok (.iconst 0, 1) := by decide +kernel
theorem dX7_findOf_63 : decode cX7_findOf 63 = .ok (.istore_n 3, 1) := by decide +kernel
theorem dX7_findOf_64 : decode cX7_findOf 64 = .ok (.iload_n 2, 1) := by decide +kernel
theorem dX7_findOf_65 : decode cX7_findOf 65 = .ok (.iload_n 1, 1) := by decide +kernel
theorem dX7_findOf_66 : decode cX7_findOf 66 = .ok (.if_icmp .ne 48, 3) := by decide +kernel
theorem dX7_findOf_69 : decode cX7_findOf 69 = .ok (.aload_n 0, 1) := by decide +kernel
theorem dX7_findOf_70 : decode cX7_findOf 70 = .ok (.aload_n 0, 1) := by decide +kernel
theorem dX7_findOf_71 : decode cX7_findOf 71 = .ok (.getfield 65, 3) := by decide +kernel
theorem dX7_findOf_74 : decode cX7_findOf 74 = .ok (.invokevirtual 189, 3) := by decide +kernel
theorem dX7_findOf_77 : decode cX7_findOf 77 = .ok (.ifCond .eq 37, 3) := by decide +kernel
theorem dX7_findOf_80 : decode cX7_findOf 80 = .ok (.aload_n 0, 1) := by decide +kernel
theorem dX7_findOf_81 : decode cX7_findOf 81 = .ok (.getfield 65, 3) := by decide +kernel
theorem dX7_findOf_84 : decode cX7_findOf 84 = .ok (.iconst 0, 1) := by decide +kernel
theorem dX7_findOf_85 : decode cX7_findOf 85 = .ok (.aload_n 0, 1) := by decide +kernel
theorem dX7_findOf_86 : decode cX7_findOf 86 = .ok (.getfield 47, 3) := by decide +kernel
theorem dX7_findOf_89 : decode cX7_findOf 89 = .ok (.iconst 0, 1) := by decide +kernel
theorem dX7_findOf_90 : decode cX7_findOf 90 = .ok (.invokestatic 185, 3) := by decide +kernel
theorem dX7_findOf_93 : decode cX7_findOf 93 = .ok (.aload_n 0, 1) := by decide +kernel
theorem dX7_findOf_94 : decode cX7_findOf 94 = .ok (.aload_n 0, 1) := by decide +kernel
theorem dX7_findOf_95 : decode cX7_findOf 95 = .ok (.getfield 47, 3) := by decide +kernel
theorem dX7_findOf_98 : decode cX7_findOf 98 = .ok (.invokevirtual 207, 3) := by decide +kernel
theorem dX7_findOf_101 : decode cX7_findOf 101 = .ok (.aload_n 0, 1) := by decide +kernel
theorem dX7_findOf_102 : decode cX7_findOf 102 = .ok (.aload_n 0, 1) := by decide +kernel
theorem dX7_findOf_103 : decode cX7_findOf 103 = .ok (.getfield 47, 3) := by decide +kernel
theorem dX7_findOf_106 : decode cX7_findOf 106 = .ok (.invokevirtual 204, 3) := by decide +kernel
theorem dX7_findOf_109 : decode cX7_findOf 109 = .ok (.ifCond .eq 5, 3) := by decide +kernel
theorem dX7_findOf_112 : decode cX7_findOf 112 = .ok (.iconst 1, 1) := by decide +kernel
theorem dX7_findOf_113 : decode cX7_findOf 113 = .ok (.ireturn, 1) := by decide +kernel
theorem dX7_findOf_114 : decode cX7_findOf 114 = .ok (.iload_n 3, 1) := by decide +kernel
theorem dX7_findOf_115 : decode cX7_findOf 115 = .ok (.ifCond .eq 57, 3) := by decide +kernel
theorem dX7_findOf_118 : decode cX7_findOf 118 = .ok (.aload_n 0, 1) := by decide +kernel
theorem dX7_findOf_119 : decode cX7_findOf 119 = .ok (.getfield 68, 3) := by decide +kernel
theorem dX7_findOf_122 : decode cX7_findOf 122 = .ok (.iload_n 2, 1) := by decide +kernel
theorem dX7_findOf_123 : decode cX7_findOf 123 = .ok (.iaload, 1) := by decide +kernel
theorem dX7_findOf_124 : decode cX7_findOf 124 = .ok (.istore 4, 2) := by decide +kernel
theorem dX7_findOf_126 : decode cX7_findOf 126 = .ok (.aload_n 0, 1) := by decide +kernel
theorem dX7_findOf_127 : decode cX7_findOf 127 = .ok (.getfield 68, 3) := by decide +kernel
theorem dX7_findOf_130 : decode cX7_findOf 130 = .ok (.iload_n 2, 1) := by decide +kernel
theorem dX7_findOf_131 : decode cX7_findOf 131 = .ok (.dup2, 1) := by decide +kernel
theorem dX7_findOf_132 : decode cX7_findOf 132 = .ok (.iaload, 1) := by decide +kernel
theorem dX7_findOf_133 : decode cX7_findOf 133 = .ok (.iconst 1, 1) := by decide +kernel
theorem dX7_findOf_134 : decode cX7_findOf 134 = .ok (.iadd, 1) := by decide +kernel
theorem dX7_findOf_135 : decode cX7_findOf 135 = .ok (.iastore, 1) := by decide +kernel
theorem dX7_findOf_136 : decode cX7_findOf 136 = .ok (.aload_n 0, 1) := by decide +kernel
theorem dX7_findOf_137 : decode cX7_findOf 137 = .ok (.aload_n 0, 1) := by decide +kernel
theorem dX7_findOf_138 : decode cX7_findOf 138 = .ok (.getfield 65, 3) := by decide +kernel
theorem dX7_findOf_141 : decode cX7_findOf 141 = .ok (.iload 4, 2) := by decide +kernel
theorem dX7_findOf_143 : decode cX7_findOf 143 = .ok (.invokevirtual 195, 3) := by decide +kernel
theorem dX7_findOf_146 : decode cX7_findOf 146 = .ok (.ifCond .eq 23, 3) := by decide +kernel
theorem dX7_findOf_149 : decode cX7_findOf 149 = .ok (.aload_n 0, 1) := by decide +kernel
theorem dX7_findOf_150 : decode cX7_findOf 150 = .ok (.getfield 65, 3) := by decide +kernel
theorem dX7_findOf_153 : decode cX7_findOf 153 = .ok (.iconst 5, 1) := by decide +kernel
theorem dX7_findOf_154 : decode cX7_findOf 154 = .ok (.iload_n 2, 1) := by decide +kernel
theorem dX7_findOf_155 : decode cX7_findOf 155 = .ok (.iadd, 1) := by decide +kernel
theorem dX7_findOf_156 : decode cX7_findOf 156 = .ok (.iload 4, 2) := by decide +kernel
theorem dX7_findOf_158 : decode cX7_findOf 158 = .ok (.iastore, 1) := by decide +kernel
theorem dX7_findOf_159 : decode cX7_findOf 159 = .ok (.iinc 2 1, 3) := by decide +kernel
theorem dX7_findOf_162 : decode cX7_findOf 162 = .ok (.aload_n 0, 1) := by decide +kernel
theorem dX7_findOf_163 : decode cX7_findOf 163 = .ok (.getfield 68, 3) := by decide +kernel
theorem dX7_findOf_166 : decode cX7_findOf 166 = .ok (.iload_n 2, 1) := by decide +kernel
theorem dX7_findOf_167 : decode cX7_findOf 167 = .ok (.iconst 0, 1) := by decide +kernel
theorem dX7_findOf_168 : decode cX7_findOf 168 = .ok (.iastore, 1) := by decide +kernel
theorem dX7_findOf_169 : decode cX7_findOf 169 = .ok (.goto 6, 3) := by decide +kernel
theorem dX7_findOf_172 : decode cX7_findOf 172 = .ok (.iinc 2 (-1), 3) := by decide +kernel
theorem dX7_findOf_175 : decode cX7_findOf 175 = .ok (.goto (-146), 3) := by decide +kernel
theorem dX7_findOf_178 : decode cX7_findOf 178 = .ok (.iconst 0, 1) := by decide +kernel
theorem dX7_findOf_179 : decode cX7_findOf 179 = .ok (.ireturn, 1) := by decide +kernel
theorem hd_X7_findOf : yX7_findOf.cls = RX7 ∧ yX7_findOf.cls ≠ "java/lang/invoke/MethodHandle" ∧ yX7_findOf.cls ≠ "java/lang/invoke/VarHandle" ∧ (parseMethodDescriptor yX7_findOf.desc).map (fun d => d.parameters.length) = some 1 := by decide +kernel
abbrev rm_X7_findOf : Room := { frames := 6, cells := 0, slots := 0, locals := 135 }
def wp_X7_findOf_175 (K : Int32 → HF → Prop) (L29 : HF → Int32 → Int32 → Prop) (F : HF) (v1 : Int32) (v2 : Int32) : Prop := L29 F v1 v2
set_option maxRecDepth 100000 in
set_option maxHeartbeats 4000000 in
theorem k_X7_findOf_175 {p : Program} {l : Launch} {e : Env} {s : State} {m : MethodId} {args : Array Value} {below : List Frame} {meth : Method} {c : Code} {D : va_G} {dA : Nat → ClassId} {ad : Nat → Nat} {R : List Nat} {A : Nat → Prop} {K : Int32 → HF → Prop} {L29 : HF → Int32 → Int32 → Prop} (X : Cx p s m args meth c cX7_findOf 5 RX7 D dA) (hA : ∀ q, s.heap.size ≤ q → A q) (hr : meth.sig.returnType = some .boolean) (hT : Md R) (hL29 : ∀ (F : HF) (v1 : Int32) (v2 : Int32), L29 F v1 v2 → J p l e rm_X7_findOf s m args below meth c 5 D dA ad R A (QI D dA ad R A below args s K) F 29 [(0, .ref (ad 100)), (1, .int v1), (2, .int v2)] []) : ∀ (F : HF) (v1 : Int32) (v2 : Int32), wp_X7_findOf_175 K L29  F v1 v2 → J p l e rm_X7_findOf s m args below meth c 5 D dA ad R A (QI D dA ad R A below args s K) F 175 [(0, .ref (ad 100)), (1, .int v1), (2, .int v2)] [] := by
  intro F v1 v2 h
  unfold wp_X7_findOf_175 at h
  refine r_goto (pc := 175) (tgt := 29) X dX7_findOf_175 (by decide) ?_
  exact hL29 _ _ _ h
def wp_X7_findOf_169 (K : Int32 → HF → Prop) (L29 : HF → Int32 → Int32 → Prop) (F : HF) (v1 : Int32) (v2 : Int32) : Prop := wp_X7_findOf_175 K L29  F v1 v2
set_option maxRecDepth 100000 in
set_option maxHeartbeats 4000000 in
theorem k_X7_findOf_169 {p : Program} {l : Launch} {e : Env} {s : State} {m : MethodId} {args : Array Value} {below : List Frame} {meth : Method} {c : Code} {D : va_G} {dA : Nat → ClassId} {ad : Nat → Nat} {R : List Nat} {A : Nat → Prop} {K : Int32 → HF → Prop} {L29 : HF → Int32 → Int32 → Prop} (X : Cx p s m args meth c cX7_findOf 5 RX7 D dA) (hA : ∀ q, s.heap.size ≤ q → A q) (hr : meth.sig.returnType = some .boolean) (hT : Md R) (hL29 : ∀ (F : HF) (v1 : Int32) (v2 : Int32), L29 F v1 v2 → J p l e rm_X7_findOf s m args below meth c 5 D dA ad R A (QI D dA ad R A below args s K) F 29 [(0, .ref (ad 100)), (1, .int v1), (2, .int v2)] []) : ∀ (F : HF) (v1 : Int32) (v2 : Int32), wp_X7_findOf_169 K L29  F v1 v2 → J p l e rm_X7_findOf s m args below meth c 5 D dA ad R A (QI D dA ad R A below args s K) F 169 [(0, .ref (ad 100)), (1, .int v1), (2, .int v2)] [] := by
  intro F v1 v2 h
  unfold wp_X7_findOf_169 at h
  refine r_goto (pc := 169) (tgt := 175) X dX7_findOf_169 (by decide) ?_
  exact k_X7_findOf_175 X hA hr hT hL29 _ _ _ h
def wp_X7_findOf_114 (K : Int32 → HF → Prop) (L29 : HF → Int32 → Int32 → Prop) (F : HF) (v1 : Int32) (v2 : Int32) (v3 : Int32) : Prop := ((v3 = (nI 0)) → (wp_X7_findOf_175 K L29  F v1 (v2 + (-1 : Int32)))) ∧ ((¬ v3 = (nI 0)) → ((vp_in v2 9) ∧ ((vp_in v2 9) ∧ ((vp_in v2 9) ∧ (∀ F505 : HF, F505 = hup F 132 v2.toNatClampNeg ((F 132 v2.toNatClampNeg) + (nI 1)) → (wp_X7_mayJoin (fun x1 F506 => ((x1 = (nI 0)) → (wp_X7_findOf_169 K L29  F506 v1 v2)) ∧ ((¬ x1 = (nI 0)) → ((vp_in ((nI 5) + v2) 21) ∧ (∀ F607 : HF, F607 = hup F506 131 ((nI 5) + v2).toNatClampNeg (F 132 v2.toNatClampNeg) → ((vp_in (v2 + (nI 1)) 9) ∧ (∀ F608 : HF, F608 = hup F607 132 (v2 + (nI 1)).toNatClampNeg (nI 0) → (wp_X7_findOf_169 K L29  F608 v1 (v2 + (nI 1))))))))) F505 131 21 (F 132 v2.toNatClampNeg)))))))
set_option maxRecDepth 100000 in
set_option maxHeartbeats 4000000 in
theorem k_X7_findOf_114 {p : Program} {l : Launch} {e : Env} {s : State} {m : MethodId} {args : Array Value} {below : List Frame} {meth : Method} {c : Code} {D : va_G} {dA : Nat → ClassId} {ad : Nat → Nat} {R : List Nat} {A : Nat → Prop} {K : Int32 → HF → Prop} {L29 : HF → Int32 → Int32 → Prop} (X : Cx p s m args meth c cX7_findOf 5 RX7 D dA) (hA : ∀ q, s.heap.size ≤ q → A q) (hr : meth.sig.returnType = some .boolean) (hT : Md R) (hL29 : ∀ (F : HF) (v1 : Int32) (v2 : Int32), L29 F v1 v2 → J p l e rm_X7_findOf s m args below meth c 5 D dA ad R A (QI D dA ad R A below args s K) F 29 [(0, .ref (ad 100)), (1, .int v1), (2, .int v2)] []) : ∀ (F : HF) (v1 : Int32) (v2 : Int32) (v3 : Int32), wp_X7_findOf_114 K L29  F v1 v2 v3 → J p l e rm_X7_findOf s m args below meth c 5 D dA ad R A (QI D dA ad R A below args s K) F 114 [(0, .ref (ad 100)), (1, .int v1), (2, .int v2), (3, .int v3)] [] := by
  intro F v1 v2 v3 h
  unfold wp_X7_findOf_114 at h
  refine r_iload_n (pc := 114) X 3 dX7_findOf_114 rfl rfl ?_
  refine r_if_eq (pc := 115) (tgt := 172) X dX7_findOf_115 (by decide) (fun hc => ?_) (fun hc => ?_)
  · replace h := h.1 hc
    refine r_iinc (pc := 172) (v := (v2 + (-1 : Int32))) X 2 [(2, .int (v2 + (-1 : Int32))), (0, .ref (ad 100)), (1, .int v1), (3, .int v3)] dX7_findOf_172 rfl rfl (by decide) rfl ?_
    refine r_sub [1, 2, 0] rfl ?_
    exact k_X7_findOf_175 X hA hr hT hL29 _ _ _ h
  · replace h := h.2 hc
    refine r_aload_n (pc := 118) X 0 dX7_findOf_118 rfl rfl ?_
    refine fg_X7_68 (pc := 119) X hT.1 dX7_findOf_119 ?_
    refine r_iload_n (pc := 122) X 2 dX7_findOf_122 rfl rfl ?_
    refine r_iald (pc := 123) X hT.2.2.2.2.2.2.2.2.2.2.2.2.2.2.2 h.1 dX7_findOf_123 ?_
    replace h := h.2
    refine r_istore (pc := 124) X [(4, .int (F 132 v2.toNatClampNeg)), (0, .ref (ad 100)), (1, .int v1), (2, .int v2), (3, .int v3)] dX7_findOf_124 (by decide) rfl ?_
    refine r_aload_n (pc := 126) X 1 dX7_findOf_126 rfl rfl ?_
    refine fg_X7_68 (pc := 127) X hT.1 dX7_findOf_127 ?_
    refine r_iload_n (pc := 130) X 3 dX7_findOf_130 rfl rfl ?_
    refine r_dup2 (pc := 131) X dX7_findOf_131 rfl rfl ?_
    refine r_iald (pc := 132) X hT.2.2.2.2.2.2.2.2.2.2.2.2.2.2.2 h.1 dX7_findOf_132 ?_
    replace h := h.2
    refine r_iconst (pc := 133) (v := (nI 1)) X dX7_findOf_133 (by decide) ?_
    refine r_iadd (pc := 134) X dX7_findOf_134 ?_
    refine r_iast (pc := 135) X hT.2.2.2.2.2.2.2.2.2.2.2.2.2.2.2 h.1 dX7_findOf_135 (fun F505 e1 => ?_)
    replace h := h.2 F505 e1
    refine r_aload_n (pc := 136) X 1 dX7_findOf_136 rfl rfl ?_
    refine r_aload_n (pc := 137) X 1 dX7_findOf_137 rfl rfl ?_
    refine fg_X7_65 (pc := 138) X hT.1 dX7_findOf_138 ?_
    refine r_iload (pc := 141) X 0 dX7_findOf_141 rfl ?_
    refine r_callIV (pc := 143) (As := [.ref (ad 131), .int (F 132 v2.toNatClampNeg)]) (st := []) X hA (c_X7_mayJoin hT hT.2.2.2.2.2.2.2.2.2.2.2.2.2.2.1 h) g_X7_195 cl_X7 hT.1 hd_X7_mayJoin rfl rfl rfl ⟨Nat.le_of_ble_eq_true rfl, Nat.le_of_ble_eq_true rfl⟩ rfl (Nat.le_of_ble_eq_true rfl) dX7_findOf_143 (fun x1 F506 h => ?_)
    refine r_if_eq (pc := 146) (tgt := 169) X dX7_findOf_146 (by decide) (fun hc => ?_) (fun hc => ?_)
    · replace h := h.1 hc
      refine r_sub [1, 2, 3] rfl ?_
      exact k_X7_findOf_169 X hA hr hT hL29 _ _ _ h
    · replace h := h.2 hc
      refine r_aload_n (pc := 149) X 1 dX7_findOf_149 rfl rfl ?_
      refine fg_X7_65 (pc := 150) X hT.1 dX7_findOf_150 ?_
      refine r_iconst (pc := 153) (v := (nI 5)) X dX7_findOf_153 (by decide) ?_
      refine r_iload_n (pc := 154) X 3 dX7_findOf_154 rfl rfl ?_
      refine r_iadd (pc := 155) X dX7_findOf_155 ?_
      refine r_iload (pc := 156) X 0 dX7_findOf_156 rfl ?_
      refine r_iast (pc := 158) X hT.2.2.2.2.2.2.2.2.2.2.2.2.2.2.1 h.1 dX7_findOf_158 (fun F607 e1 => ?_)
      replace h := h.2 F607 e1
      refine r_iinc (pc := 159) (v := (v2 + (nI 1))) X 3 [(2, .int (v2 + (nI 1))), (4, .int (F 132 v2.toNatClampNeg)), (0, .ref (ad 100)), (1, .int v1), (3, .int v3)] dX7_findOf_159 rfl rfl (by decide) rfl ?_
      refine r_aload_n (pc := 162) X 2 dX7_findOf_162 rfl rfl ?_
      refine fg_X7_68 (pc := 163) X hT.1 dX7_findOf_163 ?_
      refine r_iload_n (pc := 166) X 0 dX7_findOf_166 rfl rfl ?_
      refine r_iconst (pc := 167) (v := (nI 0)) X dX7_findOf_167 (by decide) ?_
      refine r_iast (pc := 168) X hT.2.2.2.2.2.2.2.2.2.2.2.2.2.2.2 h.1 dX7_findOf_168 (fun F608 e1 => ?_)
      replace h := h.2 F608 e1
      refine r_sub [2, 3, 0] rfl ?_
      exact k_X7_findOf_169 X hA hr hT hL29 _ _ _ h
def wp_X7_findOf_63 (K : Int32 → HF → Prop) (L29 : HF → Int32 → Int32 → Prop) (F : HF) (v1 : Int32) (v2 : Int32) (s0 : Int32) : Prop := ((¬ v2 = v1) → (wp_X7_findOf_114 K L29  F v1 v2 s0)) ∧ ((v2 = v1) → (wp_X7_isWhole (fun x2 F609 => ((x2 = (nI 0)) → (wp_X7_findOf_114 K L29  F609 v1 v2 s0)) ∧ ((¬ x2 = (nI 0)) → (wp_X7_copy (fun F610 => wp_X7_freshen (fun F611 => wp_X7_goesOver (fun x3 F612 => ((x3 = (nI 0)) → (wp_X7_findOf_114 K L29  F612 v1 v2 s0)) ∧ ((¬ x3 = (nI 0)) → (K (nI 1) F612))) F611 121 21) F610 121 21) F609 131 21 121 21 (nI 0) (nI 0)))) F 131 21))
set_option maxRecDepth 100000 in
set_option maxHeartbeats 4000000 in
theorem k_X7_findOf_63 {p : Program} {l : Launch} {e : Env} {s : State} {m : MethodId} {args : Array Value} {below : List Frame} {meth : Method} {c : Code} {D : va_G} {dA : Nat → ClassId} {ad : Nat → Nat} {R : List Nat} {A : Nat → Prop} {K : Int32 → HF → Prop} {L29 : HF → Int32 → Int32 → Prop} (X : Cx p s m args meth c cX7_findOf 5 RX7 D dA) (hA : ∀ q, s.heap.size ≤ q → A q) (hr : meth.sig.returnType = some .boolean) (hT : Md R) (hL29 : ∀ (F : HF) (v1 : Int32) (v2 : Int32), L29 F v1 v2 → J p l e rm_X7_findOf s m args below meth c 5 D dA ad R A (QI D dA ad R A below args s K) F 29 [(0, .ref (ad 100)), (1, .int v1), (2, .int v2)] []) : ∀ (F : HF) (v1 : Int32) (v2 : Int32) (s0 : Int32), wp_X7_findOf_63 K L29  F v1 v2 s0 → J p l e rm_X7_findOf s m args below meth c 5 D dA ad R A (QI D dA ad R A below args s K) F 63 [(0, .ref (ad 100)), (1, .int v1), (2, .int v2)] [.int s0] := by
  intro F v1 v2 s0 h
  unfold wp_X7_findOf_63 at h
  refine r_istore_n (pc := 63) X [(3, .int s0), (0, .ref (ad 100)), (1, .int v1), (2, .int v2)] dX7_findOf_63 rfl (by decide) rfl ?_
  refine r_iload_n (pc := 64) X 3 dX7_findOf_64 rfl rfl ?_
  refine r_iload_n (pc := 65) X 2 dX7_findOf_65 rfl rfl ?_
  refine r_icmp_ne (pc := 66) (tgt := 114) X dX7_findOf_66 (by decide) (fun hc => ?_) (fun hc => ?_)
  · replace h := h.1 hc
    refine r_sub [1, 2, 3, 0] rfl ?_
    exact k_X7_findOf_114 X hA hr hT hL29 _ _ _ _ h
  · replace h := h.2 hc
    refine r_aload_n (pc := 69) X 1 dX7_findOf_69 rfl rfl ?_
    refine r_aload_n (pc := 70) X 1 dX7_findOf_70 rfl rfl ?_
    refine fg_X7_65 (pc := 71) X hT.1 dX7_findOf_71 ?_
    refine r_callIV (pc := 74) (As := [.ref (ad 131)]) (st := []) X hA (c_X7_isWhole hT hT.2.2.2.2.2.2.2.2.2.2.2.2.2.2.1 h) g_X7_189 cl_X7 hT.1 hd_X7_isWhole rfl rfl rfl ⟨Nat.le_of_ble_eq_true rfl, Nat.le_of_ble_eq_true rfl⟩ rfl (Nat.le_of_ble_eq_true rfl) dX7_findOf_74 (fun x2 F609 h => ?_)
    refine r_if_eq (pc := 77) (tgt := 114) X dX7_findOf_77 (by decide) (fun hc => ?_) (fun hc => ?_)
    · replace h := h.1 hc
      refine r_sub [1, 2, 3, 0] rfl ?_
      exact k_X7_findOf_114 X hA hr hT hL29 _ _ _ _ h
    · replace h := h.2 hc
      refine r_aload_n (pc := 80) X 1 dX7_findOf_80 rfl rfl ?_
      refine fg_X7_65 (pc := 81) X hT.1 dX7_findOf_81 ?_
      refine r_iconst (pc := 84) (v := (nI 0)) X dX7_findOf_84 (by decide) ?_
      refine r_aload_n (pc := 85) X 1 dX7_findOf_85 rfl rfl ?_
      refine fg_X7_47 (pc := 86) X hT.1 dX7_findOf_86 ?_
      refine r_iconst (pc := 89) (v := (nI 0)) X dX7_findOf_89 (by decide) ?_
      refine r_callVS (pc := 90) (As := [.ref (ad 131), .int (nI 0), .ref (ad 121), .int (nI 0)]) (st := []) X hA (c_X7_copy hT.2.2.2.2.2.2.2.2.2.2.2.2.2.2.1 hT.2.2.2.2.2.2.2.2.1 h) g_X7_185 hd_X7_copy rfl rfl rfl ⟨Nat.le_of_ble_eq_true rfl, Nat.le_of_ble_eq_true rfl⟩ rfl (Nat.le_of_ble_eq_true rfl) dX7_findOf_90 (fun F610 h => ?_)
      refine r_aload_n (pc := 93) X 1 dX7_findOf_93 rfl rfl ?_
      refine r_aload_n (pc := 94) X 1 dX7_findOf_94 rfl rfl ?_
      refine fg_X7_47 (pc := 95) X hT.1 dX7_findOf_95 ?_
      refine r_callVV (pc := 98) (As := [.ref (ad 121)]) (st := []) X hA (c_X7_freshen hT hT.2.2.2.2.2.2.2.2.1 h) g_X7_207 cl_X7 hT.1 hd_X7_freshen rfl rfl rfl ⟨Nat.le_of_ble_eq_true rfl, Nat.le_of_ble_eq_true rfl⟩ rfl (Nat.le_of_ble_eq_true rfl) dX7_findOf_98 (fun F611 h => ?_)
      refine r_aload_n (pc := 101) X 1 dX7_findOf_101 rfl rfl ?_
      refine r_aload_n (pc := 102) X 1 dX7_findOf_102 rfl rfl ?_
      refine fg_X7_47 (pc := 103) X hT.1 dX7_findOf_103 ?_
      refine r_callIV (pc := 106) (As := [.ref (ad 121)]) (st := []) X hA (c_X7_goesOver hT hT.2.2.2.2.2.2.2.2.1 h) g_X7_204 cl_X7 hT.1 hd_X7_goesOver rfl rfl rfl ⟨Nat.le_of_ble_eq_true rfl, Nat.le_of_ble_eq_true rfl⟩ rfl (Nat.le_of_ble_eq_true rfl) dX7_findOf_106 (fun x3 F612 h => ?_)
      refine r_if_eq (pc := 109) (tgt := 114) X dX7_findOf_109 (by decide) (fun hc => ?_) (fun hc => ?_)
      · replace h := h.1 hc
        refine r_sub [1, 2, 3, 0] rfl ?_
        exact k_X7_findOf_114 X hA hr hT hL29 _ _ _ _ h
      · replace h := h.2 hc
        refine r_iconst (pc := 112) (v := (nI 1)) X dX7_findOf_112 (by decide) ?_
        exact r_zret (pc := 113) X hr dX7_findOf_113 nb1 h
def wp_X7_findOf_62 (K : Int32 → HF → Prop) (L29 : HF → Int32 → Int32 → Prop) (F : HF) (v1 : Int32) (v2 : Int32) : Prop := wp_X7_findOf_63 K L29  F v1 v2 (nI 0)
set_option maxRecDepth 100000 in
set_option maxHeartbeats 4000000 in
theorem k_X7_findOf_62 {p : Program} {l : Launch} {e : Env} {s : State} {m : MethodId} {args : Array Value} {below : List Frame} {meth : Method} {c : Code} {D : va_G} {dA : Nat → ClassId} {ad : Nat → Nat} {R : List Nat} {A : Nat → Prop} {K : Int32 → HF → Prop} {L29 : HF → Int32 → Int32 → Prop} (X : Cx p s m args meth c cX7_findOf 5 RX7 D dA) (hA : ∀ q, s.heap.size ≤ q → A q) (hr : meth.sig.returnType = some .boolean) (hT : Md R) (hL29 : ∀ (F : HF) (v1 : Int32) (v2 : Int32), L29 F v1 v2 → J p l e rm_X7_findOf s m args below meth c 5 D dA ad R A (QI D dA ad R A below args s K) F 29 [(0, .ref (ad 100)), (1, .int v1), (2, .int v2)] []) : ∀ (F : HF) (v1 : Int32) (v2 : Int32), wp_X7_findOf_62 K L29  F v1 v2 → J p l e rm_X7_findOf s m args below meth c 5 D dA ad R A (QI D dA ad R A below args s K) F 62 [(0, .ref (ad 100)), (1, .int v1), (2, .int v2)] [] := by
  intro F v1 v2 h
  unfold wp_X7_findOf_62 at h
  refine r_iconst (pc := 62) (v := (nI 0)) X dX7_findOf_62 (by decide) ?_
  exact k_X7_findOf_63 X hA hr hT hL29 _ _ _ _ h
def wp_X7_findOf_29 (K : Int32 → HF → Prop) : Nat → HF → Int32 → Int32 → Prop
  | 0 => fun _ _ _ => False
  | n29_ + 1 => fun F v1 v2 => ((v2 < (nI 0)) → (K (nI 0) F)) ∧ ((¬ v2 < (nI 0)) → ((vp_in (nI 0) 21) ∧ (∀ F104 : HF, F104 = hup F 131 (nI 0).toNatClampNeg v2 → (((v1 ≤ v2) → (wp_X7_findOf_62 K (wp_X7_findOf_29 K n29_)  F104 v1 v2)) ∧ ((¬ v1 ≤ v2) → ((vp_in v2 9) ∧ ((((F104 100 13) ≤ (F104 132 v2.toNatClampNeg)) → (wp_X7_findOf_62 K (wp_X7_findOf_29 K n29_)  F104 v1 v2)) ∧ ((¬ (F104 100 13) ≤ (F104 132 v2.toNatClampNeg)) → (wp_X7_findOf_63 K (wp_X7_findOf_29 K n29_)  F104 v1 v2 (nI 1))))))))))
set_option maxRecDepth 100000 in
set_option maxHeartbeats 4000000 in
theorem k_X7_findOf_29 {p : Program} {l : Launch} {e : Env} {s : State} {m : MethodId} {args : Array Value} {below : List Frame} {meth : Method} {c : Code} {D : va_G} {dA : Nat → ClassId} {ad : Nat → Nat} {R : List Nat} {A : Nat → Prop} {K : Int32 → HF → Prop} (X : Cx p s m args meth c cX7_findOf 5 RX7 D dA) (hA : ∀ q, s.heap.size ≤ q → A q) (hr : meth.sig.returnType = some .boolean) (hT : Md R) : ∀ (n_ : Nat) (F : HF) (v1 : Int32) (v2 : Int32), wp_X7_findOf_29 K  n_ F v1 v2 → J p l e rm_X7_findOf s m args below meth c 5 D dA ad R A (QI D dA ad R A below args s K) F 29 [(0, .ref (ad 100)), (1, .int v1), (2, .int v2)] [] := by
  intro n_
  induction n_ with
  | zero => intro F v1 v2 h; exact h.elim
  | succ n_ ih =>
    intro F v1 v2 h
    unfold wp_X7_findOf_29 at h
    refine r_iload_n (pc := 29) X 2 dX7_findOf_29 rfl rfl ?_
    refine r_if_lt (pc := 30) (tgt := 178) X dX7_findOf_30 (by decide) (fun hc => ?_) (fun hc => ?_)
    · replace h := h.1 hc
      refine r_iconst (pc := 178) (v := (nI 0)) X dX7_findOf_178 (by decide) ?_
      exact r_zret (pc := 179) X hr dX7_findOf_179 nb0 h
    · replace h := h.2 hc
      refine r_aload_n (pc := 33) X 0 dX7_findOf_33 rfl rfl ?_
      refine fg_X7_65 (pc := 34) X hT.1 dX7_findOf_34 ?_
      refine r_iconst (pc := 37) (v := (nI 0)) X dX7_findOf_37 (by decide) ?_
      refine r_iload_n (pc := 38) X 2 dX7_findOf_38 rfl rfl ?_
      refine r_iast (pc := 39) X hT.2.2.2.2.2.2.2.2.2.2.2.2.2.2.1 h.1 dX7_findOf_39 (fun F104 e1 => ?_)
      replace h := h.2 F104 e1
      refine r_iload_n (pc := 40) X 2 dX7_findOf_40 rfl rfl ?_
      refine r_iload_n (pc := 41) X 1 dX7_findOf_41 rfl rfl ?_
      refine r_icmp_ge (pc := 42) (tgt := 62) X dX7_findOf_42 (by decide) (fun hc => ?_) (fun hc => ?_)
      · replace h := h.1 hc
        exact k_X7_findOf_62 X hA hr hT ih _ _ _ h
      · replace h := h.2 hc
        refine r_aload_n (pc := 45) X 0 dX7_findOf_45 rfl rfl ?_
        refine fg_X7_68 (pc := 46) X hT.1 dX7_findOf_46 ?_
        refine r_iload_n (pc := 49) X 2 dX7_findOf_49 rfl rfl ?_
        refine r_iald (pc := 50) X hT.2.2.2.2.2.2.2.2.2.2.2.2.2.2.2 h.1 dX7_findOf_50 ?_
        replace h := h.2
        refine r_aload_n (pc := 51) X 0 dX7_findOf_51 rfl rfl ?_
        refine fg_X7_22 (pc := 52) X hT.1 dX7_findOf_52 ?_
        refine r_icmp_ge (pc := 55) (tgt := 62) X dX7_findOf_55 (by decide) (fun hc => ?_) (fun hc => ?_)
        · replace h := h.1 hc
          exact k_X7_findOf_62 X hA hr hT ih _ _ _ h
        · replace h := h.2 hc
          refine r_iconst (pc := 58) (v := (nI 1)) X dX7_findOf_58 (by decide) ?_
          refine r_goto (pc := 59) (tgt := 63) X dX7_findOf_59 (by decide) ?_
          exact k_X7_findOf_63 X hA hr hT ih _ _ _ _ h
def wp_X7_findOf (K : Int32 → HF → Prop) (F : HF) (a1 : Int32) : Prop := wp_X7_copy (fun F1 => (vp_in (nI 0) 21) ∧ (∀ F2 : HF, F2 = hup F1 131 (nI 0).toNatClampNeg (nI 0) → ((vp_in (nI 0) 9) ∧ (∀ F3 : HF, F3 = hup F2 132 (nI 0).toNatClampNeg (nI 0) → (∃ m_, wp_X7_findOf_29 K  m_ F3 a1 (nI 0)))))) F 120 21 131 21 (nI 0) (nI 0)
set_option maxRecDepth 100000 in
set_option maxHeartbeats 4000000 in
theorem c_X7_findOf {l : Launch} {D : va_G} {dA : Nat → ClassId} {ad : Nat → Nat} {R : List Nat} {F : HF} {a1 : Int32} {K : Int32 → HF → Prop} (hT : Md R) (h : wp_X7_findOf K F a1) : MI l yX7_findOf cX7_findOf 5 .boolean rm_X7_findOf D dA ad R F [.ref (ad 100), .int a1] K := by
  refine MI.of (own := RX7) (by decide) rfl (Nat.le_of_ble_eq_true rfl) ?_
  intro p e s m args below meth c A hA X hr
  unfold wp_X7_findOf at h
  show J p l e rm_X7_findOf s m args below meth c 5 D dA ad R A (QI D dA ad R A below args s K) F 0 [(0, .ref (ad 100)), (1, .int a1)] []
  refine r_aload_n (pc := 0) X 0 dX7_findOf_0 rfl rfl ?_
  refine fg_X7_44 (pc := 1) X hT.1 dX7_findOf_1 ?_
  refine r_iconst (pc := 4) (v := (nI 0)) X dX7_findOf_4 (by decide) ?_
  refine r_aload_n (pc := 5) X 0 dX7_findOf_5 rfl rfl ?_
  refine fg_X7_65 (pc := 6) X hT.1 dX7_findOf_6 ?_
  refine r_iconst (pc := 9) (v := (nI 0)) X dX7_findOf_9 (by decide) ?_
  refine r_callVS (pc := 10) (As := [.ref (ad 120), .int (nI 0), .ref (ad 131), .int (nI 0)]) (st := []) X hA (c_X7_copy hT.2.2.2.2.2.2.2.1 hT.2.2.2.2.2.2.2.2.2.2.2.2.2.2.1 h) g_X7_185 hd_X7_copy rfl rfl rfl ⟨Nat.le_of_ble_eq_true rfl, Nat.le_of_ble_eq_true rfl⟩ rfl (Nat.le_of_ble_eq_true rfl) dX7_findOf_10 (fun F1 h => ?_)
  refine r_aload_n (pc := 13) X 0 dX7_findOf_13 rfl rfl ?_
  refine fg_X7_65 (pc := 14) X hT.1 dX7_findOf_14 ?_
  refine r_iconst (pc := 17) (v := (nI 0)) X dX7_findOf_17 (by decide) ?_
  refine r_iconst (pc := 18) (v := (nI 0)) X dX7_findOf_18 (by decide) ?_
  refine r_iast (pc := 19) X hT.2.2.2.2.2.2.2.2.2.2.2.2.2.2.1 h.1 dX7_findOf_19 (fun F2 e1 => ?_)
  replace h := h.2 F2 e1
  refine r_aload_n (pc := 20) X 0 dX7_findOf_20 rfl rfl ?_
  refine fg_X7_68 (pc := 21) X hT.1 dX7_findOf_21 ?_
  refine r_iconst (pc := 24) (v := (nI 0)) X dX7_findOf_24 (by decide) ?_
  refine r_iconst (pc := 25) (v := (nI 0)) X dX7_findOf_25 (by decide) ?_
  refine r_iast (pc := 26) X hT.2.2.2.2.2.2.2.2.2.2.2.2.2.2.2 h.1 dX7_findOf_26 (fun F3 e1 => ?_)
  replace h := h.2 F3 e1
  refine r_iconst (pc := 27) (v := (nI 0)) X dX7_findOf_27 (by decide) ?_
  refine r_istore_n (pc := 28) X [(2, .int (nI 0)), (0, .ref (ad 100)), (1, .int a1)] dX7_findOf_28 rfl (by decide) rfl ?_
  refine r_sub [1, 2, 0] rfl ?_
  obtain ⟨n1, h⟩ := h
  exact k_X7_findOf_29 X hA hr hT  n1 _ _ _ h
theorem dX7_layFewest_0 : decode cX7_layFewest 0 = .ok (.aload_n 0, 1) := by decide +kernel
theorem dX7_layFewest_1 : decode cX7_layFewest 1 = .ok (.iconst 0, 1) := by decide +kernel
theorem dX7_layFewest_2 : decode cX7_layFewest 2 = .ok (.putfield 210, 3) := by decide +kernel
theorem dX7_layFewest_5 : decode cX7_layFewest 5 = .ok (.iconst 1, 1) := by decide +kernel
theorem dX7_layFewest_6 : decode cX7_layFewest 6 = .ok (.istore_n 1, 1) := by decide +kernel
theorem dX7_layFewest_7 : decode cX7_layFewest 7 = .ok (.iload_n 1, 1) := by decide +kernel
theorem dX7_layFewest_8 : decode cX7_layFewest 8 = .ok (.aload_n 0, 1) := by decide +kernel
theorem dX7_layFewest_9 : decode cX7_layFewest 9 = .ok (.getfield 22, 3) := by decide +kernel
theorem dX7_layFewest_12 : decode cX7_layFewest 12 = .ok (.if_icmp .gt 56, 3) := by decide +kernel
theorem dX7_layFewest_15 : decode cX7_layFewest 15 = .ok (.aload_n 0, 1) := by decide +kernel
theorem dX7_layFewest_16 : decode cX7_layFewest 16 = .ok (.getfield 210, 3) := by decide +kernel
theorem dX7_layFewest_19 : decode cX7_layFewest 19 = .ok (.ifCond .ne 49, 3) := by decide +kernel
theorem dX7_layFewest_22 : decode cX7_layFewest 22 = .ok (.aload_n 0, 1) := by decide +kernel
theorem dX7_layFewest_23 : decode cX7_layFewest 23 = .ok (.iload_n 1, 1) := by decide +kernel
theorem dX7_layFewest_24 : decode cX7_layFewest 24 = .ok (.invokevirtual 213, 3) := by decide +kernel
theorem dX7_layFewest_27 : decode cX7_layFewest 27 = .ok (.ifCond .eq 35, 3) := by decide +kernel
theorem dX7_layFewest_30 : decode cX7_layFewest 30 = .ok (.aload_n 0, 1) := by decide +kernel
theorem dX7_layFewest_31 : decode cX7_layFewest 31 = .ok (.iload_n 1, 1) := by decide +kernel
theorem dX7_layFewest_32 : decode cX7_layFewest 32 = .ok (.putfield 210, 3) := by decide +kernel
theorem dX7_layFewest_35 : decode cX7_layFewest 35 = .ok (.iconst 0, 1) := by decide +kernel
theorem dX7_layFewest_36 : decode cX7_layFewest 36 = .ok (.istore_n 2, 1) := by decide +kernel
theorem dX7_layFewest_37 : decode cX7_layFewest 37 = .ok (.iload_n 2, 1) := by decide +kernel
theorem dX7_layFewest_38 : decode cX7_layFewest 38 = .ok (.iload_n 1, 1) := by decide +kernel
theorem dX7_layFewest_39 : decode cX7_layFewest 39 = .ok (.if_icmp .ge 23, 3) := by decide +kernel
theorem dX7_layFewest_42 : decode cX7_layFewest 42 = .ok (.aload_n 0, 1) := by decide +kernel
theorem dX7_layFewest_43 : decode cX7_layFewest 43 = .ok (.getfield 59, 3) := by decide +kernel
theorem dX7_layFewest_46 : decode cX7_layFewest 46 = .ok (.iload_n 2, 1) := by decide +kernel
theorem dX7_layFewest_47 : decode cX7_layFewest 47 = .ok (.aload_n 0, 1) := by decide +kernel
theorem dX7_layFewest_48 : decode cX7_layFewest 48 = .ok (.getfield 65, 3) := by decide +kernel
theorem dX7_layFewest_51 : decode cX7_layFewest 51 = .ok (.iconst 5, 1) := by decide +kernel
theorem dX7_layFewest_52 : decode cX7_layFewest 52 = .ok (.iload_n 2, 1) := by decide +kernel
theorem dX7_layFewest_53 : decode cX7_layFewest 53 = .ok (.iadd, 1) := by decide +kernel
theorem dX7_layFewest_54 : decode cX7_layFewest 54 = .ok (.iaload, 1) := by decide +kernel
theorem dX7_layFewest_55 : decode cX7_layFewest 55 = .ok (.iastore, 1) := by decide +kernel
theorem dX7_layFewest_56 : decode cX7_layFewest 56 = .ok (.iinc 2 1, 3) := by decide +kernel
theorem dX7_layFewest_59 : decode cX7_layFewest 59 = .ok (.goto (-22), 3) := by decide +kernel
theorem dX7_layFewest_62 : decode cX7_layFewest 62 = .ok (.iinc 1 1, 3) := by decide +kernel
theorem dX7_layFewest_65 : decode cX7_layFewest 65 = .ok (.goto (-58), 3) := by decide +kernel
theorem dX7_layFewest_68 : decode cX7_layFewest 68 = .ok (.return_, 1) := by decide +kernel
theorem hd_X7_layFewest : yX7_layFewest.cls = RX7 ∧ yX7_layFewest.cls ≠ "java/lang/invoke/MethodHandle" ∧ yX7_layFewest.cls ≠ "java/lang/invoke/VarHandle" ∧ (parseMethodDescriptor yX7_layFewest.desc).map (fun d => d.parameters.length) = some 0 := by decide +kernel
abbrev rm_X7_layFewest : Room := { frames := 7, cells := 0, slots := 0, locals := 159 }
def wp_X7_layFewest_62 (K : HF → Prop) (L7 : HF → Int32 → Prop) (F : HF) (v1 : Int32) : Prop := L7 F (v1 + (nI 1))
set_option maxRecDepth 100000 in
set_option maxHeartbeats 4000000 in
theorem k_X7_layFewest_62 {p : Program} {l : Launch} {e : Env} {s : State} {m : MethodId} {args : Array Value} {below : List Frame} {meth : Method} {c : Code} {D : va_G} {dA : Nat → ClassId} {ad : Nat → Nat} {R : List Nat} {A : Nat → Prop} {K : HF → Prop} {L7 : HF → Int32 → Prop} (X : Cx p s m args meth c cX7_layFewest 3 RX7 D dA) (hA : ∀ q, s.heap.size ≤ q → A q) (hr : meth.sig.returnType = none) (hT : Md R) (hL7 : ∀ (F : HF) (v1 : Int32), L7 F v1 → J p l e rm_X7_layFewest s m args below meth c 3 D dA ad R A (QV D dA ad R A below args s K) F 7 [(0, .ref (ad 100)), (1, .int v1)] []) : ∀ (F : HF) (v1 : Int32), wp_X7_layFewest_62 K L7  F v1 → J p l e rm_X7_layFewest s m args below meth c 3 D dA ad R A (QV D dA ad R A below args s K) F 62 [(0, .ref (ad 100)), (1, .int v1)] [] := by
  intro F v1 h
  unfold wp_X7_layFewest_62 at h
  refine r_iinc (pc := 62) (v := (v1 + (nI 1))) X 1 [(1, .int (v1 + (nI 1))), (0, .ref (ad 100))] dX7_layFewest_62 rfl rfl (by decide) rfl ?_
  refine r_goto (pc := 65) (tgt := 7) X dX7_layFewest_65 (by decide) ?_
  refine r_sub [1, 0] rfl ?_
  exact hL7 _ _ h
def wp_X7_layFewest_37 (K : HF → Prop) (L7 : HF → Int32 → Prop) : Nat → HF → Int32 → Int32 → Prop
  | 0 => fun _ _ _ => False
  | n37_ + 1 => fun F v1 v2 => ((v1 ≤ v2) → (wp_X7_layFewest_62 K L7  F v1)) ∧ ((¬ v1 ≤ v2) → ((vp_in ((nI 5) + v2) 21) ∧ ((vp_in v2 8) ∧ (∀ F304 : HF, F304 = hup F 128 v2.toNatClampNeg (F 131 ((nI 5) + v2).toNatClampNeg) → (wp_X7_layFewest_37 K L7  n37_ F304 v1 (v2 + (nI 1)))))))
set_option maxRecDepth 100000 in
set_option maxHeartbeats 4000000 in
theorem k_X7_layFewest_37 {p : Program} {l : Launch} {e : Env} {s : State} {m : MethodId} {args : Array Value} {below : List Frame} {meth : Method} {c : Code} {D : va_G} {dA : Nat → ClassId} {ad : Nat → Nat} {R : List Nat} {A : Nat → Prop} {K : HF → Prop} {L7 : HF → Int32 → Prop} (X : Cx p s m args meth c cX7_layFewest 3 RX7 D dA) (hA : ∀ q, s.heap.size ≤ q → A q) (hr : meth.sig.returnType = none) (hT : Md R) (hL7 : ∀ (F : HF) (v1 : Int32), L7 F v1 → J p l e rm_X7_layFewest s m args below meth c 3 D dA ad R A (QV D dA ad R A below args s K) F 7 [(0, .ref (ad 100)), (1, .int v1)] []) : ∀ (n_ : Nat) (F : HF) (v1 : Int32) (v2 : Int32), wp_X7_layFewest_37 K L7  n_ F v1 v2 → J p l e rm_X7_layFewest s m args below meth c 3 D dA ad R A (QV D dA ad R A below args s K) F 37 [(0, .ref (ad 100)), (1, .int v1), (2, .int v2)] [] := by
  intro n_
  induction n_ with
  | zero => intro F v1 v2 h; exact h.elim
  | succ n_ ih =>
    intro F v1 v2 h
    unfold wp_X7_layFewest_37 at h
    refine r_iload_n (pc := 37) X 2 dX7_layFewest_37 rfl rfl ?_
    refine r_iload_n (pc := 38) X 1 dX7_layFewest_38 rfl rfl ?_
    refine r_icmp_ge (pc := 39) (tgt := 62) X dX7_layFewest_39 (by decide) (fun hc => ?_) (fun hc => ?_)
    · replace h := h.1 hc
      refine r_sub [0, 1] rfl ?_
      exact k_X7_layFewest_62 X hA hr hT hL7 _ _ h
    · replace h := h.2 hc
      refine r_aload_n (pc := 42) X 0 dX7_layFewest_42 rfl rfl ?_
      refine fg_X7_59 (pc := 43) X hT.1 dX7_layFewest_43 ?_
      refine r_iload_n (pc := 46) X 2 dX7_layFewest_46 rfl rfl ?_
      refine r_aload_n (pc := 47) X 0 dX7_layFewest_47 rfl rfl ?_
      refine fg_X7_65 (pc := 48) X hT.1 dX7_layFewest_48 ?_
      refine r_iconst (pc := 51) (v := (nI 5)) X dX7_layFewest_51 (by decide) ?_
      refine r_iload_n (pc := 52) X 2 dX7_layFewest_52 rfl rfl ?_
      refine r_iadd (pc := 53) X dX7_layFewest_53 ?_
      refine r_iald (pc := 54) X hT.2.2.2.2.2.2.2.2.2.2.2.2.2.2.1 h.1 dX7_layFewest_54 ?_
      replace h := h.2
      refine r_iast (pc := 55) X hT.2.2.2.2.2.2.2.2.2.2.2.2.1 h.1 dX7_layFewest_55 (fun F304 e1 => ?_)
      replace h := h.2 F304 e1
      refine r_iinc (pc := 56) (v := (v2 + (nI 1))) X 2 [(2, .int (v2 + (nI 1))), (0, .ref (ad 100)), (1, .int v1)] dX7_layFewest_56 rfl rfl (by decide) rfl ?_
      refine r_goto (pc := 59) (tgt := 37) X dX7_layFewest_59 (by decide) ?_
      refine r_sub [1, 2, 0] rfl ?_
      exact ih _ _ _ h
def wp_X7_layFewest_7 (K : HF → Prop) : Nat → HF → Int32 → Prop
  | 0 => fun _ _ => False
  | n7_ + 1 => fun F v1 => (((F 100 13) < v1) → (K F)) ∧ ((¬ (F 100 13) < v1) → (((¬ (F 100 30) = (nI 0)) → (K F)) ∧ (((F 100 30) = (nI 0)) → (wp_X7_findOf (fun x1 F102 => ((x1 = (nI 0)) → (wp_X7_layFewest_62 K (wp_X7_layFewest_7 K n7_)  F102 v1)) ∧ ((¬ x1 = (nI 0)) → (∀ F203 : HF, F203 = hup F102 100 30 v1 → (∃ m_, wp_X7_layFewest_37 K (wp_X7_layFewest_7 K n7_)  m_ F203 v1 (nI 0))))) F v1))))
set_option maxRecDepth 100000 in
set_option maxHeartbeats 4000000 in
theorem k_X7_layFewest_7 {p : Program} {l : Launch} {e : Env} {s : State} {m : MethodId} {args : Array Value} {below : List Frame} {meth : Method} {c : Code} {D : va_G} {dA : Nat → ClassId} {ad : Nat → Nat} {R : List Nat} {A : Nat → Prop} {K : HF → Prop} (X : Cx p s m args meth c cX7_layFewest 3 RX7 D dA) (hA : ∀ q, s.heap.size ≤ q → A q) (hr : meth.sig.returnType = none) (hT : Md R) : ∀ (n_ : Nat) (F : HF) (v1 : Int32), wp_X7_layFewest_7 K  n_ F v1 → J p l e rm_X7_layFewest s m args below meth c 3 D dA ad R A (QV D dA ad R A below args s K) F 7 [(0, .ref (ad 100)), (1, .int v1)] [] := by
  intro n_
  induction n_ with
  | zero => intro F v1 h; exact h.elim
  | succ n_ ih =>
    intro F v1 h
    unfold wp_X7_layFewest_7 at h
    refine r_iload_n (pc := 7) X 1 dX7_layFewest_7 rfl rfl ?_
    refine r_aload_n (pc := 8) X 0 dX7_layFewest_8 rfl rfl ?_
    refine fg_X7_22 (pc := 9) X hT.1 dX7_layFewest_9 ?_
    refine r_icmp_gt (pc := 12) (tgt := 68) X dX7_layFewest_12 (by decide) (fun hc => ?_) (fun hc => ?_)
    · replace h := h.1 hc
      exact r_vret (pc := 68) X hr dX7_layFewest_68 h
    · replace h := h.2 hc
      refine r_aload_n (pc := 15) X 0 dX7_layFewest_15 rfl rfl ?_
      refine fg_X7_210 (pc := 16) X hT.1 dX7_layFewest_16 ?_
      refine r_if_ne (pc := 19) (tgt := 68) X dX7_layFewest_19 (by decide) (fun hc => ?_) (fun hc => ?_)
      · replace h := h.1 hc
        exact r_vret (pc := 68) X hr dX7_layFewest_68 h
      · replace h := h.2 hc
        refine r_aload_n (pc := 22) X 0 dX7_layFewest_22 rfl rfl ?_
        refine r_iload_n (pc := 23) X 1 dX7_layFewest_23 rfl rfl ?_
        refine r_callIV (pc := 24) (As := [.int v1]) (st := []) X hA (c_X7_findOf hT h) g_X7_213 cl_X7 hT.1 hd_X7_findOf rfl rfl rfl ⟨Nat.le_of_ble_eq_true rfl, Nat.le_of_ble_eq_true rfl⟩ rfl (Nat.le_of_ble_eq_true rfl) dX7_layFewest_24 (fun x1 F102 h => ?_)
        refine r_if_eq (pc := 27) (tgt := 62) X dX7_layFewest_27 (by decide) (fun hc => ?_) (fun hc => ?_)
        · replace h := h.1 hc
          exact k_X7_layFewest_62 X hA hr hT ih _ _ h
        · replace h := h.2 hc
          refine r_aload_n (pc := 30) X 0 dX7_layFewest_30 rfl rfl ?_
          refine r_iload_n (pc := 31) X 1 dX7_layFewest_31 rfl rfl ?_
          refine fp_X7_210 (pc := 32) X hT.1 dX7_layFewest_32 (fun F203 e1 => ?_)
          replace h := h F203 e1
          refine r_iconst (pc := 35) (v := (nI 0)) X dX7_layFewest_35 (by decide) ?_
          refine r_istore_n (pc := 36) X [(2, .int (nI 0)), (0, .ref (ad 100)), (1, .int v1)] dX7_layFewest_36 rfl (by decide) rfl ?_
          refine r_sub [1, 2, 0] rfl ?_
          obtain ⟨n1, h⟩ := h
          exact k_X7_layFewest_37 X hA hr hT ih n1 _ _ _ h
def wp_X7_layFewest (K : HF → Prop) (F : HF) : Prop := ∀ F1 : HF, F1 = hup F 100 30 (nI 0) → (∃ m_, wp_X7_layFewest_7 K  m_ F1 (nI 1))
set_option maxRecDepth 100000 in
set_option maxHeartbeats 4000000 in
theorem c_X7_layFewest {l : Launch} {D : va_G} {dA : Nat → ClassId} {ad : Nat → Nat} {R : List Nat} {F : HF} {K : HF → Prop} (hT : Md R) (h : wp_X7_layFewest K F ) : MV l yX7_layFewest cX7_layFewest 3 rm_X7_layFewest D dA ad R F [.ref (ad 100)] K := by
  refine MV.of (own := RX7) (by decide) rfl (Nat.le_of_ble_eq_true rfl) ?_
  intro p e s m args below meth c A hA X hr
  unfold wp_X7_layFewest at h
  show J p l e rm_X7_layFewest s m args below meth c 3 D dA ad R A (QV D dA ad R A below args s K) F 0 [(0, .ref (ad 100))] []
  refine r_aload_n (pc := 0) X 0 dX7_layFewest_0 rfl rfl ?_
  refine r_iconst (pc := 1) (v := (nI 0)) X dX7_layFewest_1 (by decide) ?_
  refine fp_X7_210 (pc := 2) X hT.1 dX7_layFewest_2 (fun F1 e1 => ?_)
  replace h := h F1 e1
  refine r_iconst (pc := 5) (v := (nI 1)) X dX7_layFewest_5 (by decide) ?_
  refine r_istore_n (pc := 6) X [(1, .int (nI 1)), (0, .ref (ad 100))] dX7_layFewest_6 rfl (by decide) rfl ?_
  refine r_sub [1, 0] rfl ?_
  obtain ⟨n1, h⟩ := h
  exact k_X7_layFewest_7 X hA hr hT  n1 _ _ h
