theorem dX2_bridge_0 : decode cX2_bridge 0 = .ok (.aload_n 0, 1) := by decide +kernel
theorem dX2_bridge_1 : decode cX2_bridge 1 = .ok (.getfield 34, 3) := by decide +kernel
theorem dX2_bridge_4 : decode cX2_bridge 4 = .ok (.areturn, 1) := by decide +kernel
theorem hd_X2_bridge : yX2_bridge.cls = RX2 ∧ yX2_bridge.cls ≠ "java/lang/invoke/MethodHandle" ∧ yX2_bridge.cls ≠ "java/lang/invoke/VarHandle" ∧ (parseMethodDescriptor yX2_bridge.desc).map (fun d => d.parameters.length) = some 0 := by decide +kernel
abbrev rm_X2_bridge : Room := { frames := 0, cells := 0, slots := 0, locals := 0 }
theorem c_X2_bridge {l : Launch} {D : va_G} {dA : Nat → ClassId} {ad : Nat → Nat} {R : List Nat} {F : HF} {n : Nat} (hT : Nt R n) : MR l yX2_bridge cX2_bridge 1 (.object "BirdBridge$Bridge") rm_X2_bridge D dA ad R F [.ref (ad n)] (fun r F1 => r = n + 1 ∧ F1 = F) := by
  refine MR.of (own := RX2) (by decide) rfl (Nat.le_of_ble_eq_true rfl) ?_
  intro p e s m args below meth c A hA X hr
  show J p l e rm_X2_bridge s m args below meth c 1 D dA ad R A _ F 0 [(0, .ref (ad n))] []
  refine r_aload_n (pc := 0) X 0 dX2_bridge_0 rfl rfl ?_
  refine fg_X2_34 (pc := 1) X hT.1 dX2_bridge_1 ?_
  exact r_aret (pc := 4) X hr dX2_bridge_4 ⟨rfl, rfl⟩
theorem r_bridge_X6 {p : Program} {l : Launch} {e : Env} {Rm : Room} {s : State} {m : MethodId} {args : Array Value} {below : List Frame} {meth : Method} {c : Code} {nL : Nat} {D : va_G} {dA : Nat → ClassId} {ad : Nat → Nat} {R : List Nat} {A : Nat → Prop} {Q : State → Prop} {F : HF} {pc : Nat} {lv : List (Nat × Value)} {st : List Value} {cc : ByteArray} {t t1 : Nat} (X : Cx p s m args meth c cc nL RX6 D dA) (hA : ∀ q, s.heap.size ≤ q → A q) (ht : t + 1 = t1) (hn : Nt R t) (hcat : (st.map fun v => v.category).sum ≤ 8) (hf : 1 ≤ Rm.frames) (hl : 20 ≤ Rm.locals) (hdg : decode cc pc = .ok (.invokevirtual 123, 3)) (kk : J p l e Rm s m args below meth c nL D dA ad R A Q F (pc + 3) lv (.ref (ad t1) :: st)) : J p l e Rm s m args below meth c nL D dA ad R A Q F pc lv (.ref (ad t) :: st) := by
  refine r_callRV (As := []) (st := st) X hA (c_X2_bridge hn) g_X6_123 cl_X2 hn.1 hd_X2_bridge rfl rfl rfl ⟨hf, hl⟩ rfl hcat hdg (fun r F1 h => ?_)
  rw [h.1, h.2, ht]
  exact kk
theorem dX2_begin_0 : decode cX2_begin 0 = .ok (.aload_n 0, 1) := by decide +kernel
theorem dX2_begin_1 : decode cX2_begin 1 = .ok (.getfield 34, 3) := by decide +kernel
theorem dX2_begin_4 : decode cX2_begin 4 = .ok (.invokevirtual 38, 3) := by decide +kernel
theorem dX2_begin_7 : decode cX2_begin 7 = .ok (.aload_n 0, 1) := by decide +kernel
theorem dX2_begin_8 : decode cX2_begin 8 = .ok (.iconst 0, 1) := by decide +kernel
theorem dX2_begin_9 : decode cX2_begin 9 = .ok (.putfield 9, 3) := by decide +kernel
theorem dX2_begin_12 : decode cX2_begin 12 = .ok (.aload_n 0, 1) := by decide +kernel
theorem dX2_begin_13 : decode cX2_begin 13 = .ok (.iconst 0, 1) := by decide +kernel
theorem dX2_begin_14 : decode cX2_begin 14 = .ok (.putfield 15, 3) := by decide +kernel
theorem dX2_begin_17 : decode cX2_begin 17 = .ok (.aload_n 0, 1) := by decide +kernel
theorem dX2_begin_18 : decode cX2_begin 18 = .ok (.iconst (-1), 1) := by decide +kernel
theorem dX2_begin_19 : decode cX2_begin 19 = .ok (.putfield 18, 3) := by decide +kernel
theorem dX2_begin_22 : decode cX2_begin 22 = .ok (.aload_n 0, 1) := by decide +kernel
theorem dX2_begin_23 : decode cX2_begin 23 = .ok (.iconst 0, 1) := by decide +kernel
theorem dX2_begin_24 : decode cX2_begin 24 = .ok (.putfield 21, 3) := by decide +kernel
theorem dX2_begin_27 : decode cX2_begin 27 = .ok (.return_, 1) := by decide +kernel
theorem hd_X2_begin : yX2_begin.cls = RX2 ∧ yX2_begin.cls ≠ "java/lang/invoke/MethodHandle" ∧ yX2_begin.cls ≠ "java/lang/invoke/VarHandle" ∧ (parseMethodDescriptor yX2_begin.desc).map (fun d => d.parameters.length) = some 0 := by decide +kernel
abbrev rm_X2_begin : Room := { frames := 2, cells := 0, slots := 0, locals := 41 }
def wp_X2_begin (K : HF → Prop) (F : HF) (n : Nat) : Prop := wp_X0_clear (fun F1 => ∀ F2 : HF, F2 = hup F1 n 2 (nI 0) → (∀ F3 : HF, F3 = hup F2 n 3 (nI 0) → (∀ F4 : HF, F4 = hup F3 n 4 (-1 : Int32) → (∀ F5 : HF, F5 = hup F4 n 5 (nI 0) → (K F5))))) F (n + 1)
set_option maxRecDepth 100000 in
set_option maxHeartbeats 4000000 in
theorem c_X2_begin {l : Launch} {D : va_G} {dA : Nat → ClassId} {ad : Nat → Nat} {R : List Nat} {F : HF} {n : Nat} {K : HF → Prop} (hT : Nt R n) (h : wp_X2_begin K F n) : MV l yX2_begin cX2_begin 1 rm_X2_begin D dA ad R F [.ref (ad n)] K := by
  refine MV.of (own := RX2) (by decide) rfl (Nat.le_of_ble_eq_true rfl) ?_
  intro p e s m args below meth c A hA X hr
  unfold wp_X2_begin at h
  show J p l e rm_X2_begin s m args below meth c 1 D dA ad R A (QV D dA ad R A below args s K) F 0 [(0, .ref (ad n))] []
  refine r_aload_n (pc := 0) X 0 dX2_begin_0 rfl rfl ?_
  refine fg_X2_34 (pc := 1) X hT.1 dX2_begin_1 ?_
  refine r_callVV (pc := 4) (As := []) (st := []) X hA (c_X0_clear hT.2 h) g_X2_38 cl_X0 hT.2.1 hd_X0_clear rfl rfl rfl ⟨Nat.le_of_ble_eq_true rfl, Nat.le_of_ble_eq_true rfl⟩ rfl (Nat.le_of_ble_eq_true rfl) dX2_begin_4 (fun F1 h => ?_)
  refine r_aload_n (pc := 7) X 0 dX2_begin_7 rfl rfl ?_
  refine r_iconst (pc := 8) (v := (nI 0)) X dX2_begin_8 (by decide) ?_
  refine fp_X2_9 (pc := 9) X hT.1 dX2_begin_9 (fun F2 e1 => ?_)
  replace h := h F2 e1
  refine r_aload_n (pc := 12) X 0 dX2_begin_12 rfl rfl ?_
  refine r_iconst (pc := 13) (v := (nI 0)) X dX2_begin_13 (by decide) ?_
  refine fp_X2_15 (pc := 14) X hT.1 dX2_begin_14 (fun F3 e1 => ?_)
  replace h := h F3 e1
  refine r_aload_n (pc := 17) X 0 dX2_begin_17 rfl rfl ?_
  refine r_iconst (pc := 18) (v := (-1 : Int32)) X dX2_begin_18 (by decide) ?_
  refine fp_X2_18 (pc := 19) X hT.1 dX2_begin_19 (fun F4 e1 => ?_)
  replace h := h F4 e1
  refine r_aload_n (pc := 22) X 0 dX2_begin_22 rfl rfl ?_
  refine r_iconst (pc := 23) (v := (nI 0)) X dX2_begin_23 (by decide) ?_
  refine fp_X2_21 (pc := 24) X (Or.inl rfl) hT.1 dX2_begin_24 (fun F5 e1 => ?_)
  replace h := h F5 e1
  exact r_vret (pc := 27) X hr dX2_begin_27 h
theorem dX2_copyFrom_0 : decode cX2_copyFrom 0 = .ok (.aload_n 0, 1) := by decide +kernel
theorem dX2_copyFrom_1 : decode cX2_copyFrom 1 = .ok (.getfield 34, 3) := by decide +kernel
theorem dX2_copyFrom_4 : decode cX2_copyFrom 4 = .ok (.aload_n 1, 1) := by decide +kernel
theorem dX2_copyFrom_5 : decode cX2_copyFrom 5 = .ok (.getfield 34, 3) := by decide +kernel
theorem dX2_copyFrom_8 : decode cX2_copyFrom 8 = .ok (.invokevirtual 41, 3) := by decide +kernel
theorem dX2_copyFrom_11 : decode cX2_copyFrom 11 = .ok (.aload_n 0, 1) := by decide +kernel
theorem dX2_copyFrom_12 : decode cX2_copyFrom 12 = .ok (.aload_n 1, 1) := by decide +kernel
theorem dX2_copyFrom_13 : decode cX2_copyFrom 13 = .ok (.getfield 9, 3) := by decide +kernel
theorem dX2_copyFrom_16 : decode cX2_copyFrom 16 = .ok (.putfield 9, 3) := by decide +kernel
theorem dX2_copyFrom_19 : decode cX2_copyFrom 19 = .ok (.aload_n 0, 1) := by decide +kernel
theorem dX2_copyFrom_20 : decode cX2_copyFrom 20 = .ok (.aload_n 1, 1) := by decide +kernel
theorem dX2_copyFrom_21 : decode cX2_copyFrom 21 = .ok (.getfield 15, 3) := by decide +kernel
theorem dX2_copyFrom_24 : decode cX2_copyFrom 24 = .ok (.putfield 15, 3) := by decide +kernel
theorem dX2_copyFrom_27 : decode cX2_copyFrom 27 = .ok (.aload_n 0, 1) := by decide +kernel
theorem dX2_copyFrom_28 : decode cX2_copyFrom 28 = .ok (.aload_n 1, 1) := by decide +kernel
theorem dX2_copyFrom_29 : decode cX2_copyFrom 29 = .ok (.getfield 18, 3) := by decide +kernel
theorem dX2_copyFrom_32 : decode cX2_copyFrom 32 = .ok (.putfield 18, 3) := by decide +kernel
theorem dX2_copyFrom_35 : decode cX2_copyFrom 35 = .ok (.aload_n 0, 1) := by decide +kernel
theorem dX2_copyFrom_36 : decode cX2_copyFrom 36 = .ok (.aload_n 1, 1) := by decide +kernel
theorem dX2_copyFrom_37 : decode cX2_copyFrom 37 = .ok (.getfield 21, 3) := by decide +kernel
theorem dX2_copyFrom_40 : decode cX2_copyFrom 40 = .ok (.putfield 21, 3) := by decide +kernel
theorem dX2_copyFrom_43 : decode cX2_copyFrom 43 = .ok (.return_, 1) := by decide +kernel
theorem hd_X2_copyFrom : yX2_copyFrom.cls = RX2 ∧ yX2_copyFrom.cls ≠ "java/lang/invoke/MethodHandle" ∧ yX2_copyFrom.cls ≠ "java/lang/invoke/VarHandle" ∧ (parseMethodDescriptor yX2_copyFrom.desc).map (fun d => d.parameters.length) = some 1 := by decide +kernel
abbrev rm_X2_copyFrom : Room := { frames := 2, cells := 0, slots := 0, locals := 69 }
def wp_X2_copyFrom (K : HF → Prop) (F : HF) (n : Nat) (r1 : Nat) : Prop := wp_X0_copyFrom (fun F1 => ∀ F2 : HF, F2 = hup F1 n 2 (F1 r1 2) → (∀ F3 : HF, F3 = hup F2 n 3 (F2 r1 3) → (∀ F4 : HF, F4 = hup F3 n 4 (F3 r1 4) → (((F4 r1 5) = nI 0 ∨ (F4 r1 5) = nI 1) ∧ (∀ F5 : HF, F5 = hup F4 n 5 (F4 r1 5) → (K F5)))))) F (n + 1) (r1 + 1)
set_option maxRecDepth 100000 in
set_option maxHeartbeats 4000000 in
theorem c_X2_copyFrom {l : Launch} {D : va_G} {dA : Nat → ClassId} {ad : Nat → Nat} {R : List Nat} {F : HF} {n : Nat} {r1 : Nat} {K : HF → Prop} (hT : Nt R n) (hr1 : Nt R r1) (h : wp_X2_copyFrom K F n r1) : MV l yX2_copyFrom cX2_copyFrom 2 rm_X2_copyFrom D dA ad R F [.ref (ad n), .ref (ad r1)] K := by
  refine MV.of (own := RX2) (by decide) rfl (Nat.le_of_ble_eq_true rfl) ?_
  intro p e s m args below meth c A hA X hr
  unfold wp_X2_copyFrom at h
  show J p l e rm_X2_copyFrom s m args below meth c 2 D dA ad R A (QV D dA ad R A below args s K) F 0 [(0, .ref (ad n)), (1, .ref (ad r1))] []
  refine r_aload_n (pc := 0) X 0 dX2_copyFrom_0 rfl rfl ?_
  refine fg_X2_34 (pc := 1) X hT.1 dX2_copyFrom_1 ?_
  refine r_aload_n (pc := 4) X 1 dX2_copyFrom_4 rfl rfl ?_
  refine fg_X2_34 (pc := 5) X hr1.1 dX2_copyFrom_5 ?_
  refine r_callVV (pc := 8) (As := [.ref (ad (r1 + 1))]) (st := []) X hA (c_X0_copyFrom hT.2 hr1.2 h) g_X2_41 cl_X0 hT.2.1 hd_X0_copyFrom rfl rfl rfl ⟨Nat.le_of_ble_eq_true rfl, Nat.le_of_ble_eq_true rfl⟩ rfl (Nat.le_of_ble_eq_true rfl) dX2_copyFrom_8 (fun F1 h => ?_)
  refine r_aload_n (pc := 11) X 0 dX2_copyFrom_11 rfl rfl ?_
  refine r_aload_n (pc := 12) X 1 dX2_copyFrom_12 rfl rfl ?_
  refine fg_X2_9 (pc := 13) X hr1.1 dX2_copyFrom_13 ?_
  refine fp_X2_9 (pc := 16) X hT.1 dX2_copyFrom_16 (fun F2 e1 => ?_)
  replace h := h F2 e1
  refine r_aload_n (pc := 19) X 0 dX2_copyFrom_19 rfl rfl ?_
  refine r_aload_n (pc := 20) X 1 dX2_copyFrom_20 rfl rfl ?_
  refine fg_X2_15 (pc := 21) X hr1.1 dX2_copyFrom_21 ?_
  refine fp_X2_15 (pc := 24) X hT.1 dX2_copyFrom_24 (fun F3 e1 => ?_)
  replace h := h F3 e1
  refine r_aload_n (pc := 27) X 0 dX2_copyFrom_27 rfl rfl ?_
  refine r_aload_n (pc := 28) X 1 dX2_copyFrom_28 rfl rfl ?_
  refine fg_X2_18 (pc := 29) X hr1.1 dX2_copyFrom_29 ?_
  refine fp_X2_18 (pc := 32) X hT.1 dX2_copyFrom_32 (fun F4 e1 => ?_)
  replace h := h F4 e1
  refine r_aload_n (pc := 35) X 0 dX2_copyFrom_35 rfl rfl ?_
  refine r_aload_n (pc := 36) X 1 dX2_copyFrom_36 rfl rfl ?_
  refine fg_X2_21 (pc := 37) X hr1.1 dX2_copyFrom_37 ?_
  refine fp_X2_21 (pc := 40) X h.1 hT.1 dX2_copyFrom_40 (fun F5 e1 => ?_)
  replace h := h.2 F5 e1
  exact r_vret (pc := 43) X hr dX2_copyFrom_43 h
theorem dX2_minute_0 : decode cX2_minute 0 = .ok (.aload_n 0, 1) := by decide +kernel
theorem dX2_minute_1 : decode cX2_minute 1 = .ok (.getfield 9, 3) := by decide +kernel
theorem dX2_minute_4 : decode cX2_minute 4 = .ok (.ireturn, 1) := by decide +kernel
theorem hd_X2_minute : yX2_minute.cls = RX2 ∧ yX2_minute.cls ≠ "java/lang/invoke/MethodHandle" ∧ yX2_minute.cls ≠ "java/lang/invoke/VarHandle" ∧ (parseMethodDescriptor yX2_minute.desc).map (fun d => d.parameters.length) = some 0 := by decide +kernel
abbrev rm_X2_minute : Room := { frames := 0, cells := 0, slots := 0, locals := 0 }
def wp_X2_minute (K : Int32 → HF → Prop) (F : HF) (n : Nat) : Prop := K (F n 2) F
set_option maxRecDepth 100000 in
set_option maxHeartbeats 4000000 in
theorem c_X2_minute {l : Launch} {D : va_G} {dA : Nat → ClassId} {ad : Nat → Nat} {R : List Nat} {F : HF} {n : Nat} {K : Int32 → HF → Prop} (hT : Nt R n) (h : wp_X2_minute K F n) : MI l yX2_minute cX2_minute 1 .int rm_X2_minute D dA ad R F [.ref (ad n)] K := by
  refine MI.of (own := RX2) (by decide) rfl (Nat.le_of_ble_eq_true rfl) ?_
  intro p e s m args below meth c A hA X hr
  unfold wp_X2_minute at h
  show J p l e rm_X2_minute s m args below meth c 1 D dA ad R A (QI D dA ad R A below args s K) F 0 [(0, .ref (ad n))] []
  refine r_aload_n (pc := 0) X 0 dX2_minute_0 rfl rfl ?_
  refine fg_X2_9 (pc := 1) X hT.1 dX2_minute_1 ?_
  exact r_iret (pc := 4) X hr dX2_minute_4 h
theorem dX2_yearNow_0 : decode cX2_yearNow 0 = .ok (.aload_n 0, 1) := by decide +kernel
theorem dX2_yearNow_1 : decode cX2_yearNow 1 = .ok (.getfield 15, 3) := by decide +kernel
theorem dX2_yearNow_4 : decode cX2_yearNow 4 = .ok (.ireturn, 1) := by decide +kernel
theorem hd_X2_yearNow : yX2_yearNow.cls = RX2 ∧ yX2_yearNow.cls ≠ "java/lang/invoke/MethodHandle" ∧ yX2_yearNow.cls ≠ "java/lang/invoke/VarHandle" ∧ (parseMethodDescriptor yX2_yearNow.desc).map (fun d => d.parameters.length) = some 0 := by decide +kernel
abbrev rm_X2_yearNow : Room := { frames := 0, cells := 0, slots := 0, locals := 0 }
def wp_X2_yearNow (K : Int32 → HF → Prop) (F : HF) (n : Nat) : Prop := K (F n 3) F
set_option maxRecDepth 100000 in
set_option maxHeartbeats 4000000 in
theorem c_X2_yearNow {l : Launch} {D : va_G} {dA : Nat → ClassId} {ad : Nat → Nat} {R : List Nat} {F : HF} {n : Nat} {K : Int32 → HF → Prop} (hT : Nt R n) (h : wp_X2_yearNow K F n) : MI l yX2_yearNow cX2_yearNow 1 .int rm_X2_yearNow D dA ad R F [.ref (ad n)] K := by
  refine MI.of (own := RX2) (by decide) rfl (Nat.le_of_ble_eq_true rfl) ?_
  intro p e s m args below meth c A hA X hr
  unfold wp_X2_yearNow at h
  show J p l e rm_X2_yearNow s m args below meth c 1 D dA ad R A (QI D dA ad R A below args s K) F 0 [(0, .ref (ad n))] []
  refine r_aload_n (pc := 0) X 0 dX2_yearNow_0 rfl rfl ?_
  refine fg_X2_15 (pc := 1) X hT.1 dX2_yearNow_1 ?_
  exact r_iret (pc := 4) X hr dX2_yearNow_4 h
theorem dX2_setYear_0 : decode cX2_setYear 0 = .ok (.aload_n 0, 1) := by decide +kernel
theorem dX2_setYear_1 : decode cX2_setYear 1 = .ok (.iload_n 1, 1) := by decide +kernel
theorem dX2_setYear_2 : decode cX2_setYear 2 = .ok (.putfield 15, 3) := by decide +kernel
theorem dX2_setYear_5 : decode cX2_setYear 5 = .ok (.return_, 1) := by decide +kernel
theorem hd_X2_setYear : yX2_setYear.cls = RX2 ∧ yX2_setYear.cls ≠ "java/lang/invoke/MethodHandle" ∧ yX2_setYear.cls ≠ "java/lang/invoke/VarHandle" ∧ (parseMethodDescriptor yX2_setYear.desc).map (fun d => d.parameters.length) = some 1 := by decide +kernel
abbrev rm_X2_setYear : Room := { frames := 0, cells := 0, slots := 0, locals := 0 }
def wp_X2_setYear (K : HF → Prop) (F : HF) (n : Nat) (a1 : Int32) : Prop := ∀ F1 : HF, F1 = hup F n 3 a1 → (K F1)
set_option maxRecDepth 100000 in
set_option maxHeartbeats 4000000 in
theorem c_X2_setYear {l : Launch} {D : va_G} {dA : Nat → ClassId} {ad : Nat → Nat} {R : List Nat} {F : HF} {n : Nat} {a1 : Int32} {K : HF → Prop} (hT : Nt R n) (h : wp_X2_setYear K F n a1) : MV l yX2_setYear cX2_setYear 2 rm_X2_setYear D dA ad R F [.ref (ad n), .int a1] K := by
  refine MV.of (own := RX2) (by decide) rfl (Nat.le_of_ble_eq_true rfl) ?_
  intro p e s m args below meth c A hA X hr
  unfold wp_X2_setYear at h
  show J p l e rm_X2_setYear s m args below meth c 2 D dA ad R A (QV D dA ad R A below args s K) F 0 [(0, .ref (ad n)), (1, .int a1)] []
  refine r_aload_n (pc := 0) X 0 dX2_setYear_0 rfl rfl ?_
  refine r_iload_n (pc := 1) X 1 dX2_setYear_1 rfl rfl ?_
  refine fp_X2_15 (pc := 2) X hT.1 dX2_setYear_2 (fun F1 e1 => ?_)
  replace h := h F1 e1
  exact r_vret (pc := 5) X hr dX2_setYear_5 h
theorem dX2_place_0 : decode cX2_place 0 = .ok (.aload_n 0, 1) := by decide +kernel
theorem dX2_place_1 : decode cX2_place 1 = .ok (.getfield 18, 3) := by decide +kernel
theorem dX2_place_4 : decode cX2_place 4 = .ok (.ireturn, 1) := by decide +kernel
theorem hd_X2_place : yX2_place.cls = RX2 ∧ yX2_place.cls ≠ "java/lang/invoke/MethodHandle" ∧ yX2_place.cls ≠ "java/lang/invoke/VarHandle" ∧ (parseMethodDescriptor yX2_place.desc).map (fun d => d.parameters.length) = some 0 := by decide +kernel
abbrev rm_X2_place : Room := { frames := 0, cells := 0, slots := 0, locals := 0 }
def wp_X2_place (K : Int32 → HF → Prop) (F : HF) (n : Nat) : Prop := K (F n 4) F
set_option maxRecDepth 100000 in
set_option maxHeartbeats 4000000 in
theorem c_X2_place {l : Launch} {D : va_G} {dA : Nat → ClassId} {ad : Nat → Nat} {R : List Nat} {F : HF} {n : Nat} {K : Int32 → HF → Prop} (hT : Nt R n) (h : wp_X2_place K F n) : MI l yX2_place cX2_place 1 .int rm_X2_place D dA ad R F [.ref (ad n)] K := by
  refine MI.of (own := RX2) (by decide) rfl (Nat.le_of_ble_eq_true rfl) ?_
  intro p e s m args below meth c A hA X hr
  unfold wp_X2_place at h
  show J p l e rm_X2_place s m args below meth c 1 D dA ad R A (QI D dA ad R A below args s K) F 0 [(0, .ref (ad n))] []
  refine r_aload_n (pc := 0) X 0 dX2_place_0 rfl rfl ?_
  refine fg_X2_18 (pc := 1) X hT.1 dX2_place_1 ?_
  exact r_iret (pc := 4) X hr dX2_place_4 h
theorem dX2_isBroken_0 : decode cX2_isBroken 0 = .ok (.aload_n 0, 1) := by decide +kernel
theorem dX2_isBroken_1 : decode cX2_isBroken 1 = .ok (.getfield 21, 3) := by decide +kernel
theorem dX2_isBroken_4 : decode cX2_isBroken 4 = .ok (.ireturn, 1) := by decide +kernel
theorem hd_X2_isBroken : yX2_isBroken.cls = RX2 ∧ yX2_isBroken.cls ≠ "java/lang/invoke/MethodHandle" ∧ yX2_isBroken.cls ≠ "java/lang/invoke/VarHandle" ∧ (parseMethodDescriptor yX2_isBroken.desc).map (fun d => d.parameters.length) = some 0 := by decide +kernel
abbrev rm_X2_isBroken : Room := { frames := 0, cells := 0, slots := 0, locals := 0 }
def wp_X2_isBroken (K : Int32 → HF → Prop) (F : HF) (n : Nat) : Prop := ((F n 5) = nI 0 ∨ (F n 5) = nI 1) ∧ K (F n 5) F
set_option maxRecDepth 100000 in
set_option maxHeartbeats 4000000 in
theorem c_X2_isBroken {l : Launch} {D : va_G} {dA : Nat → ClassId} {ad : Nat → Nat} {R : List Nat} {F : HF} {n : Nat} {K : Int32 → HF → Prop} (hT : Nt R n) (h : wp_X2_isBroken K F n) : MI l yX2_isBroken cX2_isBroken 1 .boolean rm_X2_isBroken D dA ad R F [.ref (ad n)] K := by
  refine MI.of (own := RX2) (by decide) rfl (Nat.le_of_ble_eq_true rfl) ?_
  intro p e s m args below meth c A hA X hr
  unfold wp_X2_isBroken at h
  show J p l e rm_X2_isBroken s m args below meth c 1 D dA ad R A (QI D dA ad R A below args s K) F 0 [(0, .ref (ad n))] []
  refine r_aload_n (pc := 0) X 0 dX2_isBroken_0 rfl rfl ?_
  refine fg_X2_21 (pc := 1) X hT.1 dX2_isBroken_1 ?_
  exact r_zret (pc := 4) X hr dX2_isBroken_4 (nbz h.1) h.2
theorem dX2_weight_0 : decode cX2_weight 0 = .ok (.aload_n 0, 1) := by decide +kernel
theorem dX2_weight_1 : decode cX2_weight 1 = .ok (.getfield 25, 3) := by decide +kernel
theorem dX2_weight_4 : decode cX2_weight 4 = .ok (.aload_n 0, 1) := by decide +kernel
theorem dX2_weight_5 : decode cX2_weight 5 = .ok (.getfield 15, 3) := by decide +kernel
theorem dX2_weight_8 : decode cX2_weight 8 = .ok (.invokevirtual 45, 3) := by decide +kernel
theorem dX2_weight_11 : decode cX2_weight 11 = .ok (.ireturn, 1) := by decide +kernel
theorem hd_X2_weight : yX2_weight.cls = RX2 ∧ yX2_weight.cls ≠ "java/lang/invoke/MethodHandle" ∧ yX2_weight.cls ≠ "java/lang/invoke/VarHandle" ∧ (parseMethodDescriptor yX2_weight.desc).map (fun d => d.parameters.length) = some 0 := by decide +kernel
abbrev rm_X2_weight : Room := { frames := 1, cells := 0, slots := 0, locals := 21 }
def wp_X2_weight (K : Int32 → HF → Prop) (F : HF) (n : Nat) : Prop := wp_X1_weightIn (fun x1 F1 => K x1 F1) F 4 (F n 3)
set_option maxRecDepth 100000 in
set_option maxHeartbeats 4000000 in
theorem c_X2_weight {l : Launch} {D : va_G} {dA : Nat → ClassId} {ad : Nat → Nat} {R : List Nat} {F : HF} {n : Nat} {K : Int32 → HF → Prop} (hT : Nt R n) (h : wp_X2_weight K F n) : MI l yX2_weight cX2_weight 1 .int rm_X2_weight D dA ad R F [.ref (ad n)] K := by
  refine MI.of (own := RX2) (by decide) rfl (Nat.le_of_ble_eq_true rfl) ?_
  intro p e s m args below meth c A hA X hr
  unfold wp_X2_weight at h
  show J p l e rm_X2_weight s m args below meth c 1 D dA ad R A (QI D dA ad R A below args s K) F 0 [(0, .ref (ad n))] []
  refine r_aload_n (pc := 0) X 0 dX2_weight_0 rfl rfl ?_
  refine fg_X2_25 (pc := 1) X hT.1 dX2_weight_1 ?_
  refine r_aload_n (pc := 4) X 0 dX2_weight_4 rfl rfl ?_
  refine fg_X2_15 (pc := 5) X hT.1 dX2_weight_5 ?_
  refine r_callIV (pc := 8) (As := [.int (F n 3)]) (st := []) X hA (c_X1_weightIn hT.2.2.2.2.2 h) g_X2_45 cl_X1 hT.2.2.2.2.2.1 hd_X1_weightIn rfl rfl rfl ⟨Nat.le_of_ble_eq_true rfl, Nat.le_of_ble_eq_true rfl⟩ rfl (Nat.le_of_ble_eq_true rfl) dX2_weight_8 (fun x1 F1 h => ?_)
  exact r_iret (pc := 11) X hr dX2_weight_11 h
theorem dX2_isOnBridge_0 : decode cX2_isOnBridge 0 = .ok (.aload_n 0, 1) := by decide +kernel
theorem dX2_isOnBridge_1 : decode cX2_isOnBridge 1 = .ok (.getfield 18, 3) := by decide +kernel
theorem dX2_isOnBridge_4 : decode cX2_isOnBridge 4 = .ok (.ifCond .lt 21, 3) := by decide +kernel
theorem dX2_isOnBridge_7 : decode cX2_isOnBridge 7 = .ok (.aload_n 0, 1) := by decide +kernel
theorem dX2_isOnBridge_8 : decode cX2_isOnBridge 8 = .ok (.getfield 18, 3) := by decide +kernel
theorem dX2_isOnBridge_11 : decode cX2_isOnBridge 11 = .ok (.aload_n 0, 1) := by decide +kernel
theorem dX2_isOnBridge_12 : decode cX2_isOnBridge 12 = .ok (.getfield 25, 3) := by decide +kernel
theorem dX2_isOnBridge_15 : decode cX2_isOnBridge 15 = .ok (.invokevirtual 51, 3) := by decide +kernel
theorem dX2_isOnBridge_18 : decode cX2_isOnBridge 18 = .ok (.if_icmp .ge 7, 3) := by decide +kernel
theorem dX2_isOnBridge_21 : decode cX2_isOnBridge 21 = .ok (.iconst 1, 1) := by decide +kernel
theorem dX2_isOnBridge_22 : decode cX2_isOnBridge 22 = .ok (.goto 4, 3) := by decide +kernel
theorem dX2_isOnBridge_25 : decode cX2_isOnBridge 25 = .ok (.iconst 0, 1) := by decide +kernel
theorem dX2_isOnBridge_26 : decode cX2_isOnBridge 26 = .ok (.ireturn, 1) := by decide +kernel
theorem hd_X2_isOnBridge : yX2_isOnBridge.cls = RX2 ∧ yX2_isOnBridge.cls ≠ "java/lang/invoke/MethodHandle" ∧ yX2_isOnBridge.cls ≠ "java/lang/invoke/VarHandle" ∧ (parseMethodDescriptor yX2_isOnBridge.desc).map (fun d => d.parameters.length) = some 0 := by decide +kernel
abbrev rm_X2_isOnBridge : Room := { frames := 1, cells := 0, slots := 0, locals := 20 }
def wp_X2_isOnBridge (K : Int32 → HF → Prop) (F : HF) (n : Nat) : Prop := (((F n 4) < (nI 0)) → (K (nI 0) F)) ∧ ((¬ (F n 4) < (nI 0)) → (wp_X1_width (fun x1 F1 => ((x1 ≤ (F n 4)) → (K (nI 0) F1)) ∧ ((¬ x1 ≤ (F n 4)) → (K (nI 1) F1))) F 4))
set_option maxRecDepth 100000 in
set_option maxHeartbeats 4000000 in
theorem c_X2_isOnBridge {l : Launch} {D : va_G} {dA : Nat → ClassId} {ad : Nat → Nat} {R : List Nat} {F : HF} {n : Nat} {K : Int32 → HF → Prop} (hT : Nt R n) (h : wp_X2_isOnBridge K F n) : MI l yX2_isOnBridge cX2_isOnBridge 1 .boolean rm_X2_isOnBridge D dA ad R F [.ref (ad n)] K := by
  refine MI.of (own := RX2) (by decide) rfl (Nat.le_of_ble_eq_true rfl) ?_
  intro p e s m args below meth c A hA X hr
  unfold wp_X2_isOnBridge at h
  show J p l e rm_X2_isOnBridge s m args below meth c 1 D dA ad R A (QI D dA ad R A below args s K) F 0 [(0, .ref (ad n))] []
  refine r_aload_n (pc := 0) X 0 dX2_isOnBridge_0 rfl rfl ?_
  refine fg_X2_18 (pc := 1) X hT.1 dX2_isOnBridge_1 ?_
  refine r_if_lt (pc := 4) (tgt := 25) X dX2_isOnBridge_4 (by decide) (fun hc => ?_) (fun hc => ?_)
  · replace h := h.1 hc
    refine r_iconst (pc := 25) (v := (nI 0)) X dX2_isOnBridge_25 (by decide) ?_
    exact r_zret (pc := 26) X hr dX2_isOnBridge_26 nb0 h
  · replace h := h.2 hc
    refine r_aload_n (pc := 7) X 0 dX2_isOnBridge_7 rfl rfl ?_
    refine fg_X2_18 (pc := 8) X hT.1 dX2_isOnBridge_8 ?_
    refine r_aload_n (pc := 11) X 0 dX2_isOnBridge_11 rfl rfl ?_
    refine fg_X2_25 (pc := 12) X hT.1 dX2_isOnBridge_12 ?_
    refine r_callIV (pc := 15) (As := []) (st := [.int (F n 4)]) X hA (c_X1_width hT.2.2.2.2.2 h) g_X2_51 cl_X1 hT.2.2.2.2.2.1 hd_X1_width rfl rfl rfl ⟨Nat.le_of_ble_eq_true rfl, Nat.le_of_ble_eq_true rfl⟩ rfl (Nat.le_of_ble_eq_true rfl) dX2_isOnBridge_15 (fun x1 F1 h => ?_)
    refine r_icmp_ge (pc := 18) (tgt := 25) X dX2_isOnBridge_18 (by decide) (fun hc => ?_) (fun hc => ?_)
    · replace h := h.1 hc
      refine r_iconst (pc := 25) (v := (nI 0)) X dX2_isOnBridge_25 (by decide) ?_
      exact r_zret (pc := 26) X hr dX2_isOnBridge_26 nb0 h
    · replace h := h.2 hc
      refine r_iconst (pc := 21) (v := (nI 1)) X dX2_isOnBridge_21 (by decide) ?_
      refine r_goto (pc := 22) (tgt := 26) X dX2_isOnBridge_22 (by decide) ?_
      exact r_zret (pc := 26) X hr dX2_isOnBridge_26 nb1 h
theorem dX2_isFixed_0 : decode cX2_isFixed 0 = .ok (.aload_n 0, 1) := by decide +kernel
theorem dX2_isFixed_1 : decode cX2_isFixed 1 = .ok (.getfield 21, 3) := by decide +kernel
theorem dX2_isFixed_4 : decode cX2_isFixed 4 = .ok (.ifCond .ne 10, 3) := by decide +kernel
theorem dX2_isFixed_7 : decode cX2_isFixed 7 = .ok (.aload_n 0, 1) := by decide +kernel
theorem dX2_isFixed_8 : decode cX2_isFixed 8 = .ok (.invokevirtual 55, 3) := by decide +kernel
theorem dX2_isFixed_11 : decode cX2_isFixed 11 = .ok (.ifCond .eq 7, 3) := by decide +kernel
theorem dX2_isFixed_14 : decode cX2_isFixed 14 = .ok (.iconst 1, 1) := by decide +kernel
theorem dX2_isFixed_15 : decode cX2_isFixed 15 = .ok (.goto 4, 3) := by decide +kernel
theorem dX2_isFixed_18 : decode cX2_isFixed 18 = .ok (.iconst 0, 1) := by decide +kernel
theorem dX2_isFixed_19 : decode cX2_isFixed 19 = .ok (.ireturn, 1) := by decide +kernel
theorem hd_X2_isFixed : yX2_isFixed.cls = RX2 ∧ yX2_isFixed.cls ≠ "java/lang/invoke/MethodHandle" ∧ yX2_isFixed.cls ≠ "java/lang/invoke/VarHandle" ∧ (parseMethodDescriptor yX2_isFixed.desc).map (fun d => d.parameters.length) = some 0 := by decide +kernel
abbrev rm_X2_isFixed : Room := { frames := 2, cells := 0, slots := 0, locals := 40 }
def wp_X2_isFixed (K : Int32 → HF → Prop) (F : HF) (n : Nat) : Prop := ((¬ (F n 5) = (nI 0)) → (K (nI 1) F)) ∧ (((F n 5) = (nI 0)) → (wp_X2_isOnBridge (fun x1 F1 => ((x1 = (nI 0)) → (K (nI 0) F1)) ∧ ((¬ x1 = (nI 0)) → (K (nI 1) F1))) F n))
set_option maxRecDepth 100000 in
set_option maxHeartbeats 4000000 in
theorem c_X2_isFixed {l : Launch} {D : va_G} {dA : Nat → ClassId} {ad : Nat → Nat} {R : List Nat} {F : HF} {n : Nat} {K : Int32 → HF → Prop} (hT : Nt R n) (h : wp_X2_isFixed K F n) : MI l yX2_isFixed cX2_isFixed 1 .boolean rm_X2_isFixed D dA ad R F [.ref (ad n)] K := by
  refine MI.of (own := RX2) (by decide) rfl (Nat.le_of_ble_eq_true rfl) ?_
  intro p e s m args below meth c A hA X hr
  unfold wp_X2_isFixed at h
  show J p l e rm_X2_isFixed s m args below meth c 1 D dA ad R A (QI D dA ad R A below args s K) F 0 [(0, .ref (ad n))] []
  refine r_aload_n (pc := 0) X 0 dX2_isFixed_0 rfl rfl ?_
  refine fg_X2_21 (pc := 1) X hT.1 dX2_isFixed_1 ?_
  refine r_if_ne (pc := 4) (tgt := 14) X dX2_isFixed_4 (by decide) (fun hc => ?_) (fun hc => ?_)
  · replace h := h.1 hc
    refine r_iconst (pc := 14) (v := (nI 1)) X dX2_isFixed_14 (by decide) ?_
    refine r_goto (pc := 15) (tgt := 19) X dX2_isFixed_15 (by decide) ?_
    exact r_zret (pc := 19) X hr dX2_isFixed_19 nb1 h
  · replace h := h.2 hc
    refine r_aload_n (pc := 7) X 0 dX2_isFixed_7 rfl rfl ?_
    refine r_callIV (pc := 8) (As := []) (st := []) X hA (c_X2_isOnBridge hT h) g_X2_55 cl_X2 hT.1 hd_X2_isOnBridge rfl rfl rfl ⟨Nat.le_of_ble_eq_true rfl, Nat.le_of_ble_eq_true rfl⟩ rfl (Nat.le_of_ble_eq_true rfl) dX2_isFixed_8 (fun x1 F1 h => ?_)
    refine r_if_eq (pc := 11) (tgt := 18) X dX2_isFixed_11 (by decide) (fun hc => ?_) (fun hc => ?_)
    · replace h := h.1 hc
      refine r_iconst (pc := 18) (v := (nI 0)) X dX2_isFixed_18 (by decide) ?_
      exact r_zret (pc := 19) X hr dX2_isFixed_19 nb0 h
    · replace h := h.2 hc
      refine r_iconst (pc := 14) (v := (nI 1)) X dX2_isFixed_14 (by decide) ?_
      refine r_goto (pc := 15) (tgt := 19) X dX2_isFixed_15 (by decide) ?_
      exact r_zret (pc := 19) X hr dX2_isFixed_19 nb1 h
theorem dX2_passMinuteAt_0 : decode cX2_passMinuteAt 0 = .ok (.aload_n 0, 1) := by decide +kernel
theorem dX2_passMinuteAt_1 : decode cX2_passMinuteAt 1 = .ok (.iload_n 1, 1) := by decide +kernel
theorem dX2_passMinuteAt_2 : decode cX2_passMinuteAt 2 = .ok (.putfield 18, 3) := by decide +kernel
theorem dX2_passMinuteAt_5 : decode cX2_passMinuteAt 5 = .ok (.aload_n 0, 1) := by decide +kernel
theorem dX2_passMinuteAt_6 : decode cX2_passMinuteAt 6 = .ok (.invokevirtual 55, 3) := by decide +kernel
theorem dX2_passMinuteAt_9 : decode cX2_passMinuteAt 9 = .ok (.ifCond .eq 49, 3) := by decide +kernel
theorem dX2_passMinuteAt_12 : decode cX2_passMinuteAt 12 = .ok (.aload_n 0, 1) := by decide +kernel
theorem dX2_passMinuteAt_13 : decode cX2_passMinuteAt 13 = .ok (.getfield 34, 3) := by decide +kernel
theorem dX2_passMinuteAt_16 : decode cX2_passMinuteAt 16 = .ok (.aload_n 0, 1) := by decide +kernel
theorem dX2_passMinuteAt_17 : decode cX2_passMinuteAt 17 = .ok (.getfield 18, 3) := by decide +kernel
theorem dX2_passMinuteAt_20 : decode cX2_passMinuteAt 20 = .ok (.aload_n 0, 1) := by decide +kernel
theorem dX2_passMinuteAt_21 : decode cX2_passMinuteAt 21 = .ok (.invokevirtual 59, 3) := by decide +kernel
theorem dX2_passMinuteAt_24 : decode cX2_passMinuteAt 24 = .ok (.aload_n 0, 1) := by decide +kernel
theorem dX2_passMinuteAt_25 : decode cX2_passMinuteAt 25 = .ok (.getfield 25, 3) := by decide +kernel
theorem dX2_passMinuteAt_28 : decode cX2_passMinuteAt 28 = .ok (.aload_n 0, 1) := by decide +kernel
theorem dX2_passMinuteAt_29 : decode cX2_passMinuteAt 29 = .ok (.getfield 9, 3) := by decide +kernel
theorem dX2_passMinuteAt_32 : decode cX2_passMinuteAt 32 = .ok (.invokevirtual 62, 3) := by decide +kernel
theorem dX2_passMinuteAt_35 : decode cX2_passMinuteAt 35 = .ok (.iadd, 1) := by decide +kernel
theorem dX2_passMinuteAt_36 : decode cX2_passMinuteAt 36 = .ok (.invokevirtual 65, 3) := by decide +kernel
theorem dX2_passMinuteAt_39 : decode cX2_passMinuteAt 39 = .ok (.aload_n 0, 1) := by decide +kernel
theorem dX2_passMinuteAt_40 : decode cX2_passMinuteAt 40 = .ok (.aload_n 0, 1) := by decide +kernel
theorem dX2_passMinuteAt_41 : decode cX2_passMinuteAt 41 = .ok (.getfield 34, 3) := by decide +kernel
theorem dX2_passMinuteAt_44 : decode cX2_passMinuteAt 44 = .ok (.invokevirtual 69, 3) := by decide +kernel
theorem dX2_passMinuteAt_47 : decode cX2_passMinuteAt 47 = .ok (.ifCond .ne 7, 3) := by decide +kernel
theorem dX2_passMinuteAt_50 : decode cX2_passMinuteAt 50 = .ok (.iconst 1, 1) := by decide +kernel
theorem dX2_passMinuteAt_51 : decode cX2_passMinuteAt 51 = .ok (.goto 4, 3) := by decide +kernel
theorem dX2_passMinuteAt_54 : decode cX2_passMinuteAt 54 = .ok (.iconst 0, 1) := by decide +kernel
theorem dX2_passMinuteAt_55 : decode cX2_passMinuteAt 55 = .ok (.putfield 21, 3) := by decide +kernel
theorem dX2_passMinuteAt_58 : decode cX2_passMinuteAt 58 = .ok (.aload_n 0, 1) := by decide +kernel
theorem dX2_passMinuteAt_59 : decode cX2_passMinuteAt 59 = .ok (.dup, 1) := by decide +kernel
theorem dX2_passMinuteAt_60 : decode cX2_passMinuteAt 60 = .ok (.getfield 9, 3) := by decide +kernel
theorem dX2_passMinuteAt_63 : decode cX2_passMinuteAt 63 = .ok (.iconst 1, 1) := by decide +kernel
theorem dX2_passMinuteAt_64 : decode cX2_passMinuteAt 64 = .ok (.iadd, 1) := by decide +kernel
theorem dX2_passMinuteAt_65 : decode cX2_passMinuteAt 65 = .ok (.putfield 9, 3) := by decide +kernel
theorem dX2_passMinuteAt_68 : decode cX2_passMinuteAt 68 = .ok (.aload_n 0, 1) := by decide +kernel
theorem dX2_passMinuteAt_69 : decode cX2_passMinuteAt 69 = .ok (.getfield 21, 3) := by decide +kernel
theorem dX2_passMinuteAt_72 : decode cX2_passMinuteAt 72 = .ok (.ifCond .ne 7, 3) := by decide +kernel
theorem dX2_passMinuteAt_75 : decode cX2_passMinuteAt 75 = .ok (.iconst 1, 1) := by decide +kernel
theorem dX2_passMinuteAt_76 : decode cX2_passMinuteAt 76 = .ok (.goto 4, 3) := by decide +kernel
theorem dX2_passMinuteAt_79 : decode cX2_passMinuteAt 79 = .ok (.iconst 0, 1) := by decide +kernel
theorem dX2_passMinuteAt_80 : decode cX2_passMinuteAt 80 = .ok (.ireturn, 1) := by decide +kernel
theorem hd_X2_passMinuteAt : yX2_passMinuteAt.cls = RX2 ∧ yX2_passMinuteAt.cls ≠ "java/lang/invoke/MethodHandle" ∧ yX2_passMinuteAt.cls ≠ "java/lang/invoke/VarHandle" ∧ (parseMethodDescriptor yX2_passMinuteAt.desc).map (fun d => d.parameters.length) = some 1 := by decide +kernel
abbrev rm_X2_passMinuteAt : Room := { frames := 4, cells := 0, slots := 0, locals := 90 }
def wp_X2_passMinuteAt_58 (K : Int32 → HF → Prop) (n : Nat) (F : HF) : Prop := ∀ F103 : HF, F103 = hup F n 2 ((F n 2) + (nI 1)) → (((¬ (F103 n 5) = (nI 0)) → (K (nI 0) F103)) ∧ (((F103 n 5) = (nI 0)) → (K (nI 1) F103)))
set_option maxRecDepth 100000 in
set_option maxHeartbeats 4000000 in
theorem k_X2_passMinuteAt_58 {p : Program} {l : Launch} {e : Env} {s : State} {m : MethodId} {args : Array Value} {below : List Frame} {meth : Method} {c : Code} {D : va_G} {dA : Nat → ClassId} {ad : Nat → Nat} {R : List Nat} {A : Nat → Prop} {K : Int32 → HF → Prop} {n : Nat} (X : Cx p s m args meth c cX2_passMinuteAt 2 RX2 D dA) (hA : ∀ q, s.heap.size ≤ q → A q) (hr : meth.sig.returnType = some .boolean) (hT : Nt R n) : ∀ (F : HF), wp_X2_passMinuteAt_58 K n F  → J p l e rm_X2_passMinuteAt s m args below meth c 2 D dA ad R A (QI D dA ad R A below args s K) F 58 [(0, .ref (ad n))] [] := by
  intro F  h
  unfold wp_X2_passMinuteAt_58 at h
  refine r_aload_n (pc := 58) X 0 dX2_passMinuteAt_58 rfl rfl ?_
  refine r_dup (pc := 59) X dX2_passMinuteAt_59 rfl ?_
  refine fg_X2_9 (pc := 60) X hT.1 dX2_passMinuteAt_60 ?_
  refine r_iconst (pc := 63) (v := (nI 1)) X dX2_passMinuteAt_63 (by decide) ?_
  refine r_iadd (pc := 64) X dX2_passMinuteAt_64 ?_
  refine fp_X2_9 (pc := 65) X hT.1 dX2_passMinuteAt_65 (fun F103 e1 => ?_)
  replace h := h F103 e1
  refine r_aload_n (pc := 68) X 0 dX2_passMinuteAt_68 rfl rfl ?_
  refine fg_X2_21 (pc := 69) X hT.1 dX2_passMinuteAt_69 ?_
  refine r_if_ne (pc := 72) (tgt := 79) X dX2_passMinuteAt_72 (by decide) (fun hc => ?_) (fun hc => ?_)
  · replace h := h.1 hc
    refine r_iconst (pc := 79) (v := (nI 0)) X dX2_passMinuteAt_79 (by decide) ?_
    exact r_zret (pc := 80) X hr dX2_passMinuteAt_80 nb0 h
  · replace h := h.2 hc
    refine r_iconst (pc := 75) (v := (nI 1)) X dX2_passMinuteAt_75 (by decide) ?_
    refine r_goto (pc := 76) (tgt := 80) X dX2_passMinuteAt_76 (by decide) ?_
    exact r_zret (pc := 80) X hr dX2_passMinuteAt_80 nb1 h
def wp_X2_passMinuteAt_55 (K : Int32 → HF → Prop) (n : Nat) (F : HF) (s1 : Int32) : Prop := (s1 = nI 0 ∨ s1 = nI 1) ∧ (∀ F208 : HF, F208 = hup F n 5 s1 → (wp_X2_passMinuteAt_58 K n  F208))
set_option maxRecDepth 100000 in
set_option maxHeartbeats 4000000 in
theorem k_X2_passMinuteAt_55 {p : Program} {l : Launch} {e : Env} {s : State} {m : MethodId} {args : Array Value} {below : List Frame} {meth : Method} {c : Code} {D : va_G} {dA : Nat → ClassId} {ad : Nat → Nat} {R : List Nat} {A : Nat → Prop} {K : Int32 → HF → Prop} {n : Nat} (X : Cx p s m args meth c cX2_passMinuteAt 2 RX2 D dA) (hA : ∀ q, s.heap.size ≤ q → A q) (hr : meth.sig.returnType = some .boolean) (hT : Nt R n) : ∀ (F : HF) (s1 : Int32), wp_X2_passMinuteAt_55 K n F s1 → J p l e rm_X2_passMinuteAt s m args below meth c 2 D dA ad R A (QI D dA ad R A below args s K) F 55 [(0, .ref (ad n))] [.int s1, .ref (ad n)] := by
  intro F s1 h
  unfold wp_X2_passMinuteAt_55 at h
  refine fp_X2_21 (pc := 55) X h.1 hT.1 dX2_passMinuteAt_55 (fun F208 e1 => ?_)
  replace h := h.2 F208 e1
  exact k_X2_passMinuteAt_58 X hA hr hT  _ h
def wp_X2_passMinuteAt (K : Int32 → HF → Prop) (F : HF) (n : Nat) (a1 : Int32) : Prop := ∀ F1 : HF, F1 = hup F n 4 a1 → (wp_X2_isOnBridge (fun x1 F2 => ((x1 = (nI 0)) → (wp_X2_passMinuteAt_58 K n  F2)) ∧ ((¬ x1 = (nI 0)) → (wp_X2_weight (fun x2 F104 => wp_X1_windIn (fun x3 F105 => wp_X0_loadAlone (fun F106 => wp_X0_settle (fun x4 F107 => ((¬ x4 = (nI 0)) → (wp_X2_passMinuteAt_55 K n  F107 (nI 0))) ∧ ((x4 = (nI 0)) → (wp_X2_passMinuteAt_55 K n  F107 (nI 1)))) F106 (n + 1)) F105 (n + 1) (F2 n 4) (x2 + x3)) F104 4 (F104 n 2)) F2 n))) F1 n)
set_option maxRecDepth 100000 in
set_option maxHeartbeats 4000000 in
theorem c_X2_passMinuteAt {l : Launch} {D : va_G} {dA : Nat → ClassId} {ad : Nat → Nat} {R : List Nat} {F : HF} {n : Nat} {a1 : Int32} {K : Int32 → HF → Prop} (hT : Nt R n) (h : wp_X2_passMinuteAt K F n a1) : MI l yX2_passMinuteAt cX2_passMinuteAt 2 .boolean rm_X2_passMinuteAt D dA ad R F [.ref (ad n), .int a1] K := by
  refine MI.of (own := RX2) (by decide) rfl (Nat.le_of_ble_eq_true rfl) ?_
  intro p e s m args below meth c A hA X hr
  unfold wp_X2_passMinuteAt at h
  show J p l e rm_X2_passMinuteAt s m args below meth c 2 D dA ad R A (QI D dA ad R A below args s K) F 0 [(0, .ref (ad n)), (1, .int a1)] []
  refine r_aload_n (pc := 0) X 0 dX2_passMinuteAt_0 rfl rfl ?_
  refine r_iload_n (pc := 1) X 1 dX2_passMinuteAt_1 rfl rfl ?_
  refine fp_X2_18 (pc := 2) X hT.1 dX2_passMinuteAt_2 (fun F1 e1 => ?_)
  replace h := h F1 e1
  refine r_aload_n (pc := 5) X 0 dX2_passMinuteAt_5 rfl rfl ?_
  refine r_callIV (pc := 6) (As := []) (st := []) X hA (c_X2_isOnBridge hT h) g_X2_55 cl_X2 hT.1 hd_X2_isOnBridge rfl rfl rfl ⟨Nat.le_of_ble_eq_true rfl, Nat.le_of_ble_eq_true rfl⟩ rfl (Nat.le_of_ble_eq_true rfl) dX2_passMinuteAt_6 (fun x1 F2 h => ?_)
  refine r_if_eq (pc := 9) (tgt := 58) X dX2_passMinuteAt_9 (by decide) (fun hc => ?_) (fun hc => ?_)
  · replace h := h.1 hc
    refine r_sub [0] rfl ?_
    exact k_X2_passMinuteAt_58 X hA hr hT  _ h
  · replace h := h.2 hc
    refine r_aload_n (pc := 12) X 0 dX2_passMinuteAt_12 rfl rfl ?_
    refine fg_X2_34 (pc := 13) X hT.1 dX2_passMinuteAt_13 ?_
    refine r_aload_n (pc := 16) X 0 dX2_passMinuteAt_16 rfl rfl ?_
    refine fg_X2_18 (pc := 17) X hT.1 dX2_passMinuteAt_17 ?_
    refine r_aload_n (pc := 20) X 0 dX2_passMinuteAt_20 rfl rfl ?_
    refine r_callIV (pc := 21) (As := []) (st := [.int (F2 n 4), .ref (ad (n + 1))]) X hA (c_X2_weight hT h) g_X2_59 cl_X2 hT.1 hd_X2_weight rfl rfl rfl ⟨Nat.le_of_ble_eq_true rfl, Nat.le_of_ble_eq_true rfl⟩ rfl (Nat.le_of_ble_eq_true rfl) dX2_passMinuteAt_21 (fun x2 F104 h => ?_)
    refine r_aload_n (pc := 24) X 0 dX2_passMinuteAt_24 rfl rfl ?_
    refine fg_X2_25 (pc := 25) X hT.1 dX2_passMinuteAt_25 ?_
    refine r_aload_n (pc := 28) X 0 dX2_passMinuteAt_28 rfl rfl ?_
    refine fg_X2_9 (pc := 29) X hT.1 dX2_passMinuteAt_29 ?_
    refine r_callIV (pc := 32) (As := [.int (F104 n 2)]) (st := [.int x2, .int (F2 n 4), .ref (ad (n + 1))]) X hA (c_X1_windIn hT.2.2.2.2.2 h) g_X2_62 cl_X1 hT.2.2.2.2.2.1 hd_X1_windIn rfl rfl rfl ⟨Nat.le_of_ble_eq_true rfl, Nat.le_of_ble_eq_true rfl⟩ rfl (Nat.le_of_ble_eq_true rfl) dX2_passMinuteAt_32 (fun x3 F105 h => ?_)
    refine r_iadd (pc := 35) X dX2_passMinuteAt_35 ?_
    refine r_callVV (pc := 36) (As := [.int (F2 n 4), .int (x2 + x3)]) (st := []) X hA (c_X0_loadAlone hT.2 h) g_X2_65 cl_X0 hT.2.1 hd_X0_loadAlone rfl rfl rfl ⟨Nat.le_of_ble_eq_true rfl, Nat.le_of_ble_eq_true rfl⟩ rfl (Nat.le_of_ble_eq_true rfl) dX2_passMinuteAt_36 (fun F106 h => ?_)
    refine r_aload_n (pc := 39) X 0 dX2_passMinuteAt_39 rfl rfl ?_
    refine r_aload_n (pc := 40) X 0 dX2_passMinuteAt_40 rfl rfl ?_
    refine fg_X2_34 (pc := 41) X hT.1 dX2_passMinuteAt_41 ?_
    refine r_callIV (pc := 44) (As := []) (st := [.ref (ad n)]) X hA (c_X0_settle hT.2 h) g_X2_69 cl_X0 hT.2.1 hd_X0_settle rfl rfl rfl ⟨Nat.le_of_ble_eq_true rfl, Nat.le_of_ble_eq_true rfl⟩ rfl (Nat.le_of_ble_eq_true rfl) dX2_passMinuteAt_44 (fun x4 F107 h => ?_)
    refine r_if_ne (pc := 47) (tgt := 54) X dX2_passMinuteAt_47 (by decide) (fun hc => ?_) (fun hc => ?_)
    · replace h := h.1 hc
      refine r_iconst (pc := 54) (v := (nI 0)) X dX2_passMinuteAt_54 (by decide) ?_
      refine r_sub [0] rfl ?_
      exact k_X2_passMinuteAt_55 X hA hr hT  _ _ h
    · replace h := h.2 hc
      refine r_iconst (pc := 50) (v := (nI 1)) X dX2_passMinuteAt_50 (by decide) ?_
      refine r_goto (pc := 51) (tgt := 55) X dX2_passMinuteAt_51 (by decide) ?_
      refine r_sub [0] rfl ?_
      exact k_X2_passMinuteAt_55 X hA hr hT  _ _ h
