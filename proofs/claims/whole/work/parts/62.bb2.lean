theorem z_75 : Cond.methodLink RX6 1 Lib.objectInit ∈ WB := inWB 75 (by decide +kernel) (by decide +kernel)
theorem z_78 : Cond.classLink RX6 7 RX3 ∈ WB := inWB 78 (by decide +kernel) (by decide +kernel)
theorem z_79 : Cond.instantiable RX3 3 ∈ WB := inWB 79 (by decide +kernel) (by decide +kernel)
theorem z_82 : Cond.code yX3_init cX3_init 1 none ∈ WB := inWB 82 (by decide +kernel) (by decide +kernel)
theorem z_81 : Cond.instanceMethod yX3_init ∈ WB := inWB 81 (by decide +kernel) (by decide +kernel)
theorem z_96 : Cond.classLink RX6 16 RX1 ∈ WB := inWB 96 (by decide +kernel) (by decide +kernel)
theorem z_97 : Cond.instantiable RX1 10 ∈ WB := inWB 97 (by decide +kernel) (by decide +kernel)
theorem z_100 : Cond.code yX1_init cX1_init 1 none ∈ WB := inWB 100 (by decide +kernel) (by decide +kernel)
theorem z_98 : Cond.methodLink RX6 18 yX1_init ∈ WB := inWB 98 (by decide +kernel) (by decide +kernel)
theorem z_99 : Cond.instanceMethod yX1_init ∈ WB := inWB 99 (by decide +kernel) (by decide +kernel)
theorem z_338 : Cond.fieldLink RX6 23 "BirdBridge" "draft" "LBirdBridge$Flock;" ∈ WB := inWB 338 (by decide +kernel) (by decide +kernel)
theorem z_137 : Cond.classLink RX6 26 RX2 ∈ WB := inWB 137 (by decide +kernel) (by decide +kernel)
theorem z_139 : Cond.methodLink RX6 28 yX2_init ∈ WB := inWB 139 (by decide +kernel) (by decide +kernel)
theorem z_339 : Cond.fieldLink RX6 31 "BirdBridge" "night" "LBirdBridge$Night;" ∈ WB := inWB 339 (by decide +kernel) (by decide +kernel)
theorem z_184 : Cond.classLink RX6 35 RX0 ∈ WB := inWB 184 (by decide +kernel) (by decide +kernel)
theorem z_185 : Cond.methodLink RX6 37 yX0_init ∈ WB := inWB 185 (by decide +kernel) (by decide +kernel)
theorem z_340 : Cond.fieldLink RX6 38 "BirdBridge" "trial" "LBirdBridge$Bridge;" ∈ WB := inWB 340 (by decide +kernel) (by decide +kernel)
theorem z_186 : Cond.classLink RX6 42 RX5 ∈ WB := inWB 186 (by decide +kernel) (by decide +kernel)
theorem z_187 : Cond.instantiable RX5 2 ∈ WB := inWB 187 (by decide +kernel) (by decide +kernel)
theorem z_61 : Cond.initialized RX5 ∈ WB := inWB 61 (by decide +kernel) (by decide +kernel)
theorem z_190 : Cond.code yX5_init cX5_init 4 none ∈ WB := inWB 190 (by decide +kernel) (by decide +kernel)
theorem z_188 : Cond.methodLink RX6 44 yX5_init ∈ WB := inWB 188 (by decide +kernel) (by decide +kernel)
theorem z_189 : Cond.instanceMethod yX5_init ∈ WB := inWB 189 (by decide +kernel) (by decide +kernel)
theorem z_341 : Cond.fieldLink RX6 47 "BirdBridge" "past" "LBirdBridge$Shelf;" ∈ WB := inWB 341 (by decide +kernel) (by decide +kernel)
theorem z_342 : Cond.fieldLink RX6 51 "BirdBridge" "kept" "LBirdBridge$Shelf;" ∈ WB := inWB 342 (by decide +kernel) (by decide +kernel)
theorem z_205 : Cond.classLink RX6 54 RX4 ∈ WB := inWB 205 (by decide +kernel) (by decide +kernel)
theorem z_206 : Cond.instantiable RX4 6 ∈ WB := inWB 206 (by decide +kernel) (by decide +kernel)
theorem z_63 : Cond.initialized RX4 ∈ WB := inWB 63 (by decide +kernel) (by decide +kernel)
theorem z_209 : Cond.code yX4_init cX4_init 2 none ∈ WB := inWB 209 (by decide +kernel) (by decide +kernel)
theorem z_207 : Cond.methodLink RX6 56 yX4_init ∈ WB := inWB 207 (by decide +kernel) (by decide +kernel)
theorem z_208 : Cond.instanceMethod yX4_init ∈ WB := inWB 208 (by decide +kernel) (by decide +kernel)
theorem z_343 : Cond.fieldLink RX6 57 "BirdBridge" "search" "LBirdBridge$Search;" ∈ WB := inWB 343 (by decide +kernel) (by decide +kernel)
theorem z_344 : Cond.fieldLink RX6 61 "BirdBridge" "seenWhich" "[I" ∈ WB := inWB 344 (by decide +kernel) (by decide +kernel)
theorem z_345 : Cond.fieldLink RX6 65 "BirdBridge" "seenTired" "[I" ∈ WB := inWB 345 (by decide +kernel) (by decide +kernel)
theorem z_346 : Cond.fieldLink RX6 68 "BirdBridge" "seenSize" "I" ∈ WB := inWB 346 (by decide +kernel) (by decide +kernel)
section CtorBC
variable {l : Launch} {D : va_G} {dA : Nat → ClassId} {ad : Nat → Nat} {F : HF} {G : HG}
set_option maxRecDepth 100000 in
set_option maxHeartbeats 8000000 in
theorem b_init {p : Program} {e : Env} {s : State} {m : MethodId} {args : Array Value} {below : List Frame} {meth : Method} {c : Code} {A : Nat → Prop} (X : Cx p s m args meth c cX6_init 2 RX6 D dA) (hO : va_AO RX2 s) (hA : ∀ q, s.heap.size ≤ q → A q) (hnm : meth.name = "<init>") {kS kV a0 : Nat} {fv : Value} (hfv : fv = .null ∨ ∃ t, fv = .ref t) (hN : va_Nw (.methodLinkNest RX6 9 yX3_init RX6) s) (hR : vk_R RX6 72 txS kS s) (hZ : SZ kS kV fv A s s.heap) (hr : meth.sig.returnType = none) (h0 : ad 0 = a0) {K : (Nat → Nat) → HF → Prop} (h : ∀ ad' F', ad' 0 = a0 → IC F' → K ad' F') : JG 0 0 p l e rm_bb s m args below meth c 2 D (wlG dA ad [0] F G) A (QB D dA A below args s K) 0 [(0, .ref a0)] [] := by
  refine g_aload_n X 0 dX6_init_0 rfl rfl ?_
  refine m_objInit X z_75 (Nat.le_of_ble_eq_true rfl) (Nat.le_of_ble_eq_true rfl) dX6_init_1 ?_
  refine g_aload_n X 0 dX6_init_4 rfl rfl ?_
  refine m_new X hA 1 cl_X3 z_78 z_79 z_57 rfl (by decide) (by decide) (Nat.le_of_ble_eq_true rfl) (Nat.le_of_ble_eq_true rfl) dX6_init_5 (fun ad1a F1a G1a e1 f1 g1 => ?_)
  have a1 : ad1a 0 = a0 := (e1 _ (by omega)).trans h0
  refine g_dup X dX6_init_8 rfl ?_
  refine m_callKN X hO hA (np := 0) (t := ad1a 1) (As := []) (st := [.ref (ad1a 1), .ref a0]) (k_X3_init (K := (fun ad' R' F' G' => R' = ([0] ++ [1]) ++ [2] ++ [3] ∧ Ch 1 3 ad1a ad' F1a F' G1a G' ∧ ScI ad' F' G')) rfl (by decide) (by decide) (by decide) (fun ad' F' G' x y => ⟨rfl, x, y⟩)) hN z_82 z_57 z_81 rfl (by decide +kernel) rfl rfl rfl ⟨Nat.le_of_ble_eq_true rfl, Nat.le_of_ble_eq_true rfl⟩ ⟨Nat.le_of_ble_eq_true rfl, Nat.le_of_ble_eq_true rfl⟩ rfl (Nat.le_of_ble_eq_true rfl) dX6_init_9 ?_
  rintro ad1b _ F1b G1b ⟨rfl, c1, oS⟩
  refine m_putR X hnm (k := 0) (j := 0) cl_X6 (by decide) rfl z_336 rfl rfl rfl rfl rfl rfl (by decide) ((c1.2 0 (by omega)).1.trans a1) dX6_init_12 (fun G1c q1 => ?_)
  have st1 : St 1 3 0 ad ad1b F F1b G G1c := St.mk' (by omega) e1 f1 g1 c1 (by omega) q1
  have oS := oS.kept (ad' := ad1b) (F' := F1b) (G' := G1c) (fun k x y => ⟨rfl, rfl, by rw [q1, gup_n _ _ _ (by omega)]⟩)
  have a1' : ad1b 0 = a0 := st1.1.trans h0
  have z0 : G1c 0 0 = some (ad1b 1) := st1.2.2.2.1
  have y1 : F1b 0 = F 0 := st1.2.1
  refine g_aload_n X 0 dX6_init_15 rfl rfl ?_
  refine m_new X hA 4 cl_X1 z_96 z_97 z_58 rfl (by decide) (by decide) (Nat.le_of_ble_eq_true rfl) (Nat.le_of_ble_eq_true rfl) dX6_init_16 (fun ad2a F2a G2a e2 f2 g2 => ?_)
  have a2 : ad2a 0 = a0 := (e2 _ (by omega)).trans a1'
  refine g_dup X dX6_init_19 rfl ?_
  refine m_callK X hO hA (np := 0) (t := ad2a 4) (As := []) (st := [.ref (ad2a 4), .ref a0]) (k_X1_init (f := 4) (K := (fun ad' R' F' G' => R' = (([0] ++ [1]) ++ [2] ++ [3] ++ [4]) ++ [5] ++ [6] ++ [7] ++ [8] ++ [9] ∧ Ch 4 9 ad2a ad' F2a F' G2a G' ∧ FlI 4 ad' F' G')) rfl ⟨rfl, rfl, rfl, rfl, rfl, rfl⟩ (by decide) (by decide) (by decide) (by decide) (by decide) (by decide) (fun ad' F' G' x y => ⟨rfl, x, y⟩)) z_100 z_58 z_98 z_99 rfl (by decide +kernel) rfl rfl rfl ⟨Nat.le_of_ble_eq_true rfl, Nat.le_of_ble_eq_true rfl⟩ ⟨Nat.le_of_ble_eq_true rfl, Nat.le_of_ble_eq_true rfl⟩ rfl (Nat.le_of_ble_eq_true rfl) dX6_init_20 ?_
  rintro ad2b _ F2b G2b ⟨rfl, c2, oL⟩
  refine m_putR X hnm (k := 0) (j := 1) cl_X6 (by decide) rfl z_337 rfl rfl rfl rfl rfl rfl (by decide) ((c2.2 0 (by omega)).1.trans a2) dX6_init_23 (fun G2c q2 => ?_)
  have st2 : St 4 9 1 ad1b ad2b F1b F2b G1c G2c := St.mk' (by omega) e2 f2 g2 c2 (by omega) q2
  have oL := oL.kept (ad' := ad2b) (F' := F2b) (G' := G2c) (fun k x y => ⟨rfl, rfl, by rw [q2, gup_n _ _ _ (by omega)]⟩)
  have a2' : ad2b 0 = a0 := st2.1.trans a1'
  have oS := oS.kept (fun k x y => st2.2.2.2.2 k (by omega) (by omega))
  have z0 : G2c 0 0 = some (ad2b 1) := by rw [st2.2.2.1 0 (by omega), (st2.2.2.2.2 1 (by omega) (by omega)).1]; exact z0
  have z1 : G2c 0 1 = some (ad2b 4) := st2.2.2.2.1
  have y2 : F2b 0 = F 0 := st2.2.1.trans y1
  obtain ⟨aL, hL⟩ : ∃ q, ad2b 4 = q := ⟨_, rfl⟩
  refine g_aload_n X 0 dX6_init_26 rfl rfl ?_
  refine m_new X hA 10 cl_X1 z_96 z_97 z_58 rfl (by decide) (by decide) (Nat.le_of_ble_eq_true rfl) (Nat.le_of_ble_eq_true rfl) dX6_init_27 (fun ad3a F3a G3a e3 f3 g3 => ?_)
  have a3 : ad3a 0 = a0 := (e3 _ (by omega)).trans a2'
  refine g_dup X dX6_init_30 rfl ?_
  refine m_callK X hO hA (np := 0) (t := ad3a 10) (As := []) (st := [.ref (ad3a 10), .ref a0]) (k_X1_init (f := 10) (K := (fun ad' R' F' G' => R' = ((([0] ++ [1]) ++ [2] ++ [3] ++ [4]) ++ [5] ++ [6] ++ [7] ++ [8] ++ [9] ++ [10]) ++ [11] ++ [12] ++ [13] ++ [14] ++ [15] ∧ Ch 10 15 ad3a ad' F3a F' G3a G' ∧ FlI 10 ad' F' G')) rfl ⟨rfl, rfl, rfl, rfl, rfl, rfl⟩ (by decide) (by decide) (by decide) (by decide) (by decide) (by decide) (fun ad' F' G' x y => ⟨rfl, x, y⟩)) z_100 z_58 z_98 z_99 rfl (by decide +kernel) rfl rfl rfl ⟨Nat.le_of_ble_eq_true rfl, Nat.le_of_ble_eq_true rfl⟩ ⟨Nat.le_of_ble_eq_true rfl, Nat.le_of_ble_eq_true rfl⟩ rfl (Nat.le_of_ble_eq_true rfl) dX6_init_31 ?_
  rintro ad3b _ F3b G3b ⟨rfl, c3, oD⟩
  refine m_putR X hnm (k := 0) (j := 2) cl_X6 (by decide) rfl z_338 rfl rfl rfl rfl rfl rfl (by decide) ((c3.2 0 (by omega)).1.trans a3) dX6_init_34 (fun G3c q3 => ?_)
  have st3 : St 10 15 2 ad2b ad3b F2b F3b G2c G3c := St.mk' (by omega) e3 f3 g3 c3 (by omega) q3
  have oD := oD.kept (ad' := ad3b) (F' := F3b) (G' := G3c) (fun k x y => ⟨rfl, rfl, by rw [q3, gup_n _ _ _ (by omega)]⟩)
  have a3' : ad3b 0 = a0 := st3.1.trans a2'
  have oS := oS.kept (fun k x y => st3.2.2.2.2 k (by omega) (by omega))
  have oL := oL.kept (fun k x y => st3.2.2.2.2 k (by omega) (by omega))
  have z0 : G3c 0 0 = some (ad3b 1) := by rw [st3.2.2.1 0 (by omega), (st3.2.2.2.2 1 (by omega) (by omega)).1]; exact z0
  have z1 : G3c 0 1 = some (ad3b 4) := by rw [st3.2.2.1 1 (by omega), (st3.2.2.2.2 4 (by omega) (by omega)).1]; exact z1
  have hL : ad3b 4 = aL := (st3.2.2.2.2 4 (by omega) (by omega)).1.trans hL
  have z2 : G3c 0 2 = some (ad3b 10) := st3.2.2.2.1
  have y3 : F3b 0 = F 0 := st3.2.1.trans y2
  refine g_aload_n X 0 dX6_init_37 rfl rfl ?_
  refine m_new X hA 16 cl_X2 z_137 z_138 z_59 rfl (by decide) (by decide) (Nat.le_of_ble_eq_true rfl) (Nat.le_of_ble_eq_true rfl) dX6_init_38 (fun ad4a F4a G4a e4 f4 g4 => ?_)
  have a4 : ad4a 0 = a0 := (e4 _ (by omega)).trans a3'
  refine g_dup X dX6_init_41 rfl ?_
  refine g_aload_n X 0 dX6_init_42 rfl rfl ?_
  refine m_getR X (k := 0) (j := 1) cl_X6 (by decide) rfl z_337 rfl rfl (by decide) a4 (t := aL) (by rw [g4, gst_n _ _ (by omega), z1, hL]) dX6_init_43 ?_
  refine m_callK X hO hA (np := 1) (t := ad4a 16) (As := [.ref aL]) (st := [.ref (ad4a 16), .ref a0]) (k_X2_init (n := 16) (fl := aL) (K := (fun ad' R' F' G' => R' = (((([0] ++ [1]) ++ [2] ++ [3] ++ [4]) ++ [5] ++ [6] ++ [7] ++ [8] ++ [9] ++ [10]) ++ [11] ++ [12] ++ [13] ++ [14] ++ [15] ++ [16]) ++ [17] ++ [18] ++ [19] ++ [20] ∧ Ch 16 20 ad4a ad' F4a F' G4a G' ∧ NtI 16 aL ad' F' G')) rfl ⟨rfl, rfl, rfl, rfl, rfl⟩ (by decide) (by decide) (by decide) (by decide) (by decide) (fun ad' F' G' x y => ⟨rfl, x, y⟩)) z_141 z_59 z_139 z_140 rfl (by decide +kernel) rfl rfl rfl ⟨Nat.le_of_ble_eq_true rfl, Nat.le_of_ble_eq_true rfl⟩ ⟨Nat.le_of_ble_eq_true rfl, Nat.le_of_ble_eq_true rfl⟩ rfl (Nat.le_of_ble_eq_true rfl) dX6_init_46 ?_
  rintro ad4b _ F4b G4b ⟨rfl, c4, oN⟩
  refine m_putR X hnm (k := 0) (j := 3) cl_X6 (by decide) rfl z_339 rfl rfl rfl rfl rfl rfl (by decide) ((c4.2 0 (by omega)).1.trans a4) dX6_init_49 (fun G4c q4 => ?_)
  have st4 : St 16 20 3 ad3b ad4b F3b F4b G3c G4c := St.mk' (by omega) e4 f4 g4 c4 (by omega) q4
  have oN := oN.kept (ad' := ad4b) (F' := F4b) (G' := G4c) (fun k x y => ⟨rfl, rfl, by rw [q4, gup_n _ _ _ (by omega)]⟩)
  have a4' : ad4b 0 = a0 := st4.1.trans a3'
  have oS := oS.kept (fun k x y => st4.2.2.2.2 k (by omega) (by omega))
  have oL := oL.kept (fun k x y => st4.2.2.2.2 k (by omega) (by omega))
  have oD := oD.kept (fun k x y => st4.2.2.2.2 k (by omega) (by omega))
  have z0 : G4c 0 0 = some (ad4b 1) := by rw [st4.2.2.1 0 (by omega), (st4.2.2.2.2 1 (by omega) (by omega)).1]; exact z0
  have z1 : G4c 0 1 = some (ad4b 4) := by rw [st4.2.2.1 1 (by omega), (st4.2.2.2.2 4 (by omega) (by omega)).1]; exact z1
  have z2 : G4c 0 2 = some (ad4b 10) := by rw [st4.2.2.1 2 (by omega), (st4.2.2.2.2 10 (by omega) (by omega)).1]; exact z2
  have hL : ad4b 4 = aL := (st4.2.2.2.2 4 (by omega) (by omega)).1.trans hL
  have z3 : G4c 0 3 = some (ad4b 16) := st4.2.2.2.1
  have y4 : F4b 0 = F 0 := st4.2.1.trans y3
  refine g_aload_n X 0 dX6_init_52 rfl rfl ?_
  refine m_new X hA 21 cl_X0 z_184 z_144 z_60 rfl (by decide) (by decide) (Nat.le_of_ble_eq_true rfl) (Nat.le_of_ble_eq_true rfl) dX6_init_53 (fun ad5a F5a G5a e5 f5 g5 => ?_)
  have a5 : ad5a 0 = a0 := (e5 _ (by omega)).trans a4'
  refine g_dup X dX6_init_56 rfl ?_
  refine g_aload_n X 0 dX6_init_57 rfl rfl ?_
  refine m_getR X (k := 0) (j := 1) cl_X6 (by decide) rfl z_337 rfl rfl (by decide) a5 (t := aL) (by rw [g5, gst_n _ _ (by omega), z1, hL]) dX6_init_58 ?_
  refine m_callK X hO hA (np := 1) (t := ad5a 21) (As := [.ref aL]) (st := [.ref (ad5a 21), .ref a0]) (k_X0_init (b := 21) (fl := aL) (K := (fun ad' R' F' G' => R' = ((((([0] ++ [1]) ++ [2] ++ [3] ++ [4]) ++ [5] ++ [6] ++ [7] ++ [8] ++ [9] ++ [10]) ++ [11] ++ [12] ++ [13] ++ [14] ++ [15] ++ [16]) ++ [17] ++ [18] ++ [19] ++ [20] ++ [21]) ++ [22] ++ [23] ++ [24] ∧ Ch 21 24 ad5a ad' F5a F' G5a G' ∧ BrI 21 aL ad' F' G')) rfl ⟨rfl, rfl, rfl, rfl⟩ (by decide) (by decide) (by decide) (by decide) (fun ad' F' G' x y => ⟨rfl, x, y⟩)) z_147 z_60 z_185 z_146 rfl (by decide +kernel) rfl rfl rfl ⟨Nat.le_of_ble_eq_true rfl, Nat.le_of_ble_eq_true rfl⟩ ⟨Nat.le_of_ble_eq_true rfl, Nat.le_of_ble_eq_true rfl⟩ rfl (Nat.le_of_ble_eq_true rfl) dX6_init_61 ?_
  rintro ad5b _ F5b G5b ⟨rfl, c5, oT⟩
  refine m_putR X hnm (k := 0) (j := 4) cl_X6 (by decide) rfl z_340 rfl rfl rfl rfl rfl rfl (by decide) ((c5.2 0 (by omega)).1.trans a5) dX6_init_64 (fun G5c q5 => ?_)
  have st5 : St 21 24 4 ad4b ad5b F4b F5b G4c G5c := St.mk' (by omega) e5 f5 g5 c5 (by omega) q5
  have oT := oT.kept (ad' := ad5b) (F' := F5b) (G' := G5c) (fun k x y => ⟨rfl, rfl, by rw [q5, gup_n _ _ _ (by omega)]⟩)
  have a5' : ad5b 0 = a0 := st5.1.trans a4'
  have oS := oS.kept (fun k x y => st5.2.2.2.2 k (by omega) (by omega))
  have oL := oL.kept (fun k x y => st5.2.2.2.2 k (by omega) (by omega))
  have oD := oD.kept (fun k x y => st5.2.2.2.2 k (by omega) (by omega))
  have oN := oN.kept (fun k x y => st5.2.2.2.2 k (by omega) (by omega))
  have z0 : G5c 0 0 = some (ad5b 1) := by rw [st5.2.2.1 0 (by omega), (st5.2.2.2.2 1 (by omega) (by omega)).1]; exact z0
  have z1 : G5c 0 1 = some (ad5b 4) := by rw [st5.2.2.1 1 (by omega), (st5.2.2.2.2 4 (by omega) (by omega)).1]; exact z1
  have z2 : G5c 0 2 = some (ad5b 10) := by rw [st5.2.2.1 2 (by omega), (st5.2.2.2.2 10 (by omega) (by omega)).1]; exact z2
  have z3 : G5c 0 3 = some (ad5b 16) := by rw [st5.2.2.1 3 (by omega), (st5.2.2.2.2 16 (by omega) (by omega)).1]; exact z3
  have hL : ad5b 4 = aL := (st5.2.2.2.2 4 (by omega) (by omega)).1.trans hL
  have z4 : G5c 0 4 = some (ad5b 21) := st5.2.2.2.1
  have y5 : F5b 0 = F 0 := st5.2.1.trans y4
  refine g_aload_n X 0 dX6_init_67 rfl rfl ?_
  refine m_new X hA 25 cl_X5 z_186 z_187 z_61 rfl (by decide) (by decide) (Nat.le_of_ble_eq_true rfl) (Nat.le_of_ble_eq_true rfl) dX6_init_68 (fun ad6a F6a G6a e6 f6 g6 => ?_)
  have a6 : ad6a 0 = a0 := (e6 _ (by omega)).trans a5'
  refine g_dup X dX6_init_71 rfl ?_
  refine g_aload_n X 0 dX6_init_72 rfl rfl ?_
  refine m_getR X (k := 0) (j := 1) cl_X6 (by decide) rfl z_337 rfl rfl (by decide) a6 (t := aL) (by rw [g6, gst_n _ _ (by omega), z1, hL]) dX6_init_73 ?_
  refine g_bipush X (v := nI 8) dX6_init_76 (by decide) ?_
  refine m_callK X hO hA (np := 2) (t := ad6a 25) (As := [.ref aL, .int (nI 8)]) (st := [.ref (ad6a 25), .ref a0]) (k_X5_init (r := 25) (n := 8) (fl := aL) (K := (fun ad' R' F' G' => R' = RS (((((([0] ++ [1]) ++ [2] ++ [3] ++ [4]) ++ [5] ++ [6] ++ [7] ++ [8] ++ [9] ++ [10]) ++ [11] ++ [12] ++ [13] ++ [14] ++ [15] ++ [16]) ++ [17] ++ [18] ++ [19] ++ [20] ++ [21]) ++ [22] ++ [23] ++ [24] ++ [25]) 25 8 ∧ Ch 25 66 ad6a ad' F6a F' G6a G' ∧ ShI 25 8 aL ad' F' G')) rfl (by omega) (by omega) (by omega) rfl rfl NtK_p (by decide) (fun k x y g => absurd ((show ∀ k, k ∈ ((((([0] ++ [1]) ++ [2] ++ [3] ++ [4]) ++ [5] ++ [6] ++ [7] ++ [8] ++ [9] ++ [10]) ++ [11] ++ [12] ++ [13] ++ [14] ++ [15] ++ [16]) ++ [17] ++ [18] ++ [19] ++ [20] ++ [21]) ++ [22] ++ [23] ++ [24] ++ [25] → k ≤ 25 by decide) k g) (by omega)) (fun ad' F' G' x y => ⟨rfl, x, y⟩)) z_190 z_61 z_188 z_189 rfl (by decide +kernel) rfl rfl rfl ⟨Nat.le_of_ble_eq_true rfl, Nat.le_of_ble_eq_true rfl⟩ ⟨Nat.le_of_ble_eq_true rfl, Nat.le_of_ble_eq_true rfl⟩ rfl (Nat.le_of_ble_eq_true rfl) dX6_init_78 ?_
  rintro ad6b _ F6b G6b ⟨rfl, c6, oP⟩
  refine m_putR X hnm (k := 0) (j := 5) cl_X6 (by decide) rfl z_341 rfl rfl rfl rfl rfl rfl (by decide) ((c6.2 0 (by omega)).1.trans a6) dX6_init_81 (fun G6c q6 => ?_)
  have st6 : St 25 66 5 ad5b ad6b F5b F6b G5c G6c := St.mk' (by omega) e6 f6 g6 c6 (by omega) q6
  have oP := oP.kept (ad' := ad6b) (F' := F6b) (G' := G6c) (fun k x y => ⟨rfl, rfl, by rw [q6, gup_n _ _ _ (by omega)]⟩)
  have a6' : ad6b 0 = a0 := st6.1.trans a5'
  have oS := oS.kept (fun k x y => st6.2.2.2.2 k (by omega) (by omega))
  have oL := oL.kept (fun k x y => st6.2.2.2.2 k (by omega) (by omega))
  have oD := oD.kept (fun k x y => st6.2.2.2.2 k (by omega) (by omega))
  have oN := oN.kept (fun k x y => st6.2.2.2.2 k (by omega) (by omega))
  have oT := oT.kept (fun k x y => st6.2.2.2.2 k (by omega) (by omega))
  have z0 : G6c 0 0 = some (ad6b 1) := by rw [st6.2.2.1 0 (by omega), (st6.2.2.2.2 1 (by omega) (by omega)).1]; exact z0
  have z1 : G6c 0 1 = some (ad6b 4) := by rw [st6.2.2.1 1 (by omega), (st6.2.2.2.2 4 (by omega) (by omega)).1]; exact z1
  have z2 : G6c 0 2 = some (ad6b 10) := by rw [st6.2.2.1 2 (by omega), (st6.2.2.2.2 10 (by omega) (by omega)).1]; exact z2
  have z3 : G6c 0 3 = some (ad6b 16) := by rw [st6.2.2.1 3 (by omega), (st6.2.2.2.2 16 (by omega) (by omega)).1]; exact z3
  have z4 : G6c 0 4 = some (ad6b 21) := by rw [st6.2.2.1 4 (by omega), (st6.2.2.2.2 21 (by omega) (by omega)).1]; exact z4
  have hL : ad6b 4 = aL := (st6.2.2.2.2 4 (by omega) (by omega)).1.trans hL
  have z5 : G6c 0 5 = some (ad6b 25) := st6.2.2.2.1
  have y6 : F6b 0 = F 0 := st6.2.1.trans y5
  refine g_aload_n X 0 dX6_init_84 rfl rfl ?_
  refine m_new X hA 67 cl_X5 z_186 z_187 z_61 rfl (by decide) (by decide) (Nat.le_of_ble_eq_true rfl) (Nat.le_of_ble_eq_true rfl) dX6_init_85 (fun ad7a F7a G7a e7 f7 g7 => ?_)
  have a7 : ad7a 0 = a0 := (e7 _ (by omega)).trans a6'
  refine g_dup X dX6_init_88 rfl ?_
  refine g_aload_n X 0 dX6_init_89 rfl rfl ?_
  refine m_getR X (k := 0) (j := 1) cl_X6 (by decide) rfl z_337 rfl rfl (by decide) a7 (t := aL) (by rw [g7, gst_n _ _ (by omega), z1, hL]) dX6_init_90 ?_
  refine g_iconst X (v := nI 2) dX6_init_93 (by decide) ?_
  refine m_callK X hO hA (np := 2) (t := ad7a 67) (As := [.ref aL, .int (nI 2)]) (st := [.ref (ad7a 67), .ref a0]) (k_X5_init (r := 67) (n := 2) (fl := aL) (K := (fun ad' R' F' G' => R' = RS (RS (((((([0] ++ [1]) ++ [2] ++ [3] ++ [4]) ++ [5] ++ [6] ++ [7] ++ [8] ++ [9] ++ [10]) ++ [11] ++ [12] ++ [13] ++ [14] ++ [15] ++ [16]) ++ [17] ++ [18] ++ [19] ++ [20] ++ [21]) ++ [22] ++ [23] ++ [24] ++ [25]) 25 8 ++ [67]) 67 2 ∧ Ch 67 78 ad7a ad' F7a F' G7a G' ∧ ShI 67 2 aL ad' F' G')) rfl (by omega) (by omega) (by omega) rfl rfl NtK_k (by decide) (fun k x y g => absurd ((show ∀ k, k ∈ RS (((((([0] ++ [1]) ++ [2] ++ [3] ++ [4]) ++ [5] ++ [6] ++ [7] ++ [8] ++ [9] ++ [10]) ++ [11] ++ [12] ++ [13] ++ [14] ++ [15] ++ [16]) ++ [17] ++ [18] ++ [19] ++ [20] ++ [21]) ++ [22] ++ [23] ++ [24] ++ [25]) 25 8 ++ [67] → k ≤ 67 by decide) k g) (by omega)) (fun ad' F' G' x y => ⟨rfl, x, y⟩)) z_190 z_61 z_188 z_189 rfl (by decide +kernel) rfl rfl rfl ⟨Nat.le_of_ble_eq_true rfl, Nat.le_of_ble_eq_true rfl⟩ ⟨Nat.le_of_ble_eq_true rfl, Nat.le_of_ble_eq_true rfl⟩ rfl (Nat.le_of_ble_eq_true rfl) dX6_init_94 ?_
  rintro ad7b _ F7b G7b ⟨rfl, c7, oK⟩
  refine m_putR X hnm (k := 0) (j := 6) cl_X6 (by decide) rfl z_342 rfl rfl rfl rfl rfl rfl (by decide) ((c7.2 0 (by omega)).1.trans a7) dX6_init_97 (fun G7c q7 => ?_)
  have st7 : St 67 78 6 ad6b ad7b F6b F7b G6c G7c := St.mk' (by omega) e7 f7 g7 c7 (by omega) q7
  have oK := oK.kept (ad' := ad7b) (F' := F7b) (G' := G7c) (fun k x y => ⟨rfl, rfl, by rw [q7, gup_n _ _ _ (by omega)]⟩)
  have a7' : ad7b 0 = a0 := st7.1.trans a6'
  have oS := oS.kept (fun k x y => st7.2.2.2.2 k (by omega) (by omega))
  have oL := oL.kept (fun k x y => st7.2.2.2.2 k (by omega) (by omega))
  have oD := oD.kept (fun k x y => st7.2.2.2.2 k (by omega) (by omega))
  have oN := oN.kept (fun k x y => st7.2.2.2.2 k (by omega) (by omega))
  have oT := oT.kept (fun k x y => st7.2.2.2.2 k (by omega) (by omega))
  have oP := oP.kept (fun k x y => st7.2.2.2.2 k (by omega) (by omega))
  have z0 : G7c 0 0 = some (ad7b 1) := by rw [st7.2.2.1 0 (by omega), (st7.2.2.2.2 1 (by omega) (by omega)).1]; exact z0
  have z1 : G7c 0 1 = some (ad7b 4) := by rw [st7.2.2.1 1 (by omega), (st7.2.2.2.2 4 (by omega) (by omega)).1]; exact z1
  have z2 : G7c 0 2 = some (ad7b 10) := by rw [st7.2.2.1 2 (by omega), (st7.2.2.2.2 10 (by omega) (by omega)).1]; exact z2
  have z3 : G7c 0 3 = some (ad7b 16) := by rw [st7.2.2.1 3 (by omega), (st7.2.2.2.2 16 (by omega) (by omega)).1]; exact z3
  have z4 : G7c 0 4 = some (ad7b 21) := by rw [st7.2.2.1 4 (by omega), (st7.2.2.2.2 21 (by omega) (by omega)).1]; exact z4
  have z5 : G7c 0 5 = some (ad7b 25) := by rw [st7.2.2.1 5 (by omega), (st7.2.2.2.2 25 (by omega) (by omega)).1]; exact z5
  have hL : ad7b 4 = aL := (st7.2.2.2.2 4 (by omega) (by omega)).1.trans hL
  have z6 : G7c 0 6 = some (ad7b 67) := st7.2.2.2.1
  have y7 : F7b 0 = F 0 := st7.2.1.trans y6
  refine g_aload_n X 0 dX6_init_100 rfl rfl ?_
  refine m_new X hA 79 cl_X4 z_205 z_206 z_63 rfl (by decide) (by decide) (Nat.le_of_ble_eq_true rfl) (Nat.le_of_ble_eq_true rfl) dX6_init_101 (fun ad8a F8a G8a e8 f8 g8 => ?_)
  have a8 : ad8a 0 = a0 := (e8 _ (by omega)).trans a7'
  refine g_dup X dX6_init_104 rfl ?_
  refine g_aload_n X 0 dX6_init_105 rfl rfl ?_
  refine m_getR X (k := 0) (j := 1) cl_X6 (by decide) rfl z_337 rfl rfl (by decide) a8 (t := aL) (by rw [g8, gst_n _ _ (by omega), z1, hL]) dX6_init_106 ?_
  refine m_callK X hO hA (np := 1) (t := ad8a 79) (As := [.ref aL]) (st := [.ref (ad8a 79), .ref a0]) (k_X4_init (fl := aL) (K := (fun ad' R' F' G' => R' = (RS (RS (((((([0] ++ [1]) ++ [2] ++ [3] ++ [4]) ++ [5] ++ [6] ++ [7] ++ [8] ++ [9] ++ [10]) ++ [11] ++ [12] ++ [13] ++ [14] ++ [15] ++ [16]) ++ [17] ++ [18] ++ [19] ++ [20] ++ [21]) ++ [22] ++ [23] ++ [24] ++ [25]) 25 8 ++ [67]) 67 2 ++ [79]) ++ [84] ++ [87] ++ [80] ++ [81] ++ [82] ++ [83] ∧ Ch 79 87 ad8a ad' F8a F' G8a G' ∧ SeI aL ad' F' G')) rfl (by decide) (by decide) (by decide) (by decide) (by decide) (by decide) (by decide) (fun ad' F' G' x y => ⟨rfl, x, y⟩)) z_209 z_63 z_207 z_208 rfl (by decide +kernel) rfl rfl rfl ⟨Nat.le_of_ble_eq_true rfl, Nat.le_of_ble_eq_true rfl⟩ ⟨Nat.le_of_ble_eq_true rfl, Nat.le_of_ble_eq_true rfl⟩ rfl (Nat.le_of_ble_eq_true rfl) dX6_init_109 ?_
  rintro ad8b _ F8b G8b ⟨rfl, c8, oE⟩
  refine m_putR X hnm (k := 0) (j := 7) cl_X6 (by decide) rfl z_343 rfl rfl rfl rfl rfl rfl (by decide) ((c8.2 0 (by omega)).1.trans a8) dX6_init_112 (fun G8c q8 => ?_)
  have st8 : St 79 87 7 ad7b ad8b F7b F8b G7c G8c := St.mk' (by omega) e8 f8 g8 c8 (by omega) q8
  have oE := oE.kept (ad' := ad8b) (F' := F8b) (G' := G8c) (fun k x y => ⟨rfl, rfl, by rw [q8, gup_n _ _ _ (by omega)]⟩) rfl
  have a8' : ad8b 0 = a0 := st8.1.trans a7'
  have oS := oS.kept (fun k x y => st8.2.2.2.2 k (by omega) (by omega))
  have oL := oL.kept (fun k x y => st8.2.2.2.2 k (by omega) (by omega))
  have oD := oD.kept (fun k x y => st8.2.2.2.2 k (by omega) (by omega))
  have oN := oN.kept (fun k x y => st8.2.2.2.2 k (by omega) (by omega))
  have oT := oT.kept (fun k x y => st8.2.2.2.2 k (by omega) (by omega))
  have oP := oP.kept (fun k x y => st8.2.2.2.2 k (by omega) (by omega))
  have oK := oK.kept (fun k x y => st8.2.2.2.2 k (by omega) (by omega))
  have z0 : G8c 0 0 = some (ad8b 1) := by rw [st8.2.2.1 0 (by omega), (st8.2.2.2.2 1 (by omega) (by omega)).1]; exact z0
  have z1 : G8c 0 1 = some (ad8b 4) := by rw [st8.2.2.1 1 (by omega), (st8.2.2.2.2 4 (by omega) (by omega)).1]; exact z1
  have z2 : G8c 0 2 = some (ad8b 10) := by rw [st8.2.2.1 2 (by omega), (st8.2.2.2.2 10 (by omega) (by omega)).1]; exact z2
  have z3 : G8c 0 3 = some (ad8b 16) := by rw [st8.2.2.1 3 (by omega), (st8.2.2.2.2 16 (by omega) (by omega)).1]; exact z3
  have z4 : G8c 0 4 = some (ad8b 21) := by rw [st8.2.2.1 4 (by omega), (st8.2.2.2.2 21 (by omega) (by omega)).1]; exact z4
  have z5 : G8c 0 5 = some (ad8b 25) := by rw [st8.2.2.1 5 (by omega), (st8.2.2.2.2 25 (by omega) (by omega)).1]; exact z5
  have z6 : G8c 0 6 = some (ad8b 67) := by rw [st8.2.2.1 6 (by omega), (st8.2.2.2.2 67 (by omega) (by omega)).1]; exact z6
  have hL : ad8b 4 = aL := (st8.2.2.2.2 4 (by omega) (by omega)).1.trans hL
  have z7 : G8c 0 7 = some (ad8b 79) := st8.2.2.2.1
  have y8 : F8b 0 = F 0 := st8.2.1.trans y7
  refine g_aload_n X 0 dX6_init_115 rfl rfl ?_
  refine g_bipush X (v := nI 6) dX6_init_116 (by decide) ?_
  refine m_newI X hA 85 6 rfl (by omega) rfl (by decide) (Nat.le_of_ble_eq_true rfl) (Nat.le_of_ble_eq_true rfl) dX6_init_118 (fun ad9b F9b e9 f9 => ?_)
  refine m_putR X hnm (k := 0) (j := 8) cl_X6 (by decide) rfl z_344 rfl rfl rfl rfl rfl rfl (by decide) ((e9 0 (by omega)).trans a8') dX6_init_120 (fun G9c q9 => ?_)
  have st9 : St 85 85 8 ad8b ad9b F8b F9b G8c G9c := St.mkA (by omega) e9 f9 q9
  have a9' : ad9b 0 = a0 := st9.1.trans a8'
  have oS := oS.kept (fun k x y => st9.2.2.2.2 k (by omega) (by omega))
  have oL := oL.kept (fun k x y => st9.2.2.2.2 k (by omega) (by omega))
  have oD := oD.kept (fun k x y => st9.2.2.2.2 k (by omega) (by omega))
  have oN := oN.kept (fun k x y => st9.2.2.2.2 k (by omega) (by omega))
  have oT := oT.kept (fun k x y => st9.2.2.2.2 k (by omega) (by omega))
  have oP := oP.kept (fun k x y => st9.2.2.2.2 k (by omega) (by omega))
  have oK := oK.kept (fun k x y => st9.2.2.2.2 k (by omega) (by omega))
  have oE := oE.kept (fun k x y => st9.2.2.2.2 k (by omega) (by omega)) (st9.2.2.2.2 87 (by omega) (by omega)).1
  have z0 : G9c 0 0 = some (ad9b 1) := by rw [st9.2.2.1 0 (by omega), (st9.2.2.2.2 1 (by omega) (by omega)).1]; exact z0
  have z1 : G9c 0 1 = some (ad9b 4) := by rw [st9.2.2.1 1 (by omega), (st9.2.2.2.2 4 (by omega) (by omega)).1]; exact z1
  have z2 : G9c 0 2 = some (ad9b 10) := by rw [st9.2.2.1 2 (by omega), (st9.2.2.2.2 10 (by omega) (by omega)).1]; exact z2
  have z3 : G9c 0 3 = some (ad9b 16) := by rw [st9.2.2.1 3 (by omega), (st9.2.2.2.2 16 (by omega) (by omega)).1]; exact z3
  have z4 : G9c 0 4 = some (ad9b 21) := by rw [st9.2.2.1 4 (by omega), (st9.2.2.2.2 21 (by omega) (by omega)).1]; exact z4
  have z5 : G9c 0 5 = some (ad9b 25) := by rw [st9.2.2.1 5 (by omega), (st9.2.2.2.2 25 (by omega) (by omega)).1]; exact z5
  have z6 : G9c 0 6 = some (ad9b 67) := by rw [st9.2.2.1 6 (by omega), (st9.2.2.2.2 67 (by omega) (by omega)).1]; exact z6
  have z7 : G9c 0 7 = some (ad9b 79) := by rw [st9.2.2.1 7 (by omega), (st9.2.2.2.2 79 (by omega) (by omega)).1]; exact z7
  have hL : ad9b 4 = aL := (st9.2.2.2.2 4 (by omega) (by omega)).1.trans hL
  have z8 : G9c 0 8 = some (ad9b 85) := st9.2.2.2.1
  refine g_aload_n X 0 dX6_init_123 rfl rfl ?_
  refine g_bipush X (v := nI 6) dX6_init_124 (by decide) ?_
  refine m_newI X hA 86 6 rfl (by omega) rfl (by decide) (Nat.le_of_ble_eq_true rfl) (Nat.le_of_ble_eq_true rfl) dX6_init_126 (fun ad10b F10b e10 f10 => ?_)
  refine m_putR X hnm (k := 0) (j := 9) cl_X6 (by decide) rfl z_345 rfl rfl rfl rfl rfl rfl (by decide) ((e10 0 (by omega)).trans a9') dX6_init_128 (fun G10c q10 => ?_)
  have st10 : St 86 86 9 ad9b ad10b F9b F10b G9c G10c := St.mkA (by omega) e10 f10 q10
  have a10' : ad10b 0 = a0 := st10.1.trans a9'
  have oS := oS.kept (fun k x y => st10.2.2.2.2 k (by omega) (by omega))
  have oL := oL.kept (fun k x y => st10.2.2.2.2 k (by omega) (by omega))
  have oD := oD.kept (fun k x y => st10.2.2.2.2 k (by omega) (by omega))
  have oN := oN.kept (fun k x y => st10.2.2.2.2 k (by omega) (by omega))
  have oT := oT.kept (fun k x y => st10.2.2.2.2 k (by omega) (by omega))
  have oP := oP.kept (fun k x y => st10.2.2.2.2 k (by omega) (by omega))
  have oK := oK.kept (fun k x y => st10.2.2.2.2 k (by omega) (by omega))
  have oE := oE.kept (fun k x y => st10.2.2.2.2 k (by omega) (by omega)) (st10.2.2.2.2 87 (by omega) (by omega)).1
  have z0 : G10c 0 0 = some (ad10b 1) := by rw [st10.2.2.1 0 (by omega), (st10.2.2.2.2 1 (by omega) (by omega)).1]; exact z0
  have z1 : G10c 0 1 = some (ad10b 4) := by rw [st10.2.2.1 1 (by omega), (st10.2.2.2.2 4 (by omega) (by omega)).1]; exact z1
  have z2 : G10c 0 2 = some (ad10b 10) := by rw [st10.2.2.1 2 (by omega), (st10.2.2.2.2 10 (by omega) (by omega)).1]; exact z2
  have z3 : G10c 0 3 = some (ad10b 16) := by rw [st10.2.2.1 3 (by omega), (st10.2.2.2.2 16 (by omega) (by omega)).1]; exact z3
  have z4 : G10c 0 4 = some (ad10b 21) := by rw [st10.2.2.1 4 (by omega), (st10.2.2.2.2 21 (by omega) (by omega)).1]; exact z4
  have z5 : G10c 0 5 = some (ad10b 25) := by rw [st10.2.2.1 5 (by omega), (st10.2.2.2.2 25 (by omega) (by omega)).1]; exact z5
  have z6 : G10c 0 6 = some (ad10b 67) := by rw [st10.2.2.1 6 (by omega), (st10.2.2.2.2 67 (by omega) (by omega)).1]; exact z6
  have z7 : G10c 0 7 = some (ad10b 79) := by rw [st10.2.2.1 7 (by omega), (st10.2.2.2.2 79 (by omega) (by omega)).1]; exact z7
  have z8 : G10c 0 8 = some (ad10b 85) := by rw [st10.2.2.1 8 (by omega), (st10.2.2.2.2 85 (by omega) (by omega)).1]; exact z8
  have hL : ad10b 4 = aL := (st10.2.2.2.2 4 (by omega) (by omega)).1.trans hL
  have z9 : G10c 0 9 = some (ad10b 86) := st10.2.2.2.1
  refine g_aload_n X 0 dX6_init_131 rfl rfl ?_
  refine g_iconst X (v := nI 0) dX6_init_132 (by decide) ?_
  refine m_putI X (k := 0) (j := 10) cl_X6 (by decide) rfl z_346 rfl rfl rfl rfl rfl (by decide) a10' dX6_init_133 (fun Fz fz => ?_)
  refine g_iconst X (v := nI 0) dX6_init_136 (by decide) ?_
  refine g_istore_n X [(1, .int (nI 0)), (0, .ref a0)] dX6_init_137 rfl (by decide) rfl ?_
  have fn : ∀ k, k ≠ 0 → Fz k = F10b k := fun k hk => by rw [fz, hup_n _ _ _ hk]
  have oS := oS.kept (ad' := ad10b) (F' := Fz) (G' := G10c) (fun k x y => ⟨rfl, fn k (by omega), rfl⟩)
  have oL := oL.kept (ad' := ad10b) (F' := Fz) (G' := G10c) (fun k x y => ⟨rfl, fn k (by omega), rfl⟩)
  have oD := oD.kept (ad' := ad10b) (F' := Fz) (G' := G10c) (fun k x y => ⟨rfl, fn k (by omega), rfl⟩)
  have oN := oN.kept (ad' := ad10b) (F' := Fz) (G' := G10c) (fun k x y => ⟨rfl, fn k (by omega), rfl⟩)
  have oT := oT.kept (ad' := ad10b) (F' := Fz) (G' := G10c) (fun k x y => ⟨rfl, fn k (by omega), rfl⟩)
  have oP := oP.kept (ad' := ad10b) (F' := Fz) (G' := G10c) (fun k x y => ⟨rfl, fn k (by omega), rfl⟩)
  have oK := oK.kept (ad' := ad10b) (F' := Fz) (G' := G10c) (fun k x y => ⟨rfl, fn k (by omega), rfl⟩)
  have oE := oE.kept (ad' := ad10b) (F' := Fz) (G' := G10c) (fun k x y => ⟨rfl, fn k (by omega), rfl⟩) rfl
  have cls0 : ∀ k, k ∈ RC → GK ad10b Fz G10c k := by
    rw [← hL] at oN oT oP oK oE
    intro k hk
    rcases RC_cls k (RC_lt k hk) with g | rfl | rfl | rfl | rfl | rfl | rfl | rfl | rfl | rfl | ⟨j, hj, rfl | rfl⟩ | rfl | rfl | ⟨j, hj, rfl | rfl⟩ | rfl | rfl
    · exact GK_arr g
    · refine GK_obj (c := 6) rfl (fun j hj hr => ?_)
      have hnf : nf 6 = 11 := rfl
      rcases (show j = 0 ∨ j = 1 ∨ j = 2 ∨ j = 3 ∨ j = 4 ∨ j = 5 ∨ j = 6 ∨ j = 7 ∨ j = 8 ∨ j = 9 ∨ j = 10 by omega) with rfl | rfl | rfl | rfl | rfl | rfl | rfl | rfl | rfl | rfl | rfl
      · exact z0
      · exact z1
      · exact z2
      · exact z3
      · exact z4
      · exact z5
      · exact z6
      · exact z7
      · exact z8
      · exact z9
      · exact absurd hr (by decide)
    · refine GK_obj (c := 3) rfl (fun j hj hr => ?_)
      have hnf : nf 3 = 3 := rfl
      rcases (show j = 0 ∨ j = 1 ∨ j = 2 by omega) with rfl | rfl | rfl
      · exact oS.2.1
      · exact oS.2.2
      · exact absurd hr (by decide)
    · exact GK_fl rfl oL
    · exact GK_fl rfl oD
    · exact GK_nt ⟨rfl, rfl, rfl, rfl, rfl⟩ oN
    · exact GK_br ⟨rfl, rfl, rfl, rfl⟩ oN.2.2.2.2.2.2
    · exact GK_br ⟨rfl, rfl, rfl, rfl⟩ oT
    · exact GK_sh rfl oP
    · exact GK_sa (by omega) (by omega) rfl oP
    · exact GK_nt (NtK_p j hj) (oP.2.2.2 j hj).2
    · exact GK_br (NtK_p j hj).2 (oP.2.2.2 j hj).2.2.2.2.2.2.2
    · exact GK_sh rfl oK
    · exact GK_sa (by omega) (by omega) rfl oK
    · exact GK_nt (NtK_k j hj) (oK.2.2.2 j hj).2
    · exact GK_br (NtK_k j hj).2 (oK.2.2.2 j hj).2.2.2.2.2.2.2
    · refine GK_obj (c := 4) rfl (fun j hj hr => ?_)
      have hnf : nf 4 = 6 := rfl
      rcases (show j = 0 ∨ j = 1 ∨ j = 2 ∨ j = 3 ∨ j = 4 ∨ j = 5 by omega) with rfl | rfl | rfl | rfl | rfl | rfl
      · exact oE.2.2.1
      · exact oE.2.2.2.1
      · exact oE.2.2.2.2.1
      · exact oE.2.2.2.2.2.1
      · exact absurd hr (by decide)
      · exact absurd hr (by decide)
    · exact GK_br ⟨rfl, rfl, rfl, rfl⟩ oE.2.2.2.2.2.2
  refine m_toL cls0 ?_
  refine b_tail X hA hfv hR hZ hr a10' oS.1 (fun F' ho h1 hc => h ad10b F' a10' ⟨hc, ?_, ?_, ?_, ?_, h1, ?_⟩)
  · refine ⟨by rw [ho 16 (by omega) (by omega) (by omega) (by omega)]; exact oN.1, by rw [ho 16 (by omega) (by omega) (by omega) (by omega)]; exact oN.2.1, by rw [ho 16 (by omega) (by omega) (by omega) (by omega)]; exact oN.2.2.1, by rw [ho 16 (by omega) (by omega) (by omega) (by omega)]; exact oN.2.2.2.1, ?_, fun k hk => absurd hk (Nat.not_lt_zero k), fun k hk => ?_⟩
    · rw [ho 17 (by omega) (by omega) (by omega) (by omega)]; exact oN.2.2.2.2.2.2.1
    · show F' 19 k = nI 0
      rw [ho 19 (by omega) (by omega) (by omega) (by omega)]; exact oN.2.2.2.2.2.2.2.2.1 k
  · exact ⟨by rw [ho 25 (by omega) (by omega) (by omega) (by omega)]; exact oP.1, by omega, fun i hi => by rw [ho (25 + 1) (by omega) (by omega) (by omega) (by omega)]; exact oP.2.2.1 i, fun i hi => ⟨i, hi, rfl⟩, fun i j hi hj e => (by have e2 : 25 + 2 + 5 * i = 25 + 2 + 5 * j := e; omega), fun i hi => absurd hi (Nat.not_lt_zero i)⟩
  · exact ⟨by rw [ho 67 (by omega) (by omega) (by omega) (by omega)]; exact oK.1, by omega, fun i hi => by rw [ho (67 + 1) (by omega) (by omega) (by omega) (by omega)]; exact oK.2.2.1 i, fun i hi => ⟨i, hi, rfl⟩, fun i j hi hj e => (by have e2 : 67 + 2 + 5 * i = 67 + 2 + 5 * j := e; omega), fun i hi => absurd hi (Nat.not_lt_zero i)⟩
  · rw [ho 0 (by omega) (by omega) (by omega) (by omega), fz, hup_at, if_pos rfl]
  · rw [ho 79 (by omega) (by omega) (by omega) (by omega)]; exact oE.2.1
theorem k_X6_init {kS kV a0 : Nat} {fv : Value} (hfv : fv = .null ∨ ∃ t, fv = .ref t) (h0 : ad 0 = a0) {K : (Nat → Nat) → HF → Prop} (h : ∀ ad' F', ad' 0 = a0 → IC F' → K ad' F') (sz : Nat) : Met l yX6_init (Cond.code yX6_init cX6_init 2 none :: WB) rm_bb (va_Pc [.ref a0] (PreB D dA ad F G kS kV fv sz)) (va_Qv (fun u : UB => K u.1 u.2) (PostB D dA (AG dA ad [0] F G sz)) (AG dA ad [0] F G sz)) 87 1046 (AG dA ad [0] F G sz) := by
  refine Met.ofW (cc := cX6_init) (maxL := 2) (ret := none) (by decide) rfl ?_
  intro p e s m args below meth c s₁ B hml hv
  obtain ⟨rfl, hsz, hP, hK, hO, hN, hR, hZ, hD0⟩ := hv
  have hts := atoms_spec (ws := Cond.code yX6_init cX6_init 2 none :: WB) B.pre
  subst hsz
  have hD := hD0.self (sz := s.heap.size)
  rw [lg_entry_eq]
  have hown : s.vm.findClass RX6 = some m.cls := findClass_of_methodNamed B.named
  exact b_init ⟨B.exec, B.bytes, hml, hown, fun w h => hts w (List.mem_cons_of_mem _ h), hK, B.notSynchronized⟩ hO (fun q h => Or.inr h) (name_of_methodNamed B.named B.method).1 hfv hN hR hZ B.returns h0 h s.heap [] _ hP hD va_S.rf (lv_entry [.ref a0] (Nat.le_of_ble_eq_true rfl))
end CtorBC
