theorem z_241 : Cond.fieldLink RJ0 38 "java/lang/String" "COMPACT_STRINGS" "Z" ∈ WB := inWB 241 (by decide +kernel) (by decide +kernel)
theorem z_1204 : Cond.fieldLink RJ0 15 "java/lang/String" "coder" "B" ∈ WB := inWB 1204 (by decide +kernel) (by decide +kernel)
theorem z_1203 : Cond.fieldLink RJ0 9 "java/lang/String" "value" "[B" ∈ WB := inWB 1203 (by decide +kernel) (by decide +kernel)
theorem z_237 : Cond.methodLink RJ0 335 yJ0_coder_7d493 ∈ WB := inWB 237 (by decide +kernel) (by decide +kernel)
theorem z_238 : Cond.instanceMethod yJ0_coder_7d493 ∈ WB := inWB 238 (by decide +kernel) (by decide +kernel)
theorem z_239 : Cond.selects RJ0 yJ0_coder_7d493 yJ0_coder_7d493 ∈ WB := inWB 239 (by decide +kernel) (by decide +kernel)
theorem z_64 : Cond.initialized RJ0 ∈ WB := inWB 64 (by decide +kernel) (by decide +kernel)
theorem z_240 : Cond.code yJ0_coder_7d493 cJ0_coder_7d493 1 (some .byte) ∈ WB := inWB 240 (by decide +kernel) (by decide +kernel)
theorem z_257 : Cond.fieldLink RJ0 1053 "jdk/internal/util/Preconditions" "SIOOBE_FORMATTER" "Ljava/util/function/BiFunction;" ∈ WB := inWB 257 (by decide +kernel) (by decide +kernel)
theorem z_259 : Cond.methodLink RJ0 1059 yJ3_checkIndex_8e157 ∈ WB := inWB 259 (by decide +kernel) (by decide +kernel)
theorem z_260 : Cond.static yJ3_checkIndex_8e157 ∈ WB := inWB 260 (by decide +kernel) (by decide +kernel)
theorem z_66 : Cond.initialized RJ3 ∈ WB := inWB 66 (by decide +kernel) (by decide +kernel)
theorem z_261 : Cond.code yJ3_checkIndex_8e157 cJ3_checkIndex_8e157 3 (some .int) ∈ WB := inWB 261 (by decide +kernel) (by decide +kernel)
theorem z_254 : Cond.methodLink RJ1 9 yJ0_checkIndex_df160 ∈ WB := inWB 254 (by decide +kernel) (by decide +kernel)
theorem z_255 : Cond.static yJ0_checkIndex_df160 ∈ WB := inWB 255 (by decide +kernel) (by decide +kernel)
theorem z_256 : Cond.code yJ0_checkIndex_df160 cJ0_checkIndex_df160 2 none ∈ WB := inWB 256 (by decide +kernel) (by decide +kernel)
theorem z_247 : Cond.methodLink RJ0 492 yJ0_isLatin1_aae02 ∈ WB := inWB 247 (by decide +kernel) (by decide +kernel)
theorem z_248 : Cond.instanceMethod yJ0_isLatin1_aae02 ∈ WB := inWB 248 (by decide +kernel) (by decide +kernel)
theorem z_249 : Cond.selects RJ0 yJ0_isLatin1_aae02 yJ0_isLatin1_aae02 ∈ WB := inWB 249 (by decide +kernel) (by decide +kernel)
theorem z_250 : Cond.code yJ0_isLatin1_aae02 cJ0_isLatin1_aae02 1 (some .boolean) ∈ WB := inWB 250 (by decide +kernel) (by decide +kernel)
theorem z_251 : Cond.methodLink RJ0 495 yJ1_charAt_3b067 ∈ WB := inWB 251 (by decide +kernel) (by decide +kernel)
theorem z_252 : Cond.static yJ1_charAt_3b067 ∈ WB := inWB 252 (by decide +kernel) (by decide +kernel)
theorem z_65 : Cond.initialized RJ1 ∈ WB := inWB 65 (by decide +kernel) (by decide +kernel)
theorem z_253 : Cond.code yJ1_charAt_3b067 cJ1_charAt_3b067 2 (some .char) ∈ WB := inWB 253 (by decide +kernel) (by decide +kernel)
theorem dJ0_length_8abf5_0 : decode cJ0_length_8abf5 0 = .ok (.aload_n 0, 1) := by decide +kernel
theorem dJ0_length_8abf5_1 : decode cJ0_length_8abf5 1 = .ok (.getfield 9, 3) := by decide +kernel
theorem dJ0_length_8abf5_4 : decode cJ0_length_8abf5 4 = .ok (.arraylength, 1) := by decide +kernel
theorem dJ0_length_8abf5_5 : decode cJ0_length_8abf5 5 = .ok (.aload_n 0, 1) := by decide +kernel
theorem dJ0_length_8abf5_6 : decode cJ0_length_8abf5 6 = .ok (.invokevirtual 335, 3) := by decide +kernel
theorem dJ0_length_8abf5_9 : decode cJ0_length_8abf5 9 = .ok (.ishr, 1) := by decide +kernel
theorem dJ0_length_8abf5_10 : decode cJ0_length_8abf5 10 = .ok (.ireturn, 1) := by decide +kernel
theorem dJ0_charAt_5068e_0 : decode cJ0_charAt_5068e 0 = .ok (.aload_n 0, 1) := by decide +kernel
theorem dJ0_charAt_5068e_1 : decode cJ0_charAt_5068e 1 = .ok (.invokevirtual 492, 3) := by decide +kernel
theorem dJ0_charAt_5068e_4 : decode cJ0_charAt_5068e 4 = .ok (.ifCond .eq 12, 3) := by decide +kernel
theorem dJ0_charAt_5068e_7 : decode cJ0_charAt_5068e 7 = .ok (.aload_n 0, 1) := by decide +kernel
theorem dJ0_charAt_5068e_8 : decode cJ0_charAt_5068e 8 = .ok (.getfield 9, 3) := by decide +kernel
theorem dJ0_charAt_5068e_11 : decode cJ0_charAt_5068e 11 = .ok (.iload_n 1, 1) := by decide +kernel
theorem dJ0_charAt_5068e_12 : decode cJ0_charAt_5068e 12 = .ok (.invokestatic 495, 3) := by decide +kernel
theorem dJ0_charAt_5068e_15 : decode cJ0_charAt_5068e 15 = .ok (.ireturn, 1) := by decide +kernel
theorem dJ0_charAt_5068e_16 : decode cJ0_charAt_5068e 16 = .ok (.aload_n 0, 1) := by decide +kernel
theorem dJ0_charAt_5068e_17 : decode cJ0_charAt_5068e 17 = .ok (.getfield 9, 3) := by decide +kernel
theorem dJ0_charAt_5068e_20 : decode cJ0_charAt_5068e 20 = .ok (.iload_n 1, 1) := by decide +kernel
theorem dJ0_charAt_5068e_21 : decode cJ0_charAt_5068e 21 = .ok (.invokestatic 498, 3) := by decide +kernel
theorem dJ0_charAt_5068e_24 : decode cJ0_charAt_5068e 24 = .ok (.ireturn, 1) := by decide +kernel
theorem dJ0_coder_7d493_0 : decode cJ0_coder_7d493 0 = .ok (.getstatic 38, 3) := by decide +kernel
theorem dJ0_coder_7d493_3 : decode cJ0_coder_7d493 3 = .ok (.ifCond .eq 10, 3) := by decide +kernel
theorem dJ0_coder_7d493_6 : decode cJ0_coder_7d493 6 = .ok (.aload_n 0, 1) := by decide +kernel
theorem dJ0_coder_7d493_7 : decode cJ0_coder_7d493 7 = .ok (.getfield 15, 3) := by decide +kernel
theorem dJ0_coder_7d493_10 : decode cJ0_coder_7d493 10 = .ok (.goto 4, 3) := by decide +kernel
theorem dJ0_coder_7d493_13 : decode cJ0_coder_7d493 13 = .ok (.iconst 1, 1) := by decide +kernel
theorem dJ0_coder_7d493_14 : decode cJ0_coder_7d493 14 = .ok (.ireturn, 1) := by decide +kernel
theorem dJ0_isLatin1_aae02_0 : decode cJ0_isLatin1_aae02 0 = .ok (.getstatic 38, 3) := by decide +kernel
theorem dJ0_isLatin1_aae02_3 : decode cJ0_isLatin1_aae02 3 = .ok (.ifCond .eq 14, 3) := by decide +kernel
theorem dJ0_isLatin1_aae02_6 : decode cJ0_isLatin1_aae02 6 = .ok (.aload_n 0, 1) := by decide +kernel
theorem dJ0_isLatin1_aae02_7 : decode cJ0_isLatin1_aae02 7 = .ok (.getfield 15, 3) := by decide +kernel
theorem dJ0_isLatin1_aae02_10 : decode cJ0_isLatin1_aae02 10 = .ok (.ifCond .ne 7, 3) := by decide +kernel
theorem dJ0_isLatin1_aae02_13 : decode cJ0_isLatin1_aae02 13 = .ok (.iconst 1, 1) := by decide +kernel
theorem dJ0_isLatin1_aae02_14 : decode cJ0_isLatin1_aae02 14 = .ok (.goto 4, 3) := by decide +kernel
theorem dJ0_isLatin1_aae02_17 : decode cJ0_isLatin1_aae02 17 = .ok (.iconst 0, 1) := by decide +kernel
theorem dJ0_isLatin1_aae02_18 : decode cJ0_isLatin1_aae02 18 = .ok (.ireturn, 1) := by decide +kernel
theorem dJ0_checkIndex_df160_0 : decode cJ0_checkIndex_df160 0 = .ok (.iload_n 0, 1) := by decide +kernel
theorem dJ0_checkIndex_df160_1 : decode cJ0_checkIndex_df160 1 = .ok (.iload_n 1, 1) := by decide +kernel
theorem dJ0_checkIndex_df160_2 : decode cJ0_checkIndex_df160 2 = .ok (.getstatic 1053, 3) := by decide +kernel
theorem dJ0_checkIndex_df160_5 : decode cJ0_checkIndex_df160 5 = .ok (.invokestatic 1059, 3) := by decide +kernel
theorem dJ0_checkIndex_df160_8 : decode cJ0_checkIndex_df160 8 = .ok (.pop, 1) := by decide +kernel
theorem dJ0_checkIndex_df160_9 : decode cJ0_checkIndex_df160 9 = .ok (.return_, 1) := by decide +kernel
theorem dJ1_charAt_3b067_0 : decode cJ1_charAt_3b067 0 = .ok (.iload_n 1, 1) := by decide +kernel
theorem dJ1_charAt_3b067_1 : decode cJ1_charAt_3b067 1 = .ok (.aload_n 0, 1) := by decide +kernel
theorem dJ1_charAt_3b067_2 : decode cJ1_charAt_3b067 2 = .ok (.arraylength, 1) := by decide +kernel
theorem dJ1_charAt_3b067_3 : decode cJ1_charAt_3b067 3 = .ok (.invokestatic 9, 3) := by decide +kernel
theorem dJ1_charAt_3b067_6 : decode cJ1_charAt_3b067 6 = .ok (.aload_n 0, 1) := by decide +kernel
theorem dJ1_charAt_3b067_7 : decode cJ1_charAt_3b067 7 = .ok (.iload_n 1, 1) := by decide +kernel
theorem dJ1_charAt_3b067_8 : decode cJ1_charAt_3b067 8 = .ok (.baload, 1) := by decide +kernel
theorem dJ1_charAt_3b067_9 : decode cJ1_charAt_3b067 9 = .ok (.sipush 255, 3) := by decide +kernel
theorem dJ1_charAt_3b067_12 : decode cJ1_charAt_3b067 12 = .ok (.iand, 1) := by decide +kernel
theorem dJ1_charAt_3b067_13 : decode cJ1_charAt_3b067 13 = .ok (.i2c, 1) := by decide +kernel
theorem dJ1_charAt_3b067_14 : decode cJ1_charAt_3b067 14 = .ok (.ireturn, 1) := by decide +kernel
theorem dJ3_checkIndex_8e157_0 : decode cJ3_checkIndex_8e157 0 = .ok (.iload_n 0, 1) := by decide +kernel
theorem dJ3_checkIndex_8e157_1 : decode cJ3_checkIndex_8e157 1 = .ok (.ifCond .lt 8, 3) := by decide +kernel
theorem dJ3_checkIndex_8e157_4 : decode cJ3_checkIndex_8e157 4 = .ok (.iload_n 0, 1) := by decide +kernel
theorem dJ3_checkIndex_8e157_5 : decode cJ3_checkIndex_8e157 5 = .ok (.iload_n 1, 1) := by decide +kernel
theorem dJ3_checkIndex_8e157_6 : decode cJ3_checkIndex_8e157 6 = .ok (.if_icmp .lt 10, 3) := by decide +kernel
theorem dJ3_checkIndex_8e157_9 : decode cJ3_checkIndex_8e157 9 = .ok (.aload_n 2, 1) := by decide +kernel
theorem dJ3_checkIndex_8e157_10 : decode cJ3_checkIndex_8e157 10 = .ok (.iload_n 0, 1) := by decide +kernel
theorem dJ3_checkIndex_8e157_11 : decode cJ3_checkIndex_8e157 11 = .ok (.iload_n 1, 1) := by decide +kernel
theorem dJ3_checkIndex_8e157_12 : decode cJ3_checkIndex_8e157 12 = .ok (.invokestatic 95, 3) := by decide +kernel
theorem dJ3_checkIndex_8e157_15 : decode cJ3_checkIndex_8e157 15 = .ok (.athrow, 1) := by decide +kernel
theorem dJ3_checkIndex_8e157_16 : decode cJ3_checkIndex_8e157 16 = .ok (.iload_n 0, 1) := by decide +kernel
theorem dJ3_checkIndex_8e157_17 : decode cJ3_checkIndex_8e157 17 = .ok (.ireturn, 1) := by decide +kernel
/-! ===== the first text, a String constant; the JDK's own methods on it ===== -/
def txL : List Nat := [98, 51, 48, 44, 50, 44, 48, 44, 53, 59, 98, 50, 48, 44, 49, 44, 49, 44, 48, 59, 98, 49, 56, 44, 50, 44, 50, 44, 57, 59, 98, 52, 48, 44, 49, 44, 51, 44, 51, 59, 98, 50, 53, 44, 50, 44, 52, 44, 55, 59, 114, 53, 59, 119, 50, 59, 119, 54, 59, 119, 48, 59, 108, 49, 50, 44, 49, 59]
def txN (j : Nat) : Nat := txL.getD j 0
def txB (j : Nat) : Int32 := nI (txN j)
theorem txL_len : txL.length = 68 := by decide
theorem tx_rng : ∀ j, j < 68 → 32 ≤ txN j ∧ txN j ≤ 126 := by decide
def SZ (kS kV : Nat) (fv : Value) (A : Nat → Prop) (U : State) (H : Heap) : Prop := va_O "java/lang/String" kS A U H ∧ va_OF "java/lang/String" "coder" "B" (.int 0) kS A U H ∧ va_OF "java/lang/String" "value" "[B" (.ref kV) kS A U H ∧ va_T .byte kV 68 (fun j => .int (txB j)) A U H ∧ va_Z "java/lang/String" "COMPACT_STRINGS" "Z" (.int 1) A U H ∧ va_Z "jdk/internal/util/Preconditions" "SIOOBE_FORMATTER" "Ljava/util/function/BiFunction;" fv A U H
theorem SZ.moved {kS kV : Nat} {fv : Value} {A : Nat → Prop} {u U : State} {H : Heap} (hvm : u.vm.Alike U.vm) (h : SZ kS kV fv A u H) : SZ kS kV fv A U H := ⟨va_O.moved hvm h.1, va_OF.moved hvm h.2.1, va_OF.moved hvm h.2.2.1, va_T.moved hvm h.2.2.2.1, va_Z.moved hvm h.2.2.2.2.1, va_Z.moved hvm h.2.2.2.2.2⟩
theorem SZ.kept {kS kV : Nat} {fv : Value} {A : Nat → Prop} {U : State} {H H1 : Heap} (h : SZ kS kV fv A U H) (hq : ∀ a : Nat, a < H.size → ¬ A a → H1[a]? = H[a]?) : SZ kS kV fv A U H1 := ⟨h.1.kept hq, h.2.1.kept hq, h.2.2.1.kept hq, h.2.2.2.1.kept hq, h.2.2.2.2.1.kept hq, h.2.2.2.2.2.kept hq⟩
theorem SZ.narrow {kS kV : Nat} {fv : Value} {A B : Nat → Prop} {U : State} {H : Heap} (h : SZ kS kV fv A U H) (hAB : ∀ q, B q → A q) : SZ kS kV fv B U H := ⟨h.1.narrow hAB, h.2.1.narrow hAB, h.2.2.1.narrow hAB, h.2.2.2.1.narrow hAB, h.2.2.2.2.1.narrow hAB, h.2.2.2.2.2.narrow hAB⟩
theorem gSj {own : String} {i : Nat} {y : MethodName} {b : ByteArray} {n : Nat} {r : Option FieldType} (h1 : Cond.methodLink own i y ∈ WB) (h2 : Cond.static y ∈ WB) (h4 : Cond.initialized y.cls ∈ WB) (h5 : Cond.code y b n r ∈ WB) : GoodIn WB (va_wsS own i y (Cond.code y b n r :: WB)) := by
  intro w hw
  unfold va_wsS at hw
  rcases List.mem_append.mp hw with h | h
  · simp only [List.mem_cons, List.not_mem_nil, or_false] at h
    rcases h with rfl | rfl | rfl
    · exact WB_one h1
    · exact WB_one h2
    · exact WB_one h4
  · rcases List.mem_cons.mp h with rfl | h
    · exact WB_one h5
    · exact WB_one h
section STR
variable {p : Program} {l : Launch} {e : Env} {Rm : Room} {s : State} {m : MethodId} {args : Array Value} {below : List Frame} {meth : Method} {c : Code} {nL : Nat} {D : va_G} {dA : Nat → ClassId} {A : Nat → Prop} {Q : State → Prop} {pc : Nat} {lv : List (Nat × Value)} {st : List Value} {cc : ByteArray} {own : String} {ws : va_W} {nc ns : Nat} {kS kV : Nat} {fv : Value}
def PreS0 (D : va_G) (dA : Nat → ClassId) (kS kV : Nat) (fv : Value) (sz : Nat) (U : State) : Prop := U.heap.size = sz ∧ va_K D clsL (tysL dA) U ∧ SZ kS kV fv (fun q => sz ≤ q) U U.heap
def MS (l : Launch) (y : MethodName) (b : ByteArray) (n : Nat) (rt : FieldType) (rm : Room) (D : va_G) (dA : Nat → ClassId) (kS kV : Nat) (fv : Value) (av : List Value) (v : Int32) : Prop := ∀ sz : Nat, Met l y (Cond.code y b n (some rt) :: WB) rm (va_Pc av (PreS0 D dA kS kV fv sz)) (va_Qi (fun (r : Int32) (_ : Unit) => r = v) (fun _ _ => True) (fun q => sz ≤ q)) 0 0 (fun q => sz ≤ q)
def MSv (l : Launch) (y : MethodName) (b : ByteArray) (n : Nat) (rm : Room) (D : va_G) (dA : Nat → ClassId) (kS kV : Nat) (fv : Value) (av : List Value) : Prop := ∀ sz : Nat, Met l y (Cond.code y b n none :: WB) rm (va_Pc av (PreS0 D dA kS kV fv sz)) (va_Qv (fun (_ : Unit) => True) (fun _ _ => True) (fun q => sz ≤ q)) 0 0 (fun q => sz ≤ q)
abbrev QS (below : List Frame) (args : Array Value) (s : State) (v : Int32) : State → Prop := MQ below (va_Qi (fun (r : Int32) (_ : Unit) => r = v) (fun _ _ => True) (fun q => s.heap.size ≤ q)) args s 0 0 (fun q => s.heap.size ≤ q)
abbrev QSv (below : List Frame) (args : Array Value) (s : State) : State → Prop := MQ below (va_Qv (fun (_ : Unit) => True) (fun _ _ => True) (fun q => s.heap.size ≤ q)) args s 0 0 (fun q => s.heap.size ≤ q)
theorem PD_nil {H : Heap} : va_P D clsL [] H := fun k q h => by simp at h
theorem DD_nil : va_D A [] := ⟨fun i j p q h => by simp at h, fun k q h => by simp at h⟩
theorem MS.of {y : MethodName} {b : ByteArray} {n : Nat} {rt : FieldType} {rm : Room} {av : List Value} {v : Int32} {own : String} (hy : plainName y.cls = true) (ho : own = y.cls) (hn : (lg_sl av).length ≤ n)
    (body : ∀ (p : Program) (e : Env) (s : State) (m : MethodId) (args : Array Value) (below : List Frame) (meth : Method) (c : Code), Cx p s m args meth c b n own D dA → SZ kS kV fv (fun q => s.heap.size ≤ q) s s.heap → meth.sig.returnType = some rt → JG 0 0 p l e rm s m args below meth c n D [] (fun q => s.heap.size ≤ q) (QS below args s v) 0 (lv_args 0 av) []) : MS l y b n rt rm D dA kS kV fv av v := by
  intro sz
  refine Met.ofW (cc := b) (maxL := n) (ret := some rt) hy rfl ?_
  intro p e s m args below meth c s₁ B hml hv
  obtain ⟨rfl, hsz, hK, hZ⟩ := hv
  have hts := atoms_spec (ws := Cond.code y b n (some rt) :: WB) B.pre
  subst hsz
  rw [lg_entry_eq]
  have hown : s.vm.findClass own = some m.cls := by rw [ho]; exact findClass_of_methodNamed B.named
  exact body p e s m _ below meth c ⟨B.exec, B.bytes, hml, hown, fun w h => hts w (List.mem_cons_of_mem _ h), hK, B.notSynchronized⟩ hZ B.returns s.heap [] _ PD_nil DD_nil va_S.rf (lv_entry av hn)
theorem MSv.of {y : MethodName} {b : ByteArray} {n : Nat} {rm : Room} {av : List Value} {own : String} (hy : plainName y.cls = true) (ho : own = y.cls) (hn : (lg_sl av).length ≤ n)
    (body : ∀ (p : Program) (e : Env) (s : State) (m : MethodId) (args : Array Value) (below : List Frame) (meth : Method) (c : Code), Cx p s m args meth c b n own D dA → SZ kS kV fv (fun q => s.heap.size ≤ q) s s.heap → meth.sig.returnType = none → JG 0 0 p l e rm s m args below meth c n D [] (fun q => s.heap.size ≤ q) (QSv below args s) 0 (lv_args 0 av) []) : MSv l y b n rm D dA kS kV fv av := by
  intro sz
  refine Met.ofW (cc := b) (maxL := n) (ret := none) hy rfl ?_
  intro p e s m args below meth c s₁ B hml hv
  obtain ⟨rfl, hsz, hK, hZ⟩ := hv
  have hts := atoms_spec (ws := Cond.code y b n none :: WB) B.pre
  subst hsz
  rw [lg_entry_eq]
  have hown : s.vm.findClass own = some m.cls := by rw [ho]; exact findClass_of_methodNamed B.named
  exact body p e s m _ below meth c ⟨B.exec, B.bytes, hml, hown, fun w h => hts w (List.mem_cons_of_mem _ h), hK, B.notSynchronized⟩ hZ B.returns s.heap [] _ PD_nil DD_nil va_S.rf (lv_entry av hn)
theorem s_zret (X : Cx p s m args meth c cc nL own D dA) {v : Int32} {rt : FieldType} (hr : meth.sig.returnType = some rt) (hdg : decode cc pc = .ok (.ireturn, 1)) (hn : narrow rt (.int v) = .int v) : JG 0 0 p l e Rm s m args below meth c nL D ws (fun q => s.heap.size ≤ q) (QS below args s v) pc lv [.int v] := fun H locs ls hP hD hS hl =>
  W.zret X.1 X.2.1 hr hn (fun t ht hW => ⟨⟨v, (), rfl, rfl, trivial⟩, hS.F ht⟩) hS.2.2 hdg X.2.2.2.2.2.2
theorem s_vret (X : Cx p s m args meth c cc nL own D dA) (hr : meth.sig.returnType = none) (hdg : decode cc pc = .ok (.return_, 1)) : JG 0 0 p l e Rm s m args below meth c nL D ws (fun q => s.heap.size ≤ q) (QSv below args s) pc lv [] := fun H locs ls hP hD hS hl =>
  W.vret X.1 X.2.1 hr (fun t ht hW => ⟨⟨(), rfl, trivial, trivial⟩, hS.F ht⟩) hS.2.2 hdg X.2.2.2.2.2.2
theorem s_gets (X : Cx p s m args meth c cc nL own D dA) {C n d : String} {v : Value} {index : Nat} (hZ : va_Z C n d v A s s.heap) (hw : Cond.fieldLink own index C n d ∈ WB) (hdg : decode cc pc = .ok (.getstatic index, 3)) (kk : JG nc ns p l e Rm s m args below meth c nL D ws A Q (pc + 3) lv (v :: st)) : JG nc ns p l e Rm s m args below meth c nL D ws A Q pc lv st := fun H locs ls hP hD hS hl =>
  va_gets X.1 X.2.1 hZ hS X.2.2.2.1 (X.2.2.2.2.1 _ hw) (fun _ h => h) hdg (kk H locs ls hP hD hS hl)
theorem s_getf (X : Cx p s m args meth c cc nL own D dA) {o n d : String} {v : Value} {index q : Nat} (hZ : va_OF o n d v q A s s.heap) (hw : Cond.fieldLink own index o n d ∈ WB) (hdg : decode cc pc = .ok (.getfield index, 3)) (kk : JG nc ns p l e Rm s m args below meth c nL D ws A Q (pc + 3) lv (v :: st)) : JG nc ns p l e Rm s m args below meth c nL D ws A Q pc lv (.ref q :: st) := fun H locs ls hP hD hS hl =>
  vk_getf X.1 X.2.1 hZ hS X.2.2.2.1 (X.2.2.2.2.1 _ hw) (fun _ h => h) hdg (kk H locs ls hP hD hS hl)
theorem s_tlen (X : Cx p s m args meth c cc nL own D dA) {ty : FieldType} {t N : Nat} {f : Nat → Value} (hT : va_T ty t N f A s s.heap) (hdg : decode cc pc = .ok (.arraylength, 1)) (kk : JG nc ns p l e Rm s m args below meth c nL D ws A Q (pc + 1) lv (.int (nI N) :: st)) : JG nc ns p l e Rm s m args below meth c nL D ws A Q pc lv (.ref t :: st) := fun H locs ls hP hD hS hl =>
  va_tlen X.1 X.2.1 hT hS (v := nI N) rfl hdg (kk H locs ls hP hD hS hl)
theorem s_tb (X : Cx p s m args meth c cc nL own D dA) {t N : Nat} {f : Nat → Value} (hT : va_T .byte t N f A s s.heap) {i : Int32} (hin : vp_in i N) {v : Value} (hv : f i.toNatClampNeg = v) (hdg : decode cc pc = .ok (.baload, 1)) (kk : JG nc ns p l e Rm s m args below meth c nL D ws A Q (pc + 1) lv (v :: st)) : JG nc ns p l e Rm s m args below meth c nL D ws A Q pc lv (.int i :: .ref t :: st) := fun H locs ls hP hD hS hl =>
  va_tb X.1 X.2.1 hT hS hin hv hdg (kk H locs ls hP hD hS hl)
theorem PreS0_blind {sz : Nat} {av : List Value} : FrameBlind (va_Pc av (PreS0 D dA kS kV fv sz)) := fun a U g mk q => by
  obtain ⟨q0, q1, qK, qZ⟩ := q
  exact ⟨q0, q1, va_K.moved (u := U) (U := U.calling g mk a) (Vm.Alike.refl U.vm) qK, SZ.moved (u := U) (U := U.calling g mk a) (Vm.Alike.refl U.vm) qZ⟩
theorem SZ.at {H : Heap} {locs : List Loc} (hA : ∀ q, s.heap.size ≤ q → A q) (hZ : SZ kS kV fv A s s.heap) (hS : va_S A s.heap H locs) : SZ kS kV fv (fun q => H.size ≤ q) s H := (hZ.kept hS.2.1).narrow (fun q h => hA q (Nat.le_trans hS.1 h))
theorem g_callSV (X : Cx p s m args meth c cc nL own D dA) (hA : ∀ q, s.heap.size ≤ q → A q) (hZ : SZ kS kV fv A s s.heap) {y : MethodName} {b : ByteArray} {n np idx : Nat} {rt : FieldType} {rm : Room} {As : List Value} {v : Int32} {st0 : List Value} (hM : MS l y b n rt rm D dA kS kV fv (.ref kS :: As) v) (hG : GoodIn WB (wsV own idx "java/lang/String" y (Cond.code y b n (some rt) :: WB))) (hd : y.cls = "java/lang/String" ∧ y.cls ≠ "java/lang/invoke/MethodHandle" ∧ y.cls ≠ "java/lang/invoke/VarHandle" ∧ (parseMethodDescriptor y.desc).map (fun d => d.parameters.length) = some np) (hnp : As.length = np) (hrc : rm.cells = 0) (hrs : rm.slots = 0) (hRm : rm.frames + 1 ≤ Rm.frames ∧ 8 + (n + 11) + rm.locals ≤ Rm.locals) (hf : nc ≤ Rm.cells ∧ ns ≤ Rm.slots) (hst : st0 = As.reverse ++ .ref kS :: st) (hcat : (st.map fun v => v.category).sum ≤ 8) (hdg : decode cc pc = .ok (.invokevirtual idx, 3)) (kk : JG nc ns p l e Rm s m args below meth c nL D ws A Q (pc + 3) lv (.int v :: st)) : JG nc ns p l e Rm s m args below meth c nL D ws A Q pc lv st0 := by
  intro H locs ls hP hD hS hl
  subst hst
  have hZH := SZ.at hA hZ hS
  have hrecv : ∃ cell : Cell, H[kS]? = some cell ∧ cell.vm.isStatics = false ∧ s.vm.findClass "java/lang/String" = some cell.cls := by
    obtain ⟨cell, h1, h2, h3, -⟩ := hZH.1
    exact ⟨cell, h1, h2, h3⟩
  refine va_calli (va_runV (As := As) (rest := st) ⟨X.1, X.2.1, X.2.2.1, X.2.2.2.1, X.2.2.2.2.1⟩ (hM H.size) (cwV np X.2.2.2.2.1 hG rfl hrc hrs hd hRm) ⟨PreS0_blind, hrecv, fun U hU hW => ⟨rfl, by rw [hU], va_K.moved hW.alike X.2.2.2.2.2.1, by rw [hU]; exact SZ.moved hW.alike hZH⟩⟩ rfl hnp hl.1 rfl (lv_room hcat) hdg hf) hS (fun q h1 h2 => absurd h2 (Nat.not_le.mpr h1)) (fun q h => hA q (Nat.le_trans hS.1 h)) ?_
  intro r u t' H1 locs1 ht hvm hw hB hz1 hk1 hS1
  rw [hw]
  exact kk H1 locs1 ls (hP.kept (fun k q hk => hk1 q.1 ((hP k q hk).lt) (Nat.not_le.mpr ((hP k q hk).lt)))) hD hS1 hl
theorem g_callSS (X : Cx p s m args meth c cc nL own D dA) (hA : ∀ q, s.heap.size ≤ q → A q) (hZ : SZ kS kV fv A s s.heap) {y : MethodName} {b : ByteArray} {n np idx : Nat} {rt : FieldType} {rm : Room} {As : List Value} {v : Int32} {st0 : List Value} (hM : MS l y b n rt rm D dA kS kV fv As v) (hG : GoodIn WB (va_wsS own idx y (Cond.code y b n (some rt) :: WB))) (hd : y.cls ≠ "java/lang/invoke/MethodHandle" ∧ y.cls ≠ "java/lang/invoke/VarHandle" ∧ (parseMethodDescriptor y.desc).map (fun d => d.parameters.length) = some np) (hnp : As.length = np) (hrc : rm.cells = 0) (hrs : rm.slots = 0) (hRm : rm.frames + 1 ≤ Rm.frames ∧ 8 + (n + 11) + rm.locals ≤ Rm.locals) (hf : nc ≤ Rm.cells ∧ ns ≤ Rm.slots) (hst : st0 = As.reverse ++ st) (hcat : (st.map fun v => v.category).sum ≤ 8) (hdg : decode cc pc = .ok (.invokestatic idx, 3)) (kk : JG nc ns p l e Rm s m args below meth c nL D ws A Q (pc + 3) lv (.int v :: st)) : JG nc ns p l e Rm s m args below meth c nL D ws A Q pc lv st0 := by
  intro H locs ls hP hD hS hl
  subst hst
  have hZH := SZ.at hA hZ hS
  refine va_calli (va_runS (As := As) (rest := st) ⟨X.1, X.2.1, X.2.2.1, X.2.2.2.1, X.2.2.2.2.1⟩ (hM H.size) (va_cwS np X.2.2.2.2.1 hG rfl hrc hrs hd hRm) ⟨PreS0_blind, fun U hU hW => ⟨rfl, by rw [hU], va_K.moved hW.alike X.2.2.2.2.2.1, by rw [hU]; exact SZ.moved hW.alike hZH⟩⟩ rfl hnp hl.1 rfl (lv_room hcat) hdg hf) hS (fun q h1 h2 => absurd h2 (Nat.not_le.mpr h1)) (fun q h => hA q (Nat.le_trans hS.1 h)) ?_
  intro r u t' H1 locs1 ht hvm hw hB hz1 hk1 hS1
  rw [hw]
  exact kk H1 locs1 ls (hP.kept (fun k q hk => hk1 q.1 ((hP k q hk).lt) (Nat.not_le.mpr ((hP k q hk).lt)))) hD hS1 hl
theorem g_callSSv (X : Cx p s m args meth c cc nL own D dA) (hA : ∀ q, s.heap.size ≤ q → A q) (hZ : SZ kS kV fv A s s.heap) {y : MethodName} {b : ByteArray} {n np idx : Nat} {rm : Room} {As : List Value} {st0 : List Value} (hM : MSv l y b n rm D dA kS kV fv As) (hG : GoodIn WB (va_wsS own idx y (Cond.code y b n none :: WB))) (hd : y.cls ≠ "java/lang/invoke/MethodHandle" ∧ y.cls ≠ "java/lang/invoke/VarHandle" ∧ (parseMethodDescriptor y.desc).map (fun d => d.parameters.length) = some np) (hnp : As.length = np) (hrc : rm.cells = 0) (hrs : rm.slots = 0) (hRm : rm.frames + 1 ≤ Rm.frames ∧ 8 + (n + 11) + rm.locals ≤ Rm.locals) (hf : nc ≤ Rm.cells ∧ ns ≤ Rm.slots) (hst : st0 = As.reverse ++ st) (hcat : (st.map fun v => v.category).sum ≤ 8) (hdg : decode cc pc = .ok (.invokestatic idx, 3)) (kk : JG nc ns p l e Rm s m args below meth c nL D ws A Q (pc + 3) lv st) : JG nc ns p l e Rm s m args below meth c nL D ws A Q pc lv st0 := by
  intro H locs ls hP hD hS hl
  subst hst
  have hZH := SZ.at hA hZ hS
  refine va_callv (va_runS (As := As) (rest := st) ⟨X.1, X.2.1, X.2.2.1, X.2.2.2.1, X.2.2.2.2.1⟩ (hM H.size) (va_cwS np X.2.2.2.2.1 hG rfl hrc hrs hd hRm) ⟨PreS0_blind, fun U hU hW => ⟨rfl, by rw [hU], va_K.moved hW.alike X.2.2.2.2.2.1, by rw [hU]; exact SZ.moved hW.alike hZH⟩⟩ rfl hnp hl.1 rfl (lv_room hcat) hdg hf) hS (fun q h1 h2 => absurd h2 (Nat.not_le.mpr h1)) (fun q h => hA q (Nat.le_trans hS.1 h)) ?_
  intro u t' H1 locs1 ht hvm hw hB hz1 hk1 hS1
  exact kk H1 locs1 ls (hP.kept (fun k q hk => hk1 q.1 ((hP k q hk).lt) (Nat.not_le.mpr ((hP k q hk).lt)))) hD hS1 hl
abbrev rm_s0 : Room := { frames := 0, cells := 0, slots := 0, locals := 0 }
abbrev rm_s1 : Room := { frames := 1, cells := 0, slots := 0, locals := 30 }
abbrev rm_s2 : Room := { frames := 2, cells := 0, slots := 0, locals := 60 }
abbrev rm_s3 : Room := { frames := 3, cells := 0, slots := 0, locals := 90 }
set_option maxRecDepth 100000 in
set_option maxHeartbeats 4000000 in
theorem j_coder : MS l yJ0_coder_7d493 cJ0_coder_7d493 1 .byte rm_s0 D dA kS kV fv [.ref kS] 0 := by
  refine MS.of (own := RJ0) (by decide) rfl (Nat.le_of_ble_eq_true rfl) ?_
  intro p e s m args below meth c X hZ hr
  refine s_gets X hZ.2.2.2.2.1 z_241 dJ0_coder_7d493_0 ?_
  refine g_if_eq X (tgt := 13) dJ0_coder_7d493_3 (by decide) (fun g => absurd g (by decide)) (fun _ => ?_)
  refine g_aload_n X 0 dJ0_coder_7d493_6 rfl rfl ?_
  refine s_getf X hZ.2.1 z_1204 dJ0_coder_7d493_7 ?_
  refine g_goto X (tgt := 14) dJ0_coder_7d493_10 (by decide) ?_
  exact s_zret X hr dJ0_coder_7d493_14 rfl
set_option maxRecDepth 100000 in
set_option maxHeartbeats 4000000 in
theorem j_isLatin1 : MS l yJ0_isLatin1_aae02 cJ0_isLatin1_aae02 1 .boolean rm_s0 D dA kS kV fv [.ref kS] 1 := by
  refine MS.of (own := RJ0) (by decide) rfl (Nat.le_of_ble_eq_true rfl) ?_
  intro p e s m args below meth c X hZ hr
  refine s_gets X hZ.2.2.2.2.1 z_241 dJ0_isLatin1_aae02_0 ?_
  refine g_if_eq X (tgt := 17) dJ0_isLatin1_aae02_3 (by decide) (fun g => absurd g (by decide)) (fun _ => ?_)
  refine g_aload_n X 0 dJ0_isLatin1_aae02_6 rfl rfl ?_
  refine s_getf X hZ.2.1 z_1204 dJ0_isLatin1_aae02_7 ?_
  refine g_if_ne X (tgt := 17) dJ0_isLatin1_aae02_10 (by decide) (fun g => absurd rfl g) (fun _ => ?_)
  refine g_iconst X (v := 1) dJ0_isLatin1_aae02_13 (by decide) ?_
  refine g_goto X (tgt := 18) dJ0_isLatin1_aae02_14 (by decide) ?_
  exact s_zret X hr dJ0_isLatin1_aae02_18 rfl
set_option maxRecDepth 100000 in
set_option maxHeartbeats 4000000 in
theorem j_length : MS l yJ0_length_8abf5 cJ0_length_8abf5 1 .int rm_s1 D dA kS kV fv [.ref kS] (nI 68) := by
  refine MS.of (own := RJ0) (by decide) rfl (Nat.le_of_ble_eq_true rfl) ?_
  intro p e s m args below meth c X hZ hr
  refine g_aload_n X 0 dJ0_length_8abf5_0 rfl rfl ?_
  refine s_getf X hZ.2.2.1 z_1203 dJ0_length_8abf5_1 ?_
  refine s_tlen X hZ.2.2.2.1 dJ0_length_8abf5_4 ?_
  refine g_aload_n X 0 dJ0_length_8abf5_5 rfl rfl ?_
  refine g_callSV X (fun _ h => h) hZ (np := 0) (As := []) (st := [.int (nI 68)]) j_coder (gV z_237 z_238 z_239 z_64 z_240) (by decide +kernel) rfl rfl rfl ⟨Nat.le_of_ble_eq_true rfl, Nat.le_of_ble_eq_true rfl⟩ ⟨Nat.zero_le _, Nat.zero_le _⟩ rfl (Nat.le_of_ble_eq_true rfl) dJ0_length_8abf5_6 ?_
  refine g_ishr X dJ0_length_8abf5_9 ?_
  rw [show nI 68 >>> ((0 : Int32) &&& 31) = nI 68 by decide]
  exact s_zret X hr dJ0_length_8abf5_10 rfl
set_option maxRecDepth 100000 in
set_option maxHeartbeats 4000000 in
theorem j_pcheck {i : Nat} (hi : i < 68) {f2 : Value} (hf2 : f2 = .null ∨ ∃ t, f2 = .ref t) : MS l yJ3_checkIndex_8e157 cJ3_checkIndex_8e157 3 .int rm_s0 D dA kS kV fv [.int (nI i), .int (nI 68), f2] (nI i) := by
  refine MS.of (own := RJ3) (by decide) rfl (by rcases hf2 with rfl | ⟨t, rfl⟩ <;> exact Nat.le_of_ble_eq_true rfl) ?_
  intro p e s m args below meth c X hZ hr
  refine g_iload_n X 0 dJ3_checkIndex_8e157_0 rfl rfl ?_
  refine g_if_lt X (tgt := 9) dJ3_checkIndex_8e157_1 (by decide) (fun g => absurd g (nI_pos (by omega))) (fun _ => ?_)
  refine g_iload_n X 0 dJ3_checkIndex_8e157_4 rfl rfl ?_
  refine g_iload_n X 1 dJ3_checkIndex_8e157_5 rfl rfl ?_
  refine g_icmp_lt X (tgt := 16) dJ3_checkIndex_8e157_6 (by decide) (fun _ => ?_) (fun g => absurd (nI_lt hi (by omega)) g)
  refine g_iload_n X 0 dJ3_checkIndex_8e157_16 rfl rfl ?_
  exact s_zret X hr dJ3_checkIndex_8e157_17 rfl
set_option maxRecDepth 100000 in
set_option maxHeartbeats 4000000 in
theorem j_check {i : Nat} (hi : i < 68) (hfv : fv = .null ∨ ∃ t, fv = .ref t) : MSv l yJ0_checkIndex_df160 cJ0_checkIndex_df160 2 rm_s1 D dA kS kV fv [.int (nI i), .int (nI 68)] := by
  refine MSv.of (own := RJ0) (by decide) rfl (Nat.le_of_ble_eq_true rfl) ?_
  intro p e s m args below meth c X hZ hr
  refine g_iload_n X 0 dJ0_checkIndex_df160_0 rfl rfl ?_
  refine g_iload_n X 1 dJ0_checkIndex_df160_1 rfl rfl ?_
  refine s_gets X hZ.2.2.2.2.2 z_257 dJ0_checkIndex_df160_2 ?_
  refine g_callSS X (fun _ h => h) hZ (np := 3) (As := [.int (nI i), .int (nI 68), fv]) (st := []) (j_pcheck hi hfv) (gSj z_259 z_260 z_66 z_261) (by decide +kernel) rfl rfl rfl ⟨Nat.le_of_ble_eq_true rfl, Nat.le_of_ble_eq_true rfl⟩ ⟨Nat.zero_le _, Nat.zero_le _⟩ rfl (Nat.le_of_ble_eq_true rfl) dJ0_checkIndex_df160_5 ?_
  refine g_pop X dJ0_checkIndex_df160_8 rfl ?_
  exact s_vret X hr dJ0_checkIndex_df160_9
set_option maxRecDepth 100000 in
set_option maxHeartbeats 4000000 in
theorem j_charAt1 {i : Nat} (hi : i < 68) (hfv : fv = .null ∨ ∃ t, fv = .ref t) : MS l yJ1_charAt_3b067 cJ1_charAt_3b067 2 .char rm_s2 D dA kS kV fv [.ref kV, .int (nI i)] (txB i) := by
  refine MS.of (own := RJ1) (by decide) rfl (Nat.le_of_ble_eq_true rfl) ?_
  intro p e s m args below meth c X hZ hr
  refine g_iload_n X 1 dJ1_charAt_3b067_0 rfl rfl ?_
  refine g_aload_n X 0 dJ1_charAt_3b067_1 rfl rfl ?_
  refine s_tlen X hZ.2.2.2.1 dJ1_charAt_3b067_2 ?_
  refine g_callSSv X (fun _ h => h) hZ (np := 2) (As := [.int (nI i), .int (nI 68)]) (st := []) (j_check hi hfv) (gSj z_254 z_255 z_64 z_256) (by decide +kernel) rfl rfl rfl ⟨Nat.le_of_ble_eq_true rfl, Nat.le_of_ble_eq_true rfl⟩ ⟨Nat.zero_le _, Nat.zero_le _⟩ rfl (Nat.le_of_ble_eq_true rfl) dJ1_charAt_3b067_3 ?_
  refine g_aload_n X 0 dJ1_charAt_3b067_6 rfl rfl ?_
  refine g_iload_n X 1 dJ1_charAt_3b067_7 rfl rfl ?_
  refine s_tb X hZ.2.2.2.1 (vin hi (by omega)) rfl dJ1_charAt_3b067_8 ?_
  rw [nIcl (by omega)]
  refine g_sipush X (v := nI 255) dJ1_charAt_3b067_9 (by decide) ?_
  refine g_iand X dJ1_charAt_3b067_12 ?_
  have e1 : ∀ j, j < 68 → (((txB j) &&& (nI 255)).toUInt32 % 65536).toInt32 = txB j := by decide
  have e2 : ∀ j, j < 68 → narrow .char (.int (txB j)) = .int (txB j) := fun j hj => nar_c (tx_rng j hj).2
  refine g_i2c X (v := txB i) dJ1_charAt_3b067_13 (e1 i hi) ?_
  exact s_zret X hr dJ1_charAt_3b067_14 (e2 i hi)
set_option maxRecDepth 100000 in
set_option maxHeartbeats 4000000 in
theorem j_charAt {i : Nat} (hi : i < 68) (hfv : fv = .null ∨ ∃ t, fv = .ref t) : MS l yJ0_charAt_5068e cJ0_charAt_5068e 2 .char rm_s3 D dA kS kV fv [.ref kS, .int (nI i)] (txB i) := by
  refine MS.of (own := RJ0) (by decide) rfl (Nat.le_of_ble_eq_true rfl) ?_
  intro p e s m args below meth c X hZ hr
  refine g_aload_n X 0 dJ0_charAt_5068e_0 rfl rfl ?_
  refine g_callSV X (fun _ h => h) hZ (np := 0) (As := []) (st := []) j_isLatin1 (gV z_247 z_248 z_249 z_64 z_250) (by decide +kernel) rfl rfl rfl ⟨Nat.le_of_ble_eq_true rfl, Nat.le_of_ble_eq_true rfl⟩ ⟨Nat.zero_le _, Nat.zero_le _⟩ rfl (Nat.le_of_ble_eq_true rfl) dJ0_charAt_5068e_1 ?_
  refine g_if_eq X (tgt := 16) dJ0_charAt_5068e_4 (by decide) (fun g => absurd g (by decide)) (fun _ => ?_)
  refine g_aload_n X 0 dJ0_charAt_5068e_7 rfl rfl ?_
  refine s_getf X hZ.2.2.1 z_1203 dJ0_charAt_5068e_8 ?_
  refine g_iload_n X 1 dJ0_charAt_5068e_11 rfl rfl ?_
  refine g_callSS X (fun _ h => h) hZ (np := 2) (As := [.ref kV, .int (nI i)]) (st := []) (j_charAt1 hi hfv) (gSj z_251 z_252 z_65 z_253) (by decide +kernel) rfl rfl rfl ⟨Nat.le_of_ble_eq_true rfl, Nat.le_of_ble_eq_true rfl⟩ ⟨Nat.zero_le _, Nat.zero_le _⟩ rfl (Nat.le_of_ble_eq_true rfl) dJ0_charAt_5068e_12 ?_
  exact s_zret X hr dJ0_charAt_5068e_15 (nar_c (tx_rng i hi).2)
end STR
