theorem z_233 : Cond.methodLink RX6 74 yJ0_length_8abf5 ∈ WB := inWB 233 (by decide +kernel) (by decide +kernel)
theorem z_234 : Cond.instanceMethod yJ0_length_8abf5 ∈ WB := inWB 234 (by decide +kernel) (by decide +kernel)
theorem z_235 : Cond.selects RJ0 yJ0_length_8abf5 yJ0_length_8abf5 ∈ WB := inWB 235 (by decide +kernel) (by decide +kernel)
theorem z_236 : Cond.code yJ0_length_8abf5 cJ0_length_8abf5 1 (some .int) ∈ WB := inWB 236 (by decide +kernel) (by decide +kernel)
theorem z_336 : Cond.fieldLink RX6 10 "BirdBridge" "script" "LBirdBridge$Script;" ∈ WB := inWB 336 (by decide +kernel) (by decide +kernel)
theorem z_337 : Cond.fieldLink RX6 19 "BirdBridge" "laid" "LBirdBridge$Flock;" ∈ WB := inWB 337 (by decide +kernel) (by decide +kernel)
theorem z_285 : Cond.methodLink RX6 88 yX3_readInto ∈ WB := inWB 285 (by decide +kernel) (by decide +kernel)
theorem z_286 : Cond.instanceMethod yX3_readInto ∈ WB := inWB 286 (by decide +kernel) (by decide +kernel)
theorem z_287 : Cond.selects RX3 yX3_readInto yX3_readInto ∈ WB := inWB 287 (by decide +kernel) (by decide +kernel)
theorem z_57 : Cond.initialized RX3 ∈ WB := inWB 57 (by decide +kernel) (by decide +kernel)
theorem z_288 : Cond.code yX3_readInto cX3_readInto 4 (some .int) ∈ WB := inWB 288 (by decide +kernel) (by decide +kernel)
theorem z_332 : Cond.methodLink RX6 92 yX3_clear ∈ WB := inWB 332 (by decide +kernel) (by decide +kernel)
theorem z_333 : Cond.instanceMethod yX3_clear ∈ WB := inWB 333 (by decide +kernel) (by decide +kernel)
theorem z_334 : Cond.selects RX3 yX3_clear yX3_clear ∈ WB := inWB 334 (by decide +kernel) (by decide +kernel)
theorem z_335 : Cond.code yX3_clear cX3_clear 1 none ∈ WB := inWB 335 (by decide +kernel) (by decide +kernel)
theorem z_243 : Cond.methodLink RX6 80 yJ0_charAt_5068e ∈ WB := inWB 243 (by decide +kernel) (by decide +kernel)
theorem z_244 : Cond.instanceMethod yJ0_charAt_5068e ∈ WB := inWB 244 (by decide +kernel) (by decide +kernel)
theorem z_245 : Cond.selects RJ0 yJ0_charAt_5068e yJ0_charAt_5068e ∈ WB := inWB 245 (by decide +kernel) (by decide +kernel)
theorem z_246 : Cond.code yJ0_charAt_5068e cJ0_charAt_5068e 2 (some .char) ∈ WB := inWB 246 (by decide +kernel) (by decide +kernel)
theorem z_281 : Cond.methodLink RX6 84 yX3_append ∈ WB := inWB 281 (by decide +kernel) (by decide +kernel)
theorem z_282 : Cond.instanceMethod yX3_append ∈ WB := inWB 282 (by decide +kernel) (by decide +kernel)
theorem z_283 : Cond.selects RX3 yX3_append yX3_append ∈ WB := inWB 283 (by decide +kernel) (by decide +kernel)
theorem z_284 : Cond.code yX3_append cX3_append 2 (some .boolean) ∈ WB := inWB 284 (by decide +kernel) (by decide +kernel)
theorem dX6_init_0 : decode cX6_init 0 = .ok (.aload_n 0, 1) := by decide +kernel
theorem dX6_init_1 : decode cX6_init 1 = .ok (.invokespecial 1, 3) := by decide +kernel
theorem dX6_init_4 : decode cX6_init 4 = .ok (.aload_n 0, 1) := by decide +kernel
theorem dX6_init_5 : decode cX6_init 5 = .ok (.new 7, 3) := by decide +kernel
theorem dX6_init_8 : decode cX6_init 8 = .ok (.dup, 1) := by decide +kernel
theorem dX6_init_9 : decode cX6_init 9 = .ok (.invokespecial 9, 3) := by decide +kernel
theorem dX6_init_12 : decode cX6_init 12 = .ok (.putfield 10, 3) := by decide +kernel
theorem dX6_init_15 : decode cX6_init 15 = .ok (.aload_n 0, 1) := by decide +kernel
theorem dX6_init_16 : decode cX6_init 16 = .ok (.new 16, 3) := by decide +kernel
theorem dX6_init_19 : decode cX6_init 19 = .ok (.dup, 1) := by decide +kernel
theorem dX6_init_20 : decode cX6_init 20 = .ok (.invokespecial 18, 3) := by decide +kernel
theorem dX6_init_23 : decode cX6_init 23 = .ok (.putfield 19, 3) := by decide +kernel
theorem dX6_init_26 : decode cX6_init 26 = .ok (.aload_n 0, 1) := by decide +kernel
theorem dX6_init_27 : decode cX6_init 27 = .ok (.new 16, 3) := by decide +kernel
theorem dX6_init_30 : decode cX6_init 30 = .ok (.dup, 1) := by decide +kernel
theorem dX6_init_31 : decode cX6_init 31 = .ok (.invokespecial 18, 3) := by decide +kernel
theorem dX6_init_34 : decode cX6_init 34 = .ok (.putfield 23, 3) := by decide +kernel
theorem dX6_init_37 : decode cX6_init 37 = .ok (.aload_n 0, 1) := by decide +kernel
theorem dX6_init_38 : decode cX6_init 38 = .ok (.new 26, 3) := by decide +kernel
theorem dX6_init_41 : decode cX6_init 41 = .ok (.dup, 1) := by decide +kernel
theorem dX6_init_42 : decode cX6_init 42 = .ok (.aload_n 0, 1) := by decide +kernel
theorem dX6_init_43 : decode cX6_init 43 = .ok (.getfield 19, 3) := by decide +kernel
theorem dX6_init_46 : decode cX6_init 46 = .ok (.invokespecial 28, 3) := by decide +kernel
theorem dX6_init_49 : decode cX6_init 49 = .ok (.putfield 31, 3) := by decide +kernel
theorem dX6_init_52 : decode cX6_init 52 = .ok (.aload_n 0, 1) := by decide +kernel
theorem dX6_init_53 : decode cX6_init 53 = .ok (.new 35, 3) := by decide +kernel
theorem dX6_init_56 : decode cX6_init 56 = .ok (.dup, 1) := by decide +kernel
theorem dX6_init_57 : decode cX6_init 57 = .ok (.aload_n 0, 1) := by decide +kernel
theorem dX6_init_58 : decode cX6_init 58 = .ok (.getfield 19, 3) := by decide +kernel
theorem dX6_init_61 : decode cX6_init 61 = .ok (.invokespecial 37, 3) := by decide +kernel
theorem dX6_init_64 : decode cX6_init 64 = .ok (.putfield 38, 3) := by decide +kernel
theorem dX6_init_67 : decode cX6_init 67 = .ok (.aload_n 0, 1) := by decide +kernel
theorem dX6_init_68 : decode cX6_init 68 = .ok (.new 42, 3) := by decide +kernel
theorem dX6_init_71 : decode cX6_init 71 = .ok (.dup, 1) := by decide +kernel
theorem dX6_init_72 : decode cX6_init 72 = .ok (.aload_n 0, 1) := by decide +kernel
theorem dX6_init_73 : decode cX6_init 73 = .ok (.getfield 19, 3) := by decide +kernel
theorem dX6_init_76 : decode cX6_init 76 = .ok (.bipush 8, 2) := by decide +kernel
theorem dX6_init_78 : decode cX6_init 78 = .ok (.invokespecial 44, 3) := by decide +kernel
theorem dX6_init_81 : decode cX6_init 81 = .ok (.putfield 47, 3) := by decide +kernel
theorem dX6_init_84 : decode cX6_init 84 = .ok (.aload_n 0, 1) := by decide +kernel
theorem dX6_init_85 : decode cX6_init 85 = .ok (.new 42, 3) := by decide +kernel
theorem dX6_init_88 : decode cX6_init 88 = .ok (.dup, 1) := by decide +kernel
theorem dX6_init_89 : decode cX6_init 89 = .ok (.aload_n 0, 1) := by decide +kernel
theorem dX6_init_90 : decode cX6_init 90 = .ok (.getfield 19, 3) := by decide +kernel
theorem dX6_init_93 : decode cX6_init 93 = .ok (.iconst 2, 1) := by decide +kernel
theorem dX6_init_94 : decode cX6_init 94 = .ok (.invokespecial 44, 3) := by decide +kernel
theorem dX6_init_97 : decode cX6_init 97 = .ok (.putfield 51, 3) := by decide +kernel
theorem dX6_init_100 : decode cX6_init 100 = .ok (.aload_n 0, 1) := by decide +kernel
theorem dX6_init_101 : decode cX6_init 101 = .ok (.new 54, 3) := by decide +kernel
theorem dX6_init_104 : decode cX6_init 104 = .ok (.dup, 1) := by decide +kernel
theorem dX6_init_105 : decode cX6_init 105 = .ok (.aload_n 0, 1) := by decide +kernel
theorem dX6_init_106 : decode cX6_init 106 = .ok (.getfield 19, 3) := by decide +kernel
theorem dX6_init_109 : decode cX6_init 109 = .ok (.invokespecial 56, 3) := by decide +kernel
theorem dX6_init_112 : decode cX6_init 112 = .ok (.putfield 57, 3) := by decide +kernel
theorem dX6_init_115 : decode cX6_init 115 = .ok (.aload_n 0, 1) := by decide +kernel
theorem dX6_init_116 : decode cX6_init 116 = .ok (.bipush 6, 2) := by decide +kernel
theorem dX6_init_118 : decode cX6_init 118 = .ok (.newarray .int, 2) := by decide +kernel
theorem dX6_init_120 : decode cX6_init 120 = .ok (.putfield 61, 3) := by decide +kernel
theorem dX6_init_123 : decode cX6_init 123 = .ok (.aload_n 0, 1) := by decide +kernel
theorem dX6_init_124 : decode cX6_init 124 = .ok (.bipush 6, 2) := by decide +kernel
theorem dX6_init_126 : decode cX6_init 126 = .ok (.newarray .int, 2) := by decide +kernel
theorem dX6_init_128 : decode cX6_init 128 = .ok (.putfield 65, 3) := by decide +kernel
theorem dX6_init_131 : decode cX6_init 131 = .ok (.aload_n 0, 1) := by decide +kernel
theorem dX6_init_132 : decode cX6_init 132 = .ok (.iconst 0, 1) := by decide +kernel
theorem dX6_init_133 : decode cX6_init 133 = .ok (.putfield 68, 3) := by decide +kernel
theorem dX6_init_136 : decode cX6_init 136 = .ok (.iconst 0, 1) := by decide +kernel
theorem dX6_init_137 : decode cX6_init 137 = .ok (.istore_n 1, 1) := by decide +kernel
theorem dX6_init_138 : decode cX6_init 138 = .ok (.iload_n 1, 1) := by decide +kernel
theorem dX6_init_139 : decode cX6_init 139 = .ok (.ldc 72, 2) := by decide +kernel
theorem dX6_init_141 : decode cX6_init 141 = .ok (.invokevirtual 74, 3) := by decide +kernel
theorem dX6_init_144 : decode cX6_init 144 = .ok (.if_icmp .ge 23, 3) := by decide +kernel
theorem dX6_init_147 : decode cX6_init 147 = .ok (.aload_n 0, 1) := by decide +kernel
theorem dX6_init_148 : decode cX6_init 148 = .ok (.getfield 10, 3) := by decide +kernel
theorem dX6_init_151 : decode cX6_init 151 = .ok (.ldc 72, 2) := by decide +kernel
theorem dX6_init_153 : decode cX6_init 153 = .ok (.iload_n 1, 1) := by decide +kernel
theorem dX6_init_154 : decode cX6_init 154 = .ok (.invokevirtual 80, 3) := by decide +kernel
theorem dX6_init_157 : decode cX6_init 157 = .ok (.invokevirtual 84, 3) := by decide +kernel
theorem dX6_init_160 : decode cX6_init 160 = .ok (.pop, 1) := by decide +kernel
theorem dX6_init_161 : decode cX6_init 161 = .ok (.iinc 1 1, 3) := by decide +kernel
theorem dX6_init_164 : decode cX6_init 164 = .ok (.goto (-26), 3) := by decide +kernel
theorem dX6_init_167 : decode cX6_init 167 = .ok (.aload_n 0, 1) := by decide +kernel
theorem dX6_init_168 : decode cX6_init 168 = .ok (.getfield 10, 3) := by decide +kernel
theorem dX6_init_171 : decode cX6_init 171 = .ok (.aload_n 0, 1) := by decide +kernel
theorem dX6_init_172 : decode cX6_init 172 = .ok (.getfield 19, 3) := by decide +kernel
theorem dX6_init_175 : decode cX6_init 175 = .ok (.invokevirtual 88, 3) := by decide +kernel
theorem dX6_init_178 : decode cX6_init 178 = .ok (.pop, 1) := by decide +kernel
theorem dX6_init_179 : decode cX6_init 179 = .ok (.aload_n 0, 1) := by decide +kernel
theorem dX6_init_180 : decode cX6_init 180 = .ok (.getfield 10, 3) := by decide +kernel
theorem dX6_init_183 : decode cX6_init 183 = .ok (.invokevirtual 92, 3) := by decide +kernel
theorem dX6_init_186 : decode cX6_init 186 = .ok (.return_, 1) := by decide +kernel
/-! ===== BirdBridge(): the class's world from nothing ===== -/
def txS : String := "b30,2,0,5;b20,1,1,0;b18,2,2,9;b40,1,3,3;b25,2,4,7;r5;w2;w6;w0;l12,1;"
abbrev RC : List Nat := RS (RS ([0] ++ [1] ++ [2] ++ [3] ++ [4] ++ [5] ++ [6] ++ [7] ++ [8] ++ [9] ++ [10] ++ [11] ++ [12] ++ [13] ++ [14] ++ [15] ++ [16] ++ [17] ++ [18] ++ [19] ++ [20] ++ [21] ++ [22] ++ [23] ++ [24] ++ [25]) 25 8 ++ [67]) 67 2 ++ [79] ++ [84] ++ [87] ++ [80] ++ [81] ++ [82] ++ [83] ++ [85] ++ [86]
set_option maxRecDepth 100000 in
theorem RC_lt : ∀ k, k ∈ RC → k < 88 := by decide +kernel
set_option maxRecDepth 100000 in
theorem RC_in : ∀ k, k < 88 → k ∈ RC := by decide +kernel
def dT : FD := (qr (tc 68 txN) 68 69 d00 0).1
set_option maxRecDepth 100000 in
theorem dT_none : (qr (tc 68 txN) 68 69 d00 0).2 = none := by decide +kernel
def IC (F : HF) : Prop := CF F 4 dT ∧ CN F 16 Nz0 ∧ SC F 25 8 0 (fun _ => Nz0) (fun i => 25 + 2 + 5 * i) ∧ SC F 67 2 0 (fun _ => Nz0) (fun i => 67 + 2 + 5 * i) ∧ F 0 10 = nI 0 ∧ F 1 2 = nI 0 ∧ F 79 5 = (-1 : Int32)
def St (lo hi f : Nat) (ad ad' : Nat → Nat) (F F' : HF) (G G' : HG) : Prop := ad' 0 = ad 0 ∧ F' 0 = F 0 ∧ (∀ j, j ≠ f → G' 0 j = G 0 j) ∧ G' 0 f = some (ad' lo) ∧ ∀ k, k ≠ 0 → (k < lo ∨ hi < k) → ad' k = ad k ∧ F' k = F k ∧ G' k = G k
theorem St.mk' {lo hi f : Nat} {ad ad1 ad2 : Nat → Nat} {F F1 F2 : HF} {G G1 G2 G3 : HG} (h0 : 0 < lo) (e1 : ∀ a, a ≠ lo → ad1 a = ad a) (f1 : F1 = hst F lo (fun _ => 0)) (g1 : G1 = gst G lo (fun _ => none)) (c2 : Ch lo hi ad1 ad2 F1 F2 G1 G2) (hl : lo ≤ hi) (g3 : G3 = gup G2 0 f (some (ad1 lo))) : St lo hi f ad ad2 F F2 G G3 := by
  refine ⟨by rw [(c2.2 0 (by omega)).1, e1 _ (by omega)], by rw [(c2.2 0 (by omega)).2.1, f1, hst_n _ _ (by omega)], fun j hj => by rw [g3, gup_at, if_neg hj, (c2.2 0 (by omega)).2.2, g1, gst_n _ _ (by omega)], by rw [g3, gup_at, if_pos rfl, c2.1], fun k hk hk2 => ⟨by rw [(c2.2 k hk2).1, e1 _ (by omega)], by rw [(c2.2 k hk2).2.1, f1, hst_n _ _ (by omega)], by rw [g3, gup_n _ _ _ hk, (c2.2 k hk2).2.2, g1, gst_n _ _ (by omega)]⟩⟩
theorem St.mkA {lo f : Nat} {ad ad1 : Nat → Nat} {F F1 : HF} {G G3 : HG} (h0 : 0 < lo) (e1 : ∀ a, a ≠ lo → ad1 a = ad a) (f1 : F1 = hst F lo (fun _ => 0)) (g3 : G3 = gup G 0 f (some (ad1 lo))) : St lo lo f ad ad1 F F1 G G3 := by
  refine ⟨e1 _ (by omega), by rw [f1, hst_n _ _ (by omega)], fun j hj => by rw [g3, gup_at, if_neg hj], by rw [g3, gup_at, if_pos rfl], fun k hk hk2 => ⟨e1 _ (by omega), by rw [f1, hst_n _ _ (by omega)], by rw [g3, gup_n _ _ _ hk]⟩⟩
theorem SeI.kept {fl : Nat} {ad ad' : Nat → Nat} {F F' : HF} {G G' : HG} (h : SeI fl ad F G) (e : ∀ k, 79 ≤ k → k ≤ 84 → ad' k = ad k ∧ F' k = F k ∧ G' k = G k) (e87 : ad' 87 = ad 87) : SeI fl ad' F' G' := by
  obtain ⟨h1, h2, h3, h4, h5, h7, h6⟩ := h
  have e0 := e 79 (by omega) (by omega)
  exact ⟨by rw [e0.2.1]; exact h1, by rw [e0.2.1]; exact h2, by rw [e0.2.2]; exact h3, by rw [e0.2.2, (e 80 (by omega) (by omega)).1]; exact h4, by rw [e0.2.2, (e 84 (by omega) (by omega)).1]; exact h5, by rw [e0.2.2, e87]; exact h7, h6.kept (fun k x y => e k (by omega) (by omega))⟩
set_option maxRecDepth 100000 in
theorem RC_cls : ∀ k, k < 88 → (kd k).1 ≤ 1 ∨ k = 0 ∨ k = 1 ∨ k = 4 ∨ k = 10 ∨ k = 16 ∨ k = 17 ∨ k = 21 ∨ k = 25 ∨ k = 26 ∨ (∃ j, j < 8 ∧ (k = 25 + 2 + 5 * j ∨ k = 25 + 2 + 5 * j + 1)) ∨ k = 67 ∨ k = 68 ∨ (∃ j, j < 2 ∧ (k = 67 + 2 + 5 * j ∨ k = 67 + 2 + 5 * j + 1)) ∨ k = 79 ∨ k = 80 := by decide +kernel
set_option maxRecDepth 100000 in
theorem NtK_p : ∀ j, j < 8 → NtK (25 + 2 + 5 * j) := by unfold NtK BrK; decide +kernel
set_option maxRecDepth 100000 in
theorem NtK_k : ∀ j, j < 2 → NtK (67 + 2 + 5 * j) := by unfold NtK BrK; decide +kernel
theorem GK_br {b : Nat} {ad : Nat → Nat} {F : HF} {G : HG} (hk : BrK b) (h : BrI b (ad 4) ad F G) : GK ad F G b := GK_obj hk.1 (fun j hj hr => by
  have hnf : nf 0 = 5 := rfl
  rcases (show j = 0 ∨ j = 1 ∨ j = 2 ∨ j = 3 ∨ j = 4 by omega) with rfl | rfl | rfl | rfl | rfl
  · exact h.2.2.2.2.1
  · exact h.2.2.2.2.2.1
  · exact h.2.2.2.2.2.2.1
  · exact h.2.2.2.2.2.2.2
  · exact absurd hr (by decide))
theorem GK_nt {n : Nat} {ad : Nat → Nat} {F : HF} {G : HG} (hk : NtK n) (h : NtI n (ad 4) ad F G) : GK ad F G n := GK_obj hk.1 (fun j hj hr => by
  have hnf : nf 2 = 6 := rfl
  rcases (show j = 0 ∨ j = 1 ∨ j = 2 ∨ j = 3 ∨ j = 4 ∨ j = 5 by omega) with rfl | rfl | rfl | rfl | rfl | rfl
  · exact h.2.2.2.2.1
  · exact h.2.2.2.2.2.1
  all_goals exact absurd hr (by decide))
theorem GK_fl {f : Nat} {ad : Nat → Nat} {F : HF} {G : HG} (hk : kd f = (1 + 3, 0)) (h : FlI f ad F G) : GK ad F G f := GK_obj hk (fun j hj hr => by
  have hnf : nf 1 = 10 := rfl
  rcases (show j = 0 ∨ j = 1 ∨ j = 2 ∨ j = 3 ∨ j = 4 ∨ j = 5 ∨ j = 6 ∨ j = 7 ∨ j = 8 ∨ j = 9 by omega) with rfl | rfl | rfl | rfl | rfl | rfl | rfl | rfl | rfl | rfl
  · exact h.2.2.2.2.2.1
  · exact h.2.2.2.2.2.2.1
  · exact h.2.2.2.2.2.2.2.1
  · exact h.2.2.2.2.2.2.2.2.1
  · exact h.2.2.2.2.2.2.2.2.2
  all_goals exact absurd hr (by decide))
theorem GK_sh {r n : Nat} {ad : Nat → Nat} {F : HF} {G : HG} (hk : kd r = (5 + 3, 0)) (h : ShI r n (ad 4) ad F G) : GK ad F G r := GK_obj hk (fun j hj hr => by
  have hnf : nf 5 = 2 := rfl
  rcases (show j = 0 ∨ j = 1 by omega) with rfl | rfl
  · exact h.2.1
  · exact absurd hr (by decide))
theorem GK_sa {r n : Nat} {ad : Nat → Nat} {F : HF} {G : HG} (hr : r < 2 ^ 10) (hn : n ≤ 8) (hk : kd (r + 1) = (2, n)) (h : ShI r n (ad 4) ad F G) : GK ad F G (r + 1) := GK_nts hk (fun j hj => by
  rw [h.2.2.1 j, nIcl (by omega)]; exact (h.2.2.2 j hj).1)
section CtorBB
variable {p : Program} {l : Launch} {e : Env} {Rm : Room} {s : State} {m : MethodId} {args : Array Value} {below : List Frame} {meth : Method} {c : Code} {nL : Nat} {D : va_G} {dA : Nat → ClassId} {ad : Nat → Nat} {R : List Nat} {A : Nat → Prop} {Q : State → Prop} {F : HF} {G : HG} {pc : Nat} {lv : List (Nat × Value)} {st : List Value} {cc : ByteArray} {own : String} {nc ns : Nat}
theorem m_callKN (X : Cx p s m args meth c cc nL own D dA) (hO : va_AO RX2 s) (hA : ∀ q, s.heap.size ≤ q → A q) {y : MethodName} {b : ByteArray} {n t np idx mc ms : Nat} {host : String} {rm : Room} {As : List Value} {K : (Nat → Nat) → List Nat → HF → HG → Prop} {st0 : List Value} (hM : MK l y b n rm mc ms D dA ad R F G (.ref t :: As) K) (hN : va_Nw (.methodLinkNest own idx y host) s) (hG : Cond.code y b n none ∈ WB) (hini : Cond.initialized y.cls ∈ WB) (hin : Cond.instanceMethod y ∈ WB) (hy1 : y.name = "<init>") (hd : y.cls ≠ "java/lang/invoke/MethodHandle" ∧ y.cls ≠ "java/lang/invoke/VarHandle" ∧ (parseMethodDescriptor y.desc).map (fun d => d.parameters.length) = some np) (hnp : As.length = np) (hrc : rm.cells = mc) (hrs : rm.slots = ms) (hRm : rm.frames + 1 ≤ Rm.frames ∧ 8 + (n + 11) + rm.locals ≤ Rm.locals) (hf : nc + mc ≤ Rm.cells ∧ ns + ms ≤ Rm.slots) (hst : st0 = As.reverse ++ .ref t :: st) (hcat : (st.map fun v => v.category).sum ≤ 8) (hdg : decode cc pc = .ok (.invokespecial idx, 3))
    (kk : ∀ (ad' : Nat → Nat) (R' : List Nat) (F' : HF) (G' : HG), K ad' R' F' G' → JG (nc + mc) (ns + ms) p l e Rm s m args below meth c nL D (wlG dA ad' R' F' G') A Q (pc + 3) lv st) : JG nc ns p l e Rm s m args below meth c nL D (wlG dA ad R F G) A Q pc lv st0 := by
  intro H locs ls hP hD hS hl
  subst hst
  have hFc := AG_in hD hS hA
  refine va_callv (va_runIN (As := As) (rest := st) ⟨X.1, X.2.1, X.2.2.1, X.2.2.2.1, X.2.2.2.2.1⟩ (hM H.size) ⟨va_cnB np X.2.2.2.2.1 (gI hG) rfl hrc hrs hN (X.2.2.2.2.1 _ hini) hd hRm, hy1, X.2.2.2.2.1 _ hin⟩ ⟨PreG_blind, fun U hU hW => ⟨rfl, by rw [hU], by rw [hU]; exact hP, va_K.moved hW.alike X.2.2.2.2.2.1, va_AO.moved hW.alike hO, hD.weaken (fun _ _ _ _ => trivial)⟩⟩ rfl hnp hl.1 rfl (lv_room hcat) hdg hf) hS (fun q _ h => hFc q h) hFc ?_
  intro u t' H1 locs1 ht hvm hw hB hz1 hk1 hS1
  exact kk u.1 u.2.1 u.2.2.1 u.2.2.2 hw H1 locs1 ls (by rw [← ht]; exact hB.1) ⟨hB.2.1, fun k q hk => hFc _ (hB.2.2 k q hk)⟩ hS1 hl
abbrev rm_bb : Room := { frames := 6, cells := 87, slots := 1046, locals := 200 }
def PreB (D : va_G) (dA : Nat → ClassId) (ad : Nat → Nat) (F : HF) (G : HG) (kS kV : Nat) (fv : Value) (sz : Nat) (U : State) : Prop := U.heap.size = sz ∧ va_P D clsL (wlG dA ad [0] F G) U.heap ∧ va_K D clsL (tysL dA) U ∧ va_AO RX2 U ∧ va_Nw (.methodLinkNest RX6 9 yX3_init RX6) U ∧ vk_R RX6 72 txS kS U ∧ SZ kS kV fv (AG dA ad [0] F G sz) U U.heap ∧ va_D (fun _ => True) (wlG dA ad [0] F G)
abbrev UB : Type := (Nat → Nat) × HF
def PostB (D : va_G) (dA : Nat → ClassId) (A : Nat → Prop) (u : UB) (t : State) : Prop := va_P D clsL (wl dA u.1 RC u.2) t.heap ∧ va_D A (wl dA u.1 RC u.2)
abbrev QB (D : va_G) (dA : Nat → ClassId) (A : Nat → Prop) (below : List Frame) (args : Array Value) (s : State) (K : (Nat → Nat) → HF → Prop) : State → Prop := MQ below (va_Qv (fun u : UB => K u.1 u.2) (PostB D dA A) A) args s 87 1046 A
theorem PreB_blind {sz kS kV : Nat} {fv : Value} {av : List Value} : FrameBlind (va_Pc av (PreB D dA ad F G kS kV fv sz)) := fun a U g mk q => by
  obtain ⟨q0, q1, qP, qK, qO, qN, qR, qZ, qD⟩ := q
  exact ⟨q0, q1, qP, va_K.moved (u := U) (U := U.calling g mk a) (Vm.Alike.refl U.vm) qK, va_AO.moved (u := U) (U := U.calling g mk a) (Vm.Alike.refl U.vm) qO, va_Nw.same rfl (u := U) (U := U.calling g mk a) rfl qN, vk_R.same (u := U) (U := U.calling g mk a) rfl qR, SZ.moved (u := U) (U := U.calling g mk a) (Vm.Alike.refl U.vm) qZ, qD⟩
theorem b_vret (X : Cx p s m args meth c cc nL own D dA) {K : (Nat → Nat) → HF → Prop} (hr : meth.sig.returnType = none) (hdg : decode cc pc = .ok (.return_, 1)) (h : K ad F) : JG 87 1046 p l e Rm s m args below meth c nL D (wl dA ad RC F) A (QB D dA A below args s K) pc lv [] := fun H locs ls hP hD hS hl =>
  W.vret X.1 X.2.1 hr (fun t ht hW => ⟨⟨(ad, F), rfl, h, by rw [ht]; exact hP, hD⟩, hS.F ht⟩) hS.2.2 hdg X.2.2.2.2.2.2
theorem inRC {k : Nat} (h : k < 88) : k ∈ RC := RC_in k h
theorem Sc_RC : Sc RC := ⟨⟨rfl, inRC (by omega)⟩, ⟨rfl, inRC (by omega)⟩, ⟨rfl, inRC (by omega)⟩⟩
theorem Fl_RC4 : Fl RC 4 := ⟨⟨rfl, inRC (by omega)⟩, ⟨rfl, inRC (by omega)⟩, ⟨rfl, inRC (by omega)⟩, ⟨rfl, inRC (by omega)⟩, ⟨rfl, inRC (by omega)⟩, ⟨rfl, inRC (by omega)⟩⟩
set_option maxRecDepth 100000 in
set_option maxHeartbeats 4000000 in
theorem b_tail (X : Cx p s m args meth c cX6_init 2 RX6 D dA) (hA : ∀ q, s.heap.size ≤ q → A q) {kS kV a0 : Nat} {fv : Value} (hfv : fv = .null ∨ ∃ t, fv = .ref t) (hR : vk_R RX6 72 txS kS s) (hZ : SZ kS kV fv A s s.heap) (hr : meth.sig.returnType = none) (h0 : ad 0 = a0) {F0 : HF} (e1 : F0 1 2 = nI 0) {K : (Nat → Nat) → HF → Prop} (h : ∀ F', (∀ a, a ≠ 1 → a ≠ 2 → a ≠ 3 → (a < 4 ∨ 9 < a) → F' a = F0 a) → F' 1 2 = nI 0 → CF F' 4 dT → K ad F') : JG 87 1046 p l e rm_bb s m args below meth c 2 D (wl dA ad RC F0) A (QB D dA A below args s K) 138 [(1, .int (nI 0)), (0, .ref a0)] [] := by
  subst h0
  have loop : ∀ k i, i + k = 68 → ∀ F : HF, (∀ a, a ≠ 1 → a ≠ 2 → F a = F0 a) → F 1 2 = nI i → (∀ j, j < i → F 2 j = nI (txN j)) → JG 87 1046 p l e rm_bb s m args below meth c 2 D (wl dA ad RC F) A (QB D dA A below args s K) 138 [(1, .int (nI i)), (0, .ref (ad 0))] [] := by
    intro k
    induction k with
    | zero =>
      intro i hi F ho hl ht
      have : i = 68 := by omega
      subst this
      refine g_iload_n X 0 dX6_init_138 rfl rfl ?_
      refine s_ldc X hR dX6_init_139 ?_
      refine g_callSV X hA hZ (np := 0) (As := []) (st := [.int (nI 68)]) j_length (gV z_233 z_234 z_235 z_64 z_236) (by decide +kernel) rfl rfl rfl ⟨Nat.le_of_ble_eq_true rfl, Nat.le_of_ble_eq_true rfl⟩ ⟨Nat.le_of_ble_eq_true rfl, Nat.le_of_ble_eq_true rfl⟩ rfl (Nat.le_of_ble_eq_true rfl) dX6_init_141 ?_
      refine g_icmp_ge X (tgt := 167) dX6_init_144 (by decide) (fun _ => ?_) (fun g => absurd (nI_le (Nat.le_refl _) (by omega)) g)
      refine g_aload_n X 1 dX6_init_167 rfl rfl ?_
      refine l_getR (j := 0) (k := 0) (t := 1) X cl_X6 (by decide) rfl z_336 rfl rfl ⟨rfl, inRC (by omega)⟩ dX6_init_168 ?_
      refine g_aload_n X 1 dX6_init_171 rfl rfl ?_
      refine l_getR (j := 1) (k := 0) (t := 4) X cl_X6 (by decide) rfl z_337 rfl rfl ⟨rfl, inRC (by omega)⟩ dX6_init_172 ?_
      refine l_callIV X hA (np := 1) (t := 1) (As := [.ref (ad 4)]) (st := []) (c_X3_readInto Sc_RC Fl_RC4 (s_X3_readInto (K := fun _ F' => FrT 4 F F' ∧ CF F' 4 dT) (nx := 68) (tx := txN) ⟨by omega, hl, fun j hj => ⟨(tx_rng j hj).1, (tx_rng j hj).2, ht j hj⟩⟩ (by omega) (fun G' fr _ cG => ⟨fr, cG⟩) (fun G' q fr _ eq => absurd (dT_none.symm.trans eq) (by simp)))) (gV z_285 z_286 z_287 z_57 z_288) cl_X3 Sc_RC.1 (by decide +kernel) rfl rfl rfl ⟨Nat.le_of_ble_eq_true rfl, Nat.le_of_ble_eq_true rfl⟩ ⟨Nat.le_of_ble_eq_true rfl, Nat.le_of_ble_eq_true rfl⟩ rfl (Nat.le_of_ble_eq_true rfl) dX6_init_175 ?_
      rintro r F1 ⟨fr, cF⟩
      refine g_pop X dX6_init_178 rfl ?_
      refine g_aload_n X 1 dX6_init_179 rfl rfl ?_
      refine l_getR (j := 0) (k := 0) (t := 1) X cl_X6 (by decide) rfl z_336 rfl rfl ⟨rfl, inRC (by omega)⟩ dX6_init_180 ?_
      refine l_callVV X hA (np := 0) (t := 1) (As := []) (st := []) (c_X3_clear Sc_RC (show wp_X3_clear (fun F' => F' = hup F1 1 2 (nI 0)) F1 from fun F' e => e)) (gV z_332 z_333 z_334 z_57 z_335) cl_X3 Sc_RC.1 (by decide +kernel) rfl rfl rfl ⟨Nat.le_of_ble_eq_true rfl, Nat.le_of_ble_eq_true rfl⟩ ⟨Nat.le_of_ble_eq_true rfl, Nat.le_of_ble_eq_true rfl⟩ rfl (Nat.le_of_ble_eq_true rfl) dX6_init_183 ?_
      intro F2 e2
      refine b_vret X hr dX6_init_186 (h F2 (fun a x y z w => ?_) ?_ (cF.kept ?_ ?_ ?_ ?_ ?_ ?_))
      · rw [e2, hup_n _ _ _ x, fr a z w, ho a x y]
      · rw [e2, hup_at, if_pos rfl]
      all_goals rw [e2, hup_n _ _ _ (by omega)]
    | succ k ih =>
      intro i hi F ho hl ht
      have hi68 : i < 68 := by omega
      refine g_iload_n X 0 dX6_init_138 rfl rfl ?_
      refine s_ldc X hR dX6_init_139 ?_
      refine g_callSV X hA hZ (np := 0) (As := []) (st := [.int (nI i)]) j_length (gV z_233 z_234 z_235 z_64 z_236) (by decide +kernel) rfl rfl rfl ⟨Nat.le_of_ble_eq_true rfl, Nat.le_of_ble_eq_true rfl⟩ ⟨Nat.le_of_ble_eq_true rfl, Nat.le_of_ble_eq_true rfl⟩ rfl (Nat.le_of_ble_eq_true rfl) dX6_init_141 ?_
      refine g_icmp_ge X (tgt := 167) dX6_init_144 (by decide) (fun g => ?_) (fun _ => ?_)
      · rw [nIle (by omega) (by omega)] at g; omega
      refine g_aload_n X 1 dX6_init_147 rfl rfl ?_
      refine l_getR (j := 0) (k := 0) (t := 1) X cl_X6 (by decide) rfl z_336 rfl rfl ⟨rfl, inRC (by omega)⟩ dX6_init_148 ?_
      refine s_ldc X hR dX6_init_151 ?_
      refine g_iload_n X 0 dX6_init_153 rfl rfl ?_
      refine g_callSV X hA hZ (np := 1) (As := [.int (nI i)]) (st := [.ref (ad 1)]) (j_charAt hi68 hfv) (gV z_243 z_244 z_245 z_64 z_246) (by decide +kernel) rfl rfl rfl ⟨Nat.le_of_ble_eq_true rfl, Nat.le_of_ble_eq_true rfl⟩ ⟨Nat.le_of_ble_eq_true rfl, Nat.le_of_ble_eq_true rfl⟩ rfl (Nat.le_of_ble_eq_true rfl) dX6_init_154 ?_
      have ech : vp_nar .char ((txB i).toUInt32 % 65536).toInt32 = nI (txN i) := by
        have := (tx_rng i hi68).2
        unfold txB
        rw [pk_vc, pk_char, pk_tn (by omega), Nat.mod_eq_of_lt (by omega)]
      refine l_callIV X hA (np := 1) (t := 1) (As := [.int (txB i)]) (st := []) (K := fun _ F' => (∀ a, a ≠ 1 → a ≠ 2 → F' a = F0 a) ∧ F' 1 2 = nI (i + 1) ∧ ∀ j, j < i + 1 → F' 2 j = nI (txN j)) (c_X3_append Sc_RC ?_) (gV z_281 z_282 z_283 z_57 z_284) cl_X3 Sc_RC.1 (by decide +kernel) rfl rfl rfl ⟨Nat.le_of_ble_eq_true rfl, Nat.le_of_ble_eq_true rfl⟩ ⟨Nat.le_of_ble_eq_true rfl, Nat.le_of_ble_eq_true rfl⟩ rfl (Nat.le_of_ble_eq_true rfl) dX6_init_157 ?_
      · unfold wp_X3_append
        rw [hl, nIcl (by omega), ech]
        refine ⟨fun _ => ⟨vin (by omega) (by omega), fun F1 f1 F2 f2 => ⟨fun a x y => ?_, ?_, fun j hj => ?_⟩⟩, fun g => absurd (nI_lt (by omega) (by omega)) g⟩
        · rw [f2, hup_n _ _ _ x, f1, hup_n _ _ _ y, ho a x y]
        · rw [f2, hup_at, if_pos rfl, f1, hup_n _ _ _ (by omega), hl, nI_add]
        · rw [f2, hup_n _ _ _ (by omega), f1, hup_at]
          by_cases g : j = i
          · rw [if_pos g, g]
          · rw [if_neg g]; exact ht j (by omega)
      rintro r F1 ⟨q1, q2, q3⟩
      refine g_pop X dX6_init_160 rfl ?_
      refine g_iinc X 0 [(1, .int (nI (i + 1))), (0, .ref (ad 0))] dX6_init_161 rfl (nI_1 i) (by decide) rfl ?_
      refine g_goto X (tgt := 138) dX6_init_164 (by decide) ?_
      exact ih (i + 1) (by omega) F1 q1 q2 q3
  exact loop 68 0 (by omega) F0 (fun _ _ _ => rfl) e1 (fun j hj => absurd hj (by omega))
end CtorBB
