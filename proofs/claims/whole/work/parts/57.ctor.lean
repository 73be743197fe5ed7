theorem z_148 : Cond.methodLink RX0 3 Lib.objectInit ∈ WB := inWB 148 (by decide +kernel) (by decide +kernel)
theorem z_150 : Cond.fieldLink RX0 9 "BirdBridge$Bridge" "order" "[I" ∈ WB := inWB 150 (by decide +kernel) (by decide +kernel)
theorem z_151 : Cond.fieldLink RX0 15 "BirdBridge$Bridge" "tired" "[I" ∈ WB := inWB 151 (by decide +kernel) (by decide +kernel)
theorem z_152 : Cond.fieldLink RX0 18 "BirdBridge$Bridge" "borne" "[I" ∈ WB := inWB 152 (by decide +kernel) (by decide +kernel)
theorem z_153 : Cond.fieldLink RX0 21 "BirdBridge$Bridge" "size" "I" ∈ WB := inWB 153 (by decide +kernel) (by decide +kernel)
theorem z_149 : Cond.fieldLink RX0 25 "BirdBridge$Bridge" "flock" "LBirdBridge$Flock;" ∈ WB := inWB 149 (by decide +kernel) (by decide +kernel)
theorem z_111 : Cond.fieldLink RX1 30 "BirdBridge$Flock" "birds" "I" ∈ WB := inWB 111 (by decide +kernel) (by decide +kernel)
theorem z_112 : Cond.fieldLink RX1 34 "BirdBridge$Flock" "windCount" "I" ∈ WB := inWB 112 (by decide +kernel) (by decide +kernel)
theorem z_113 : Cond.fieldLink RX1 37 "BirdBridge$Flock" "width" "I" ∈ WB := inWB 113 (by decide +kernel) (by decide +kernel)
theorem z_114 : Cond.fieldLink RX1 40 "BirdBridge$Flock" "heaviness" "I" ∈ WB := inWB 114 (by decide +kernel) (by decide +kernel)
theorem z_115 : Cond.fieldLink RX1 43 "BirdBridge$Flock" "growth" "I" ∈ WB := inWB 115 (by decide +kernel) (by decide +kernel)
theorem z_101 : Cond.methodLink RX1 3 Lib.objectInit ∈ WB := inWB 101 (by decide +kernel) (by decide +kernel)
theorem z_106 : Cond.fieldLink RX1 9 "BirdBridge$Flock" "strengths" "[I" ∈ WB := inWB 106 (by decide +kernel) (by decide +kernel)
theorem z_107 : Cond.fieldLink RX1 15 "BirdBridge$Flock" "lengths" "[I" ∈ WB := inWB 107 (by decide +kernel) (by decide +kernel)
theorem z_108 : Cond.fieldLink RX1 18 "BirdBridge$Flock" "kinds" "[I" ∈ WB := inWB 108 (by decide +kernel) (by decide +kernel)
theorem z_109 : Cond.fieldLink RX1 21 "BirdBridge$Flock" "woods" "[I" ∈ WB := inWB 109 (by decide +kernel) (by decide +kernel)
theorem z_110 : Cond.fieldLink RX1 24 "BirdBridge$Flock" "winds" "[I" ∈ WB := inWB 110 (by decide +kernel) (by decide +kernel)
theorem z_102 : Cond.methodLink RX1 27 yX1_clear ∈ WB := inWB 102 (by decide +kernel) (by decide +kernel)
theorem z_103 : Cond.instanceMethod yX1_clear ∈ WB := inWB 103 (by decide +kernel) (by decide +kernel)
theorem z_104 : Cond.selects RX1 yX1_clear yX1_clear ∈ WB := inWB 104 (by decide +kernel) (by decide +kernel)
theorem z_58 : Cond.initialized RX1 ∈ WB := inWB 58 (by decide +kernel) (by decide +kernel)
theorem z_105 : Cond.code yX1_clear cX1_clear 1 none ∈ WB := inWB 105 (by decide +kernel) (by decide +kernel)
theorem z_142 : Cond.methodLink RX2 3 Lib.objectInit ∈ WB := inWB 142 (by decide +kernel) (by decide +kernel)
theorem z_167 : Cond.fieldLink RX2 9 "BirdBridge$Night" "minute" "I" ∈ WB := inWB 167 (by decide +kernel) (by decide +kernel)
theorem z_168 : Cond.fieldLink RX2 15 "BirdBridge$Night" "year" "I" ∈ WB := inWB 168 (by decide +kernel) (by decide +kernel)
theorem z_169 : Cond.fieldLink RX2 18 "BirdBridge$Night" "place" "I" ∈ WB := inWB 169 (by decide +kernel) (by decide +kernel)
theorem z_170 : Cond.fieldLink RX2 21 "BirdBridge$Night" "broken" "Z" ∈ WB := inWB 170 (by decide +kernel) (by decide +kernel)
theorem z_165 : Cond.fieldLink RX2 25 "BirdBridge$Night" "flock" "LBirdBridge$Flock;" ∈ WB := inWB 165 (by decide +kernel) (by decide +kernel)
theorem z_143 : Cond.classLink RX2 29 RX0 ∈ WB := inWB 143 (by decide +kernel) (by decide +kernel)
theorem z_144 : Cond.instantiable RX0 5 ∈ WB := inWB 144 (by decide +kernel) (by decide +kernel)
theorem z_60 : Cond.initialized RX0 ∈ WB := inWB 60 (by decide +kernel) (by decide +kernel)
theorem z_147 : Cond.code yX0_init cX0_init 2 none ∈ WB := inWB 147 (by decide +kernel) (by decide +kernel)
theorem z_145 : Cond.methodLink RX2 31 yX0_init ∈ WB := inWB 145 (by decide +kernel) (by decide +kernel)
theorem z_146 : Cond.instanceMethod yX0_init ∈ WB := inWB 146 (by decide +kernel) (by decide +kernel)
theorem z_166 : Cond.fieldLink RX2 34 "BirdBridge$Night" "bridge" "LBirdBridge$Bridge;" ∈ WB := inWB 166 (by decide +kernel) (by decide +kernel)
theorem z_83 : Cond.methodLink RX3 3 Lib.objectInit ∈ WB := inWB 83 (by decide +kernel) (by decide +kernel)
theorem z_84 : Cond.fieldLink RX3 9 "BirdBridge$Script" "letters" "[C" ∈ WB := inWB 84 (by decide +kernel) (by decide +kernel)
theorem z_85 : Cond.fieldLink RX3 15 "BirdBridge$Script" "numbers" "[I" ∈ WB := inWB 85 (by decide +kernel) (by decide +kernel)
theorem z_86 : Cond.fieldLink RX3 19 "BirdBridge$Script" "length" "I" ∈ WB := inWB 86 (by decide +kernel) (by decide +kernel)
theorem z_210 : Cond.methodLink RX4 3 Lib.objectInit ∈ WB := inWB 210 (by decide +kernel) (by decide +kernel)
theorem z_215 : Cond.fieldLink RX4 9 "BirdBridge$Search" "found" "[I" ∈ WB := inWB 215 (by decide +kernel) (by decide +kernel)
theorem z_216 : Cond.fieldLink RX4 15 "BirdBridge$Search" "leastMore" "[I" ∈ WB := inWB 216 (by decide +kernel) (by decide +kernel)
theorem z_217 : Cond.fieldLink RX4 18 "BirdBridge$Search" "foundSize" "I" ∈ WB := inWB 217 (by decide +kernel) (by decide +kernel)
theorem z_218 : Cond.fieldLink RX4 22 "BirdBridge$Search" "foundWeight" "I" ∈ WB := inWB 218 (by decide +kernel) (by decide +kernel)
theorem z_213 : Cond.fieldLink RX4 25 "BirdBridge$Search" "flock" "LBirdBridge$Flock;" ∈ WB := inWB 213 (by decide +kernel) (by decide +kernel)
theorem z_211 : Cond.classLink RX4 29 RX0 ∈ WB := inWB 211 (by decide +kernel) (by decide +kernel)
theorem z_212 : Cond.methodLink RX4 31 yX0_init ∈ WB := inWB 212 (by decide +kernel) (by decide +kernel)
theorem z_214 : Cond.fieldLink RX4 34 "BirdBridge$Search" "tried" "LBirdBridge$Bridge;" ∈ WB := inWB 214 (by decide +kernel) (by decide +kernel)
theorem in_push {k a : Nat} {R : List Nat} (h : k ∈ R) : k ∈ R ++ [a] := List.mem_append_left _ h
theorem in_last {a : Nat} {R : List Nat} : a ∈ R ++ [a] := List.mem_append_right _ (List.mem_singleton.mpr rfl)
theorem nin_push {k a : Nat} {R : List Nat} (h : k ∉ R) (hne : k ≠ a) : k ∉ R ++ [a] := by
  intro g
  rcases List.mem_append.mp g with g | g
  · exact h g
  · exact hne (List.mem_singleton.mp g)
/-- nothing but the roles lo .. hi is touched; the object's own place stays -/
def Ch (lo hi : Nat) (ad ad' : Nat → Nat) (F F' : HF) (G G' : HG) : Prop := ad' lo = ad lo ∧ ∀ k, (k < lo ∨ hi < k) → ad' k = ad k ∧ F' k = F k ∧ G' k = G k
def BrI (b fl : Nat) (ad : Nat → Nat) (F : HF) (G : HG) : Prop := F b 4 = nI 0 ∧ (∀ j, F (b + 1) j = 0) ∧ (∀ j, F (b + 2) j = 0) ∧ (∀ j, F (b + 3) j = 0) ∧ G b 0 = some fl ∧ G b 1 = some (ad (b + 1)) ∧ G b 2 = some (ad (b + 2)) ∧ G b 3 = some (ad (b + 3))
def BrK (b : Nat) : Prop := kd b = (0 + 3, 0) ∧ kd (b + 1) = (0, 8) ∧ kd (b + 2) = (0, 8) ∧ kd (b + 3) = (0, 8)
def FlI (f : Nat) (ad : Nat → Nat) (F : HF) (G : HG) : Prop := F f 5 = nI 0 ∧ F f 6 = nI 0 ∧ F f 7 = nI 5 ∧ F f 8 = nI 12 ∧ F f 9 = nI 1 ∧ G f 0 = some (ad (f + 1)) ∧ G f 1 = some (ad (f + 2)) ∧ G f 2 = some (ad (f + 3)) ∧ G f 3 = some (ad (f + 4)) ∧ G f 4 = some (ad (f + 5))
def FlK (f : Nat) : Prop := kd f = (1 + 3, 0) ∧ kd (f + 1) = (0, 8) ∧ kd (f + 2) = (0, 8) ∧ kd (f + 3) = (0, 8) ∧ kd (f + 4) = (0, 8) ∧ kd (f + 5) = (0, 8)
def NtI (n fl : Nat) (ad : Nat → Nat) (F : HF) (G : HG) : Prop := F n 2 = nI 0 ∧ F n 3 = nI 0 ∧ F n 4 = (-1 : Int32) ∧ F n 5 = nI 0 ∧ G n 0 = some fl ∧ G n 1 = some (ad (n + 1)) ∧ BrI (n + 1) fl ad F G
def NtK (n : Nat) : Prop := kd n = (2 + 3, 0) ∧ BrK (n + 1)
def ScI (ad : Nat → Nat) (F : HF) (G : HG) : Prop := F 1 2 = nI 0 ∧ G 1 0 = some (ad 2) ∧ G 1 1 = some (ad 3)
def SeI (fl : Nat) (ad : Nat → Nat) (F : HF) (G : HG) : Prop := F 79 4 = nI 9 ∧ F 79 5 = (-1 : Int32) ∧ G 79 0 = some fl ∧ G 79 1 = some (ad 80) ∧ G 79 2 = some (ad 84) ∧ G 79 3 = some (ad 87) ∧ BrI 80 fl ad F G
theorem BrI.kept {b fl : Nat} {ad ad' : Nat → Nat} {F F' : HF} {G G' : HG} (h : BrI b fl ad F G) (e : ∀ k, b ≤ k → k ≤ b + 3 → ad' k = ad k ∧ F' k = F k ∧ G' k = G k) : BrI b fl ad' F' G' := by
  unfold BrI
  rw [(e b (by omega) (by omega)).2.1, (e (b + 1) (by omega) (by omega)).2.1, (e (b + 2) (by omega) (by omega)).2.1, (e (b + 3) (by omega) (by omega)).2.1, (e b (by omega) (by omega)).2.2, (e (b + 1) (by omega) (by omega)).1, (e (b + 2) (by omega) (by omega)).1, (e (b + 3) (by omega) (by omega)).1]
  exact h
theorem NtI.kept {n fl : Nat} {ad ad' : Nat → Nat} {F F' : HF} {G G' : HG} (h : NtI n fl ad F G) (e : ∀ k, n ≤ k → k ≤ n + 4 → ad' k = ad k ∧ F' k = F k ∧ G' k = G k) : NtI n fl ad' F' G' := by
  obtain ⟨h1, h2, h3, h4, h5, h6, h7⟩ := h
  have e0 := e n (by omega) (by omega)
  refine ⟨by rw [e0.2.1]; exact h1, by rw [e0.2.1]; exact h2, by rw [e0.2.1]; exact h3, by rw [e0.2.1]; exact h4, by rw [e0.2.2]; exact h5, by rw [e0.2.2, (e (n + 1) (by omega) (by omega)).1]; exact h6, h7.kept (fun k x y => e k (by omega) (by omega))⟩
theorem FlI.kept {f : Nat} {ad ad' : Nat → Nat} {F F' : HF} {G G' : HG} (h : FlI f ad F G) (e : ∀ k, f ≤ k → k ≤ f + 5 → ad' k = ad k ∧ F' k = F k ∧ G' k = G k) : FlI f ad' F' G' := by
  unfold FlI
  rw [(e f (by omega) (by omega)).2.1, (e f (by omega) (by omega)).2.2, (e (f + 1) (by omega) (by omega)).1, (e (f + 2) (by omega) (by omega)).1, (e (f + 3) (by omega) (by omega)).1, (e (f + 4) (by omega) (by omega)).1, (e (f + 5) (by omega) (by omega)).1]
  exact h
theorem ScI.kept {ad ad' : Nat → Nat} {F F' : HF} {G G' : HG} (h : ScI ad F G) (e : ∀ k, 1 ≤ k → k ≤ 3 → ad' k = ad k ∧ F' k = F k ∧ G' k = G k) : ScI ad' F' G' := by
  unfold ScI
  rw [(e 1 (by omega) (by omega)).2.1, (e 1 (by omega) (by omega)).2.2, (e 2 (by omega) (by omega)).1, (e 3 (by omega) (by omega)).1]
  exact h
abbrev rm_br : Room := { frames := 1, cells := 3, slots := 24, locals := 24 }
abbrev rm_fl : Room := { frames := 1, cells := 5, slots := 40, locals := 24 }
abbrev rm_nt : Room := { frames := 2, cells := 4, slots := 29, locals := 48 }
abbrev rm_sc : Room := { frames := 1, cells := 2, slots := 204, locals := 24 }
abbrev rm_se : Room := { frames := 2, cells := 6, slots := 293, locals := 48 }
section Ctors
variable {l : Launch} {D : va_G} {dA : Nat → ClassId} {ad : Nat → Nat} {R : List Nat} {F : HF} {G : HG} {K : (Nat → Nat) → List Nat → HF → HG → Prop}
theorem dX0_init_0 : decode cX0_init 0 = .ok (.aload_n 0, 1) := by decide +kernel
theorem dX0_init_1 : decode cX0_init 1 = .ok (.invokespecial 3, 3) := by decide +kernel
theorem dX0_init_4 : decode cX0_init 4 = .ok (.aload_n 0, 1) := by decide +kernel
theorem dX0_init_5 : decode cX0_init 5 = .ok (.bipush 8, 2) := by decide +kernel
theorem dX0_init_7 : decode cX0_init 7 = .ok (.newarray .int, 2) := by decide +kernel
theorem dX0_init_9 : decode cX0_init 9 = .ok (.putfield 9, 3) := by decide +kernel
theorem dX0_init_12 : decode cX0_init 12 = .ok (.aload_n 0, 1) := by decide +kernel
theorem dX0_init_13 : decode cX0_init 13 = .ok (.bipush 8, 2) := by decide +kernel
theorem dX0_init_15 : decode cX0_init 15 = .ok (.newarray .int, 2) := by decide +kernel
theorem dX0_init_17 : decode cX0_init 17 = .ok (.putfield 15, 3) := by decide +kernel
theorem dX0_init_20 : decode cX0_init 20 = .ok (.aload_n 0, 1) := by decide +kernel
theorem dX0_init_21 : decode cX0_init 21 = .ok (.bipush 8, 2) := by decide +kernel
theorem dX0_init_23 : decode cX0_init 23 = .ok (.newarray .int, 2) := by decide +kernel
theorem dX0_init_25 : decode cX0_init 25 = .ok (.putfield 18, 3) := by decide +kernel
theorem dX0_init_28 : decode cX0_init 28 = .ok (.aload_n 0, 1) := by decide +kernel
theorem dX0_init_29 : decode cX0_init 29 = .ok (.iconst 0, 1) := by decide +kernel
theorem dX0_init_30 : decode cX0_init 30 = .ok (.putfield 21, 3) := by decide +kernel
theorem dX0_init_33 : decode cX0_init 33 = .ok (.aload_n 0, 1) := by decide +kernel
theorem dX0_init_34 : decode cX0_init 34 = .ok (.aload_n 1, 1) := by decide +kernel
theorem dX0_init_35 : decode cX0_init 35 = .ok (.putfield 25, 3) := by decide +kernel
theorem dX0_init_38 : decode cX0_init 38 = .ok (.return_, 1) := by decide +kernel
theorem dX1_init_0 : decode cX1_init 0 = .ok (.aload_n 0, 1) := by decide +kernel
theorem dX1_init_1 : decode cX1_init 1 = .ok (.invokespecial 3, 3) := by decide +kernel
theorem dX1_init_4 : decode cX1_init 4 = .ok (.aload_n 0, 1) := by decide +kernel
theorem dX1_init_5 : decode cX1_init 5 = .ok (.bipush 8, 2) := by decide +kernel
theorem dX1_init_7 : decode cX1_init 7 = .ok (.newarray .int, 2) := by decide +kernel
theorem dX1_init_9 : decode cX1_init 9 = .ok (.putfield 9, 3) := by decide +kernel
theorem dX1_init_12 : decode cX1_init 12 = .ok (.aload_n 0, 1) := by decide +kernel
theorem dX1_init_13 : decode cX1_init 13 = .ok (.bipush 8, 2) := by decide +kernel
theorem dX1_init_15 : decode cX1_init 15 = .ok (.newarray .int, 2) := by decide +kernel
theorem dX1_init_17 : decode cX1_init 17 = .ok (.putfield 15, 3) := by decide +kernel
theorem dX1_init_20 : decode cX1_init 20 = .ok (.aload_n 0, 1) := by decide +kernel
theorem dX1_init_21 : decode cX1_init 21 = .ok (.bipush 8, 2) := by decide +kernel
theorem dX1_init_23 : decode cX1_init 23 = .ok (.newarray .int, 2) := by decide +kernel
theorem dX1_init_25 : decode cX1_init 25 = .ok (.putfield 18, 3) := by decide +kernel
theorem dX1_init_28 : decode cX1_init 28 = .ok (.aload_n 0, 1) := by decide +kernel
theorem dX1_init_29 : decode cX1_init 29 = .ok (.bipush 8, 2) := by decide +kernel
theorem dX1_init_31 : decode cX1_init 31 = .ok (.newarray .int, 2) := by decide +kernel
theorem dX1_init_33 : decode cX1_init 33 = .ok (.putfield 21, 3) := by decide +kernel
theorem dX1_init_36 : decode cX1_init 36 = .ok (.aload_n 0, 1) := by decide +kernel
theorem dX1_init_37 : decode cX1_init 37 = .ok (.bipush 8, 2) := by decide +kernel
theorem dX1_init_39 : decode cX1_init 39 = .ok (.newarray .int, 2) := by decide +kernel
theorem dX1_init_41 : decode cX1_init 41 = .ok (.putfield 24, 3) := by decide +kernel
theorem dX1_init_44 : decode cX1_init 44 = .ok (.aload_n 0, 1) := by decide +kernel
theorem dX1_init_45 : decode cX1_init 45 = .ok (.invokevirtual 27, 3) := by decide +kernel
theorem dX1_init_48 : decode cX1_init 48 = .ok (.return_, 1) := by decide +kernel
theorem dX2_init_0 : decode cX2_init 0 = .ok (.aload_n 0, 1) := by decide +kernel
theorem dX2_init_1 : decode cX2_init 1 = .ok (.invokespecial 3, 3) := by decide +kernel
theorem dX2_init_4 : decode cX2_init 4 = .ok (.aload_n 0, 1) := by decide +kernel
theorem dX2_init_5 : decode cX2_init 5 = .ok (.iconst 0, 1) := by decide +kernel
theorem dX2_init_6 : decode cX2_init 6 = .ok (.putfield 9, 3) := by decide +kernel
theorem dX2_init_9 : decode cX2_init 9 = .ok (.aload_n 0, 1) := by decide +kernel
theorem dX2_init_10 : decode cX2_init 10 = .ok (.iconst 0, 1) := by decide +kernel
theorem dX2_init_11 : decode cX2_init 11 = .ok (.putfield 15, 3) := by decide +kernel
theorem dX2_init_14 : decode cX2_init 14 = .ok (.aload_n 0, 1) := by decide +kernel
theorem dX2_init_15 : decode cX2_init 15 = .ok (.iconst (-1), 1) := by decide +kernel
theorem dX2_init_16 : decode cX2_init 16 = .ok (.putfield 18, 3) := by decide +kernel
theorem dX2_init_19 : decode cX2_init 19 = .ok (.aload_n 0, 1) := by decide +kernel
theorem dX2_init_20 : decode cX2_init 20 = .ok (.iconst 0, 1) := by decide +kernel
theorem dX2_init_21 : decode cX2_init 21 = .ok (.putfield 21, 3) := by decide +kernel
theorem dX2_init_24 : decode cX2_init 24 = .ok (.aload_n 0, 1) := by decide +kernel
theorem dX2_init_25 : decode cX2_init 25 = .ok (.aload_n 1, 1) := by decide +kernel
theorem dX2_init_26 : decode cX2_init 26 = .ok (.putfield 25, 3) := by decide +kernel
theorem dX2_init_29 : decode cX2_init 29 = .ok (.aload_n 0, 1) := by decide +kernel
theorem dX2_init_30 : decode cX2_init 30 = .ok (.new 29, 3) := by decide +kernel
theorem dX2_init_33 : decode cX2_init 33 = .ok (.dup, 1) := by decide +kernel
theorem dX2_init_34 : decode cX2_init 34 = .ok (.aload_n 1, 1) := by decide +kernel
theorem dX2_init_35 : decode cX2_init 35 = .ok (.invokespecial 31, 3) := by decide +kernel
theorem dX2_init_38 : decode cX2_init 38 = .ok (.putfield 34, 3) := by decide +kernel
theorem dX2_init_41 : decode cX2_init 41 = .ok (.return_, 1) := by decide +kernel
theorem dX3_init_0 : decode cX3_init 0 = .ok (.aload_n 0, 1) := by decide +kernel
theorem dX3_init_1 : decode cX3_init 1 = .ok (.invokespecial 3, 3) := by decide +kernel
theorem dX3_init_4 : decode cX3_init 4 = .ok (.aload_n 0, 1) := by decide +kernel
theorem dX3_init_5 : decode cX3_init 5 = .ok (.sipush 200, 3) := by decide +kernel
theorem dX3_init_8 : decode cX3_init 8 = .ok (.newarray .char, 2) := by decide +kernel
theorem dX3_init_10 : decode cX3_init 10 = .ok (.putfield 9, 3) := by decide +kernel
theorem dX3_init_13 : decode cX3_init 13 = .ok (.aload_n 0, 1) := by decide +kernel
theorem dX3_init_14 : decode cX3_init 14 = .ok (.iconst 4, 1) := by decide +kernel
theorem dX3_init_15 : decode cX3_init 15 = .ok (.newarray .int, 2) := by decide +kernel
theorem dX3_init_17 : decode cX3_init 17 = .ok (.putfield 15, 3) := by decide +kernel
theorem dX3_init_20 : decode cX3_init 20 = .ok (.aload_n 0, 1) := by decide +kernel
theorem dX3_init_21 : decode cX3_init 21 = .ok (.iconst 0, 1) := by decide +kernel
theorem dX3_init_22 : decode cX3_init 22 = .ok (.putfield 19, 3) := by decide +kernel
theorem dX3_init_25 : decode cX3_init 25 = .ok (.return_, 1) := by decide +kernel
theorem dX4_init_0 : decode cX4_init 0 = .ok (.aload_n 0, 1) := by decide +kernel
theorem dX4_init_1 : decode cX4_init 1 = .ok (.invokespecial 3, 3) := by decide +kernel
theorem dX4_init_4 : decode cX4_init 4 = .ok (.aload_n 0, 1) := by decide +kernel
theorem dX4_init_5 : decode cX4_init 5 = .ok (.bipush 8, 2) := by decide +kernel
theorem dX4_init_7 : decode cX4_init 7 = .ok (.newarray .int, 2) := by decide +kernel
theorem dX4_init_9 : decode cX4_init 9 = .ok (.putfield 9, 3) := by decide +kernel
theorem dX4_init_12 : decode cX4_init 12 = .ok (.aload_n 0, 1) := by decide +kernel
theorem dX4_init_13 : decode cX4_init 13 = .ok (.sipush 256, 3) := by decide +kernel
theorem dX4_init_16 : decode cX4_init 16 = .ok (.newarray .int, 2) := by decide +kernel
theorem dX4_init_18 : decode cX4_init 18 = .ok (.putfield 15, 3) := by decide +kernel
theorem dX4_init_21 : decode cX4_init 21 = .ok (.aload_n 0, 1) := by decide +kernel
theorem dX4_init_22 : decode cX4_init 22 = .ok (.bipush 9, 2) := by decide +kernel
theorem dX4_init_24 : decode cX4_init 24 = .ok (.putfield 18, 3) := by decide +kernel
theorem dX4_init_27 : decode cX4_init 27 = .ok (.aload_n 0, 1) := by decide +kernel
theorem dX4_init_28 : decode cX4_init 28 = .ok (.iconst (-1), 1) := by decide +kernel
theorem dX4_init_29 : decode cX4_init 29 = .ok (.putfield 22, 3) := by decide +kernel
theorem dX4_init_32 : decode cX4_init 32 = .ok (.aload_n 0, 1) := by decide +kernel
theorem dX4_init_33 : decode cX4_init 33 = .ok (.aload_n 1, 1) := by decide +kernel
theorem dX4_init_34 : decode cX4_init 34 = .ok (.putfield 25, 3) := by decide +kernel
theorem dX4_init_37 : decode cX4_init 37 = .ok (.aload_n 0, 1) := by decide +kernel
theorem dX4_init_38 : decode cX4_init 38 = .ok (.new 29, 3) := by decide +kernel
theorem dX4_init_41 : decode cX4_init 41 = .ok (.dup, 1) := by decide +kernel
theorem dX4_init_42 : decode cX4_init 42 = .ok (.aload_n 1, 1) := by decide +kernel
theorem dX4_init_43 : decode cX4_init 43 = .ok (.invokespecial 31, 3) := by decide +kernel
theorem dX4_init_46 : decode cX4_init 46 = .ok (.putfield 34, 3) := by decide +kernel
theorem dX4_init_49 : decode cX4_init 49 = .ok (.return_, 1) := by decide +kernel
set_option maxRecDepth 100000 in
set_option maxHeartbeats 4000000 in
theorem k_X0_init {b a0 fl : Nat} (h0 : ad b = a0) (hk : BrK b) (hb : b ∈ R) (n1 : b + 1 ∉ R) (n2 : b + 2 ∉ R) (n3 : b + 3 ∉ R) (h : ∀ ad' F' G', Ch b (b + 3) ad ad' F F' G G' → BrI b fl ad' F' G' → K ad' (R ++ [b + 1] ++ [b + 2] ++ [b + 3]) F' G') : MK l yX0_init cX0_init 2 rm_br 3 24 D dA ad R F G [.ref a0, .ref fl] K := by
  refine MK.of (own := RX0) (by decide) rfl (Nat.le_of_ble_eq_true rfl) ?_
  intro p e s m args below meth c A hA X hO hnm hr
  refine g_aload_n X 0 dX0_init_0 rfl rfl ?_
  refine m_objInit X z_148 (Nat.le_of_ble_eq_true rfl) (Nat.le_of_ble_eq_true rfl) dX0_init_1 ?_
  refine g_aload_n X 0 dX0_init_4 rfl rfl ?_
  refine g_bipush X (v := (nI 8)) dX0_init_5 (by decide) ?_
  refine m_newI X hA (b + 1) 8 rfl (by omega) hk.2.1 n1 (Nat.le_of_ble_eq_true rfl) (Nat.le_of_ble_eq_true rfl) dX0_init_7 (fun ad1 F1 e1 f1 => ?_)
  have a1 : ad1 (b) = a0 := (e1 _ (by omega)).trans h0
  refine m_putR X hnm (k := b) (j := 1) cl_X0 (by decide) rfl z_150 rfl rfl rfl rfl rfl hk.1 (in_push hb) a1 dX0_init_9 (fun G2 g2 => ?_)
  refine g_aload_n X 0 dX0_init_12 rfl rfl ?_
  refine g_bipush X (v := (nI 8)) dX0_init_13 (by decide) ?_
  refine m_newI X hA (b + 2) 8 rfl (by omega) hk.2.2.1 (nin_push n2 (by omega)) (Nat.le_of_ble_eq_true rfl) (Nat.le_of_ble_eq_true rfl) dX0_init_15 (fun ad3 F3 e3 f3 => ?_)
  have a3 : ad3 (b) = a0 := (e3 _ (by omega)).trans a1
  refine m_putR X hnm (k := b) (j := 2) cl_X0 (by decide) rfl z_151 rfl rfl rfl rfl rfl hk.1 (in_push (in_push hb)) a3 dX0_init_17 (fun G4 g4 => ?_)
  refine g_aload_n X 0 dX0_init_20 rfl rfl ?_
  refine g_bipush X (v := (nI 8)) dX0_init_21 (by decide) ?_
  refine m_newI X hA (b + 3) 8 rfl (by omega) hk.2.2.2 (nin_push (nin_push n3 (by omega)) (by omega)) (Nat.le_of_ble_eq_true rfl) (Nat.le_of_ble_eq_true rfl) dX0_init_23 (fun ad5 F5 e5 f5 => ?_)
  have a5 : ad5 (b) = a0 := (e5 _ (by omega)).trans a3
  refine m_putR X hnm (k := b) (j := 3) cl_X0 (by decide) rfl z_152 rfl rfl rfl rfl rfl hk.1 (in_push (in_push (in_push hb))) a5 dX0_init_25 (fun G6 g6 => ?_)
  refine g_aload_n X 0 dX0_init_28 rfl rfl ?_
  refine g_iconst X (v := (nI 0)) dX0_init_29 (by decide) ?_
  refine m_putI X (k := b) (j := 4) cl_X0 (by decide) rfl z_153 rfl rfl rfl rfl hk.1 (in_push (in_push (in_push hb))) a5 dX0_init_30 (fun F7 f7 => ?_)
  refine g_aload_n X 0 dX0_init_33 rfl rfl ?_
  refine g_aload_n X 1 dX0_init_34 rfl rfl ?_
  refine m_putR X hnm (k := b) (j := 0) cl_X0 (by decide) rfl z_149 rfl rfl rfl rfl rfl hk.1 (in_push (in_push (in_push hb))) a5 dX0_init_35 (fun G8 g8 => ?_)
  refine m_vret X hr dX0_init_38 (h ad5 F7 G8 ?_ ?_)
  · refine ⟨by rw [e5 _ (by omega), e3 _ (by omega), e1 _ (by omega)], fun k hk => ⟨by rw [e5 _ (by omega), e3 _ (by omega), e1 _ (by omega)], by rw [f7, hup_n _ _ _ (by omega), f5, hst_n _ _ (by omega), f3, hst_n _ _ (by omega), f1, hst_n _ _ (by omega)], by rw [g8, gup_n _ _ _ (by omega), g6, gup_n _ _ _ (by omega), g4, gup_n _ _ _ (by omega), g2, gup_n _ _ _ (by omega)]⟩⟩
  · refine ⟨by rw [f7, hup_at, if_pos rfl], fun j => by rw [f7, hup_n _ _ _ (by omega), f5, hst_n _ _ (by omega), f3, hst_n _ _ (by omega), f1, hst_s], fun j => by rw [f7, hup_n _ _ _ (by omega), f5, hst_n _ _ (by omega), f3, hst_s], fun j => by rw [f7, hup_n _ _ _ (by omega), f5, hst_s], by rw [g8, gup_at, if_pos rfl], ?_, ?_, ?_⟩
    · rw [g8, gup_at, if_neg (by omega), g6, gup_at, if_neg (by omega), g4, gup_at, if_neg (by omega), g2, gup_at, if_pos rfl, e5 _ (by omega), e3 _ (by omega)]
    · rw [g8, gup_at, if_neg (by omega), g6, gup_at, if_neg (by omega), g4, gup_at, if_pos rfl, e5 _ (by omega)]
    · rw [g8, gup_at, if_neg (by omega), g6, gup_at, if_pos rfl]
set_option maxRecDepth 100000 in
set_option maxHeartbeats 4000000 in
theorem k_X1_clear {f a0 : Nat} (h0 : ad f = a0) (hk : kd f = (1 + 3, 0)) (hb : f ∈ R) (h : ∀ F', (∀ k, k ≠ f → F' k = F k) → F' f 5 = nI 0 → F' f 6 = nI 0 → F' f 7 = nI 5 → F' f 8 = nI 12 → F' f 9 = nI 1 → K ad R F' G) : MK l yX1_clear cX1_clear 1 rm_X1_clear 0 0 D dA ad R F G [.ref a0] K := by
  refine MK.of (own := RX1) (by decide) rfl (Nat.le_of_ble_eq_true rfl) ?_
  intro p e s m args below meth c A hA X hO hnm hr
  refine g_aload_n X 0 dX1_clear_0 rfl rfl ?_
  refine g_iconst X (v := (nI 0)) dX1_clear_1 (by decide) ?_
  refine m_putI X (k := f) (j := 5) cl_X1 (by decide) rfl z_111 rfl rfl rfl rfl hk hb h0 dX1_clear_2 (fun F1 f1 => ?_)
  refine g_aload_n X 0 dX1_clear_5 rfl rfl ?_
  refine g_iconst X (v := (nI 0)) dX1_clear_6 (by decide) ?_
  refine m_putI X (k := f) (j := 6) cl_X1 (by decide) rfl z_112 rfl rfl rfl rfl hk hb h0 dX1_clear_7 (fun F2 f2 => ?_)
  refine g_aload_n X 0 dX1_clear_10 rfl rfl ?_
  refine g_iconst X (v := (nI 5)) dX1_clear_11 (by decide) ?_
  refine m_putI X (k := f) (j := 7) cl_X1 (by decide) rfl z_113 rfl rfl rfl rfl hk hb h0 dX1_clear_12 (fun F3 f3 => ?_)
  refine g_aload_n X 0 dX1_clear_15 rfl rfl ?_
  refine g_bipush X (v := (nI 12)) dX1_clear_16 (by decide) ?_
  refine m_putI X (k := f) (j := 8) cl_X1 (by decide) rfl z_114 rfl rfl rfl rfl hk hb h0 dX1_clear_18 (fun F4 f4 => ?_)
  refine g_aload_n X 0 dX1_clear_21 rfl rfl ?_
  refine g_iconst X (v := (nI 1)) dX1_clear_22 (by decide) ?_
  refine m_putI X (k := f) (j := 9) cl_X1 (by decide) rfl z_115 rfl rfl rfl rfl hk hb h0 dX1_clear_23 (fun F5 f5 => ?_)
  refine m_vret X hr dX1_clear_26 (h F5 (fun k hk => by rw [f5, hup_n _ _ _ hk, f4, hup_n _ _ _ hk, f3, hup_n _ _ _ hk, f2, hup_n _ _ _ hk, f1, hup_n _ _ _ hk]) ?_ ?_ ?_ ?_ ?_)
  all_goals simp only [f5, f4, f3, f2, f1, hup_at]
  all_goals rfl
theorem m_callW {p : Program} {e : Env} {Rm : Room} {s : State} {m : MethodId} {args : Array Value} {below : List Frame} {meth : Method} {c : Code} {nL : Nat} {A : Nat → Prop} {Q : State → Prop} {pc : Nat} {lv : List (Nat × Value)} {st : List Value} {cc : ByteArray} {own : String} {nc ns : Nat} (X : Cx p s m args meth c cc nL own D dA) (hO : va_AO RX2 s) (hA : ∀ q, s.heap.size ≤ q → A q) {y : MethodName} {b : ByteArray} {n t a0 ci np idx N mc ms : Nat} {rm : Room} {As : List Value} {C : String} {T : u_T} {ty : Nat → FieldType} {st0 : List Value} (hM : MK l y b n rm mc ms D dA ad R F G (.ref a0 :: As) K) (h0 : ad t = a0) (hG : GoodIn WB (wsV own idx C y (Cond.code y b n none :: WB))) (hc : CLS ci C T N ty) (hkd : kd t = (ci + 3, 0)) (hk : t ∈ R) (hd : y.cls = C ∧ y.cls ≠ "java/lang/invoke/MethodHandle" ∧ y.cls ≠ "java/lang/invoke/VarHandle" ∧ (parseMethodDescriptor y.desc).map (fun d => d.parameters.length) = some np) (hnp : As.length = np) (hrc : rm.cells = mc) (hrs : rm.slots = ms) (hRm : rm.frames + 1 ≤ Rm.frames ∧ 8 + (n + 11) + rm.locals ≤ Rm.locals) (hf : nc + mc ≤ Rm.cells ∧ ns + ms ≤ Rm.slots) (hst : st0 = As.reverse ++ .ref a0 :: st) (hcat : (st.map fun v => v.category).sum ≤ 8) (hdg : decode cc pc = .ok (.invokevirtual idx, 3))
    (kk : ∀ (ad' : Nat → Nat) (R' : List Nat) (F' : HF) (G' : HG), K ad' R' F' G' → JG (nc + mc) (ns + ms) p l e Rm s m args below meth c nL D (wlG dA ad' R' F' G') A Q (pc + 3) lv st) : JG nc ns p l e Rm s m args below meth c nL D (wlG dA ad R F G) A Q pc lv st0 := by
  intro H locs ls hP hD hS hl
  subst hst
  subst h0
  obtain ⟨q0, hq⟩ := List.getElem?_of_mem hk
  have hFc := AG_in hD hS hA
  refine va_callv (va_runV (As := As) (rest := st) ⟨X.1, X.2.1, X.2.2.1, X.2.2.2.1, X.2.2.2.2.1⟩ (hM H.size) (cwV np X.2.2.2.2.1 hG rfl hrc hrs hd hRm) ⟨PreG_blind, va_recv X.2.2.2.2.2.1 hP hc.1 ((wlG_get hq).trans (by rw [cellG_OB hkd])), fun U hU hW => ⟨rfl, by rw [hU], by rw [hU]; exact hP, va_K.moved hW.alike X.2.2.2.2.2.1, va_AO.moved hW.alike hO, hD.weaken (fun _ _ _ _ => trivial)⟩⟩ rfl hnp hl.1 rfl (lv_room hcat) hdg hf) hS (fun q _ h => hFc q h) hFc ?_
  intro u t' H1 locs1 ht hvm hw hB hz1 hk1 hS1
  exact kk u.1 u.2.1 u.2.2.1 u.2.2.2 hw H1 locs1 ls (by rw [← ht]; exact hB.1) ⟨hB.2.1, fun k q hk => hFc _ (hB.2.2 k q hk)⟩ hS1 hl
set_option maxRecDepth 100000 in
set_option maxHeartbeats 4000000 in
theorem k_X1_init {f a0 : Nat} (h0 : ad f = a0) (hk : FlK f) (hb : f ∈ R) (n1 : f + 1 ∉ R) (n2 : f + 2 ∉ R) (n3 : f + 3 ∉ R) (n4 : f + 4 ∉ R) (n5 : f + 5 ∉ R) (h : ∀ ad' F' G', Ch f (f + 5) ad ad' F F' G G' → FlI f ad' F' G' → K ad' (R ++ [f + 1] ++ [f + 2] ++ [f + 3] ++ [f + 4] ++ [f + 5]) F' G') : MK l yX1_init cX1_init 1 rm_fl 5 40 D dA ad R F G [.ref a0] K := by
  refine MK.of (own := RX1) (by decide) rfl (Nat.le_of_ble_eq_true rfl) ?_
  intro p e s m args below meth c A hA X hO hnm hr
  refine g_aload_n X 0 dX1_init_0 rfl rfl ?_
  refine m_objInit X z_101 (Nat.le_of_ble_eq_true rfl) (Nat.le_of_ble_eq_true rfl) dX1_init_1 ?_
  refine g_aload_n X 0 dX1_init_4 rfl rfl ?_
  refine g_bipush X (v := (nI 8)) dX1_init_5 (by decide) ?_
  refine m_newI X hA (f + 1) 8 rfl (by omega) hk.2.1 n1 (Nat.le_of_ble_eq_true rfl) (Nat.le_of_ble_eq_true rfl) dX1_init_7 (fun ad1 F1 e1 f1 => ?_)
  have a1 : ad1 (f) = a0 := (e1 _ (by omega)).trans h0
  refine m_putR X hnm (k := f) (j := 0) cl_X1 (by decide) rfl z_106 rfl rfl rfl rfl rfl hk.1 (in_push hb) a1 dX1_init_9 (fun G2 g2 => ?_)
  refine g_aload_n X 0 dX1_init_12 rfl rfl ?_
  refine g_bipush X (v := (nI 8)) dX1_init_13 (by decide) ?_
  refine m_newI X hA (f + 2) 8 rfl (by omega) hk.2.2.1 (nin_push n2 (by omega)) (Nat.le_of_ble_eq_true rfl) (Nat.le_of_ble_eq_true rfl) dX1_init_15 (fun ad3 F3 e3 f3 => ?_)
  have a3 : ad3 (f) = a0 := (e3 _ (by omega)).trans a1
  refine m_putR X hnm (k := f) (j := 1) cl_X1 (by decide) rfl z_107 rfl rfl rfl rfl rfl hk.1 (in_push (in_push hb)) a3 dX1_init_17 (fun G4 g4 => ?_)
  refine g_aload_n X 0 dX1_init_20 rfl rfl ?_
  refine g_bipush X (v := (nI 8)) dX1_init_21 (by decide) ?_
  refine m_newI X hA (f + 3) 8 rfl (by omega) hk.2.2.2.1 (nin_push (nin_push n3 (by omega)) (by omega)) (Nat.le_of_ble_eq_true rfl) (Nat.le_of_ble_eq_true rfl) dX1_init_23 (fun ad5 F5 e5 f5 => ?_)
  have a5 : ad5 (f) = a0 := (e5 _ (by omega)).trans a3
  refine m_putR X hnm (k := f) (j := 2) cl_X1 (by decide) rfl z_108 rfl rfl rfl rfl rfl hk.1 (in_push (in_push (in_push hb))) a5 dX1_init_25 (fun G6 g6 => ?_)
  refine g_aload_n X 0 dX1_init_28 rfl rfl ?_
  refine g_bipush X (v := (nI 8)) dX1_init_29 (by decide) ?_
  refine m_newI X hA (f + 4) 8 rfl (by omega) hk.2.2.2.2.1 (nin_push (nin_push (nin_push n4 (by omega)) (by omega)) (by omega)) (Nat.le_of_ble_eq_true rfl) (Nat.le_of_ble_eq_true rfl) dX1_init_31 (fun ad7 F7 e7 f7 => ?_)
  have a7 : ad7 (f) = a0 := (e7 _ (by omega)).trans a5
  refine m_putR X hnm (k := f) (j := 3) cl_X1 (by decide) rfl z_109 rfl rfl rfl rfl rfl hk.1 (in_push (in_push (in_push (in_push hb)))) a7 dX1_init_33 (fun G8 g8 => ?_)
  refine g_aload_n X 0 dX1_init_36 rfl rfl ?_
  refine g_bipush X (v := (nI 8)) dX1_init_37 (by decide) ?_
  refine m_newI X hA (f + 5) 8 rfl (by omega) hk.2.2.2.2.2 (nin_push (nin_push (nin_push (nin_push n5 (by omega)) (by omega)) (by omega)) (by omega)) (Nat.le_of_ble_eq_true rfl) (Nat.le_of_ble_eq_true rfl) dX1_init_39 (fun ad9 F9 e9 f9 => ?_)
  have a9 : ad9 (f) = a0 := (e9 _ (by omega)).trans a7
  refine m_putR X hnm (k := f) (j := 4) cl_X1 (by decide) rfl z_110 rfl rfl rfl rfl rfl hk.1 (in_push (in_push (in_push (in_push (in_push hb))))) a9 dX1_init_41 (fun G10 g10 => ?_)
  refine g_aload_n X 0 dX1_init_44 rfl rfl ?_
  refine m_callW X hO hA (np := 0) (t := f) (As := []) (st := []) (k_X1_clear (K := fun ad' R' F' G' => ad' = ad9 ∧ R' = R ++ [f + 1] ++ [f + 2] ++ [f + 3] ++ [f + 4] ++ [f + 5] ∧ G' = G10 ∧ (∀ k, k ≠ f → F' k = F9 k) ∧ F' f 5 = nI 0 ∧ F' f 6 = nI 0 ∧ F' f 7 = nI 5 ∧ F' f 8 = nI 12 ∧ F' f 9 = nI 1) a9 hk.1 (in_push (in_push (in_push (in_push (in_push hb))))) (fun F' q0 q1 q2 q3 q4 q5 => ⟨rfl, rfl, rfl, q0, q1, q2, q3, q4, q5⟩)) a9 (gV z_102 z_103 z_104 z_58 z_105) cl_X1 hk.1 (in_push (in_push (in_push (in_push (in_push hb))))) (by decide +kernel) rfl rfl rfl ⟨Nat.le_of_ble_eq_true rfl, Nat.le_of_ble_eq_true rfl⟩ ⟨Nat.le_of_ble_eq_true rfl, Nat.le_of_ble_eq_true rfl⟩ rfl (Nat.le_of_ble_eq_true rfl) dX1_init_45 ?_
  rintro ad11 R11 F11 G11 ⟨x1, x2, x3, q0, q1, q2, q3, q4, q5⟩
  rw [x1, x2, x3]
  refine m_vret X hr dX1_init_48 (h ad9 F11 G10 ?_ ?_)
  · exact ⟨by rw [e9 _ (by omega), e7 _ (by omega), e5 _ (by omega), e3 _ (by omega), e1 _ (by omega)], fun k hk => ⟨by rw [e9 _ (by omega), e7 _ (by omega), e5 _ (by omega), e3 _ (by omega), e1 _ (by omega)], by rw [q0 k (by omega), f9, hst_n _ _ (by omega), f7, hst_n _ _ (by omega), f5, hst_n _ _ (by omega), f3, hst_n _ _ (by omega), f1, hst_n _ _ (by omega)], by rw [g10, gup_n _ _ _ (by omega), g8, gup_n _ _ _ (by omega), g6, gup_n _ _ _ (by omega), g4, gup_n _ _ _ (by omega), g2, gup_n _ _ _ (by omega)]⟩⟩
  · refine ⟨q1, q2, q3, q4, q5, ?_, ?_, ?_, ?_, ?_⟩
    · rw [g10, gup_at, if_neg (by omega), g8, gup_at, if_neg (by omega), g6, gup_at, if_neg (by omega), g4, gup_at, if_neg (by omega), g2, gup_at, if_pos rfl, e9 _ (by omega), e7 _ (by omega), e5 _ (by omega), e3 _ (by omega)]
    · rw [g10, gup_at, if_neg (by omega), g8, gup_at, if_neg (by omega), g6, gup_at, if_neg (by omega), g4, gup_at, if_pos rfl, e9 _ (by omega), e7 _ (by omega), e5 _ (by omega)]
    · rw [g10, gup_at, if_neg (by omega), g8, gup_at, if_neg (by omega), g6, gup_at, if_pos rfl, e9 _ (by omega), e7 _ (by omega)]
    · rw [g10, gup_at, if_neg (by omega), g8, gup_at, if_pos rfl, e9 _ (by omega)]
    · rw [g10, gup_at, if_pos rfl]
set_option maxRecDepth 100000 in
set_option maxHeartbeats 4000000 in
theorem k_X2_init {n a0 fl : Nat} (h0 : ad n = a0) (hk : NtK n) (hb : n ∈ R) (n1 : n + 1 ∉ R) (n2 : n + 2 ∉ R) (n3 : n + 3 ∉ R) (n4 : n + 4 ∉ R) (h : ∀ ad' F' G', Ch n (n + 4) ad ad' F F' G G' → NtI n fl ad' F' G' → K ad' (R ++ [n + 1] ++ [n + 2] ++ [n + 3] ++ [n + 4]) F' G') : MK l yX2_init cX2_init 2 rm_nt 4 29 D dA ad R F G [.ref a0, .ref fl] K := by
  refine MK.of (own := RX2) (by decide) rfl (Nat.le_of_ble_eq_true rfl) ?_
  intro p e s m args below meth c A hA X hO hnm hr
  refine g_aload_n X 0 dX2_init_0 rfl rfl ?_
  refine m_objInit X z_142 (Nat.le_of_ble_eq_true rfl) (Nat.le_of_ble_eq_true rfl) dX2_init_1 ?_
  refine g_aload_n X 0 dX2_init_4 rfl rfl ?_
  refine g_iconst X (v := (nI 0)) dX2_init_5 (by decide) ?_
  refine m_putI X (k := n) (j := 2) cl_X2 (by decide) rfl z_167 rfl rfl rfl rfl hk.1 hb h0 dX2_init_6 (fun F1 f1 => ?_)
  refine g_aload_n X 0 dX2_init_9 rfl rfl ?_
  refine g_iconst X (v := (nI 0)) dX2_init_10 (by decide) ?_
  refine m_putI X (k := n) (j := 3) cl_X2 (by decide) rfl z_168 rfl rfl rfl rfl hk.1 hb h0 dX2_init_11 (fun F2 f2 => ?_)
  refine g_aload_n X 0 dX2_init_14 rfl rfl ?_
  refine g_iconst X (v := (-1 : Int32)) dX2_init_15 (by decide) ?_
  refine m_putI X (k := n) (j := 4) cl_X2 (by decide) rfl z_169 rfl rfl rfl rfl hk.1 hb h0 dX2_init_16 (fun F3 f3 => ?_)
  refine g_aload_n X 0 dX2_init_19 rfl rfl ?_
  refine g_iconst X (v := (nI 0)) dX2_init_20 (by decide) ?_
  refine m_putI X (k := n) (j := 5) cl_X2 (by decide) rfl z_170 rfl rfl rfl rfl hk.1 hb h0 dX2_init_21 (fun F4 f4 => ?_)
  refine g_aload_n X 0 dX2_init_24 rfl rfl ?_
  refine g_aload_n X 1 dX2_init_25 rfl rfl ?_
  refine m_putR X hnm (k := n) (j := 0) cl_X2 (by decide) rfl z_165 rfl rfl rfl rfl rfl hk.1 hb h0 dX2_init_26 (fun G5 g5 => ?_)
  refine g_aload_n X 0 dX2_init_29 rfl rfl ?_
  refine m_new X hA (n + 1) cl_X0 z_143 z_144 z_60 hk.2.1 n1 (by decide) (Nat.le_of_ble_eq_true rfl) (Nat.le_of_ble_eq_true rfl) dX2_init_30 (fun ad6 F6 G6 e6 f6 g6 => ?_)
  have a6 : ad6 n = a0 := (e6 _ (by omega)).trans h0
  refine g_dup X dX2_init_33 rfl ?_
  refine g_aload_n X 1 dX2_init_34 rfl rfl ?_
  refine m_callK X hO hA (np := 1) (t := ad6 (n + 1)) (As := [.ref fl]) (st := [.ref (ad6 (n + 1)), .ref a0]) (k_X0_init (b := n + 1) (K := fun ad' R' F' G' => R' = R ++ [n + 1] ++ [n + 2] ++ [n + 3] ++ [n + 4] ∧ Ch (n + 1) (n + 4) ad6 ad' F6 F' G6 G' ∧ BrI (n + 1) fl ad' F' G') rfl hk.2 in_last (nin_push n2 (by omega)) (nin_push n3 (by omega)) (nin_push n4 (by omega)) (fun ad' F' G' x y => ⟨rfl, x, y⟩)) z_147 z_60 z_145 z_146 rfl (by decide +kernel) rfl rfl rfl ⟨Nat.le_of_ble_eq_true rfl, Nat.le_of_ble_eq_true rfl⟩ ⟨Nat.le_of_ble_eq_true rfl, Nat.le_of_ble_eq_true rfl⟩ rfl (Nat.le_of_ble_eq_true rfl) dX2_init_35 ?_
  rintro ad7 _ F7 G7 ⟨rfl, c7, b7⟩
  have a7 : ad7 n = a0 := ((c7.2 n (by omega)).1).trans a6
  rw [← c7.1]
  refine m_putR X hnm (k := n) (j := 1) cl_X2 (by decide) rfl z_166 rfl rfl rfl rfl rfl hk.1 (in_push (in_push (in_push (in_push hb)))) a7 dX2_init_38 (fun G8 g8 => ?_)
  refine m_vret X hr dX2_init_41 (h ad7 F7 G8 ?_ ?_)
  · refine ⟨a7.trans h0.symm, fun k hk => ⟨by rw [(c7.2 k (by omega)).1, e6 _ (by omega)], by rw [(c7.2 k (by omega)).2.1, f6, hst_n _ _ (by omega), f4, hup_n _ _ _ (by omega), f3, hup_n _ _ _ (by omega), f2, hup_n _ _ _ (by omega), f1, hup_n _ _ _ (by omega)], by rw [g8, gup_n _ _ _ (by omega), (c7.2 k (by omega)).2.2, g6, gst_n _ _ (by omega), g5, gup_n _ _ _ (by omega)]⟩⟩
  · have yn : F7 n = F4 n := by rw [(c7.2 n (by omega)).2.1, f6, hst_n _ _ (by omega)]
    refine ⟨?_, ?_, ?_, ?_, ?_, ?_, b7.kept (fun k x y => ⟨rfl, rfl, by rw [g8, gup_n _ _ _ (by omega)]⟩)⟩
    · rw [yn, f4, hup_at, if_neg (by omega), f3, hup_at, if_neg (by omega), f2, hup_at, if_neg (by omega), f1, hup_at, if_pos rfl]
    · rw [yn, f4, hup_at, if_neg (by omega), f3, hup_at, if_neg (by omega), f2, hup_at, if_pos rfl]
    · rw [yn, f4, hup_at, if_neg (by omega), f3, hup_at, if_pos rfl]
    · rw [yn, f4, hup_at, if_pos rfl]
    · rw [g8, gup_at, if_neg (by omega), (c7.2 n (by omega)).2.2, g6, gst_n _ _ (by omega), g5, gup_at, if_pos rfl]
    · rw [g8, gup_at, if_pos rfl]
set_option maxRecDepth 100000 in
set_option maxHeartbeats 4000000 in
theorem k_X3_init {a0 : Nat} (h0 : ad 1 = a0) (hb : 1 ∈ R) (n2 : 2 ∉ R) (n3 : 3 ∉ R) (h : ∀ ad' F' G', Ch 1 3 ad ad' F F' G G' → ScI ad' F' G' → K ad' (R ++ [2] ++ [3]) F' G') : MK l yX3_init cX3_init 1 rm_sc 2 204 D dA ad R F G [.ref a0] K := by
  refine MK.of (own := RX3) (by decide) rfl (Nat.le_of_ble_eq_true rfl) ?_
  intro p e s m args below meth c A hA X hO hnm hr
  refine g_aload_n X 0 dX3_init_0 rfl rfl ?_
  refine m_objInit X z_83 (Nat.le_of_ble_eq_true rfl) (Nat.le_of_ble_eq_true rfl) dX3_init_1 ?_
  refine g_aload_n X 0 dX3_init_4 rfl rfl ?_
  refine g_sipush X (v := (nI 200)) dX3_init_5 (by decide) ?_
  refine m_newC X hA (2) 200 rfl (by omega) rfl n2 (Nat.le_of_ble_eq_true rfl) (Nat.le_of_ble_eq_true rfl) dX3_init_8 (fun ad1 F1 e1 f1 => ?_)
  have a1 : ad1 (1) = a0 := (e1 _ (by omega)).trans h0
  refine m_putR X hnm (k := 1) (j := 0) cl_X3 (by decide) rfl z_84 rfl rfl rfl rfl rfl rfl (in_push hb) a1 dX3_init_10 (fun G2 g2 => ?_)
  refine g_aload_n X 0 dX3_init_13 rfl rfl ?_
  refine g_iconst X (v := (nI 4)) dX3_init_14 (by decide) ?_
  refine m_newI X hA (3) 4 rfl (by omega) rfl (nin_push n3 (by omega)) (Nat.le_of_ble_eq_true rfl) (Nat.le_of_ble_eq_true rfl) dX3_init_15 (fun ad3 F3 e3 f3 => ?_)
  have a3 : ad3 (1) = a0 := (e3 _ (by omega)).trans a1
  refine m_putR X hnm (k := 1) (j := 1) cl_X3 (by decide) rfl z_85 rfl rfl rfl rfl rfl rfl (in_push (in_push hb)) a3 dX3_init_17 (fun G4 g4 => ?_)
  refine g_aload_n X 0 dX3_init_20 rfl rfl ?_
  refine g_iconst X (v := (nI 0)) dX3_init_21 (by decide) ?_
  refine m_putI X (k := 1) (j := 2) cl_X3 (by decide) rfl z_86 rfl rfl rfl rfl rfl (in_push (in_push hb)) a3 dX3_init_22 (fun F5 f5 => ?_)
  refine m_vret X hr dX3_init_25 (h ad3 F5 G4 ?_ ?_)
  · refine ⟨by rw [e3 _ (by omega), e1 _ (by omega)], fun k hk => ⟨by rw [e3 _ (by omega), e1 _ (by omega)], by rw [f5, hup_n _ _ _ (by omega), f3, hst_n _ _ (by omega), f1, hst_n _ _ (by omega)], by rw [g4, gup_n _ _ _ (by omega), g2, gup_n _ _ _ (by omega)]⟩⟩
  · refine ⟨by rw [f5, hup_at, if_pos rfl], ?_, ?_⟩
    · rw [g4, gup_at, if_neg (by omega), g2, gup_at, if_pos rfl, e3 _ (by omega)]
    · rw [g4, gup_at, if_pos rfl]
set_option maxRecDepth 100000 in
set_option maxHeartbeats 4000000 in
theorem k_X4_init {a0 fl : Nat} (h0 : ad 79 = a0) (hb : 79 ∈ R) (n84 : 84 ∉ R) (n87 : 87 ∉ R) (n80 : 80 ∉ R) (n81 : 81 ∉ R) (n82 : 82 ∉ R) (n83 : 83 ∉ R) (h : ∀ ad' F' G', Ch 79 87 ad ad' F F' G G' → SeI fl ad' F' G' → K ad' (R ++ [84] ++ [87] ++ [80] ++ [81] ++ [82] ++ [83]) F' G') : MK l yX4_init cX4_init 2 rm_se 6 293 D dA ad R F G [.ref a0, .ref fl] K := by
  refine MK.of (own := RX4) (by decide) rfl (Nat.le_of_ble_eq_true rfl) ?_
  intro p e s m args below meth c A hA X hO hnm hr
  refine g_aload_n X 0 dX4_init_0 rfl rfl ?_
  refine m_objInit X z_210 (Nat.le_of_ble_eq_true rfl) (Nat.le_of_ble_eq_true rfl) dX4_init_1 ?_
  refine g_aload_n X 0 dX4_init_4 rfl rfl ?_
  refine g_bipush X (v := (nI 8)) dX4_init_5 (by decide) ?_
  refine m_newI X hA (84) 8 rfl (by omega) rfl n84 (Nat.le_of_ble_eq_true rfl) (Nat.le_of_ble_eq_true rfl) dX4_init_7 (fun ad1 F1 e1 f1 => ?_)
  have a1 : ad1 (79) = a0 := (e1 _ (by omega)).trans h0
  refine m_putR X hnm (k := 79) (j := 2) cl_X4 (by decide) rfl z_215 rfl rfl rfl rfl rfl rfl (in_push hb) a1 dX4_init_9 (fun G2 g2 => ?_)
  refine g_aload_n X 0 dX4_init_12 rfl rfl ?_
  refine g_sipush X (v := (nI 256)) dX4_init_13 (by decide) ?_
  refine m_newI X hA (87) 256 rfl (by omega) rfl (nin_push n87 (by omega)) (Nat.le_of_ble_eq_true rfl) (Nat.le_of_ble_eq_true rfl) dX4_init_16 (fun ad3 F3 e3 f3 => ?_)
  have a3 : ad3 (79) = a0 := (e3 _ (by omega)).trans a1
  refine m_putR X hnm (k := 79) (j := 3) cl_X4 (by decide) rfl z_216 rfl rfl rfl rfl rfl rfl (in_push (in_push hb)) a3 dX4_init_18 (fun G4 g4 => ?_)
  refine g_aload_n X 0 dX4_init_21 rfl rfl ?_
  refine g_bipush X (v := (nI 9)) dX4_init_22 (by decide) ?_
  refine m_putI X (k := 79) (j := 4) cl_X4 (by decide) rfl z_217 rfl rfl rfl rfl rfl (in_push (in_push hb)) a3 dX4_init_24 (fun F5 f5 => ?_)
  refine g_aload_n X 0 dX4_init_27 rfl rfl ?_
  refine g_iconst X (v := (-1 : Int32)) dX4_init_28 (by decide) ?_
  refine m_putI X (k := 79) (j := 5) cl_X4 (by decide) rfl z_218 rfl rfl rfl rfl rfl (in_push (in_push hb)) a3 dX4_init_29 (fun F6 f6 => ?_)
  refine g_aload_n X 0 dX4_init_32 rfl rfl ?_
  refine g_aload_n X 1 dX4_init_33 rfl rfl ?_
  refine m_putR X hnm (k := 79) (j := 0) cl_X4 (by decide) rfl z_213 rfl rfl rfl rfl rfl rfl (in_push (in_push hb)) a3 dX4_init_34 (fun G7 g7 => ?_)
  refine g_aload_n X 0 dX4_init_37 rfl rfl ?_
  refine m_new X hA 80 cl_X0 z_211 z_144 z_60 rfl (nin_push (nin_push n80 (by omega)) (by omega)) (by decide) (Nat.le_of_ble_eq_true rfl) (Nat.le_of_ble_eq_true rfl) dX4_init_38 (fun ad8 F8 G8 e8 f8 g8 => ?_)
  have a8 : ad8 79 = a0 := (e8 _ (by omega)).trans a3
  refine g_dup X dX4_init_41 rfl ?_
  refine g_aload_n X 1 dX4_init_42 rfl rfl ?_
  refine m_callK X hO hA (np := 1) (t := ad8 80) (As := [.ref fl]) (st := [.ref (ad8 80), .ref a0]) (k_X0_init (b := 80) (K := fun ad' R' F' G' => R' = R ++ [84] ++ [87] ++ [80] ++ [81] ++ [82] ++ [83] ∧ Ch 80 83 ad8 ad' F8 F' G8 G' ∧ BrI 80 fl ad' F' G') rfl ⟨rfl, rfl, rfl, rfl⟩ in_last (nin_push (nin_push (nin_push n81 (by omega)) (by omega)) (by omega)) (nin_push (nin_push (nin_push n82 (by omega)) (by omega)) (by omega)) (nin_push (nin_push (nin_push n83 (by omega)) (by omega)) (by omega)) (fun ad' F' G' x y => ⟨rfl, x, y⟩)) z_147 z_60 z_212 z_146 rfl (by decide +kernel) rfl rfl rfl ⟨Nat.le_of_ble_eq_true rfl, Nat.le_of_ble_eq_true rfl⟩ ⟨Nat.le_of_ble_eq_true rfl, Nat.le_of_ble_eq_true rfl⟩ rfl (Nat.le_of_ble_eq_true rfl) dX4_init_43 ?_
  rintro ad9 _ F9 G9 ⟨rfl, c9, b9⟩
  have a9 : ad9 79 = a0 := ((c9.2 79 (by omega)).1).trans a8
  rw [← c9.1]
  refine m_putR X hnm (k := 79) (j := 1) cl_X4 (by decide) rfl z_214 rfl rfl rfl rfl rfl rfl (in_push (in_push (in_push (in_push (in_push (in_push hb)))))) a9 dX4_init_46 (fun G10 g10 => ?_)
  refine m_vret X hr dX4_init_49 (h ad9 F9 G10 ?_ ?_)
  · refine ⟨a9.trans h0.symm, fun k hk => ⟨by rw [(c9.2 k (by omega)).1, e8 _ (by omega), e3 _ (by omega), e1 _ (by omega)], by rw [(c9.2 k (by omega)).2.1, f8, hst_n _ _ (by omega), f6, hup_n _ _ _ (by omega), f5, hup_n _ _ _ (by omega), f3, hst_n _ _ (by omega), f1, hst_n _ _ (by omega)], by rw [g10, gup_n _ _ _ (by omega), (c9.2 k (by omega)).2.2, g8, gst_n _ _ (by omega), g7, gup_n _ _ _ (by omega), g4, gup_n _ _ _ (by omega), g2, gup_n _ _ _ (by omega)]⟩⟩
  · have yn : F9 79 = F6 79 := by rw [(c9.2 79 (by omega)).2.1, f8, hst_n _ _ (by omega)]
    refine ⟨?_, ?_, ?_, ?_, ?_, ?_, b9.kept (fun k x y => ⟨rfl, rfl, by rw [g10, gup_n _ _ _ (by omega)]⟩)⟩
    · rw [yn, f6, hup_at, if_neg (by omega), f5, hup_at, if_pos rfl]
    · rw [yn, f6, hup_at, if_pos rfl]
    · rw [g10, gup_at, if_neg (by omega), (c9.2 79 (by omega)).2.2, g8, gst_n _ _ (by omega), g7, gup_at, if_pos rfl]
    · rw [g10, gup_at, if_pos rfl]
    · rw [g10, gup_at, if_neg (by omega), (c9.2 79 (by omega)).2.2, g8, gst_n _ _ (by omega), g7, gup_at, if_neg (by omega), g4, gup_at, if_neg (by omega), g2, gup_at, if_pos rfl, (c9.2 84 (by omega)).1, e8 _ (by omega), e3 _ (by omega)]
    · rw [g10, gup_at, if_neg (by omega), (c9.2 79 (by omega)).2.2, g8, gst_n _ _ (by omega), g7, gup_at, if_neg (by omega), g4, gup_at, if_pos rfl, (c9.2 87 (by omega)).1, e8 _ (by omega)]
end Ctors
