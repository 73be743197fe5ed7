theorem iw_X0 : ∀ w ∈ u_ws RX0 TX0 5, w ∈ WB := by
  intro w hw
  obtain ⟨k, hk, rfl⟩ := List.mem_map.mp hw
  have hk := List.mem_range.mp hk
  rcases (show k = 0 ∨ k = 1 ∨ k = 2 ∨ k = 3 ∨ k = 4 by omega) with rfl | rfl | rfl | rfl | rfl
  · exact inWB 150 (by decide +kernel) (by decide +kernel)
  · exact inWB 152 (by decide +kernel) (by decide +kernel)
  · exact inWB 154 (by decide +kernel) (by decide +kernel)
  · exact inWB 156 (by decide +kernel) (by decide +kernel)
  · exact inWB 158 (by decide +kernel) (by decide +kernel)
theorem cl_X0 : CLS 0 RX0 TX0 5 tyX0 := ⟨rfl, iw_X0, rfl, tyX0_ok, nmX0⟩
theorem iw_X1 : ∀ w ∈ u_ws RX1 TX1 10, w ∈ WB := by
  intro w hw
  obtain ⟨k, hk, rfl⟩ := List.mem_map.mp hw
  have hk := List.mem_range.mp hk
  rcases (show k = 0 ∨ k = 1 ∨ k = 2 ∨ k = 3 ∨ k = 4 ∨ k = 5 ∨ k = 6 ∨ k = 7 ∨ k = 8 ∨ k = 9 by omega) with rfl | rfl | rfl | rfl | rfl | rfl | rfl | rfl | rfl | rfl
  · exact inWB 112 (by decide +kernel) (by decide +kernel)
  · exact inWB 114 (by decide +kernel) (by decide +kernel)
  · exact inWB 116 (by decide +kernel) (by decide +kernel)
  · exact inWB 118 (by decide +kernel) (by decide +kernel)
  · exact inWB 120 (by decide +kernel) (by decide +kernel)
  · exact inWB 122 (by decide +kernel) (by decide +kernel)
  · exact inWB 124 (by decide +kernel) (by decide +kernel)
  · exact inWB 126 (by decide +kernel) (by decide +kernel)
  · exact inWB 128 (by decide +kernel) (by decide +kernel)
  · exact inWB 130 (by decide +kernel) (by decide +kernel)
theorem cl_X1 : CLS 1 RX1 TX1 10 tyX1 := ⟨rfl, iw_X1, rfl, tyX1_ok, nmX1⟩
theorem iw_X2 : ∀ w ∈ u_ws RX2 TX2 6, w ∈ WB := by
  intro w hw
  obtain ⟨k, hk, rfl⟩ := List.mem_map.mp hw
  have hk := List.mem_range.mp hk
  rcases (show k = 0 ∨ k = 1 ∨ k = 2 ∨ k = 3 ∨ k = 4 ∨ k = 5 by omega) with rfl | rfl | rfl | rfl | rfl | rfl
  · exact inWB 167 (by decide +kernel) (by decide +kernel)
  · exact inWB 169 (by decide +kernel) (by decide +kernel)
  · exact inWB 171 (by decide +kernel) (by decide +kernel)
  · exact inWB 173 (by decide +kernel) (by decide +kernel)
  · exact inWB 175 (by decide +kernel) (by decide +kernel)
  · exact inWB 177 (by decide +kernel) (by decide +kernel)
theorem cl_X2 : CLS 2 RX2 TX2 6 tyX2 := ⟨rfl, iw_X2, rfl, tyX2_ok, nmX2⟩
theorem iw_X3 : ∀ w ∈ u_ws RX3 TX3 3, w ∈ WB := by
  intro w hw
  obtain ⟨k, hk, rfl⟩ := List.mem_map.mp hw
  have hk := List.mem_range.mp hk
  rcases (show k = 0 ∨ k = 1 ∨ k = 2 by omega) with rfl | rfl | rfl
  · exact inWB 83 (by decide +kernel) (by decide +kernel)
  · exact inWB 85 (by decide +kernel) (by decide +kernel)
  · exact inWB 87 (by decide +kernel) (by decide +kernel)
theorem cl_X3 : CLS 3 RX3 TX3 3 tyX3 := ⟨rfl, iw_X3, rfl, tyX3_ok, nmX3⟩
theorem iw_X4 : ∀ w ∈ u_ws RX4 TX4 5, w ∈ WB := by
  intro w hw
  obtain ⟨k, hk, rfl⟩ := List.mem_map.mp hw
  have hk := List.mem_range.mp hk
  rcases (show k = 0 ∨ k = 1 ∨ k = 2 ∨ k = 3 ∨ k = 4 by omega) with rfl | rfl | rfl | rfl | rfl
  · exact inWB 214 (by decide +kernel) (by decide +kernel)
  · exact inWB 216 (by decide +kernel) (by decide +kernel)
  · exact inWB 218 (by decide +kernel) (by decide +kernel)
  · exact inWB 220 (by decide +kernel) (by decide +kernel)
  · exact inWB 222 (by decide +kernel) (by decide +kernel)
theorem cl_X4 : CLS 4 RX4 TX4 5 tyX4 := ⟨rfl, iw_X4, rfl, tyX4_ok, nmX4⟩
theorem iw_X5 : ∀ w ∈ u_ws RX5 TX5 2, w ∈ WB := by
  intro w hw
  obtain ⟨k, hk, rfl⟩ := List.mem_map.mp hw
  have hk := List.mem_range.mp hk
  rcases (show k = 0 ∨ k = 1 by omega) with rfl | rfl
  · exact inWB 196 (by decide +kernel) (by decide +kernel)
  · exact inWB 198 (by decide +kernel) (by decide +kernel)
theorem cl_X5 : CLS 5 RX5 TX5 2 tyX5 := ⟨rfl, iw_X5, rfl, tyX5_ok, nmX5⟩
theorem iw_X6 : ∀ w ∈ u_ws RX6 TX6 11, w ∈ WB := by
  intro w hw
  obtain ⟨k, hk, rfl⟩ := List.mem_map.mp hw
  have hk := List.mem_range.mp hk
  rcases (show k = 0 ∨ k = 1 ∨ k = 2 ∨ k = 3 ∨ k = 4 ∨ k = 5 ∨ k = 6 ∨ k = 7 ∨ k = 8 ∨ k = 9 ∨ k = 10 by omega) with rfl | rfl | rfl | rfl | rfl | rfl | rfl | rfl | rfl | rfl | rfl
  · exact inWB 340 (by decide +kernel) (by decide +kernel)
  · exact inWB 342 (by decide +kernel) (by decide +kernel)
  · exact inWB 344 (by decide +kernel) (by decide +kernel)
  · exact inWB 346 (by decide +kernel) (by decide +kernel)
  · exact inWB 348 (by decide +kernel) (by decide +kernel)
  · exact inWB 350 (by decide +kernel) (by decide +kernel)
  · exact inWB 352 (by decide +kernel) (by decide +kernel)
  · exact inWB 354 (by decide +kernel) (by decide +kernel)
  · exact inWB 356 (by decide +kernel) (by decide +kernel)
  · exact inWB 358 (by decide +kernel) (by decide +kernel)
  · exact inWB 360 (by decide +kernel) (by decide +kernel)
theorem cl_X6 : CLS 6 RX6 TX6 11 tyX6 := ⟨rfl, iw_X6, rfl, tyX6_ok, nmX6⟩
theorem iw_X7 : ∀ w ∈ u_ws RX7 TX7 33, w ∈ WB := by
  intro w hw
  obtain ⟨k, hk, rfl⟩ := List.mem_map.mp hw
  have hk := List.mem_range.mp hk
  rcases (show k = 0 ∨ k = 1 ∨ k = 2 ∨ k = 3 ∨ k = 4 ∨ k = 5 ∨ k = 6 ∨ k = 7 ∨ k = 8 ∨ k = 9 ∨ k = 10 ∨ k = 11 ∨ k = 12 ∨ k = 13 ∨ k = 14 ∨ k = 15 ∨ k = 16 ∨ k = 17 ∨ k = 18 ∨ k = 19 ∨ k = 20 ∨ k = 21 ∨ k = 22 ∨ k = 23 ∨ k = 24 ∨ k = 25 ∨ k = 26 ∨ k = 27 ∨ k = 28 ∨ k = 29 ∨ k = 30 ∨ k = 31 ∨ k = 32 by omega) with rfl | rfl | rfl | rfl | rfl | rfl | rfl | rfl | rfl | rfl | rfl | rfl | rfl | rfl | rfl | rfl | rfl | rfl | rfl | rfl | rfl | rfl | rfl | rfl | rfl | rfl | rfl | rfl | rfl | rfl | rfl | rfl | rfl
  · exact inWB 847 (by decide +kernel) (by decide +kernel)
  · exact inWB 849 (by decide +kernel) (by decide +kernel)
  · exact inWB 851 (by decide +kernel) (by decide +kernel)
  · exact inWB 853 (by decide +kernel) (by decide +kernel)
  · exact inWB 855 (by decide +kernel) (by decide +kernel)
  · exact inWB 857 (by decide +kernel) (by decide +kernel)
  · exact inWB 859 (by decide +kernel) (by decide +kernel)
  · exact inWB 861 (by decide +kernel) (by decide +kernel)
  · exact inWB 863 (by decide +kernel) (by decide +kernel)
  · exact inWB 865 (by decide +kernel) (by decide +kernel)
  · exact inWB 867 (by decide +kernel) (by decide +kernel)
  · exact inWB 869 (by decide +kernel) (by decide +kernel)
  · exact inWB 871 (by decide +kernel) (by decide +kernel)
  · exact inWB 873 (by decide +kernel) (by decide +kernel)
  · exact inWB 875 (by decide +kernel) (by decide +kernel)
  · exact inWB 877 (by decide +kernel) (by decide +kernel)
  · exact inWB 879 (by decide +kernel) (by decide +kernel)
  · exact inWB 881 (by decide +kernel) (by decide +kernel)
  · exact inWB 883 (by decide +kernel) (by decide +kernel)
  · exact inWB 885 (by decide +kernel) (by decide +kernel)
  · exact inWB 887 (by decide +kernel) (by decide +kernel)
  · exact inWB 889 (by decide +kernel) (by decide +kernel)
  · exact inWB 891 (by decide +kernel) (by decide +kernel)
  · exact inWB 893 (by decide +kernel) (by decide +kernel)
  · exact inWB 895 (by decide +kernel) (by decide +kernel)
  · exact inWB 897 (by decide +kernel) (by decide +kernel)
  · exact inWB 899 (by decide +kernel) (by decide +kernel)
  · exact inWB 901 (by decide +kernel) (by decide +kernel)
  · exact inWB 903 (by decide +kernel) (by decide +kernel)
  · exact inWB 905 (by decide +kernel) (by decide +kernel)
  · exact inWB 907 (by decide +kernel) (by decide +kernel)
  · exact inWB 909 (by decide +kernel) (by decide +kernel)
  · exact inWB 911 (by decide +kernel) (by decide +kernel)
theorem cl_X7 : CLS 7 RX7 TX7 33 tyX7 := ⟨rfl, iw_X7, rfl, tyX7_ok, nmX7⟩
def Fl (R : List Nat) (f : Nat) : Prop := OB R f 1 ∧ IA R (f + 1) 8 ∧ IA R (f + 2) 8 ∧ IA R (f + 3) 8 ∧ IA R (f + 4) 8 ∧ IA R (f + 5) 8
def Br (R : List Nat) (b : Nat) : Prop := OB R b 0 ∧ IA R (b + 1) 8 ∧ IA R (b + 2) 8 ∧ IA R (b + 3) 8 ∧ Fl R 4
def Nt (R : List Nat) (n : Nat) : Prop := OB R n 2 ∧ Br R (n + 1)
def ntL : List Nat := [16, 27, 32, 37, 42, 47, 52, 57, 62, 69, 74]
def Sc (R : List Nat) : Prop := OB R 1 3 ∧ CA R 2 200 ∧ IA R 3 4
def Sh (R : List Nat) (s n : Nat) : Prop := OB R s 5 ∧ NA R (s + 1) n ∧ ∀ r, r ∈ ntL → Nt R r
def Se (R : List Nat) : Prop := OB R 79 4 ∧ Br R 80 ∧ IA R 84 8
def BBr (R : List Nat) : Prop := OB R 0 6 ∧ Sc R ∧ Fl R 4 ∧ Fl R 10 ∧ Nt R 16 ∧ Br R 21 ∧ Sh R 25 8 ∧ Sh R 67 2 ∧ Se R ∧ IA R 85 6 ∧ IA R 86 6
def Md (R : List Nat) : Prop := OB R 100 7 ∧ IA R 101 200 ∧ IA R 103 4 ∧ IA R 108 32 ∧ IA R 109 8 ∧ IA R 114 32 ∧ IA R 116 8 ∧ IA R 120 21 ∧ IA R 121 21 ∧ IA R 122 168 ∧ IA R 124 42 ∧ IA R 126 12 ∧ IA R 128 8 ∧ IA R 129 8 ∧ IA R 131 21 ∧ IA R 132 9
theorem nt_lt {r : Nat} (h : r ∈ ntL) : r < 2 ^ 31 := by
  have : r ∈ ntL → r < 2 ^ 31 := by simp only [ntL, List.mem_cons, List.not_mem_nil, or_false]; omega
  exact this h
theorem nb0 : narrow .boolean (.int 0) = .int 0 := rfl
theorem nb1 : narrow .boolean (.int 1) = .int 1 := rfl
theorem nbz {v : Int32} (h : v = 0 ∨ v = 1) : narrow .boolean (.int v) = .int v := by rcases h with rfl | rfl <;> rfl
theorem fbz {v : Int32} (h : v = 0 ∨ v = 1) : fits .boolean (.int v) = true := by rcases h with rfl | rfl <;> rfl
theorem sw_out {x : Int32} (n : Nat) (hn : n < 2 ^ 31) (h : ∀ k : Nat, k ≤ n → ¬ x = nI k) : x.toInt < 0 ∨ (n : Int) < x.toInt := by
  by_cases h0 : x.toInt < 0
  · exact Or.inl h0
  · right
    have h1 : ¬ x < 0 := fun q => h0 (by rw [Int32.lt_iff_toInt_lt] at q; exact q)
    obtain ⟨j, hj, rfl⟩ := nI_of h1
    rw [nI_toInt hj]
    rcases Nat.lt_or_ge n j with q | q
    · exact_mod_cast q
    · exact absurd rfl (h j q)
section FR
variable {p : Program} {l : Launch} {e : Env} {Rm : Room} {s : State} {m : MethodId} {args : Array Value} {below : List Frame} {meth : Method} {c : Code} {nL : Nat} {D : va_G} {dA : Nat → ClassId} {ad : Nat → Nat} {R : List Nat} {A : Nat → Prop} {Q : State → Prop} {F : HF} {pc : Nat} {lv : List (Nat × Value)} {st : List Value} {cc : ByteArray}
theorem fg_X6_10 (X : Cx p s m args meth c cc nL RX6 D dA) (hk : OB R 0 6) (hdg : decode cc pc = .ok (.getfield 10, 3)) (kk : J p l e Rm s m args below meth c nL D dA ad R A Q F (pc + 3) lv (.ref (ad (1)) :: st)) : J p l e Rm s m args below meth c nL D dA ad R A Q F pc lv (.ref (ad 0) :: st) := r_getR (j := 0) (k := 0) X cl_X6 (by decide) rfl w_329 rfl rfl hk hdg kk
theorem fg_X6_19 (X : Cx p s m args meth c cc nL RX6 D dA) (hk : OB R 0 6) (hdg : decode cc pc = .ok (.getfield 19, 3)) (kk : J p l e Rm s m args below meth c nL D dA ad R A Q F (pc + 3) lv (.ref (ad (4)) :: st)) : J p l e Rm s m args below meth c nL D dA ad R A Q F pc lv (.ref (ad 0) :: st) := r_getR (j := 1) (k := 0) X cl_X6 (by decide) rfl w_330 rfl rfl hk hdg kk
theorem fg_X6_23 (X : Cx p s m args meth c cc nL RX6 D dA) (hk : OB R 0 6) (hdg : decode cc pc = .ok (.getfield 23, 3)) (kk : J p l e Rm s m args below meth c nL D dA ad R A Q F (pc + 3) lv (.ref (ad (10)) :: st)) : J p l e Rm s m args below meth c nL D dA ad R A Q F pc lv (.ref (ad 0) :: st) := r_getR (j := 2) (k := 0) X cl_X6 (by decide) rfl w_331 rfl rfl hk hdg kk
theorem fg_X6_31 (X : Cx p s m args meth c cc nL RX6 D dA) (hk : OB R 0 6) (hdg : decode cc pc = .ok (.getfield 31, 3)) (kk : J p l e Rm s m args below meth c nL D dA ad R A Q F (pc + 3) lv (.ref (ad (16)) :: st)) : J p l e Rm s m args below meth c nL D dA ad R A Q F pc lv (.ref (ad 0) :: st) := r_getR (j := 3) (k := 0) X cl_X6 (by decide) rfl w_332 rfl rfl hk hdg kk
theorem fg_X6_38 (X : Cx p s m args meth c cc nL RX6 D dA) (hk : OB R 0 6) (hdg : decode cc pc = .ok (.getfield 38, 3)) (kk : J p l e Rm s m args below meth c nL D dA ad R A Q F (pc + 3) lv (.ref (ad (21)) :: st)) : J p l e Rm s m args below meth c nL D dA ad R A Q F pc lv (.ref (ad 0) :: st) := r_getR (j := 4) (k := 0) X cl_X6 (by decide) rfl w_333 rfl rfl hk hdg kk
theorem fg_X6_47 (X : Cx p s m args meth c cc nL RX6 D dA) (hk : OB R 0 6) (hdg : decode cc pc = .ok (.getfield 47, 3)) (kk : J p l e Rm s m args below meth c nL D dA ad R A Q F (pc + 3) lv (.ref (ad (25)) :: st)) : J p l e Rm s m args below meth c nL D dA ad R A Q F pc lv (.ref (ad 0) :: st) := r_getR (j := 5) (k := 0) X cl_X6 (by decide) rfl w_334 rfl rfl hk hdg kk
theorem fg_X6_51 (X : Cx p s m args meth c cc nL RX6 D dA) (hk : OB R 0 6) (hdg : decode cc pc = .ok (.getfield 51, 3)) (kk : J p l e Rm s m args below meth c nL D dA ad R A Q F (pc + 3) lv (.ref (ad (67)) :: st)) : J p l e Rm s m args below meth c nL D dA ad R A Q F pc lv (.ref (ad 0) :: st) := r_getR (j := 6) (k := 0) X cl_X6 (by decide) rfl w_335 rfl rfl hk hdg kk
theorem fg_X6_57 (X : Cx p s m args meth c cc nL RX6 D dA) (hk : OB R 0 6) (hdg : decode cc pc = .ok (.getfield 57, 3)) (kk : J p l e Rm s m args below meth c nL D dA ad R A Q F (pc + 3) lv (.ref (ad (79)) :: st)) : J p l e Rm s m args below meth c nL D dA ad R A Q F pc lv (.ref (ad 0) :: st) := r_getR (j := 7) (k := 0) X cl_X6 (by decide) rfl w_336 rfl rfl hk hdg kk
theorem fg_X6_61 (X : Cx p s m args meth c cc nL RX6 D dA) (hk : OB R 0 6) (hdg : decode cc pc = .ok (.getfield 61, 3)) (kk : J p l e Rm s m args below meth c nL D dA ad R A Q F (pc + 3) lv (.ref (ad (85)) :: st)) : J p l e Rm s m args below meth c nL D dA ad R A Q F pc lv (.ref (ad 0) :: st) := r_getR (j := 8) (k := 0) X cl_X6 (by decide) rfl w_337 rfl rfl hk hdg kk
theorem fg_X6_65 (X : Cx p s m args meth c cc nL RX6 D dA) (hk : OB R 0 6) (hdg : decode cc pc = .ok (.getfield 65, 3)) (kk : J p l e Rm s m args below meth c nL D dA ad R A Q F (pc + 3) lv (.ref (ad (86)) :: st)) : J p l e Rm s m args below meth c nL D dA ad R A Q F pc lv (.ref (ad 0) :: st) := r_getR (j := 9) (k := 0) X cl_X6 (by decide) rfl w_338 rfl rfl hk hdg kk
theorem fg_X6_68 (X : Cx p s m args meth c cc nL RX6 D dA) (hk : OB R 0 6) (hdg : decode cc pc = .ok (.getfield 68, 3)) (kk : J p l e Rm s m args below meth c nL D dA ad R A Q F (pc + 3) lv (.int (F 0 10) :: st)) : J p l e Rm s m args below meth c nL D dA ad R A Q F pc lv (.ref (ad 0) :: st) := r_getI (j := 10) X cl_X6 (by decide) rfl w_339 rfl hk hdg kk
theorem fp_X6_68 (X : Cx p s m args meth c cc nL RX6 D dA) {v : Int32} (hk : OB R 0 6) (hdg : decode cc pc = .ok (.putfield 68, 3)) (kk : ∀ F1 : HF, F1 = hup F 0 10 v → J p l e Rm s m args below meth c nL D dA ad R A Q F1 (pc + 3) lv st) : J p l e Rm s m args below meth c nL D dA ad R A Q F pc lv (.int v :: .ref (ad 0) :: st) := r_putI (j := 10) X cl_X6 (by decide) rfl w_339 rfl rfl rfl rfl hk hdg kk
theorem fg_X0_9 (X : Cx p s m args meth c cc nL RX0 D dA) {k : Nat} (hk : OB R k 0) (hdg : decode cc pc = .ok (.getfield 9, 3)) (kk : J p l e Rm s m args below meth c nL D dA ad R A Q F (pc + 3) lv (.ref (ad (k + 1)) :: st)) : J p l e Rm s m args below meth c nL D dA ad R A Q F pc lv (.ref (ad k) :: st) := r_getR (j := 1) (k := k) X cl_X0 (by decide) rfl w_146 rfl rfl hk hdg kk
theorem fg_X0_15 (X : Cx p s m args meth c cc nL RX0 D dA) {k : Nat} (hk : OB R k 0) (hdg : decode cc pc = .ok (.getfield 15, 3)) (kk : J p l e Rm s m args below meth c nL D dA ad R A Q F (pc + 3) lv (.ref (ad (k + 2)) :: st)) : J p l e Rm s m args below meth c nL D dA ad R A Q F pc lv (.ref (ad k) :: st) := r_getR (j := 2) (k := k) X cl_X0 (by decide) rfl w_147 rfl rfl hk hdg kk
theorem fg_X0_18 (X : Cx p s m args meth c cc nL RX0 D dA) {k : Nat} (hk : OB R k 0) (hdg : decode cc pc = .ok (.getfield 18, 3)) (kk : J p l e Rm s m args below meth c nL D dA ad R A Q F (pc + 3) lv (.ref (ad (k + 3)) :: st)) : J p l e Rm s m args below meth c nL D dA ad R A Q F pc lv (.ref (ad k) :: st) := r_getR (j := 3) (k := k) X cl_X0 (by decide) rfl w_148 rfl rfl hk hdg kk
theorem fg_X0_21 (X : Cx p s m args meth c cc nL RX0 D dA) {k : Nat} (hk : OB R k 0) (hdg : decode cc pc = .ok (.getfield 21, 3)) (kk : J p l e Rm s m args below meth c nL D dA ad R A Q F (pc + 3) lv (.int (F k 4) :: st)) : J p l e Rm s m args below meth c nL D dA ad R A Q F pc lv (.ref (ad k) :: st) := r_getI (j := 4) X cl_X0 (by decide) rfl w_149 rfl hk hdg kk
theorem fp_X0_21 (X : Cx p s m args meth c cc nL RX0 D dA) {k : Nat} {v : Int32} (hk : OB R k 0) (hdg : decode cc pc = .ok (.putfield 21, 3)) (kk : ∀ F1 : HF, F1 = hup F k 4 v → J p l e Rm s m args below meth c nL D dA ad R A Q F1 (pc + 3) lv st) : J p l e Rm s m args below meth c nL D dA ad R A Q F pc lv (.int v :: .ref (ad k) :: st) := r_putI (j := 4) X cl_X0 (by decide) rfl w_149 rfl rfl rfl rfl hk hdg kk
theorem fg_X0_25 (X : Cx p s m args meth c cc nL RX0 D dA) {k : Nat} (hk : OB R k 0) (hdg : decode cc pc = .ok (.getfield 25, 3)) (kk : J p l e Rm s m args below meth c nL D dA ad R A Q F (pc + 3) lv (.ref (ad (4)) :: st)) : J p l e Rm s m args below meth c nL D dA ad R A Q F pc lv (.ref (ad k) :: st) := r_getR (j := 0) (k := k) X cl_X0 (by decide) rfl w_145 rfl rfl hk hdg kk
theorem fg_X1_9 (X : Cx p s m args meth c cc nL RX1 D dA) {k : Nat} (hk : OB R k 1) (hdg : decode cc pc = .ok (.getfield 9, 3)) (kk : J p l e Rm s m args below meth c nL D dA ad R A Q F (pc + 3) lv (.ref (ad (k + 1)) :: st)) : J p l e Rm s m args below meth c nL D dA ad R A Q F pc lv (.ref (ad k) :: st) := r_getR (j := 0) (k := k) X cl_X1 (by decide) rfl w_102 rfl rfl hk hdg kk
theorem fg_X1_15 (X : Cx p s m args meth c cc nL RX1 D dA) {k : Nat} (hk : OB R k 1) (hdg : decode cc pc = .ok (.getfield 15, 3)) (kk : J p l e Rm s m args below meth c nL D dA ad R A Q F (pc + 3) lv (.ref (ad (k + 2)) :: st)) : J p l e Rm s m args below meth c nL D dA ad R A Q F pc lv (.ref (ad k) :: st) := r_getR (j := 1) (k := k) X cl_X1 (by decide) rfl w_103 rfl rfl hk hdg kk
theorem fg_X1_18 (X : Cx p s m args meth c cc nL RX1 D dA) {k : Nat} (hk : OB R k 1) (hdg : decode cc pc = .ok (.getfield 18, 3)) (kk : J p l e Rm s m args below meth c nL D dA ad R A Q F (pc + 3) lv (.ref (ad (k + 3)) :: st)) : J p l e Rm s m args below meth c nL D dA ad R A Q F pc lv (.ref (ad k) :: st) := r_getR (j := 2) (k := k) X cl_X1 (by decide) rfl w_104 rfl rfl hk hdg kk
theorem fg_X1_21 (X : Cx p s m args meth c cc nL RX1 D dA) {k : Nat} (hk : OB R k 1) (hdg : decode cc pc = .ok (.getfield 21, 3)) (kk : J p l e Rm s m args below meth c nL D dA ad R A Q F (pc + 3) lv (.ref (ad (k + 4)) :: st)) : J p l e Rm s m args below meth c nL D dA ad R A Q F pc lv (.ref (ad k) :: st) := r_getR (j := 3) (k := k) X cl_X1 (by decide) rfl w_105 rfl rfl hk hdg kk
theorem fg_X1_24 (X : Cx p s m args meth c cc nL RX1 D dA) {k : Nat} (hk : OB R k 1) (hdg : decode cc pc = .ok (.getfield 24, 3)) (kk : J p l e Rm s m args below meth c nL D dA ad R A Q F (pc + 3) lv (.ref (ad (k + 5)) :: st)) : J p l e Rm s m args below meth c nL D dA ad R A Q F pc lv (.ref (ad k) :: st) := r_getR (j := 4) (k := k) X cl_X1 (by decide) rfl w_106 rfl rfl hk hdg kk
theorem fg_X1_30 (X : Cx p s m args meth c cc nL RX1 D dA) {k : Nat} (hk : OB R k 1) (hdg : decode cc pc = .ok (.getfield 30, 3)) (kk : J p l e Rm s m args below meth c nL D dA ad R A Q F (pc + 3) lv (.int (F k 5) :: st)) : J p l e Rm s m args below meth c nL D dA ad R A Q F pc lv (.ref (ad k) :: st) := r_getI (j := 5) X cl_X1 (by decide) rfl w_107 rfl hk hdg kk
theorem fp_X1_30 (X : Cx p s m args meth c cc nL RX1 D dA) {k : Nat} {v : Int32} (hk : OB R k 1) (hdg : decode cc pc = .ok (.putfield 30, 3)) (kk : ∀ F1 : HF, F1 = hup F k 5 v → J p l e Rm s m args below meth c nL D dA ad R A Q F1 (pc + 3) lv st) : J p l e Rm s m args below meth c nL D dA ad R A Q F pc lv (.int v :: .ref (ad k) :: st) := r_putI (j := 5) X cl_X1 (by decide) rfl w_107 rfl rfl rfl rfl hk hdg kk
theorem fg_X1_34 (X : Cx p s m args meth c cc nL RX1 D dA) {k : Nat} (hk : OB R k 1) (hdg : decode cc pc = .ok (.getfield 34, 3)) (kk : J p l e Rm s m args below meth c nL D dA ad R A Q F (pc + 3) lv (.int (F k 6) :: st)) : J p l e Rm s m args below meth c nL D dA ad R A Q F pc lv (.ref (ad k) :: st) := r_getI (j := 6) X cl_X1 (by decide) rfl w_108 rfl hk hdg kk
theorem fp_X1_34 (X : Cx p s m args meth c cc nL RX1 D dA) {k : Nat} {v : Int32} (hk : OB R k 1) (hdg : decode cc pc = .ok (.putfield 34, 3)) (kk : ∀ F1 : HF, F1 = hup F k 6 v → J p l e Rm s m args below meth c nL D dA ad R A Q F1 (pc + 3) lv st) : J p l e Rm s m args below meth c nL D dA ad R A Q F pc lv (.int v :: .ref (ad k) :: st) := r_putI (j := 6) X cl_X1 (by decide) rfl w_108 rfl rfl rfl rfl hk hdg kk
theorem fg_X1_37 (X : Cx p s m args meth c cc nL RX1 D dA) {k : Nat} (hk : OB R k 1) (hdg : decode cc pc = .ok (.getfield 37, 3)) (kk : J p l e Rm s m args below meth c nL D dA ad R A Q F (pc + 3) lv (.int (F k 7) :: st)) : J p l e Rm s m args below meth c nL D dA ad R A Q F pc lv (.ref (ad k) :: st) := r_getI (j := 7) X cl_X1 (by decide) rfl w_109 rfl hk hdg kk
theorem fp_X1_37 (X : Cx p s m args meth c cc nL RX1 D dA) {k : Nat} {v : Int32} (hk : OB R k 1) (hdg : decode cc pc = .ok (.putfield 37, 3)) (kk : ∀ F1 : HF, F1 = hup F k 7 v → J p l e Rm s m args below meth c nL D dA ad R A Q F1 (pc + 3) lv st) : J p l e Rm s m args below meth c nL D dA ad R A Q F pc lv (.int v :: .ref (ad k) :: st) := r_putI (j := 7) X cl_X1 (by decide) rfl w_109 rfl rfl rfl rfl hk hdg kk
theorem fg_X1_40 (X : Cx p s m args meth c cc nL RX1 D dA) {k : Nat} (hk : OB R k 1) (hdg : decode cc pc = .ok (.getfield 40, 3)) (kk : J p l e Rm s m args below meth c nL D dA ad R A Q F (pc + 3) lv (.int (F k 8) :: st)) : J p l e Rm s m args below meth c nL D dA ad R A Q F pc lv (.ref (ad k) :: st) := r_getI (j := 8) X cl_X1 (by decide) rfl w_110 rfl hk hdg kk
theorem fp_X1_40 (X : Cx p s m args meth c cc nL RX1 D dA) {k : Nat} {v : Int32} (hk : OB R k 1) (hdg : decode cc pc = .ok (.putfield 40, 3)) (kk : ∀ F1 : HF, F1 = hup F k 8 v → J p l e Rm s m args below meth c nL D dA ad R A Q F1 (pc + 3) lv st) : J p l e Rm s m args below meth c nL D dA ad R A Q F pc lv (.int v :: .ref (ad k) :: st) := r_putI (j := 8) X cl_X1 (by decide) rfl w_110 rfl rfl rfl rfl hk hdg kk
theorem fg_X1_43 (X : Cx p s m args meth c cc nL RX1 D dA) {k : Nat} (hk : OB R k 1) (hdg : decode cc pc = .ok (.getfield 43, 3)) (kk : J p l e Rm s m args below meth c nL D dA ad R A Q F (pc + 3) lv (.int (F k 9) :: st)) : J p l e Rm s m args below meth c nL D dA ad R A Q F pc lv (.ref (ad k) :: st) := r_getI (j := 9) X cl_X1 (by decide) rfl w_111 rfl hk hdg kk
theorem fp_X1_43 (X : Cx p s m args meth c cc nL RX1 D dA) {k : Nat} {v : Int32} (hk : OB R k 1) (hdg : decode cc pc = .ok (.putfield 43, 3)) (kk : ∀ F1 : HF, F1 = hup F k 9 v → J p l e Rm s m args below meth c nL D dA ad R A Q F1 (pc + 3) lv st) : J p l e Rm s m args below meth c nL D dA ad R A Q F pc lv (.int v :: .ref (ad k) :: st) := r_putI (j := 9) X cl_X1 (by decide) rfl w_111 rfl rfl rfl rfl hk hdg kk
theorem fg_X2_9 (X : Cx p s m args meth c cc nL RX2 D dA) {k : Nat} (hk : OB R k 2) (hdg : decode cc pc = .ok (.getfield 9, 3)) (kk : J p l e Rm s m args below meth c nL D dA ad R A Q F (pc + 3) lv (.int (F k 2) :: st)) : J p l e Rm s m args below meth c nL D dA ad R A Q F pc lv (.ref (ad k) :: st) := r_getI (j := 2) X cl_X2 (by decide) rfl w_163 rfl hk hdg kk
theorem fp_X2_9 (X : Cx p s m args meth c cc nL RX2 D dA) {k : Nat} {v : Int32} (hk : OB R k 2) (hdg : decode cc pc = .ok (.putfield 9, 3)) (kk : ∀ F1 : HF, F1 = hup F k 2 v → J p l e Rm s m args below meth c nL D dA ad R A Q F1 (pc + 3) lv st) : J p l e Rm s m args below meth c nL D dA ad R A Q F pc lv (.int v :: .ref (ad k) :: st) := r_putI (j := 2) X cl_X2 (by decide) rfl w_163 rfl rfl rfl rfl hk hdg kk
theorem fg_X2_15 (X : Cx p s m args meth c cc nL RX2 D dA) {k : Nat} (hk : OB R k 2) (hdg : decode cc pc = .ok (.getfield 15, 3)) (kk : J p l e Rm s m args below meth c nL D dA ad R A Q F (pc + 3) lv (.int (F k 3) :: st)) : J p l e Rm s m args below meth c nL D dA ad R A Q F pc lv (.ref (ad k) :: st) := r_getI (j := 3) X cl_X2 (by decide) rfl w_164 rfl hk hdg kk
theorem fp_X2_15 (X : Cx p s m args meth c cc nL RX2 D dA) {k : Nat} {v : Int32} (hk : OB R k 2) (hdg : decode cc pc = .ok (.putfield 15, 3)) (kk : ∀ F1 : HF, F1 = hup F k 3 v → J p l e Rm s m args below meth c nL D dA ad R A Q F1 (pc + 3) lv st) : J p l e Rm s m args below meth c nL D dA ad R A Q F pc lv (.int v :: .ref (ad k) :: st) := r_putI (j := 3) X cl_X2 (by decide) rfl w_164 rfl rfl rfl rfl hk hdg kk
theorem fg_X2_18 (X : Cx p s m args meth c cc nL RX2 D dA) {k : Nat} (hk : OB R k 2) (hdg : decode cc pc = .ok (.getfield 18, 3)) (kk : J p l e Rm s m args below meth c nL D dA ad R A Q F (pc + 3) lv (.int (F k 4) :: st)) : J p l e Rm s m args below meth c nL D dA ad R A Q F pc lv (.ref (ad k) :: st) := r_getI (j := 4) X cl_X2 (by decide) rfl w_165 rfl hk hdg kk
theorem fp_X2_18 (X : Cx p s m args meth c cc nL RX2 D dA) {k : Nat} {v : Int32} (hk : OB R k 2) (hdg : decode cc pc = .ok (.putfield 18, 3)) (kk : ∀ F1 : HF, F1 = hup F k 4 v → J p l e Rm s m args below meth c nL D dA ad R A Q F1 (pc + 3) lv st) : J p l e Rm s m args below meth c nL D dA ad R A Q F pc lv (.int v :: .ref (ad k) :: st) := r_putI (j := 4) X cl_X2 (by decide) rfl w_165 rfl rfl rfl rfl hk hdg kk
theorem fg_X2_21 (X : Cx p s m args meth c cc nL RX2 D dA) {k : Nat} (hk : OB R k 2) (hdg : decode cc pc = .ok (.getfield 21, 3)) (kk : J p l e Rm s m args below meth c nL D dA ad R A Q F (pc + 3) lv (.int (F k 5) :: st)) : J p l e Rm s m args below meth c nL D dA ad R A Q F pc lv (.ref (ad k) :: st) := r_getI (j := 5) X cl_X2 (by decide) rfl w_166 rfl hk hdg kk
theorem fp_X2_21 (X : Cx p s m args meth c cc nL RX2 D dA) {k : Nat} {v : Int32} (hz : v = 0 ∨ v = 1) (hk : OB R k 2) (hdg : decode cc pc = .ok (.putfield 21, 3)) (kk : ∀ F1 : HF, F1 = hup F k 5 v → J p l e Rm s m args below meth c nL D dA ad R A Q F1 (pc + 3) lv st) : J p l e Rm s m args below meth c nL D dA ad R A Q F pc lv (.int v :: .ref (ad k) :: st) := r_putI (j := 5) X cl_X2 (by decide) rfl w_166 rfl rfl (nbz hz) (fbz hz) hk hdg kk
theorem fg_X2_25 (X : Cx p s m args meth c cc nL RX2 D dA) {k : Nat} (hk : OB R k 2) (hdg : decode cc pc = .ok (.getfield 25, 3)) (kk : J p l e Rm s m args below meth c nL D dA ad R A Q F (pc + 3) lv (.ref (ad (4)) :: st)) : J p l e Rm s m args below meth c nL D dA ad R A Q F pc lv (.ref (ad k) :: st) := r_getR (j := 0) (k := k) X cl_X2 (by decide) rfl w_161 rfl rfl hk hdg kk
theorem fg_X2_34 (X : Cx p s m args meth c cc nL RX2 D dA) {k : Nat} (hk : OB R k 2) (hdg : decode cc pc = .ok (.getfield 34, 3)) (kk : J p l e Rm s m args below meth c nL D dA ad R A Q F (pc + 3) lv (.ref (ad (k + 1)) :: st)) : J p l e Rm s m args below meth c nL D dA ad R A Q F pc lv (.ref (ad k) :: st) := r_getR (j := 1) (k := k) X cl_X2 (by decide) rfl w_162 rfl rfl hk hdg kk
theorem fg_X3_9 (X : Cx p s m args meth c cc nL RX3 D dA) (hk : OB R 1 3) (hdg : decode cc pc = .ok (.getfield 9, 3)) (kk : J p l e Rm s m args below meth c nL D dA ad R A Q F (pc + 3) lv (.ref (ad (2)) :: st)) : J p l e Rm s m args below meth c nL D dA ad R A Q F pc lv (.ref (ad 1) :: st) := r_getR (j := 0) (k := 1) X cl_X3 (by decide) rfl w_80 rfl rfl hk hdg kk
theorem fg_X3_15 (X : Cx p s m args meth c cc nL RX3 D dA) (hk : OB R 1 3) (hdg : decode cc pc = .ok (.getfield 15, 3)) (kk : J p l e Rm s m args below meth c nL D dA ad R A Q F (pc + 3) lv (.ref (ad (3)) :: st)) : J p l e Rm s m args below meth c nL D dA ad R A Q F pc lv (.ref (ad 1) :: st) := r_getR (j := 1) (k := 1) X cl_X3 (by decide) rfl w_81 rfl rfl hk hdg kk
theorem fg_X3_19 (X : Cx p s m args meth c cc nL RX3 D dA) (hk : OB R 1 3) (hdg : decode cc pc = .ok (.getfield 19, 3)) (kk : J p l e Rm s m args below meth c nL D dA ad R A Q F (pc + 3) lv (.int (F 1 2) :: st)) : J p l e Rm s m args below meth c nL D dA ad R A Q F pc lv (.ref (ad 1) :: st) := r_getI (j := 2) X cl_X3 (by decide) rfl w_82 rfl hk hdg kk
theorem fp_X3_19 (X : Cx p s m args meth c cc nL RX3 D dA) {v : Int32} (hk : OB R 1 3) (hdg : decode cc pc = .ok (.putfield 19, 3)) (kk : ∀ F1 : HF, F1 = hup F 1 2 v → J p l e Rm s m args below meth c nL D dA ad R A Q F1 (pc + 3) lv st) : J p l e Rm s m args below meth c nL D dA ad R A Q F pc lv (.int v :: .ref (ad 1) :: st) := r_putI (j := 2) X cl_X3 (by decide) rfl w_82 rfl rfl rfl rfl hk hdg kk
theorem fg_X4_9 (X : Cx p s m args meth c cc nL RX4 D dA) (hk : OB R 79 4) (hdg : decode cc pc = .ok (.getfield 9, 3)) (kk : J p l e Rm s m args below meth c nL D dA ad R A Q F (pc + 3) lv (.ref (ad (84)) :: st)) : J p l e Rm s m args below meth c nL D dA ad R A Q F pc lv (.ref (ad 79) :: st) := r_getR (j := 2) (k := 79) X cl_X4 (by decide) rfl w_211 rfl rfl hk hdg kk
theorem fg_X4_15 (X : Cx p s m args meth c cc nL RX4 D dA) (hk : OB R 79 4) (hdg : decode cc pc = .ok (.getfield 15, 3)) (kk : J p l e Rm s m args below meth c nL D dA ad R A Q F (pc + 3) lv (.int (F 79 3) :: st)) : J p l e Rm s m args below meth c nL D dA ad R A Q F pc lv (.ref (ad 79) :: st) := r_getI (j := 3) X cl_X4 (by decide) rfl w_212 rfl hk hdg kk
theorem fp_X4_15 (X : Cx p s m args meth c cc nL RX4 D dA) {v : Int32} (hk : OB R 79 4) (hdg : decode cc pc = .ok (.putfield 15, 3)) (kk : ∀ F1 : HF, F1 = hup F 79 3 v → J p l e Rm s m args below meth c nL D dA ad R A Q F1 (pc + 3) lv st) : J p l e Rm s m args below meth c nL D dA ad R A Q F pc lv (.int v :: .ref (ad 79) :: st) := r_putI (j := 3) X cl_X4 (by decide) rfl w_212 rfl rfl rfl rfl hk hdg kk
theorem fg_X4_19 (X : Cx p s m args meth c cc nL RX4 D dA) (hk : OB R 79 4) (hdg : decode cc pc = .ok (.getfield 19, 3)) (kk : J p l e Rm s m args below meth c nL D dA ad R A Q F (pc + 3) lv (.int (F 79 4) :: st)) : J p l e Rm s m args below meth c nL D dA ad R A Q F pc lv (.ref (ad 79) :: st) := r_getI (j := 4) X cl_X4 (by decide) rfl w_213 rfl hk hdg kk
theorem fp_X4_19 (X : Cx p s m args meth c cc nL RX4 D dA) {v : Int32} (hk : OB R 79 4) (hdg : decode cc pc = .ok (.putfield 19, 3)) (kk : ∀ F1 : HF, F1 = hup F 79 4 v → J p l e Rm s m args below meth c nL D dA ad R A Q F1 (pc + 3) lv st) : J p l e Rm s m args below meth c nL D dA ad R A Q F pc lv (.int v :: .ref (ad 79) :: st) := r_putI (j := 4) X cl_X4 (by decide) rfl w_213 rfl rfl rfl rfl hk hdg kk
theorem fg_X4_22 (X : Cx p s m args meth c cc nL RX4 D dA) (hk : OB R 79 4) (hdg : decode cc pc = .ok (.getfield 22, 3)) (kk : J p l e Rm s m args below meth c nL D dA ad R A Q F (pc + 3) lv (.ref (ad (4)) :: st)) : J p l e Rm s m args below meth c nL D dA ad R A Q F pc lv (.ref (ad 79) :: st) := r_getR (j := 0) (k := 79) X cl_X4 (by decide) rfl w_209 rfl rfl hk hdg kk
theorem fg_X4_31 (X : Cx p s m args meth c cc nL RX4 D dA) (hk : OB R 79 4) (hdg : decode cc pc = .ok (.getfield 31, 3)) (kk : J p l e Rm s m args below meth c nL D dA ad R A Q F (pc + 3) lv (.ref (ad (80)) :: st)) : J p l e Rm s m args below meth c nL D dA ad R A Q F pc lv (.ref (ad 79) :: st) := r_getR (j := 1) (k := 79) X cl_X4 (by decide) rfl w_210 rfl rfl hk hdg kk
theorem fg_X5_7 (X : Cx p s m args meth c cc nL RX5 D dA) {k : Nat} (hk : OB R k 5) (hdg : decode cc pc = .ok (.getfield 7, 3)) (kk : J p l e Rm s m args below meth c nL D dA ad R A Q F (pc + 3) lv (.int (F k 1) :: st)) : J p l e Rm s m args below meth c nL D dA ad R A Q F pc lv (.ref (ad k) :: st) := r_getI (j := 1) X cl_X5 (by decide) rfl w_195 rfl hk hdg kk
theorem fp_X5_7 (X : Cx p s m args meth c cc nL RX5 D dA) {k : Nat} {v : Int32} (hk : OB R k 5) (hdg : decode cc pc = .ok (.putfield 7, 3)) (kk : ∀ F1 : HF, F1 = hup F k 1 v → J p l e Rm s m args below meth c nL D dA ad R A Q F1 (pc + 3) lv st) : J p l e Rm s m args below meth c nL D dA ad R A Q F pc lv (.int v :: .ref (ad k) :: st) := r_putI (j := 1) X cl_X5 (by decide) rfl w_195 rfl rfl rfl rfl hk hdg kk
theorem fg_X5_21 (X : Cx p s m args meth c cc nL RX5 D dA) {k : Nat} (hk : OB R k 5) (hdg : decode cc pc = .ok (.getfield 21, 3)) (kk : J p l e Rm s m args below meth c nL D dA ad R A Q F (pc + 3) lv (.ref (ad (k + 1)) :: st)) : J p l e Rm s m args below meth c nL D dA ad R A Q F pc lv (.ref (ad k) :: st) := r_getR (j := 0) (k := k) X cl_X5 (by decide) rfl w_194 rfl rfl hk hdg kk
theorem fg_X7_7 (X : Cx p s m args meth c cc nL RX7 D dA) (hk : OB R 100 7) (hdg : decode cc pc = .ok (.getfield 7, 3)) (kk : J p l e Rm s m args below meth c nL D dA ad R A Q F (pc + 3) lv (.ref (ad (101)) :: st)) : J p l e Rm s m args below meth c nL D dA ad R A Q F pc lv (.ref (ad 100) :: st) := r_getR (j := 1) (k := 100) X cl_X7 (by decide) rfl w_815 rfl rfl hk hdg kk
theorem fg_X7_13 (X : Cx p s m args meth c cc nL RX7 D dA) (hk : OB R 100 7) (hdg : decode cc pc = .ok (.getfield 13, 3)) (kk : J p l e Rm s m args below meth c nL D dA ad R A Q F (pc + 3) lv (.ref (ad (103)) :: st)) : J p l e Rm s m args below meth c nL D dA ad R A Q F pc lv (.ref (ad 100) :: st) := r_getR (j := 3) (k := 100) X cl_X7 (by decide) rfl w_817 rfl rfl hk hdg kk
theorem fg_X7_16 (X : Cx p s m args meth c cc nL RX7 D dA) (hk : OB R 100 7) (hdg : decode cc pc = .ok (.getfield 16, 3)) (kk : J p l e Rm s m args below meth c nL D dA ad R A Q F (pc + 3) lv (.ref (ad (108)) :: st)) : J p l e Rm s m args below meth c nL D dA ad R A Q F pc lv (.ref (ad 100) :: st) := r_getR (j := 8) (k := 100) X cl_X7 (by decide) rfl w_822 rfl rfl hk hdg kk
theorem fg_X7_19 (X : Cx p s m args meth c cc nL RX7 D dA) (hk : OB R 100 7) (hdg : decode cc pc = .ok (.getfield 19, 3)) (kk : J p l e Rm s m args below meth c nL D dA ad R A Q F (pc + 3) lv (.ref (ad (109)) :: st)) : J p l e Rm s m args below meth c nL D dA ad R A Q F pc lv (.ref (ad 100) :: st) := r_getR (j := 9) (k := 100) X cl_X7 (by decide) rfl w_823 rfl rfl hk hdg kk
theorem fg_X7_22 (X : Cx p s m args meth c cc nL RX7 D dA) (hk : OB R 100 7) (hdg : decode cc pc = .ok (.getfield 22, 3)) (kk : J p l e Rm s m args below meth c nL D dA ad R A Q F (pc + 3) lv (.int (F 100 13) :: st)) : J p l e Rm s m args below meth c nL D dA ad R A Q F pc lv (.ref (ad 100) :: st) := r_getI (j := 13) X cl_X7 (by decide) rfl w_827 rfl hk hdg kk
theorem fp_X7_22 (X : Cx p s m args meth c cc nL RX7 D dA) {v : Int32} (hk : OB R 100 7) (hdg : decode cc pc = .ok (.putfield 22, 3)) (kk : ∀ F1 : HF, F1 = hup F 100 13 v → J p l e Rm s m args below meth c nL D dA ad R A Q F1 (pc + 3) lv st) : J p l e Rm s m args below meth c nL D dA ad R A Q F pc lv (.int v :: .ref (ad 100) :: st) := r_putI (j := 13) X cl_X7 (by decide) rfl w_827 rfl rfl rfl rfl hk hdg kk
theorem fg_X7_26 (X : Cx p s m args meth c cc nL RX7 D dA) (hk : OB R 100 7) (hdg : decode cc pc = .ok (.getfield 26, 3)) (kk : J p l e Rm s m args below meth c nL D dA ad R A Q F (pc + 3) lv (.ref (ad (114)) :: st)) : J p l e Rm s m args below meth c nL D dA ad R A Q F pc lv (.ref (ad 100) :: st) := r_getR (j := 14) (k := 100) X cl_X7 (by decide) rfl w_828 rfl rfl hk hdg kk
theorem fg_X7_29 (X : Cx p s m args meth c cc nL RX7 D dA) (hk : OB R 100 7) (hdg : decode cc pc = .ok (.getfield 29, 3)) (kk : J p l e Rm s m args below meth c nL D dA ad R A Q F (pc + 3) lv (.int (F 100 15) :: st)) : J p l e Rm s m args below meth c nL D dA ad R A Q F pc lv (.ref (ad 100) :: st) := r_getI (j := 15) X cl_X7 (by decide) rfl w_829 rfl hk hdg kk
theorem fp_X7_29 (X : Cx p s m args meth c cc nL RX7 D dA) {v : Int32} (hk : OB R 100 7) (hdg : decode cc pc = .ok (.putfield 29, 3)) (kk : ∀ F1 : HF, F1 = hup F 100 15 v → J p l e Rm s m args below meth c nL D dA ad R A Q F1 (pc + 3) lv st) : J p l e Rm s m args below meth c nL D dA ad R A Q F pc lv (.int v :: .ref (ad 100) :: st) := r_putI (j := 15) X cl_X7 (by decide) rfl w_829 rfl rfl rfl rfl hk hdg kk
theorem fg_X7_32 (X : Cx p s m args meth c cc nL RX7 D dA) (hk : OB R 100 7) (hdg : decode cc pc = .ok (.getfield 32, 3)) (kk : J p l e Rm s m args below meth c nL D dA ad R A Q F (pc + 3) lv (.ref (ad (116)) :: st)) : J p l e Rm s m args below meth c nL D dA ad R A Q F pc lv (.ref (ad 100) :: st) := r_getR (j := 16) (k := 100) X cl_X7 (by decide) rfl w_830 rfl rfl hk hdg kk
theorem fg_X7_35 (X : Cx p s m args meth c cc nL RX7 D dA) (hk : OB R 100 7) (hdg : decode cc pc = .ok (.getfield 35, 3)) (kk : J p l e Rm s m args below meth c nL D dA ad R A Q F (pc + 3) lv (.int (F 100 17) :: st)) : J p l e Rm s m args below meth c nL D dA ad R A Q F pc lv (.ref (ad 100) :: st) := r_getI (j := 17) X cl_X7 (by decide) rfl w_831 rfl hk hdg kk
theorem fp_X7_35 (X : Cx p s m args meth c cc nL RX7 D dA) {v : Int32} (hk : OB R 100 7) (hdg : decode cc pc = .ok (.putfield 35, 3)) (kk : ∀ F1 : HF, F1 = hup F 100 17 v → J p l e Rm s m args below meth c nL D dA ad R A Q F1 (pc + 3) lv st) : J p l e Rm s m args below meth c nL D dA ad R A Q F pc lv (.int v :: .ref (ad 100) :: st) := r_putI (j := 17) X cl_X7 (by decide) rfl w_831 rfl rfl rfl rfl hk hdg kk
theorem fg_X7_38 (X : Cx p s m args meth c cc nL RX7 D dA) (hk : OB R 100 7) (hdg : decode cc pc = .ok (.getfield 38, 3)) (kk : J p l e Rm s m args below meth c nL D dA ad R A Q F (pc + 3) lv (.int (F 100 18) :: st)) : J p l e Rm s m args below meth c nL D dA ad R A Q F pc lv (.ref (ad 100) :: st) := r_getI (j := 18) X cl_X7 (by decide) rfl w_832 rfl hk hdg kk
theorem fp_X7_38 (X : Cx p s m args meth c cc nL RX7 D dA) {v : Int32} (hk : OB R 100 7) (hdg : decode cc pc = .ok (.putfield 38, 3)) (kk : ∀ F1 : HF, F1 = hup F 100 18 v → J p l e Rm s m args below meth c nL D dA ad R A Q F1 (pc + 3) lv st) : J p l e Rm s m args below meth c nL D dA ad R A Q F pc lv (.int v :: .ref (ad 100) :: st) := r_putI (j := 18) X cl_X7 (by decide) rfl w_832 rfl rfl rfl rfl hk hdg kk
theorem fg_X7_41 (X : Cx p s m args meth c cc nL RX7 D dA) (hk : OB R 100 7) (hdg : decode cc pc = .ok (.getfield 41, 3)) (kk : J p l e Rm s m args below meth c nL D dA ad R A Q F (pc + 3) lv (.int (F 100 19) :: st)) : J p l e Rm s m args below meth c nL D dA ad R A Q F pc lv (.ref (ad 100) :: st) := r_getI (j := 19) X cl_X7 (by decide) rfl w_833 rfl hk hdg kk
theorem fp_X7_41 (X : Cx p s m args meth c cc nL RX7 D dA) {v : Int32} (hk : OB R 100 7) (hdg : decode cc pc = .ok (.putfield 41, 3)) (kk : ∀ F1 : HF, F1 = hup F 100 19 v → J p l e Rm s m args below meth c nL D dA ad R A Q F1 (pc + 3) lv st) : J p l e Rm s m args below meth c nL D dA ad R A Q F pc lv (.int v :: .ref (ad 100) :: st) := r_putI (j := 19) X cl_X7 (by decide) rfl w_833 rfl rfl rfl rfl hk hdg kk
theorem fg_X7_44 (X : Cx p s m args meth c cc nL RX7 D dA) (hk : OB R 100 7) (hdg : decode cc pc = .ok (.getfield 44, 3)) (kk : J p l e Rm s m args below meth c nL D dA ad R A Q F (pc + 3) lv (.ref (ad (120)) :: st)) : J p l e Rm s m args below meth c nL D dA ad R A Q F pc lv (.ref (ad 100) :: st) := r_getR (j := 20) (k := 100) X cl_X7 (by decide) rfl w_834 rfl rfl hk hdg kk
theorem fg_X7_47 (X : Cx p s m args meth c cc nL RX7 D dA) (hk : OB R 100 7) (hdg : decode cc pc = .ok (.getfield 47, 3)) (kk : J p l e Rm s m args below meth c nL D dA ad R A Q F (pc + 3) lv (.ref (ad (121)) :: st)) : J p l e Rm s m args below meth c nL D dA ad R A Q F pc lv (.ref (ad 100) :: st) := r_getR (j := 21) (k := 100) X cl_X7 (by decide) rfl w_835 rfl rfl hk hdg kk
theorem fg_X7_50 (X : Cx p s m args meth c cc nL RX7 D dA) (hk : OB R 100 7) (hdg : decode cc pc = .ok (.getfield 50, 3)) (kk : J p l e Rm s m args below meth c nL D dA ad R A Q F (pc + 3) lv (.ref (ad (122)) :: st)) : J p l e Rm s m args below meth c nL D dA ad R A Q F pc lv (.ref (ad 100) :: st) := r_getR (j := 22) (k := 100) X cl_X7 (by decide) rfl w_836 rfl rfl hk hdg kk
theorem fg_X7_53 (X : Cx p s m args meth c cc nL RX7 D dA) (hk : OB R 100 7) (hdg : decode cc pc = .ok (.getfield 53, 3)) (kk : J p l e Rm s m args below meth c nL D dA ad R A Q F (pc + 3) lv (.ref (ad (124)) :: st)) : J p l e Rm s m args below meth c nL D dA ad R A Q F pc lv (.ref (ad 100) :: st) := r_getR (j := 24) (k := 100) X cl_X7 (by decide) rfl w_838 rfl rfl hk hdg kk
theorem fg_X7_56 (X : Cx p s m args meth c cc nL RX7 D dA) (hk : OB R 100 7) (hdg : decode cc pc = .ok (.getfield 56, 3)) (kk : J p l e Rm s m args below meth c nL D dA ad R A Q F (pc + 3) lv (.ref (ad (126)) :: st)) : J p l e Rm s m args below meth c nL D dA ad R A Q F pc lv (.ref (ad 100) :: st) := r_getR (j := 26) (k := 100) X cl_X7 (by decide) rfl w_840 rfl rfl hk hdg kk
theorem fg_X7_59 (X : Cx p s m args meth c cc nL RX7 D dA) (hk : OB R 100 7) (hdg : decode cc pc = .ok (.getfield 59, 3)) (kk : J p l e Rm s m args below meth c nL D dA ad R A Q F (pc + 3) lv (.ref (ad (128)) :: st)) : J p l e Rm s m args below meth c nL D dA ad R A Q F pc lv (.ref (ad 100) :: st) := r_getR (j := 28) (k := 100) X cl_X7 (by decide) rfl w_842 rfl rfl hk hdg kk
theorem fg_X7_62 (X : Cx p s m args meth c cc nL RX7 D dA) (hk : OB R 100 7) (hdg : decode cc pc = .ok (.getfield 62, 3)) (kk : J p l e Rm s m args below meth c nL D dA ad R A Q F (pc + 3) lv (.ref (ad (129)) :: st)) : J p l e Rm s m args below meth c nL D dA ad R A Q F pc lv (.ref (ad 100) :: st) := r_getR (j := 29) (k := 100) X cl_X7 (by decide) rfl w_843 rfl rfl hk hdg kk
theorem fg_X7_65 (X : Cx p s m args meth c cc nL RX7 D dA) (hk : OB R 100 7) (hdg : decode cc pc = .ok (.getfield 65, 3)) (kk : J p l e Rm s m args below meth c nL D dA ad R A Q F (pc + 3) lv (.ref (ad (131)) :: st)) : J p l e Rm s m args below meth c nL D dA ad R A Q F pc lv (.ref (ad 100) :: st) := r_getR (j := 31) (k := 100) X cl_X7 (by decide) rfl w_845 rfl rfl hk hdg kk
theorem fg_X7_68 (X : Cx p s m args meth c cc nL RX7 D dA) (hk : OB R 100 7) (hdg : decode cc pc = .ok (.getfield 68, 3)) (kk : J p l e Rm s m args below meth c nL D dA ad R A Q F (pc + 3) lv (.ref (ad (132)) :: st)) : J p l e Rm s m args below meth c nL D dA ad R A Q F pc lv (.ref (ad 100) :: st) := r_getR (j := 32) (k := 100) X cl_X7 (by decide) rfl w_846 rfl rfl hk hdg kk
theorem fg_X7_78 (X : Cx p s m args meth c cc nL RX7 D dA) (hk : OB R 100 7) (hdg : decode cc pc = .ok (.getfield 78, 3)) (kk : J p l e Rm s m args below meth c nL D dA ad R A Q F (pc + 3) lv (.int (F 100 23) :: st)) : J p l e Rm s m args below meth c nL D dA ad R A Q F pc lv (.ref (ad 100) :: st) := r_getI (j := 23) X cl_X7 (by decide) rfl w_837 rfl hk hdg kk
theorem fp_X7_78 (X : Cx p s m args meth c cc nL RX7 D dA) {v : Int32} (hk : OB R 100 7) (hdg : decode cc pc = .ok (.putfield 78, 3)) (kk : ∀ F1 : HF, F1 = hup F 100 23 v → J p l e Rm s m args below meth c nL D dA ad R A Q F1 (pc + 3) lv st) : J p l e Rm s m args below meth c nL D dA ad R A Q F pc lv (.int v :: .ref (ad 100) :: st) := r_putI (j := 23) X cl_X7 (by decide) rfl w_837 rfl rfl rfl rfl hk hdg kk
theorem fg_X7_81 (X : Cx p s m args meth c cc nL RX7 D dA) (hk : OB R 100 7) (hdg : decode cc pc = .ok (.getfield 81, 3)) (kk : J p l e Rm s m args below meth c nL D dA ad R A Q F (pc + 3) lv (.int (F 100 25) :: st)) : J p l e Rm s m args below meth c nL D dA ad R A Q F pc lv (.ref (ad 100) :: st) := r_getI (j := 25) X cl_X7 (by decide) rfl w_839 rfl hk hdg kk
theorem fp_X7_81 (X : Cx p s m args meth c cc nL RX7 D dA) {v : Int32} (hk : OB R 100 7) (hdg : decode cc pc = .ok (.putfield 81, 3)) (kk : ∀ F1 : HF, F1 = hup F 100 25 v → J p l e Rm s m args below meth c nL D dA ad R A Q F1 (pc + 3) lv st) : J p l e Rm s m args below meth c nL D dA ad R A Q F pc lv (.int v :: .ref (ad 100) :: st) := r_putI (j := 25) X cl_X7 (by decide) rfl w_839 rfl rfl rfl rfl hk hdg kk
theorem fg_X7_84 (X : Cx p s m args meth c cc nL RX7 D dA) (hk : OB R 100 7) (hdg : decode cc pc = .ok (.getfield 84, 3)) (kk : J p l e Rm s m args below meth c nL D dA ad R A Q F (pc + 3) lv (.int (F 100 27) :: st)) : J p l e Rm s m args below meth c nL D dA ad R A Q F pc lv (.ref (ad 100) :: st) := r_getI (j := 27) X cl_X7 (by decide) rfl w_841 rfl hk hdg kk
theorem fp_X7_84 (X : Cx p s m args meth c cc nL RX7 D dA) {v : Int32} (hk : OB R 100 7) (hdg : decode cc pc = .ok (.putfield 84, 3)) (kk : ∀ F1 : HF, F1 = hup F 100 27 v → J p l e Rm s m args below meth c nL D dA ad R A Q F1 (pc + 3) lv st) : J p l e Rm s m args below meth c nL D dA ad R A Q F pc lv (.int v :: .ref (ad 100) :: st) := r_putI (j := 27) X cl_X7 (by decide) rfl w_841 rfl rfl rfl rfl hk hdg kk
theorem fg_X7_91 (X : Cx p s m args meth c cc nL RX7 D dA) (hk : OB R 100 7) (hdg : decode cc pc = .ok (.getfield 91, 3)) (kk : J p l e Rm s m args below meth c nL D dA ad R A Q F (pc + 3) lv (.int (F 100 0) :: st)) : J p l e Rm s m args below meth c nL D dA ad R A Q F pc lv (.ref (ad 100) :: st) := r_getI (j := 0) X cl_X7 (by decide) rfl w_814 rfl hk hdg kk
theorem fp_X7_91 (X : Cx p s m args meth c cc nL RX7 D dA) {v : Int32} (hk : OB R 100 7) (hdg : decode cc pc = .ok (.putfield 91, 3)) (kk : ∀ F1 : HF, F1 = hup F 100 0 v → J p l e Rm s m args below meth c nL D dA ad R A Q F1 (pc + 3) lv st) : J p l e Rm s m args below meth c nL D dA ad R A Q F pc lv (.int v :: .ref (ad 100) :: st) := r_putI (j := 0) X cl_X7 (by decide) rfl w_814 rfl rfl rfl rfl hk hdg kk
theorem fg_X7_94 (X : Cx p s m args meth c cc nL RX7 D dA) (hk : OB R 100 7) (hdg : decode cc pc = .ok (.getfield 94, 3)) (kk : J p l e Rm s m args below meth c nL D dA ad R A Q F (pc + 3) lv (.int (F 100 4) :: st)) : J p l e Rm s m args below meth c nL D dA ad R A Q F pc lv (.ref (ad 100) :: st) := r_getI (j := 4) X cl_X7 (by decide) rfl w_818 rfl hk hdg kk
theorem fp_X7_94 (X : Cx p s m args meth c cc nL RX7 D dA) {v : Int32} (hk : OB R 100 7) (hdg : decode cc pc = .ok (.putfield 94, 3)) (kk : ∀ F1 : HF, F1 = hup F 100 4 v → J p l e Rm s m args below meth c nL D dA ad R A Q F1 (pc + 3) lv st) : J p l e Rm s m args below meth c nL D dA ad R A Q F pc lv (.int v :: .ref (ad 100) :: st) := r_putI (j := 4) X cl_X7 (by decide) rfl w_818 rfl rfl rfl rfl hk hdg kk
theorem fg_X7_97 (X : Cx p s m args meth c cc nL RX7 D dA) (hk : OB R 100 7) (hdg : decode cc pc = .ok (.getfield 97, 3)) (kk : J p l e Rm s m args below meth c nL D dA ad R A Q F (pc + 3) lv (.int (F 100 2) :: st)) : J p l e Rm s m args below meth c nL D dA ad R A Q F pc lv (.ref (ad 100) :: st) := r_getI (j := 2) X cl_X7 (by decide) rfl w_816 rfl hk hdg kk
theorem fp_X7_97 (X : Cx p s m args meth c cc nL RX7 D dA) {v : Int32} (hk : OB R 100 7) (hdg : decode cc pc = .ok (.putfield 97, 3)) (kk : ∀ F1 : HF, F1 = hup F 100 2 v → J p l e Rm s m args below meth c nL D dA ad R A Q F1 (pc + 3) lv st) : J p l e Rm s m args below meth c nL D dA ad R A Q F pc lv (.int v :: .ref (ad 100) :: st) := r_putI (j := 2) X cl_X7 (by decide) rfl w_816 rfl rfl rfl rfl hk hdg kk
theorem fg_X7_104 (X : Cx p s m args meth c cc nL RX7 D dA) (hk : OB R 100 7) (hdg : decode cc pc = .ok (.getfield 104, 3)) (kk : J p l e Rm s m args below meth c nL D dA ad R A Q F (pc + 3) lv (.int (F 100 6) :: st)) : J p l e Rm s m args below meth c nL D dA ad R A Q F pc lv (.ref (ad 100) :: st) := r_getI (j := 6) X cl_X7 (by decide) rfl w_820 rfl hk hdg kk
theorem fp_X7_104 (X : Cx p s m args meth c cc nL RX7 D dA) {v : Int32} (hk : OB R 100 7) (hdg : decode cc pc = .ok (.putfield 104, 3)) (kk : ∀ F1 : HF, F1 = hup F 100 6 v → J p l e Rm s m args below meth c nL D dA ad R A Q F1 (pc + 3) lv st) : J p l e Rm s m args below meth c nL D dA ad R A Q F pc lv (.int v :: .ref (ad 100) :: st) := r_putI (j := 6) X cl_X7 (by decide) rfl w_820 rfl rfl rfl rfl hk hdg kk
theorem fg_X7_111 (X : Cx p s m args meth c cc nL RX7 D dA) (hk : OB R 100 7) (hdg : decode cc pc = .ok (.getfield 111, 3)) (kk : J p l e Rm s m args below meth c nL D dA ad R A Q F (pc + 3) lv (.int (F 100 7) :: st)) : J p l e Rm s m args below meth c nL D dA ad R A Q F pc lv (.ref (ad 100) :: st) := r_getI (j := 7) X cl_X7 (by decide) rfl w_821 rfl hk hdg kk
theorem fp_X7_111 (X : Cx p s m args meth c cc nL RX7 D dA) {v : Int32} (hk : OB R 100 7) (hdg : decode cc pc = .ok (.putfield 111, 3)) (kk : ∀ F1 : HF, F1 = hup F 100 7 v → J p l e Rm s m args below meth c nL D dA ad R A Q F1 (pc + 3) lv st) : J p l e Rm s m args below meth c nL D dA ad R A Q F pc lv (.int v :: .ref (ad 100) :: st) := r_putI (j := 7) X cl_X7 (by decide) rfl w_821 rfl rfl rfl rfl hk hdg kk
theorem fg_X7_114 (X : Cx p s m args meth c cc nL RX7 D dA) (hk : OB R 100 7) (hdg : decode cc pc = .ok (.getfield 114, 3)) (kk : J p l e Rm s m args below meth c nL D dA ad R A Q F (pc + 3) lv (.int (F 100 10) :: st)) : J p l e Rm s m args below meth c nL D dA ad R A Q F pc lv (.ref (ad 100) :: st) := r_getI (j := 10) X cl_X7 (by decide) rfl w_824 rfl hk hdg kk
theorem fp_X7_114 (X : Cx p s m args meth c cc nL RX7 D dA) {v : Int32} (hk : OB R 100 7) (hdg : decode cc pc = .ok (.putfield 114, 3)) (kk : ∀ F1 : HF, F1 = hup F 100 10 v → J p l e Rm s m args below meth c nL D dA ad R A Q F1 (pc + 3) lv st) : J p l e Rm s m args below meth c nL D dA ad R A Q F pc lv (.int v :: .ref (ad 100) :: st) := r_putI (j := 10) X cl_X7 (by decide) rfl w_824 rfl rfl rfl rfl hk hdg kk
theorem fg_X7_117 (X : Cx p s m args meth c cc nL RX7 D dA) (hk : OB R 100 7) (hdg : decode cc pc = .ok (.getfield 117, 3)) (kk : J p l e Rm s m args below meth c nL D dA ad R A Q F (pc + 3) lv (.int (F 100 11) :: st)) : J p l e Rm s m args below meth c nL D dA ad R A Q F pc lv (.ref (ad 100) :: st) := r_getI (j := 11) X cl_X7 (by decide) rfl w_825 rfl hk hdg kk
theorem fp_X7_117 (X : Cx p s m args meth c cc nL RX7 D dA) {v : Int32} (hk : OB R 100 7) (hdg : decode cc pc = .ok (.putfield 117, 3)) (kk : ∀ F1 : HF, F1 = hup F 100 11 v → J p l e Rm s m args below meth c nL D dA ad R A Q F1 (pc + 3) lv st) : J p l e Rm s m args below meth c nL D dA ad R A Q F pc lv (.int v :: .ref (ad 100) :: st) := r_putI (j := 11) X cl_X7 (by decide) rfl w_825 rfl rfl rfl rfl hk hdg kk
theorem fg_X7_120 (X : Cx p s m args meth c cc nL RX7 D dA) (hk : OB R 100 7) (hdg : decode cc pc = .ok (.getfield 120, 3)) (kk : J p l e Rm s m args below meth c nL D dA ad R A Q F (pc + 3) lv (.int (F 100 12) :: st)) : J p l e Rm s m args below meth c nL D dA ad R A Q F pc lv (.ref (ad 100) :: st) := r_getI (j := 12) X cl_X7 (by decide) rfl w_826 rfl hk hdg kk
theorem fp_X7_120 (X : Cx p s m args meth c cc nL RX7 D dA) {v : Int32} (hk : OB R 100 7) (hdg : decode cc pc = .ok (.putfield 120, 3)) (kk : ∀ F1 : HF, F1 = hup F 100 12 v → J p l e Rm s m args below meth c nL D dA ad R A Q F1 (pc + 3) lv st) : J p l e Rm s m args below meth c nL D dA ad R A Q F pc lv (.int v :: .ref (ad 100) :: st) := r_putI (j := 12) X cl_X7 (by decide) rfl w_826 rfl rfl rfl rfl hk hdg kk
theorem fg_X7_123 (X : Cx p s m args meth c cc nL RX7 D dA) (hk : OB R 100 7) (hdg : decode cc pc = .ok (.getfield 123, 3)) (kk : J p l e Rm s m args below meth c nL D dA ad R A Q F (pc + 3) lv (.int (F 100 5) :: st)) : J p l e Rm s m args below meth c nL D dA ad R A Q F pc lv (.ref (ad 100) :: st) := r_getI (j := 5) X cl_X7 (by decide) rfl w_819 rfl hk hdg kk
theorem fp_X7_123 (X : Cx p s m args meth c cc nL RX7 D dA) {v : Int32} (hk : OB R 100 7) (hdg : decode cc pc = .ok (.putfield 123, 3)) (kk : ∀ F1 : HF, F1 = hup F 100 5 v → J p l e Rm s m args below meth c nL D dA ad R A Q F1 (pc + 3) lv st) : J p l e Rm s m args below meth c nL D dA ad R A Q F pc lv (.int v :: .ref (ad 100) :: st) := r_putI (j := 5) X cl_X7 (by decide) rfl w_819 rfl rfl rfl rfl hk hdg kk
theorem fg_X7_210 (X : Cx p s m args meth c cc nL RX7 D dA) (hk : OB R 100 7) (hdg : decode cc pc = .ok (.getfield 210, 3)) (kk : J p l e Rm s m args below meth c nL D dA ad R A Q F (pc + 3) lv (.int (F 100 30) :: st)) : J p l e Rm s m args below meth c nL D dA ad R A Q F pc lv (.ref (ad 100) :: st) := r_getI (j := 30) X cl_X7 (by decide) rfl w_844 rfl hk hdg kk
theorem fp_X7_210 (X : Cx p s m args meth c cc nL RX7 D dA) {v : Int32} (hk : OB R 100 7) (hdg : decode cc pc = .ok (.putfield 210, 3)) (kk : ∀ F1 : HF, F1 = hup F 100 30 v → J p l e Rm s m args below meth c nL D dA ad R A Q F1 (pc + 3) lv st) : J p l e Rm s m args below meth c nL D dA ad R A Q F pc lv (.int v :: .ref (ad 100) :: st) := r_putI (j := 30) X cl_X7 (by decide) rfl w_844 rfl rfl rfl rfl hk hdg kk
end FR
theorem g_X6_84 : GoodIn WB (wsV RX6 84 RX3 yX3_append (Cond.code yX3_append cX3_append 2 (some .boolean) :: WB)) := gV w_274 w_275 w_276 w_53 w_277
theorem g_X6_88 : GoodIn WB (wsV RX6 88 RX3 yX3_readInto (Cond.code yX3_readInto cX3_readInto 4 (some .int) :: WB)) := gV w_278 w_279 w_280 w_53 w_281
theorem g_X6_92 : GoodIn WB (wsV RX6 92 RX3 yX3_clear (Cond.code yX3_clear cX3_clear 1 none :: WB)) := gV w_325 w_326 w_327 w_53 w_328
theorem g_X6_95 : GoodIn WB (wsV RX6 95 RX3 yX3_length (Cond.code yX3_length cX3_length 1 (some .int) :: WB)) := gV w_368 w_369 w_370 w_53 w_371
theorem g_X6_96 : GoodIn WB (wsV RX6 96 RX1 yX1_birds (Cond.code yX1_birds cX1_birds 1 (some .int) :: WB)) := gV w_384 w_385 w_386 w_54 w_387
theorem g_X6_99 : GoodIn WB (wsV RX6 99 RX1 yX1_copyFrom (Cond.code yX1_copyFrom cX1_copyFrom 2 none :: WB)) := gV w_388 w_389 w_390 w_54 w_391
theorem g_X6_102 : GoodIn WB (wsV RX6 102 RX2 yX2_begin (Cond.code yX2_begin cX2_begin 1 none :: WB)) := gV w_395 w_396 w_397 w_55 w_398
theorem g_X6_105 : GoodIn WB (wsV RX6 105 RX5 yX5_clear (Cond.code yX5_clear cX5_clear 1 none :: WB)) := gV w_407 w_408 w_409 w_57 w_410
theorem g_X6_106 : GoodIn WB (wsV RX6 106 RX4 yX4_begin (Cond.code yX4_begin cX4_begin 1 none :: WB)) := gV w_411 w_412 w_413 w_59 w_414
theorem g_X6_107 : GoodIn WB (wsV RX6 107 RX6 yX6_isBird (Cond.code yX6_isBird cX6_isBird 2 (some .boolean) :: WB)) := gV w_419 w_421 w_8 w_52 w_422
theorem g_X6_110 : GoodIn WB (wsV RX6 110 RX1 yX1_strengthOf (Cond.code yX1_strengthOf cX1_strengthOf 2 (some .int) :: WB)) := gV w_423 w_424 w_425 w_54 w_426
theorem g_X6_114 : GoodIn WB (wsV RX6 114 RX1 yX1_lengthOf (Cond.code yX1_lengthOf cX1_lengthOf 2 (some .int) :: WB)) := gV w_427 w_428 w_429 w_54 w_430
theorem g_X6_117 : GoodIn WB (wsV RX6 117 RX1 yX1_kindOf (Cond.code yX1_kindOf cX1_kindOf 2 (some .int) :: WB)) := gV w_431 w_432 w_433 w_54 w_434
theorem g_X6_120 : GoodIn WB (wsV RX6 120 RX1 yX1_woodOf (Cond.code yX1_woodOf cX1_woodOf 2 (some .int) :: WB)) := gV w_435 w_436 w_437 w_54 w_438
theorem g_X6_123 : GoodIn WB (wsV RX6 123 RX2 yX2_bridge (Cond.code yX2_bridge cX2_bridge 1 (some (.object "BirdBridge$Bridge")) :: WB)) := gV w_439 w_440 w_441 w_55 w_442
theorem g_X6_127 : GoodIn WB (wsV RX6 127 RX0 yX0_tiredOf (Cond.code yX0_tiredOf cX0_tiredOf 2 (some .int) :: WB)) := gV w_443 w_444 w_445 w_56 w_446
theorem g_X6_130 : GoodIn WB (wsV RX6 130 RX0 yX0_positionOf (Cond.code yX0_positionOf cX0_positionOf 3 (some .int) :: WB)) := gV w_447 w_448 w_449 w_56 w_450
theorem g_X6_133 : GoodIn WB (wsV RX6 133 RX1 yX1_windIn (Cond.code yX1_windIn cX1_windIn 2 (some .int) :: WB)) := gV w_455 w_456 w_457 w_54 w_458
theorem g_X6_136 : GoodIn WB (wsV RX6 136 RX0 yX0_size (Cond.code yX0_size cX0_size 1 (some .int) :: WB)) := gV w_463 w_464 w_465 w_56 w_466
theorem g_X6_139 : GoodIn WB (wsV RX6 139 RX0 yX0_birdAt (Cond.code yX0_birdAt cX0_birdAt 2 (some .int) :: WB)) := gV w_467 w_468 w_469 w_56 w_470
theorem g_X6_142 : GoodIn WB (wsV RX6 142 RX0 yX0_firstPlaceOf (Cond.code yX0_firstPlaceOf cX0_firstPlaceOf 4 (some .int) :: WB)) := gV w_471 w_472 w_473 w_56 w_474
theorem g_X6_145 : GoodIn WB (wsV RX6 145 RX0 yX0_powerAt (Cond.code yX0_powerAt cX0_powerAt 5 (some .int) :: WB)) := gV w_476 w_477 w_478 w_56 w_479
theorem g_X6_148 : GoodIn WB (wsV RX6 148 RX6 yX6_loadNow (Cond.code yX6_loadNow cX6_loadNow 2 (some .int) :: WB)) := gV w_488 w_490 w_9 w_52 w_491
theorem g_X6_151 : GoodIn WB (wsV RX6 151 RX2 yX2_isFixed (Cond.code yX2_isFixed cX2_isFixed 1 (some .boolean) :: WB)) := gV w_544 w_545 w_546 w_55 w_547
theorem g_X6_155 : GoodIn WB (wsV RX6 155 RX0 yX0_mayJoin (Cond.code yX0_mayJoin cX0_mayJoin 3 (some .boolean) :: WB)) := gV w_549 w_550 w_551 w_56 w_552
theorem g_X6_158 : GoodIn WB (wsV RX6 158 RX5 yX5_put (Cond.code yX5_put cX5_put 2 none :: WB)) := gV w_564 w_565 w_566 w_57 w_567
theorem g_X6_162 : GoodIn WB (wsV RX6 162 RX0 yX0_append (Cond.code yX0_append cX0_append 2 none :: WB)) := gV w_581 w_582 w_583 w_56 w_584
theorem g_X6_165 : GoodIn WB (wsV RX6 165 RX0 yX0_dropLast (Cond.code yX0_dropLast cX0_dropLast 1 none :: WB)) := gV w_589 w_590 w_591 w_56 w_592
theorem g_X6_168 : GoodIn WB (wsV RX6 168 RX2 yX2_isBroken (Cond.code yX2_isBroken cX2_isBroken 1 (some .boolean) :: WB)) := gV w_597 w_598 w_599 w_55 w_600
theorem g_X6_171 : GoodIn WB (wsV RX6 171 RX0 yX0_isWhole (Cond.code yX0_isWhole cX0_isWhole 1 (some .boolean) :: WB)) := gV w_601 w_554 w_555 w_56 w_556
theorem g_X6_174 : GoodIn WB (wsV RX6 174 RX2 yX2_place (Cond.code yX2_place cX2_place 1 (some .int) :: WB)) := gV w_509 w_510 w_511 w_55 w_512
theorem g_X6_177 : GoodIn WB (wsV RX6 177 RX1 yX1_width (Cond.code yX1_width cX1_width 1 (some .int) :: WB)) := gV w_602 w_506 w_507 w_54 w_508
theorem g_X6_180 : GoodIn WB (wsV RX6 180 RX2 yX2_passMinuteAt (Cond.code yX2_passMinuteAt cX2_passMinuteAt 2 (some .boolean) :: WB)) := gV w_603 w_604 w_605 w_55 w_606
theorem g_X6_183 : GoodIn WB (wsV RX6 183 RX2 yX2_isOnBridge (Cond.code yX2_isOnBridge cX2_isOnBridge 1 (some .boolean) :: WB)) := gV w_501 w_502 w_503 w_55 w_504
theorem g_X6_186 : GoodIn WB (wsV RX6 186 RX2 yX2_setYear (Cond.code yX2_setYear cX2_setYear 2 none :: WB)) := gV w_632 w_633 w_634 w_55 w_635
theorem g_X6_189 : GoodIn WB (wsV RX6 189 RX2 yX2_weight (Cond.code yX2_weight cX2_weight 1 (some .int) :: WB)) := gV w_513 w_514 w_515 w_55 w_516
theorem g_X6_192 : GoodIn WB (wsV RX6 192 RX5 yX5_takeInto (Cond.code yX5_takeInto cX5_takeInto 2 (some .boolean) :: WB)) := gV w_640 w_641 w_642 w_57 w_643
theorem g_X6_196 : GoodIn WB (wsV RX6 196 RX5 yX5_size (Cond.code yX5_size cX5_size 1 (some .int) :: WB)) := gV w_644 w_645 w_646 w_57 w_647
theorem g_X6_197 : GoodIn WB (wsV RX6 197 RX0 yX0_copyFrom (Cond.code yX0_copyFrom cX0_copyFrom 2 none :: WB)) := gV w_492 w_493 w_494 w_56 w_495
theorem g_X6_200 : GoodIn WB (wsV RX6 200 RX2 yX2_minute (Cond.code yX2_minute cX2_minute 1 (some .int) :: WB)) := gV w_521 w_522 w_523 w_55 w_524
theorem g_X6_203 : GoodIn WB (wsV RX6 203 RX0 yX0_walk (Cond.code yX0_walk cX0_walk 6 (some .int) :: WB)) := gV w_652 w_653 w_654 w_56 w_655
theorem g_X6_207 : GoodIn WB (wsV RX6 207 RX4 yX4_find (Cond.code yX4_find cX4_find 2 none :: WB)) := gV w_663 w_664 w_665 w_59 w_666
theorem g_X6_210 : GoodIn WB (wsV RX6 210 RX4 yX4_foundSize (Cond.code yX4_foundSize cX4_foundSize 1 (some .int) :: WB)) := gV w_693 w_694 w_695 w_59 w_696
theorem g_X6_213 : GoodIn WB (wsV RX6 213 RX4 yX4_foundAt (Cond.code yX4_foundAt cX4_foundAt 2 (some .int) :: WB)) := gV w_697 w_698 w_699 w_59 w_700
theorem g_X6_216 : GoodIn WB (wsV RX6 216 RX6 yX6_mends (Cond.code yX6_mends cX6_mends 4 (some .boolean) :: WB)) := gV w_705 w_707 w_14 w_52 w_708
theorem g_X6_220 : GoodIn WB (wsV RX6 220 RX6 yX6_callMinute (Cond.code yX6_callMinute cX6_callMinute 8 (some .int) :: WB)) := gV w_717 w_719 w_15 w_52 w_720
theorem g_X6_229 : GoodIn WB (wsV RX6 229 RX6 yX6_bothComeOver (Cond.code yX6_bothComeOver cX6_bothComeOver 7 (some .boolean) :: WB)) := gV w_726 w_728 w_16 w_52 w_729
theorem g_X6_232 : GoodIn WB (wsV RX6 232 RX0 yX0_copyRested (Cond.code yX0_copyRested cX0_copyRested 2 none :: WB)) := gV w_730 w_731 w_732 w_56 w_733
theorem g_X6_235 : GoodIn WB (wsV RX6 235 RX1 yX1_weightIn (Cond.code yX1_weightIn cX1_weightIn 2 (some .int) :: WB)) := gV w_740 w_518 w_519 w_54 w_520
theorem g_X6_238 : GoodIn WB (wsV RX6 238 RX6 yX6_isAsSeen (Cond.code yX6_isAsSeen cX6_isAsSeen 4 (some .boolean) :: WB)) := gV w_753 w_755 w_17 w_52 w_756
theorem g_X6_245 : GoodIn WB (wsV RX6 245 RX6 yX6_comesOverByDraws (Cond.code yX6_comesOverByDraws cX6_comesOverByDraws 5 (some .boolean) :: WB)) := gV w_769 w_771 w_18 w_52 w_772
theorem g_X6_248 : GoodIn WB (wsV RX6 248 RX5 yX5_isFull (Cond.code yX5_isFull cX5_isFull 1 (some .boolean) :: WB)) := gV w_786 w_569 w_570 w_57 w_571
theorem g_X6_251 : GoodIn WB (wsV RX6 251 RX0 yX0_placesSpanned (Cond.code yX0_placesSpanned cX0_placesSpanned 1 (some .int) :: WB)) := gV w_795 w_677 w_678 w_56 w_679
theorem g_X6_254 : GoodIn WB (wsV RX6 254 RX2 yX2_yearNow (Cond.code yX2_yearNow cX2_yearNow 1 (some .int) :: WB)) := gV w_796 w_797 w_798 w_55 w_799
theorem g_X6_257 : GoodIn WB (wsV RX6 257 RX0 yX0_unload (Cond.code yX0_unload cX0_unload 2 none :: WB)) := gV w_497 w_498 w_499 w_56 w_500
theorem g_X6_260 : GoodIn WB (wsV RX6 260 RX0 yX0_press (Cond.code yX0_press cX0_press 6 none :: WB)) := gV w_525 w_526 w_527 w_56 w_528
theorem g_X6_264 : GoodIn WB (wsV RX6 264 RX0 yX0_borneAt (Cond.code yX0_borneAt cX0_borneAt 2 (some .int) :: WB)) := gV w_536 w_537 w_538 w_56 w_539
theorem g_X6_267 : GoodIn WB (wsV RX6 267 RX0 yX0_replace (Cond.code yX0_replace cX0_replace 3 none :: WB)) := gV w_709 w_710 w_711 w_56 w_712
theorem g_X6_270 : GoodIn WB (wsV RX6 270 RX0 yX0_settle (Cond.code yX0_settle cX0_settle 2 (some .boolean) :: WB)) := gV w_735 w_616 w_617 w_56 w_618
theorem g_X6_273 : GoodIn WB (wsV RX6 273 RX0 yX0_loadAlone (Cond.code yX0_loadAlone cX0_loadAlone 3 none :: WB)) := gV w_757 w_610 w_611 w_56 w_612
theorem g_X6_276 : GoodIn WB (wsV RX6 276 RX0 yX0_tire (Cond.code yX0_tire cX0_tire 4 none :: WB)) := gV w_758 w_621 w_622 w_56 w_623
theorem g_X6_279 : GoodIn WB (wsS RX6 279 yX6_drawnWind (Cond.code yX6_drawnWind cX6_drawnWind 7 (some .int) :: WB)) := gS w_773 w_774 w_52 w_775
theorem g_X0_29 : GoodIn WB (wsV RX0 29 RX0 yX0_rest (Cond.code yX0_rest cX0_rest 2 none :: WB)) := gV w_403 w_404 w_405 w_56 w_406
theorem g_X0_38 : GoodIn WB (wsV RX0 38 RX0 yX0_copyFrom (Cond.code yX0_copyFrom cX0_copyFrom 2 none :: WB)) := gV w_734 w_493 w_494 w_56 w_495
theorem g_X0_42 : GoodIn WB (wsV RX0 42 RX1 yX1_kindOf (Cond.code yX1_kindOf cX1_kindOf 2 (some .int) :: WB)) := gV w_483 w_432 w_433 w_54 w_434
theorem g_X0_48 : GoodIn WB (wsV RX0 48 RX1 yX1_lengthOf (Cond.code yX1_lengthOf cX1_lengthOf 2 (some .int) :: WB)) := gV w_475 w_428 w_429 w_54 w_430
theorem g_X0_51 : GoodIn WB (wsV RX0 51 RX0 yX0_firstPlaceOf (Cond.code yX0_firstPlaceOf cX0_firstPlaceOf 4 (some .int) :: WB)) := gV w_557 w_472 w_473 w_56 w_474
theorem g_X0_54 : GoodIn WB (wsV RX0 54 RX1 yX1_width (Cond.code yX1_width cX1_width 1 (some .int) :: WB)) := gV w_558 w_506 w_507 w_54 w_508
theorem g_X0_64 : GoodIn WB (wsV RX0 64 RX0 yX0_isWhole (Cond.code yX0_isWhole cX0_isWhole 1 (some .boolean) :: WB)) := gV w_553 w_554 w_555 w_56 w_556
theorem g_X0_68 : GoodIn WB (wsV RX0 68 RX0 yX0_positionOf (Cond.code yX0_positionOf cX0_positionOf 3 (some .int) :: WB)) := gV w_559 w_448 w_449 w_56 w_450
theorem g_X0_71 : GoodIn WB (wsV RX0 71 RX1 yX1_hasCrow (Cond.code yX1_hasCrow cX1_hasCrow 2 (some .boolean) :: WB)) := gV w_560 w_561 w_562 w_54 w_563
theorem g_X0_74 : GoodIn WB (wsV RX0 74 RX0 yX0_kindAt (Cond.code yX0_kindAt cX0_kindAt 2 (some .int) :: WB)) := gV w_484 w_485 w_486 w_56 w_487
theorem g_X0_77 : GoodIn WB (wsV RX0 77 RX0 yX0_birdAt (Cond.code yX0_birdAt cX0_birdAt 2 (some .int) :: WB)) := gV w_480 w_468 w_469 w_56 w_470
theorem g_X0_80 : GoodIn WB (wsV RX0 80 RX1 yX1_strengthOf (Cond.code yX1_strengthOf cX1_strengthOf 2 (some .int) :: WB)) := gV w_481 w_424 w_425 w_54 w_426
theorem g_X0_83 : GoodIn WB (wsV RX0 83 RX0 yX0_tiredOf (Cond.code yX0_tiredOf cX0_tiredOf 2 (some .int) :: WB)) := gV w_482 w_444 w_445 w_56 w_446
theorem g_X0_86 : GoodIn WB (wsV RX0 86 RX0 yX0_whoSpans (Cond.code yX0_whoSpans cX0_whoSpans 4 (some .int) :: WB)) := gV w_529 w_531 w_10 w_56 w_532
theorem g_X0_92 : GoodIn WB (wsV RX0 92 RX0 yX0_unload (Cond.code yX0_unload cX0_unload 2 none :: WB)) := gV w_613 w_498 w_499 w_56 w_500
theorem g_X0_95 : GoodIn WB (wsV RX0 95 RX0 yX0_press (Cond.code yX0_press cX0_press 6 none :: WB)) := gV w_614 w_526 w_527 w_56 w_528
theorem g_X0_99 : GoodIn WB (wsV RX0 99 RX0 yX0_powerAt (Cond.code yX0_powerAt cX0_powerAt 5 (some .int) :: WB)) := gV w_619 w_477 w_478 w_56 w_479
theorem g_X0_102 : GoodIn WB (wsV RX0 102 RX0 yX0_tire (Cond.code yX0_tire cX0_tire 4 none :: WB)) := gV w_620 w_621 w_622 w_56 w_623
theorem g_X0_105 : GoodIn WB (wsV RX0 105 RX1 yX1_windIn (Cond.code yX1_windIn cX1_windIn 2 (some .int) :: WB)) := gV w_656 w_456 w_457 w_54 w_458
theorem g_X0_108 : GoodIn WB (wsV RX0 108 RX0 yX0_loadAlone (Cond.code yX0_loadAlone cX0_loadAlone 3 none :: WB)) := gV w_657 w_610 w_611 w_56 w_612
theorem g_X0_111 : GoodIn WB (wsV RX0 111 RX0 yX0_settle (Cond.code yX0_settle cX0_settle 2 (some .boolean) :: WB)) := gV w_658 w_616 w_617 w_56 w_618
theorem g_X1_27 : GoodIn WB (wsV RX1 27 RX1 yX1_clear (Cond.code yX1_clear cX1_clear 1 none :: WB)) := gV w_98 w_99 w_100 w_54 w_101
theorem g_X1_52 : GoodIn WB (wsV RX1 52 RX1 yX1_takeBird (Cond.code yX1_takeBird cX1_takeBird 5 (some .boolean) :: WB)) := gV w_309 w_311 w_4 w_54 w_312
theorem g_X1_56 : GoodIn WB (wsV RX1 56 RX1 yX1_takeRiver (Cond.code yX1_takeRiver cX1_takeRiver 2 (some .boolean) :: WB)) := gV w_313 w_315 w_5 w_54 w_316
theorem g_X1_60 : GoodIn WB (wsV RX1 60 RX1 yX1_takeWind (Cond.code yX1_takeWind cX1_takeWind 2 (some .boolean) :: WB)) := gV w_317 w_319 w_6 w_54 w_320
theorem g_X1_63 : GoodIn WB (wsV RX1 63 RX1 yX1_takeLoad (Cond.code yX1_takeLoad cX1_takeLoad 3 (some .boolean) :: WB)) := gV w_321 w_323 w_7 w_54 w_324
theorem g_X2_38 : GoodIn WB (wsV RX2 38 RX0 yX0_clear (Cond.code yX0_clear cX0_clear 1 none :: WB)) := gV w_399 w_400 w_401 w_56 w_402
theorem g_X2_41 : GoodIn WB (wsV RX2 41 RX0 yX0_copyFrom (Cond.code yX0_copyFrom cX0_copyFrom 2 none :: WB)) := gV w_580 w_493 w_494 w_56 w_495
theorem g_X2_45 : GoodIn WB (wsV RX2 45 RX1 yX1_weightIn (Cond.code yX1_weightIn cX1_weightIn 2 (some .int) :: WB)) := gV w_517 w_518 w_519 w_54 w_520
theorem g_X2_51 : GoodIn WB (wsV RX2 51 RX1 yX1_width (Cond.code yX1_width cX1_width 1 (some .int) :: WB)) := gV w_505 w_506 w_507 w_54 w_508
theorem g_X2_55 : GoodIn WB (wsV RX2 55 RX2 yX2_isOnBridge (Cond.code yX2_isOnBridge cX2_isOnBridge 1 (some .boolean) :: WB)) := gV w_548 w_502 w_503 w_55 w_504
theorem g_X2_59 : GoodIn WB (wsV RX2 59 RX2 yX2_weight (Cond.code yX2_weight cX2_weight 1 (some .int) :: WB)) := gV w_607 w_514 w_515 w_55 w_516
theorem g_X2_62 : GoodIn WB (wsV RX2 62 RX1 yX1_windIn (Cond.code yX1_windIn cX1_windIn 2 (some .int) :: WB)) := gV w_608 w_456 w_457 w_54 w_458
theorem g_X2_65 : GoodIn WB (wsV RX2 65 RX0 yX0_loadAlone (Cond.code yX0_loadAlone cX0_loadAlone 3 none :: WB)) := gV w_609 w_610 w_611 w_56 w_612
theorem g_X2_69 : GoodIn WB (wsV RX2 69 RX0 yX0_settle (Cond.code yX0_settle cX0_settle 2 (some .boolean) :: WB)) := gV w_615 w_616 w_617 w_56 w_618
theorem g_X3_23 : GoodIn WB (wsV RX3 23 RX1 yX1_clear (Cond.code yX1_clear cX1_clear 1 none :: WB)) := gV w_282 w_99 w_100 w_54 w_101
theorem g_X3_28 : GoodIn WB (wsV RX3 28 RX3 yX3_readItem (Cond.code yX3_readItem cX3_readItem 6 (some .int) :: WB)) := gV w_283 w_285 w_0 w_53 w_286
theorem g_X3_32 : GoodIn WB (wsV RX3 32 RX3 yX3_letterAt (Cond.code yX3_letterAt cX3_letterAt 2 (some .char) :: WB)) := gV w_287 w_289 w_1 w_53 w_290
theorem g_X3_36 : GoodIn WB (wsV RX3 36 RX1 yX1_take (Cond.code yX1_take cX1_take 3 (some .boolean) :: WB)) := gV w_305 w_306 w_307 w_54 w_308
theorem g_X3_40 : GoodIn WB (wsS RX3 40 yX3_numbersBehind (Cond.code yX3_numbersBehind cX3_numbersBehind 1 (some .int) :: WB)) := gS w_291 w_292 w_53 w_293
theorem g_X3_44 : GoodIn WB (wsV RX3 44 RX3 yX3_figuresFrom (Cond.code yX3_figuresFrom cX3_figuresFrom 2 (some .int) :: WB)) := gV w_294 w_296 w_2 w_53 w_297
theorem g_X3_47 : GoodIn WB (wsV RX3 47 RX3 yX3_numberAt (Cond.code yX3_numberAt cX3_numberAt 5 (some .int) :: WB)) := gV w_301 w_303 w_3 w_53 w_304
theorem g_X3_51 : GoodIn WB (wsS RX3 51 yX3_isFigure (Cond.code yX3_isFigure cX3_isFigure 1 (some .boolean) :: WB)) := gS w_298 w_299 w_53 w_300
theorem g_X4_35 : GoodIn WB (wsV RX4 35 RX0 yX0_clear (Cond.code yX0_clear cX0_clear 1 none :: WB)) := gV w_667 w_400 w_401 w_56 w_402
theorem g_X4_38 : GoodIn WB (wsV RX4 38 RX4 yX4_extend (Cond.code yX4_extend cX4_extend 6 none :: WB)) := gV w_668 w_670 w_12 w_59 w_671
theorem g_X4_42 : GoodIn WB (wsV RX4 42 RX1 yX1_birds (Cond.code yX1_birds cX1_birds 1 (some .int) :: WB)) := gV w_672 w_385 w_386 w_54 w_387
theorem g_X4_48 : GoodIn WB (wsV RX4 48 RX0 yX0_mayJoin (Cond.code yX0_mayJoin cX0_mayJoin 3 (some .boolean) :: WB)) := gV w_673 w_550 w_551 w_56 w_552
theorem g_X4_52 : GoodIn WB (wsV RX4 52 RX0 yX0_append (Cond.code yX0_append cX0_append 2 none :: WB)) := gV w_674 w_582 w_583 w_56 w_584
theorem g_X4_56 : GoodIn WB (wsV RX4 56 RX0 yX0_rest (Cond.code yX0_rest cX0_rest 2 none :: WB)) := gV w_675 w_404 w_405 w_56 w_406
theorem g_X4_59 : GoodIn WB (wsV RX4 59 RX0 yX0_placesSpanned (Cond.code yX0_placesSpanned cX0_placesSpanned 1 (some .int) :: WB)) := gV w_676 w_677 w_678 w_56 w_679
theorem g_X4_62 : GoodIn WB (wsV RX4 62 RX0 yX0_walk (Cond.code yX0_walk cX0_walk 6 (some .int) :: WB)) := gV w_683 w_653 w_654 w_56 w_655
theorem g_X4_66 : GoodIn WB (wsV RX4 66 RX0 yX0_isWhole (Cond.code yX0_isWhole cX0_isWhole 1 (some .boolean) :: WB)) := gV w_684 w_554 w_555 w_56 w_556
theorem g_X4_70 : GoodIn WB (wsV RX4 70 RX4 yX4_noteFound (Cond.code yX4_noteFound cX4_noteFound 2 none :: WB)) := gV w_685 w_687 w_13 w_59 w_688
theorem g_X4_73 : GoodIn WB (wsV RX4 73 RX1 yX1_kindOf (Cond.code yX1_kindOf cX1_kindOf 2 (some .int) :: WB)) := gV w_691 w_432 w_433 w_54 w_434
theorem g_X4_77 : GoodIn WB (wsV RX4 77 RX0 yX0_dropLast (Cond.code yX0_dropLast cX0_dropLast 1 none :: WB)) := gV w_692 w_590 w_591 w_56 w_592
theorem g_X4_80 : GoodIn WB (wsV RX4 80 RX0 yX0_size (Cond.code yX0_size cX0_size 1 (some .int) :: WB)) := gV w_689 w_464 w_465 w_56 w_466
theorem g_X4_83 : GoodIn WB (wsV RX4 83 RX0 yX0_birdAt (Cond.code yX0_birdAt cX0_birdAt 2 (some .int) :: WB)) := gV w_690 w_468 w_469 w_56 w_470
theorem g_X5_28 : GoodIn WB (wsV RX5 28 RX5 yX5_isFull (Cond.code yX5_isFull cX5_isFull 1 (some .boolean) :: WB)) := gV w_568 w_569 w_570 w_57 w_571
theorem g_X5_32 : GoodIn WB (wsV RX5 32 RX5 yX5_giveUpOldest (Cond.code yX5_giveUpOldest cX5_giveUpOldest 3 none :: WB)) := gV w_572 w_574 w_11 w_57 w_575
theorem g_X5_35 : GoodIn WB (wsV RX5 35 RX2 yX2_copyFrom (Cond.code yX2_copyFrom cX2_copyFrom 2 none :: WB)) := gV w_576 w_577 w_578 w_55 w_579
theorem g_L_13 : GoodIn WB (wsV RL 13 RX6 yX6_write (Cond.code yX6_write cX6_write 2 (some .int) :: WB)) := gV w_364 w_365 w_366 w_52 w_367
theorem g_L_17 : GoodIn WB (wsV RL 17 RX7 yX7_write (Cond.code yX7_write cX7_write 2 (some .int) :: WB)) := gV w_914 w_915 w_916 w_64 w_917
theorem g_L_18 : GoodIn WB (wsV RL 18 RX6 yX6_wipe (Cond.code yX6_wipe cX6_wipe 2 (some .int) :: WB)) := gV w_372 w_373 w_374 w_52 w_375
theorem g_L_22 : GoodIn WB (wsV RL 22 RX7 yX7_wipe (Cond.code yX7_wipe cX7_wipe 2 (some .int) :: WB)) := gV w_921 w_922 w_923 w_64 w_924
theorem g_L_23 : GoodIn WB (wsV RL 23 RX6 yX6_fault (Cond.code yX6_fault cX6_fault 1 (some .int) :: WB)) := gV w_376 w_377 w_378 w_52 w_379
theorem g_L_26 : GoodIn WB (wsV RL 26 RX7 yX7_fault (Cond.code yX7_fault cX7_fault 1 (some .int) :: WB)) := gV w_925 w_926 w_927 w_64 w_928
theorem g_L_27 : GoodIn WB (wsV RL 27 RX6 yX6_lay (Cond.code yX6_lay cX6_lay 1 (some .int) :: WB)) := gV w_380 w_381 w_382 w_52 w_383
theorem g_L_30 : GoodIn WB (wsV RL 30 RX7 yX7_lay (Cond.code yX7_lay cX7_lay 2 (some .int) :: WB)) := gV w_945 w_946 w_947 w_64 w_948
theorem g_L_31 : GoodIn WB (wsV RL 31 RX6 yX6_bird (Cond.code yX6_bird cX6_bird 3 (some .int) :: WB)) := gV w_415 w_416 w_417 w_52 w_418
theorem g_L_35 : GoodIn WB (wsV RL 35 RX7 yX7_bird (Cond.code yX7_bird cX7_bird 3 (some .int) :: WB)) := gV w_949 w_950 w_951 w_64 w_952
theorem g_L_36 : GoodIn WB (wsV RL 36 RX6 yX6_wind (Cond.code yX6_wind cX6_wind 2 (some .int) :: WB)) := gV w_451 w_452 w_453 w_52 w_454
theorem g_L_39 : GoodIn WB (wsV RL 39 RX7 yX7_wind (Cond.code yX7_wind cX7_wind 2 (some .int) :: WB)) := gV w_961 w_962 w_963 w_64 w_964
theorem g_L_40 : GoodIn WB (wsV RL 40 RX6 yX6_span (Cond.code yX6_span cX6_span 4 (some .int) :: WB)) := gV w_459 w_460 w_461 w_52 w_462
theorem g_L_43 : GoodIn WB (wsV RL 43 RX7 yX7_span (Cond.code yX7_span cX7_span 3 (some .int) :: WB)) := gV w_969 w_970 w_971 w_64 w_972
theorem g_L_44 : GoodIn WB (wsV RL 44 RX6 yX6_join (Cond.code yX6_join cX6_join 2 (some .int) :: WB)) := gV w_540 w_541 w_542 w_52 w_543
theorem g_L_47 : GoodIn WB (wsV RL 47 RX7 yX7_join (Cond.code yX7_join cX7_join 2 (some .int) :: WB)) := gV w_1008 w_1009 w_1010 w_64 w_1011
theorem g_L_48 : GoodIn WB (wsV RL 48 RX6 yX6_leave (Cond.code yX6_leave cX6_leave 3 (some .int) :: WB)) := gV w_585 w_586 w_587 w_52 w_588
theorem g_L_51 : GoodIn WB (wsV RL 51 RX7 yX7_leave (Cond.code yX7_leave cX7_leave 1 (some .int) :: WB)) := gV w_1035 w_1036 w_1037 w_64 w_1038
theorem g_L_52 : GoodIn WB (wsV RL 52 RX6 yX6_step (Cond.code yX6_step cX6_step 1 (some .int) :: WB)) := gV w_593 w_594 w_595 w_52 w_596
theorem g_L_55 : GoodIn WB (wsV RL 55 RX7 yX7_step (Cond.code yX7_step cX7_step 1 (some .int) :: WB)) := gV w_1039 w_1040 w_1041 w_64 w_1042
theorem g_L_56 : GoodIn WB (wsV RL 56 RX6 yX6_stand (Cond.code yX6_stand cX6_stand 1 (some .int) :: WB)) := gV w_624 w_625 w_626 w_52 w_627
theorem g_L_59 : GoodIn WB (wsV RL 59 RX7 yX7_stand (Cond.code yX7_stand cX7_stand 1 (some .int) :: WB)) := gV w_1055 w_1056 w_1057 w_64 w_1058
theorem g_L_60 : GoodIn WB (wsV RL 60 RX6 yX6_year (Cond.code yX6_year cX6_year 2 (some .int) :: WB)) := gV w_628 w_629 w_630 w_52 w_631
theorem g_L_63 : GoodIn WB (wsV RL 63 RX7 yX7_year (Cond.code yX7_year cX7_year 2 (some .int) :: WB)) := gV w_1059 w_1060 w_1061 w_64 w_1062
theorem g_L_64 : GoodIn WB (wsV RL 64 RX6 yX6_undo (Cond.code yX6_undo cX6_undo 1 (some .int) :: WB)) := gV w_636 w_637 w_638 w_52 w_639
theorem g_L_67 : GoodIn WB (wsV RL 67 RX7 yX7_undo (Cond.code yX7_undo cX7_undo 1 (some .int) :: WB)) := gV w_1063 w_1064 w_1065 w_64 w_1066
theorem g_L_68 : GoodIn WB (wsV RL 68 RX6 yX6_over (Cond.code yX6_over cX6_over 5 (some .int) :: WB)) := gV w_648 w_649 w_650 w_52 w_651
theorem g_L_71 : GoodIn WB (wsV RL 71 RX7 yX7_over (Cond.code yX7_over cX7_over 2 (some .int) :: WB)) := gV w_1067 w_1068 w_1069 w_64 w_1070
theorem g_L_72 : GoodIn WB (wsV RL 72 RX6 yX6_fewest (Cond.code yX6_fewest cX6_fewest 2 (some .int) :: WB)) := gV w_659 w_660 w_661 w_52 w_662
theorem g_L_75 : GoodIn WB (wsV RL 75 RX7 yX7_fewest (Cond.code yX7_fewest cX7_fewest 2 (some .int) :: WB)) := gV w_1075 w_1076 w_1077 w_64 w_1078
theorem g_L_76 : GoodIn WB (wsV RL 76 RX6 yX6_mend (Cond.code yX6_mend cX6_mend 4 (some .int) :: WB)) := gV w_701 w_702 w_703 w_52 w_704
theorem g_L_79 : GoodIn WB (wsV RL 79 RX7 yX7_mend (Cond.code yX7_mend cX7_mend 3 (some .int) :: WB)) := gV w_1091 w_1092 w_1093 w_64 w_1094
theorem g_L_80 : GoodIn WB (wsV RL 80 RX6 yX6_calls (Cond.code yX6_calls cX6_calls 6 (some .int) :: WB)) := gV w_713 w_714 w_715 w_52 w_716
theorem g_L_83 : GoodIn WB (wsV RL 83 RX7 yX7_calls (Cond.code yX7_calls cX7_calls 8 (some .int) :: WB)) := gV w_1095 w_1096 w_1097 w_64 w_1098
theorem g_L_84 : GoodIn WB (wsV RL 84 RX6 yX6_second (Cond.code yX6_second cX6_second 3 (some .int) :: WB)) := gV w_722 w_723 w_724 w_52 w_725
theorem g_L_87 : GoodIn WB (wsV RL 87 RX7 yX7_second (Cond.code yX7_second cX7_second 3 (some .int) :: WB)) := gV w_1102 w_1103 w_1104 w_64 w_1105
theorem g_L_88 : GoodIn WB (wsV RL 88 RX6 yX6_years (Cond.code yX6_years cX6_years 2 (some .int) :: WB)) := gV w_736 w_737 w_738 w_52 w_739
theorem g_L_91 : GoodIn WB (wsV RL 91 RX7 yX7_years (Cond.code yX7_years cX7_years 2 (some .int) :: WB)) := gV w_1110 w_1111 w_1112 w_64 w_1113
theorem g_L_92 : GoodIn WB (wsV RL 92 RX6 yX6_seen (Cond.code yX6_seen cX6_seen 3 (some .int) :: WB)) := gV w_741 w_742 w_743 w_52 w_744
theorem g_L_95 : GoodIn WB (wsV RL 95 RX7 yX7_seen (Cond.code yX7_seen cX7_seen 3 (some .int) :: WB)) := gV w_1114 w_1115 w_1116 w_64 w_1117
theorem g_L_96 : GoodIn WB (wsV RL 96 RX6 yX6_forget (Cond.code yX6_forget cX6_forget 2 (some .int) :: WB)) := gV w_745 w_746 w_747 w_52 w_748
theorem g_L_99 : GoodIn WB (wsV RL 99 RX7 yX7_forget (Cond.code yX7_forget cX7_forget 2 (some .int) :: WB)) := gV w_1118 w_1119 w_1120 w_64 w_1121
theorem g_L_100 : GoodIn WB (wsV RL 100 RX6 yX6_stood (Cond.code yX6_stood cX6_stood 4 (some .int) :: WB)) := gV w_749 w_750 w_751 w_52 w_752
theorem g_L_103 : GoodIn WB (wsV RL 103 RX7 yX7_stood (Cond.code yX7_stood cX7_stood 4 (some .int) :: WB)) := gV w_1122 w_1123 w_1124 w_64 w_1125
theorem g_L_104 : GoodIn WB (wsV RL 104 RX6 yX6_rain (Cond.code yX6_rain cX6_rain 7 (some .int) :: WB)) := gV w_759 w_760 w_761 w_52 w_762
theorem g_L_107 : GoodIn WB (wsV RL 107 RX7 yX7_rain (Cond.code yX7_rain cX7_rain 7 (some .int) :: WB)) := gV w_1130 w_1131 w_1132 w_64 w_1133
theorem g_L_108 : GoodIn WB (wsV RL 108 RX6 yX6_century (Cond.code yX6_century cX6_century 7 (some .int) :: WB)) := gV w_765 w_766 w_767 w_52 w_768
theorem g_L_112 : GoodIn WB (wsV RL 112 RX7 yX7_century (Cond.code yX7_century cX7_century 8 (some .int) :: WB)) := gV w_1136 w_1137 w_1138 w_64 w_1139
theorem g_L_113 : GoodIn WB (wsV RL 113 RX6 yX6_keep (Cond.code yX6_keep cX6_keep 1 (some .int) :: WB)) := gV w_782 w_783 w_784 w_52 w_785
theorem g_L_116 : GoodIn WB (wsV RL 116 RX7 yX7_keep (Cond.code yX7_keep cX7_keep 1 (some .int) :: WB)) := gV w_1150 w_1151 w_1152 w_64 w_1153
theorem g_L_117 : GoodIn WB (wsV RL 117 RX6 yX6_back (Cond.code yX6_back cX6_back 1 (some .int) :: WB)) := gV w_787 w_788 w_789 w_52 w_790
theorem g_L_120 : GoodIn WB (wsV RL 120 RX7 yX7_back (Cond.code yX7_back cX7_back 1 (some .int) :: WB)) := gV w_1154 w_1155 w_1156 w_64 w_1157
theorem g_L_121 : GoodIn WB (wsV RL 121 RX6 yX6_count (Cond.code yX6_count cX6_count 2 (some .int) :: WB)) := gV w_791 w_792 w_793 w_52 w_794
theorem g_L_124 : GoodIn WB (wsV RL 124 RX7 yX7_count (Cond.code yX7_count cX7_count 2 (some .int) :: WB)) := gV w_1158 w_1159 w_1160 w_64 w_1161
theorem g_X7_71 : GoodIn WB (wsV RX7 71 RX7 yX7_layBird (Cond.code yX7_layBird cX7_layBird 6 none :: WB)) := gV w_806 w_808 w_19 w_64 w_809
theorem g_X7_75 : GoodIn WB (wsV RX7 75 RX7 yX7_begin (Cond.code yX7_begin cX7_begin 2 none :: WB)) := gV w_810 w_812 w_20 w_64 w_813
theorem g_X7_87 : GoodIn WB (wsS RX7 87 yX7_in (Cond.code yX7_in cX7_in 3 (some .boolean) :: WB)) := gS w_918 w_919 w_64 w_920
theorem g_X7_100 : GoodIn WB (wsV RX7 100 RX7 yX7_letterAt (Cond.code yX7_letterAt cX7_letterAt 2 (some .int) :: WB)) := gV w_937 w_939 w_23 w_64 w_940
theorem g_X7_107 : GoodIn WB (wsV RX7 107 RX7 yX7_isRow (Cond.code yX7_isRow cX7_isRow 4 (some .boolean) :: WB)) := gV w_941 w_943 w_24 w_64 w_944
theorem g_X7_126 : GoodIn WB (wsV RX7 126 RX7 yX7_isItem (Cond.code yX7_isItem cX7_isItem 4 (some .boolean) :: WB)) := gV w_933 w_935 w_22 w_64 w_936
theorem g_X7_130 : GoodIn WB (wsV RX7 130 RX7 yX7_isRead (Cond.code yX7_isRead cX7_isRead 1 (some .boolean) :: WB)) := gV w_929 w_931 w_21 w_64 w_932
theorem g_X7_133 : GoodIn WB (wsV RX7 133 RX7 yX7_isBird (Cond.code yX7_isBird cX7_isBird 2 (some .boolean) :: WB)) := gV w_953 w_955 w_25 w_64 w_956
theorem g_X7_136 : GoodIn WB (wsV RX7 136 RX7 yX7_placeIn (Cond.code yX7_placeIn cX7_placeIn 3 (some .int) :: WB)) := gV w_957 w_959 w_26 w_64 w_960
theorem g_X7_139 : GoodIn WB (wsV RX7 139 RX7 yX7_windIn (Cond.code yX7_windIn cX7_windIn 2 (some .int) :: WB)) := gV w_965 w_967 w_27 w_64 w_968
theorem g_X7_142 : GoodIn WB (wsV RX7 142 RX7 yX7_firstOf (Cond.code yX7_firstOf cX7_firstOf 5 (some .int) :: WB)) := gV w_992 w_994 w_32 w_64 w_995
theorem g_X7_146 : GoodIn WB (wsV RX7 146 RX7 yX7_spanned (Cond.code yX7_spanned cX7_spanned 3 (some .int) :: WB)) := gV w_1024 w_1026 w_39 w_64 w_1027
theorem g_X7_150 : GoodIn WB (wsV RX7 150 RX7 yX7_kindOf (Cond.code yX7_kindOf cX7_kindOf 2 (some .int) :: WB)) := gV w_1000 w_1002 w_34 w_64 w_1003
theorem g_X7_153 : GoodIn WB (wsV RX7 153 RX7 yX7_isPair (Cond.code yX7_isPair cX7_isPair 3 (some .boolean) :: WB)) := gV w_1004 w_1006 w_35 w_64 w_1007
theorem g_X7_157 : GoodIn WB (wsV RX7 157 RX7 yX7_holderOf (Cond.code yX7_holderOf cX7_holderOf 5 (some .int) :: WB)) := gV w_988 w_990 w_31 w_64 w_991
theorem g_X7_160 : GoodIn WB (wsV RX7 160 RX7 yX7_powerOf (Cond.code yX7_powerOf cX7_powerOf 6 (some .int) :: WB)) := gV w_996 w_998 w_33 w_64 w_999
theorem g_X7_163 : GoodIn WB (wsV RX7 163 RX7 yX7_tire (Cond.code yX7_tire cX7_tire 5 none :: WB)) := gV w_1051 w_1053 w_43 w_64 w_1054
theorem g_X7_167 : GoodIn WB (wsV RX7 167 RX7 yX7_noLoads (Cond.code yX7_noLoads cX7_noLoads 2 none :: WB)) := gV w_973 w_975 w_28 w_64 w_976
theorem g_X7_170 : GoodIn WB (wsS RX7 170 yX7_isOn (Cond.code yX7_isOn cX7_isOn 2 (some .boolean) :: WB)) := gS w_977 w_978 w_64 w_979
theorem g_X7_174 : GoodIn WB (wsV RX7 174 RX7 yX7_weightIn (Cond.code yX7_weightIn cX7_weightIn 2 (some .int) :: WB)) := gV w_980 w_982 w_29 w_64 w_983
theorem g_X7_177 : GoodIn WB (wsV RX7 177 RX7 yX7_bear (Cond.code yX7_bear cX7_bear 7 none :: WB)) := gV w_984 w_986 w_30 w_64 w_987
theorem g_X7_181 : GoodIn WB (wsV RX7 181 RX7 yX7_holds (Cond.code yX7_holds cX7_holds 3 (some .boolean) :: WB)) := gV w_1047 w_1049 w_42 w_64 w_1050
theorem g_X7_185 : GoodIn WB (wsS RX7 185 yX7_copy (Cond.code yX7_copy cX7_copy 5 none :: WB)) := gS w_1032 w_1033 w_64 w_1034
theorem g_X7_189 : GoodIn WB (wsV RX7 189 RX7 yX7_isWhole (Cond.code yX7_isWhole cX7_isWhole 2 (some .boolean) :: WB)) := gV w_1020 w_1022 w_38 w_64 w_1023
theorem g_X7_192 : GoodIn WB (wsV RX7 192 RX7 yX7_isShut (Cond.code yX7_isShut cX7_isShut 1 (some .boolean) :: WB)) := gV w_1012 w_1014 w_36 w_64 w_1015
theorem g_X7_195 : GoodIn WB (wsV RX7 195 RX7 yX7_mayJoin (Cond.code yX7_mayJoin cX7_mayJoin 6 (some .boolean) :: WB)) := gV w_1016 w_1018 w_37 w_64 w_1019
theorem g_X7_198 : GoodIn WB (wsV RX7 198 RX7 yX7_note (Cond.code yX7_note cX7_note 2 none :: WB)) := gV w_1028 w_1030 w_40 w_64 w_1031
theorem g_X7_201 : GoodIn WB (wsV RX7 201 RX7 yX7_passes (Cond.code yX7_passes cX7_passes 4 (some .boolean) :: WB)) := gV w_1043 w_1045 w_41 w_64 w_1046
theorem g_X7_204 : GoodIn WB (wsV RX7 204 RX7 yX7_goesOver (Cond.code yX7_goesOver cX7_goesOver 2 (some .boolean) :: WB)) := gV w_1071 w_1073 w_44 w_64 w_1074
theorem g_X7_207 : GoodIn WB (wsV RX7 207 RX7 yX7_freshen (Cond.code yX7_freshen cX7_freshen 3 none :: WB)) := gV w_1087 w_1089 w_47 w_64 w_1090
theorem g_X7_213 : GoodIn WB (wsV RX7 213 RX7 yX7_findOf (Cond.code yX7_findOf cX7_findOf 5 (some .boolean) :: WB)) := gV w_1083 w_1085 w_46 w_64 w_1086
theorem g_X7_216 : GoodIn WB (wsV RX7 216 RX7 yX7_layFewest (Cond.code yX7_layFewest cX7_layFewest 3 none :: WB)) := gV w_1079 w_1081 w_45 w_64 w_1082
theorem g_X7_219 : GoodIn WB (wsS RX7 219 yX7_has (Cond.code yX7_has cX7_has 2 (some .boolean) :: WB)) := gS w_1099 w_1100 w_64 w_1101
theorem g_X7_222 : GoodIn WB (wsV RX7 222 RX7 yX7_bothGo (Cond.code yX7_bothGo cX7_bothGo 7 (some .boolean) :: WB)) := gV w_1106 w_1108 w_48 w_64 w_1109
theorem g_X7_225 : GoodIn WB (wsV RX7 225 RX7 yX7_isStood (Cond.code yX7_isStood cX7_isStood 5 (some .boolean) :: WB)) := gV w_1126 w_1128 w_49 w_64 w_1129
theorem g_X7_244 : GoodIn WB (wsV RX7 244 RX7 yX7_comesOver (Cond.code yX7_comesOver cX7_comesOver 6 (some .boolean) :: WB)) := gV w_1140 w_1142 w_50 w_64 w_1143
