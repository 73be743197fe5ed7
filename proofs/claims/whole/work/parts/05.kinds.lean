theorem iw_X0 : ∀ w ∈ u_ws RX0 TX0 5, w ∈ WB := by
  intro w hw
  obtain ⟨k, hk, rfl⟩ := List.mem_map.mp hw
  have hk := List.mem_range.mp hk
  rcases (show k = 0 ∨ k = 1 ∨ k = 2 ∨ k = 3 ∨ k = 4 by omega) with rfl | rfl | rfl | rfl | rfl
  · exact inWB 154 (by decide +kernel) (by decide +kernel)
  · exact inWB 156 (by decide +kernel) (by decide +kernel)
  · exact inWB 158 (by decide +kernel) (by decide +kernel)
  · exact inWB 160 (by decide +kernel) (by decide +kernel)
  · exact inWB 162 (by decide +kernel) (by decide +kernel)
theorem cl_X0 : CLS 0 RX0 TX0 5 tyX0 := ⟨rfl, iw_X0, rfl, tyX0_ok, nmX0⟩
theorem iw_X1 : ∀ w ∈ u_ws RX1 TX1 10, w ∈ WB := by
  intro w hw
  obtain ⟨k, hk, rfl⟩ := List.mem_map.mp hw
  have hk := List.mem_range.mp hk
  rcases (show k = 0 ∨ k = 1 ∨ k = 2 ∨ k = 3 ∨ k = 4 ∨ k = 5 ∨ k = 6 ∨ k = 7 ∨ k = 8 ∨ k = 9 by omega) with rfl | rfl | rfl | rfl | rfl | rfl | rfl | rfl | rfl | rfl
  · exact inWB 116 (by decide +kernel) (by decide +kernel)
  · exact inWB 118 (by decide +kernel) (by decide +kernel)
  · exact inWB 120 (by decide +kernel) (by decide +kernel)
  · exact inWB 122 (by decide +kernel) (by decide +kernel)
  · exact inWB 124 (by decide +kernel) (by decide +kernel)
  · exact inWB 126 (by decide +kernel) (by decide +kernel)
  · exact inWB 128 (by decide +kernel) (by decide +kernel)
  · exact inWB 130 (by decide +kernel) (by decide +kernel)
  · exact inWB 132 (by decide +kernel) (by decide +kernel)
  · exact inWB 134 (by decide +kernel) (by decide +kernel)
theorem cl_X1 : CLS 1 RX1 TX1 10 tyX1 := ⟨rfl, iw_X1, rfl, tyX1_ok, nmX1⟩
theorem iw_X2 : ∀ w ∈ u_ws RX2 TX2 6, w ∈ WB := by
  intro w hw
  obtain ⟨k, hk, rfl⟩ := List.mem_map.mp hw
  have hk := List.mem_range.mp hk
  rcases (show k = 0 ∨ k = 1 ∨ k = 2 ∨ k = 3 ∨ k = 4 ∨ k = 5 by omega) with rfl | rfl | rfl | rfl | rfl | rfl
  · exact inWB 171 (by decide +kernel) (by decide +kernel)
  · exact inWB 173 (by decide +kernel) (by decide +kernel)
  · exact inWB 175 (by decide +kernel) (by decide +kernel)
  · exact inWB 177 (by decide +kernel) (by decide +kernel)
  · exact inWB 179 (by decide +kernel) (by decide +kernel)
  · exact inWB 181 (by decide +kernel) (by decide +kernel)
theorem cl_X2 : CLS 2 RX2 TX2 6 tyX2 := ⟨rfl, iw_X2, rfl, tyX2_ok, nmX2⟩
theorem iw_X3 : ∀ w ∈ u_ws RX3 TX3 3, w ∈ WB := by
  intro w hw
  obtain ⟨k, hk, rfl⟩ := List.mem_map.mp hw
  have hk := List.mem_range.mp hk
  rcases (show k = 0 ∨ k = 1 ∨ k = 2 by omega) with rfl | rfl | rfl
  · exact inWB 87 (by decide +kernel) (by decide +kernel)
  · exact inWB 89 (by decide +kernel) (by decide +kernel)
  · exact inWB 91 (by decide +kernel) (by decide +kernel)
theorem cl_X3 : CLS 3 RX3 TX3 3 tyX3 := ⟨rfl, iw_X3, rfl, tyX3_ok, nmX3⟩
theorem iw_X4 : ∀ w ∈ u_ws RX4 TX4 6, w ∈ WB := by
  intro w hw
  obtain ⟨k, hk, rfl⟩ := List.mem_map.mp hw
  have hk := List.mem_range.mp hk
  rcases (show k = 0 ∨ k = 1 ∨ k = 2 ∨ k = 3 ∨ k = 4 ∨ k = 5 by omega) with rfl | rfl | rfl | rfl | rfl | rfl
  · exact inWB 219 (by decide +kernel) (by decide +kernel)
  · exact inWB 221 (by decide +kernel) (by decide +kernel)
  · exact inWB 223 (by decide +kernel) (by decide +kernel)
  · exact inWB 225 (by decide +kernel) (by decide +kernel)
  · exact inWB 227 (by decide +kernel) (by decide +kernel)
  · exact inWB 229 (by decide +kernel) (by decide +kernel)
theorem cl_X4 : CLS 4 RX4 TX4 6 tyX4 := ⟨rfl, iw_X4, rfl, tyX4_ok, nmX4⟩
theorem iw_X5 : ∀ w ∈ u_ws RX5 TX5 2, w ∈ WB := by
  intro w hw
  obtain ⟨k, hk, rfl⟩ := List.mem_map.mp hw
  have hk := List.mem_range.mp hk
  rcases (show k = 0 ∨ k = 1 by omega) with rfl | rfl
  · exact inWB 200 (by decide +kernel) (by decide +kernel)
  · exact inWB 202 (by decide +kernel) (by decide +kernel)
theorem cl_X5 : CLS 5 RX5 TX5 2 tyX5 := ⟨rfl, iw_X5, rfl, tyX5_ok, nmX5⟩
theorem iw_X6 : ∀ w ∈ u_ws RX6 TX6 11, w ∈ WB := by
  intro w hw
  obtain ⟨k, hk, rfl⟩ := List.mem_map.mp hw
  have hk := List.mem_range.mp hk
  rcases (show k = 0 ∨ k = 1 ∨ k = 2 ∨ k = 3 ∨ k = 4 ∨ k = 5 ∨ k = 6 ∨ k = 7 ∨ k = 8 ∨ k = 9 ∨ k = 10 by omega) with rfl | rfl | rfl | rfl | rfl | rfl | rfl | rfl | rfl | rfl | rfl
  · exact inWB 347 (by decide +kernel) (by decide +kernel)
  · exact inWB 349 (by decide +kernel) (by decide +kernel)
  · exact inWB 351 (by decide +kernel) (by decide +kernel)
  · exact inWB 353 (by decide +kernel) (by decide +kernel)
  · exact inWB 355 (by decide +kernel) (by decide +kernel)
  · exact inWB 357 (by decide +kernel) (by decide +kernel)
  · exact inWB 359 (by decide +kernel) (by decide +kernel)
  · exact inWB 361 (by decide +kernel) (by decide +kernel)
  · exact inWB 363 (by decide +kernel) (by decide +kernel)
  · exact inWB 365 (by decide +kernel) (by decide +kernel)
  · exact inWB 367 (by decide +kernel) (by decide +kernel)
theorem cl_X6 : CLS 6 RX6 TX6 11 tyX6 := ⟨rfl, iw_X6, rfl, tyX6_ok, nmX6⟩
theorem iw_X7 : ∀ w ∈ u_ws RX7 TX7 33, w ∈ WB := by
  intro w hw
  obtain ⟨k, hk, rfl⟩ := List.mem_map.mp hw
  have hk := List.mem_range.mp hk
  rcases (show k = 0 ∨ k = 1 ∨ k = 2 ∨ k = 3 ∨ k = 4 ∨ k = 5 ∨ k = 6 ∨ k = 7 ∨ k = 8 ∨ k = 9 ∨ k = 10 ∨ k = 11 ∨ k = 12 ∨ k = 13 ∨ k = 14 ∨ k = 15 ∨ k = 16 ∨ k = 17 ∨ k = 18 ∨ k = 19 ∨ k = 20 ∨ k = 21 ∨ k = 22 ∨ k = 23 ∨ k = 24 ∨ k = 25 ∨ k = 26 ∨ k = 27 ∨ k = 28 ∨ k = 29 ∨ k = 30 ∨ k = 31 ∨ k = 32 by omega) with rfl | rfl | rfl | rfl | rfl | rfl | rfl | rfl | rfl | rfl | rfl | rfl | rfl | rfl | rfl | rfl | rfl | rfl | rfl | rfl | rfl | rfl | rfl | rfl | rfl | rfl | rfl | rfl | rfl | rfl | rfl | rfl | rfl
  · exact inWB 888 (by decide +kernel) (by decide +kernel)
  · exact inWB 890 (by decide +kernel) (by decide +kernel)
  · exact inWB 892 (by decide +kernel) (by decide +kernel)
  · exact inWB 894 (by decide +kernel) (by decide +kernel)
  · exact inWB 896 (by decide +kernel) (by decide +kernel)
  · exact inWB 898 (by decide +kernel) (by decide +kernel)
  · exact inWB 900 (by decide +kernel) (by decide +kernel)
  · exact inWB 902 (by decide +kernel) (by decide +kernel)
  · exact inWB 904 (by decide +kernel) (by decide +kernel)
  · exact inWB 906 (by decide +kernel) (by decide +kernel)
  · exact inWB 908 (by decide +kernel) (by decide +kernel)
  · exact inWB 910 (by decide +kernel) (by decide +kernel)
  · exact inWB 912 (by decide +kernel) (by decide +kernel)
  · exact inWB 914 (by decide +kernel) (by decide +kernel)
  · exact inWB 916 (by decide +kernel) (by decide +kernel)
  · exact inWB 918 (by decide +kernel) (by decide +kernel)
  · exact inWB 920 (by decide +kernel) (by decide +kernel)
  · exact inWB 922 (by decide +kernel) (by decide +kernel)
  · exact inWB 924 (by decide +kernel) (by decide +kernel)
  · exact inWB 926 (by decide +kernel) (by decide +kernel)
  · exact inWB 928 (by decide +kernel) (by decide +kernel)
  · exact inWB 930 (by decide +kernel) (by decide +kernel)
  · exact inWB 932 (by decide +kernel) (by decide +kernel)
  · exact inWB 934 (by decide +kernel) (by decide +kernel)
  · exact inWB 936 (by decide +kernel) (by decide +kernel)
  · exact inWB 938 (by decide +kernel) (by decide +kernel)
  · exact inWB 940 (by decide +kernel) (by decide +kernel)
  · exact inWB 942 (by decide +kernel) (by decide +kernel)
  · exact inWB 944 (by decide +kernel) (by decide +kernel)
  · exact inWB 946 (by decide +kernel) (by decide +kernel)
  · exact inWB 948 (by decide +kernel) (by decide +kernel)
  · exact inWB 950 (by decide +kernel) (by decide +kernel)
  · exact inWB 952 (by decide +kernel) (by decide +kernel)
theorem cl_X7 : CLS 7 RX7 TX7 33 tyX7 := ⟨rfl, iw_X7, rfl, tyX7_ok, nmX7⟩
def Fl (R : List Nat) (f : Nat) : Prop := OB R f 1 ∧ IA R (f + 1) 8 ∧ IA R (f + 2) 8 ∧ IA R (f + 3) 8 ∧ IA R (f + 4) 8 ∧ IA R (f + 5) 8
def Br (R : List Nat) (b : Nat) : Prop := OB R b 0 ∧ IA R (b + 1) 8 ∧ IA R (b + 2) 8 ∧ IA R (b + 3) 8 ∧ Fl R 4
def Nt (R : List Nat) (n : Nat) : Prop := OB R n 2 ∧ Br R (n + 1)
def ntL : List Nat := [16, 27, 32, 37, 42, 47, 52, 57, 62, 69, 74]
def Sc (R : List Nat) : Prop := OB R 1 3 ∧ CA R 2 200 ∧ IA R 3 4
def Sh (R : List Nat) (s n : Nat) : Prop := OB R s 5 ∧ NA R (s + 1) n ∧ ∀ r, r ∈ ntL → Nt R r
def Se (R : List Nat) : Prop := OB R 79 4 ∧ Br R 80 ∧ IA R 84 8 ∧ IA R 87 256
def BBr (R : List Nat) : Prop := OB R 0 6 ∧ Sc R ∧ Fl R 4 ∧ Fl R 10 ∧ Nt R 16 ∧ Br R 21 ∧ Sh R 25 8 ∧ Sh R 67 2 ∧ Se R ∧ IA R 85 6 ∧ IA R 86 6
def Md (R : List Nat) : Prop := OB R 100 7 ∧ IA R 101 200 ∧ IA R 103 4 ∧ IA R 108 32 ∧ IA R 109 8 ∧ IA R 114 32 ∧ IA R 116 8 ∧ IA R 120 21 ∧ IA R 121 21 ∧ IA R 122 168 ∧ IA R 124 42 ∧ IA R 126 12 ∧ IA R 128 8 ∧ IA R 129 8 ∧ IA R 131 21 ∧ IA R 132 9
theorem nt_lt {r : Nat} (h : r ∈ ntL) : r < 2 ^ 31 := by
  have : r ∈ ntL → r < 2 ^ 31 := by simp only [ntL, List.mem_cons, List.not_mem_nil, or_false]; omega
  exact this h
theorem nb0 : narrow .boolean (.int 0) = .int 0 := rfl
theorem nb1 : narrow .boolean (.int 1) = .int 1 := rfl
theorem nbz {v : Int32} (h : v = 0 ∨ v = 1) : narrow .boolean (.int v) = .int v := by rcases h with rfl | rfl <;> rfl
theorem fbz {v : Int32} (h : v = 0 ∨ v = 1) : fits .boolean (.int v) = true := by rcases h with rfl | rfl <;> rfl
theorem sw_out {x : Int32} (n : Nat) (hn : n < 2 ^ 31) (h : ∀ k : Nat, k ≤ n → ¬ x = nI k) : x.toInt < 0 ∨ (n : Int) < x.toInt := by
  by_cases h0 : x.toInt < 0
  · exact Or.inl h0
  · right
    have h1 : ¬ x < 0 := fun q => h0 (by rw [Int32.lt_iff_toInt_lt] at q; exact q)
    obtain ⟨j, hj, rfl⟩ := nI_of h1
    rw [nI_toInt hj]
    rcases Nat.lt_or_ge n j with q | q
    · exact_mod_cast q
    · exact absurd rfl (h j q)
section FR
variable {p : Program} {l : Launch} {e : Env} {Rm : Room} {s : State} {m : MethodId} {args : Array Value} {below : List Frame} {meth : Method} {c : Code} {nL : Nat} {D : va_G} {dA : Nat → ClassId} {ad : Nat → Nat} {R : List Nat} {A : Nat → Prop} {Q : State → Prop} {F : HF} {pc : Nat} {lv : List (Nat × Value)} {st : List Value} {cc : ByteArray}
theorem fg_X6_10 (X : Cx p s m args meth c cc nL RX6 D dA) (hk : OB R 0 6) (hdg : decode cc pc = .ok (.getfield 10, 3)) (kk : J p l e Rm s m args below meth c nL D dA ad R A Q F (pc + 3) lv (.ref (ad (1)) :: st)) : J p l e Rm s m args below meth c nL D dA ad R A Q F pc lv (.ref (ad 0) :: st) := r_getR (j := 0) (k := 0) X cl_X6 (by decide) rfl w_336 rfl rfl hk hdg kk
theorem fg_X6_19 (X : Cx p s m args meth c cc nL RX6 D dA) (hk : OB R 0 6) (hdg : decode cc pc = .ok (.getfield 19, 3)) (kk : J p l e Rm s m args below meth c nL D dA ad R A Q F (pc + 3) lv (.ref (ad (4)) :: st)) : J p l e Rm s m args below meth c nL D dA ad R A Q F pc lv (.ref (ad 0) :: st) := r_getR (j := 1) (k := 0) X cl_X6 (by decide) rfl w_337 rfl rfl hk hdg kk
theorem fg_X6_23 (X : Cx p s m args meth c cc nL RX6 D dA) (hk : OB R 0 6) (hdg : decode cc pc = .ok (.getfield 23, 3)) (kk : J p l e Rm s m args below meth c nL D dA ad R A Q F (pc + 3) lv (.ref (ad (10)) :: st)) : J p l e Rm s m args below meth c nL D dA ad R A Q F pc lv (.ref (ad 0) :: st) := r_getR (j := 2) (k := 0) X cl_X6 (by decide) rfl w_338 rfl rfl hk hdg kk
theorem fg_X6_31 (X : Cx p s m args meth c cc nL RX6 D dA) (hk : OB R 0 6) (hdg : decode cc pc = .ok (.getfield 31, 3)) (kk : J p l e Rm s m args below meth c nL D dA ad R A Q F (pc + 3) lv (.ref (ad (16)) :: st)) : J p l e Rm s m args below meth c nL D dA ad R A Q F pc lv (.ref (ad 0) :: st) := r_getR (j := 3) (k := 0) X cl_X6 (by decide) rfl w_339 rfl rfl hk hdg kk
theorem fg_X6_38 (X : Cx p s m args meth c cc nL RX6 D dA) (hk : OB R 0 6) (hdg : decode cc pc = .ok (.getfield 38, 3)) (kk : J p l e Rm s m args below meth c nL D dA ad R A Q F (pc + 3) lv (.ref (ad (21)) :: st)) : J p l e Rm s m args below meth c nL D dA ad R A Q F pc lv (.ref (ad 0) :: st) := r_getR (j := 4) (k := 0) X cl_X6 (by decide) rfl w_340 rfl rfl hk hdg kk
theorem fg_X6_47 (X : Cx p s m args meth c cc nL RX6 D dA) (hk : OB R 0 6) (hdg : decode cc pc = .ok (.getfield 47, 3)) (kk : J p l e Rm s m args below meth c nL D dA ad R A Q F (pc + 3) lv (.ref (ad (25)) :: st)) : J p l e Rm s m args below meth c nL D dA ad R A Q F pc lv (.ref (ad 0) :: st) := r_getR (j := 5) (k := 0) X cl_X6 (by decide) rfl w_341 rfl rfl hk hdg kk
theorem fg_X6_51 (X : Cx p s m args meth c cc nL RX6 D dA) (hk : OB R 0 6) (hdg : decode cc pc = .ok (.getfield 51, 3)) (kk : J p l e Rm s m args below meth c nL D dA ad R A Q F (pc + 3) lv (.ref (ad (67)) :: st)) : J p l e Rm s m args below meth c nL D dA ad R A Q F pc lv (.ref (ad 0) :: st) := r_getR (j := 6) (k := 0) X cl_X6 (by decide) rfl w_342 rfl rfl hk hdg kk
theorem fg_X6_57 (X : Cx p s m args meth c cc nL RX6 D dA) (hk : OB R 0 6) (hdg : decode cc pc = .ok (.getfield 57, 3)) (kk : J p l e Rm s m args below meth c nL D dA ad R A Q F (pc + 3) lv (.ref (ad (79)) :: st)) : J p l e Rm s m args below meth c nL D dA ad R A Q F pc lv (.ref (ad 0) :: st) := r_getR (j := 7) (k := 0) X cl_X6 (by decide) rfl w_343 rfl rfl hk hdg kk
theorem fg_X6_61 (X : Cx p s m args meth c cc nL RX6 D dA) (hk : OB R 0 6) (hdg : decode cc pc = .ok (.getfield 61, 3)) (kk : J p l e Rm s m args below meth c nL D dA ad R A Q F (pc + 3) lv (.ref (ad (85)) :: st)) : J p l e Rm s m args below meth c nL D dA ad R A Q F pc lv (.ref (ad 0) :: st) := r_getR (j := 8) (k := 0) X cl_X6 (by decide) rfl w_344 rfl rfl hk hdg kk
theorem fg_X6_65 (X : Cx p s m args meth c cc nL RX6 D dA) (hk : OB R 0 6) (hdg : decode cc pc = .ok (.getfield 65, 3)) (kk : J p l e Rm s m args below meth c nL D dA ad R A Q F (pc + 3) lv (.ref (ad (86)) :: st)) : J p l e Rm s m args below meth c nL D dA ad R A Q F pc lv (.ref (ad 0) :: st) := r_getR (j := 9) (k := 0) X cl_X6 (by decide) rfl w_345 rfl rfl hk hdg kk
theorem fg_X6_68 (X : Cx p s m args meth c cc nL RX6 D dA) (hk : OB R 0 6) (hdg : decode cc pc = .ok (.getfield 68, 3)) (kk : J p l e Rm s m args below meth c nL D dA ad R A Q F (pc + 3) lv (.int (F 0 10) :: st)) : J p l e Rm s m args below meth c nL D dA ad R A Q F pc lv (.ref (ad 0) :: st) := r_getI (j := 10) X cl_X6 (by decide) rfl w_346 rfl hk hdg kk
theorem fp_X6_68 (X : Cx p s m args meth c cc nL RX6 D dA) {v : Int32} (hk : OB R 0 6) (hdg : decode cc pc = .ok (.putfield 68, 3)) (kk : ∀ F1 : HF, F1 = hup F 0 10 v → J p l e Rm s m args below meth c nL D dA ad R A Q F1 (pc + 3) lv st) : J p l e Rm s m args below meth c nL D dA ad R A Q F pc lv (.int v :: .ref (ad 0) :: st) := r_putI (j := 10) X cl_X6 (by decide) rfl w_346 rfl rfl rfl rfl hk hdg kk
theorem fg_X0_9 (X : Cx p s m args meth c cc nL RX0 D dA) {k : Nat} (hk : OB R k 0) (hdg : decode cc pc = .ok (.getfield 9, 3)) (kk : J p l e Rm s m args below meth c nL D dA ad R A Q F (pc + 3) lv (.ref (ad (k + 1)) :: st)) : J p l e Rm s m args below meth c nL D dA ad R A Q F pc lv (.ref (ad k) :: st) := r_getR (j := 1) (k := k) X cl_X0 (by decide) rfl w_150 rfl rfl hk hdg kk
theorem fg_X0_15 (X : Cx p s m args meth c cc nL RX0 D dA) {k : Nat} (hk : OB R k 0) (hdg : decode cc pc = .ok (.getfield 15, 3)) (kk : J p l e Rm s m args below meth c nL D dA ad R A Q F (pc + 3) lv (.ref (ad (k + 2)) :: st)) : J p l e Rm s m args below meth c nL D dA ad R A Q F pc lv (.ref (ad k) :: st) := r_getR (j := 2) (k := k) X cl_X0 (by decide) rfl w_151 rfl rfl hk hdg kk
theorem fg_X0_18 (X : Cx p s m args meth c cc nL RX0 D dA) {k : Nat} (hk : OB R k 0) (hdg : decode cc pc = .ok (.getfield 18, 3)) (kk : J p l e Rm s m args below meth c nL D dA ad R A Q F (pc + 3) lv (.ref (ad (k + 3)) :: st)) : J p l e Rm s m args below meth c nL D dA ad R A Q F pc lv (.ref (ad k) :: st) := r_getR (j := 3) (k := k) X cl_X0 (by decide) rfl w_152 rfl rfl hk hdg kk
theorem fg_X0_21 (X : Cx p s m args meth c cc nL RX0 D dA) {k : Nat} (hk : OB R k 0) (hdg : decode cc pc = .ok (.getfield 21, 3)) (kk : J p l e Rm s m args below meth c nL D dA ad R A Q F (pc + 3) lv (.int (F k 4) :: st)) : J p l e Rm s m args below meth c nL D dA ad R A Q F pc lv (.ref (ad k) :: st) := r_getI (j := 4) X cl_X0 (by decide) rfl w_153 rfl hk hdg kk
theorem fp_X0_21 (X : Cx p s m args meth c cc nL RX0 D dA) {k : Nat} {v : Int32} (hk : OB R k 0) (hdg : decode cc pc = .ok (.putfield 21, 3)) (kk : ∀ F1 : HF, F1 = hup F k 4 v → J p l e Rm s m args below meth c nL D dA ad R A Q F1 (pc + 3) lv st) : J p l e Rm s m args below meth c nL D dA ad R A Q F pc lv (.int v :: .ref (ad k) :: st) := r_putI (j := 4) X cl_X0 (by decide) rfl w_153 rfl rfl rfl rfl hk hdg kk
theorem fg_X0_25 (X : Cx p s m args meth c cc nL RX0 D dA) {k : Nat} (hk : OB R k 0) (hdg : decode cc pc = .ok (.getfield 25, 3)) (kk : J p l e Rm s m args below meth c nL D dA ad R A Q F (pc + 3) lv (.ref (ad (4)) :: st)) : J p l e Rm s m args below meth c nL D dA ad R A Q F pc lv (.ref (ad k) :: st) := r_getR (j := 0) (k := k) X cl_X0 (by decide) rfl w_149 rfl rfl hk hdg kk
theorem fg_X1_9 (X : Cx p s m args meth c cc nL RX1 D dA) {k : Nat} (hk : OB R k 1) (hdg : decode cc pc = .ok (.getfield 9, 3)) (kk : J p l e Rm s m args below meth c nL D dA ad R A Q F (pc + 3) lv (.ref (ad (k + 1)) :: st)) : J p l e Rm s m args below meth c nL D dA ad R A Q F pc lv (.ref (ad k) :: st) := r_getR (j := 0) (k := k) X cl_X1 (by decide) rfl w_106 rfl rfl hk hdg kk
theorem fg_X1_15 (X : Cx p s m args meth c cc nL RX1 D dA) {k : Nat} (hk : OB R k 1) (hdg : decode cc pc = .ok (.getfield 15, 3)) (kk : J p l e Rm s m args below meth c nL D dA ad R A Q F (pc + 3) lv (.ref (ad (k + 2)) :: st)) : J p l e Rm s m args below meth c nL D dA ad R A Q F pc lv (.ref (ad k) :: st) := r_getR (j := 1) (k := k) X cl_X1 (by decide) rfl w_107 rfl rfl hk hdg kk
theorem fg_X1_18 (X : Cx p s m args meth c cc nL RX1 D dA) {k : Nat} (hk : OB R k 1) (hdg : decode cc pc = .ok (.getfield 18, 3)) (kk : J p l e Rm s m args below meth c nL D dA ad R A Q F (pc + 3) lv (.ref (ad (k + 3)) :: st)) : J p l e Rm s m args below meth c nL D dA ad R A Q F pc lv (.ref (ad k) :: st) := r_getR (j := 2) (k := k) X cl_X1 (by decide) rfl w_108 rfl rfl hk hdg kk
theorem fg_X1_21 (X : Cx p s m args meth c cc nL RX1 D dA) {k : Nat} (hk : OB R k 1) (hdg : decode cc pc = .ok (.getfield 21, 3)) (kk : J p l e Rm s m args below meth c nL D dA ad R A Q F (pc + 3) lv (.ref (ad (k + 4)) :: st)) : J p l e Rm s m args below meth c nL D dA ad R A Q F pc lv (.ref (ad k) :: st) := r_getR (j := 3) (k := k) X cl_X1 (by decide) rfl w_109 rfl rfl hk hdg kk
theorem fg_X1_24 (X : Cx p s m args meth c cc nL RX1 D dA) {k : Nat} (hk : OB R k 1) (hdg : decode cc pc = .ok (.getfield 24, 3)) (kk : J p l e Rm s m args below meth c nL D dA ad R A Q F (pc + 3) lv (.ref (ad (k + 5)) :: st)) : J p l e Rm s m args below meth c nL D dA ad R A Q F pc lv (.ref (ad k) :: st) := r_getR (j := 4) (k := k) X cl_X1 (by decide) rfl w_110 rfl rfl hk hdg kk
theorem fg_X1_30 (X : Cx p s m args meth c cc nL RX1 D dA) {k : Nat} (hk : OB R k 1) (hdg : decode cc pc = .ok (.getfield 30, 3)) (kk : J p l e Rm s m args below meth c nL D dA ad R A Q F (pc + 3) lv (.int (F k 5) :: st)) : J p l e Rm s m args below meth c nL D dA ad R A Q F pc lv (.ref (ad k) :: st) := r_getI (j := 5) X cl_X1 (by decide) rfl w_111 rfl hk hdg kk
theorem fp_X1_30 (X : Cx p s m args meth c cc nL RX1 D dA) {k : Nat} {v : Int32} (hk : OB R k 1) (hdg : decode cc pc = .ok (.putfield 30, 3)) (kk : ∀ F1 : HF, F1 = hup F k 5 v → J p l e Rm s m args below meth c nL D dA ad R A Q F1 (pc + 3) lv st) : J p l e Rm s m args below meth c nL D dA ad R A Q F pc lv (.int v :: .ref (ad k) :: st) := r_putI (j := 5) X cl_X1 (by decide) rfl w_111 rfl rfl rfl rfl hk hdg kk
theorem fg_X1_34 (X : Cx p s m args meth c cc nL RX1 D dA) {k : Nat} (hk : OB R k 1) (hdg : decode cc pc = .ok (.getfield 34, 3)) (kk : J p l e Rm s m args below meth c nL D dA ad R A Q F (pc + 3) lv (.int (F k 6) :: st)) : J p l e Rm s m args below meth c nL D dA ad R A Q F pc lv (.ref (ad k) :: st) := r_getI (j := 6) X cl_X1 (by decide) rfl w_112 rfl hk hdg kk
theorem fp_X1_34 (X : Cx p s m args meth c cc nL RX1 D dA) {k : Nat} {v : Int32} (hk : OB R k 1) (hdg : decode cc pc = .ok (.putfield 34, 3)) (kk : ∀ F1 : HF, F1 = hup F k 6 v → J p l e Rm s m args below meth c nL D dA ad R A Q F1 (pc + 3) lv st) : J p l e Rm s m args below meth c nL D dA ad R A Q F pc lv (.int v :: .ref (ad k) :: st) := r_putI (j := 6) X cl_X1 (by decide) rfl w_112 rfl rfl rfl rfl hk hdg kk
theorem fg_X1_37 (X : Cx p s m args meth c cc nL RX1 D dA) {k : Nat} (hk : OB R k 1) (hdg : decode cc pc = .ok (.getfield 37, 3)) (kk : J p l e Rm s m args below meth c nL D dA ad R A Q F (pc + 3) lv (.int (F k 7) :: st)) : J p l e Rm s m args below meth c nL D dA ad R A Q F pc lv (.ref (ad k) :: st) := r_getI (j := 7) X cl_X1 (by decide) rfl w_113 rfl hk hdg kk
theorem fp_X1_37 (X : Cx p s m args meth c cc nL RX1 D dA) {k : Nat} {v : Int32} (hk : OB R k 1) (hdg : decode cc pc = .ok (.putfield 37, 3)) (kk : ∀ F1 : HF, F1 = hup F k 7 v → J p l e Rm s m args below meth c nL D dA ad R A Q F1 (pc + 3) lv st) : J p l e Rm s m args below meth c nL D dA ad R A Q F pc lv (.int v :: .ref (ad k) :: st) := r_putI (j := 7) X cl_X1 (by decide) rfl w_113 rfl rfl rfl rfl hk hdg kk
theorem fg_X1_40 (X : Cx p s m args meth c cc nL RX1 D dA) {k : Nat} (hk : OB R k 1) (hdg : decode cc pc = .ok (.getfield 40, 3)) (kk : J p l e Rm s m args below meth c nL D dA ad R A Q F (pc + 3) lv (.int (F k 8) :: st)) : J p l e Rm s m args below meth c nL D dA ad R A Q F pc lv (.ref (ad k) :: st) := r_getI (j := 8) X cl_X1 (by decide) rfl w_114 rfl hk hdg kk
theorem fp_X1_40 (X : Cx p s m args meth c cc nL RX1 D dA) {k : Nat} {v : Int32} (hk : OB R k 1) (hdg : decode cc pc = .ok (.putfield 40, 3)) (kk : ∀ F1 : HF, F1 = hup F k 8 v → J p l e Rm s m args below meth c nL D dA ad R A Q F1 (pc + 3) lv st) : J p l e Rm s m args below meth c nL D dA ad R A Q F pc lv (.int v :: .ref (ad k) :: st) := r_putI (j := 8) X cl_X1 (by decide) rfl w_114 rfl rfl rfl rfl hk hdg kk
theorem fg_X1_43 (X : Cx p s m args meth c cc nL RX1 D dA) {k : Nat} (hk : OB R k 1) (hdg : decode cc pc = .ok (.getfield 43, 3)) (kk : J p l e Rm s m args below meth c nL D dA ad R A Q F (pc + 3) lv (.int (F k 9) :: st)) : J p l e Rm s m args below meth c nL D dA ad R A Q F pc lv (.ref (ad k) :: st) := r_getI (j := 9) X cl_X1 (by decide) rfl w_115 rfl hk hdg kk
theorem fp_X1_43 (X : Cx p s m args meth c cc nL RX1 D dA) {k : Nat} {v : Int32} (hk : OB R k 1) (hdg : decode cc pc = .ok (.putfield 43, 3)) (kk : ∀ F1 : HF, F1 = hup F k 9 v → J p l e Rm s m args below meth c nL D dA ad R A Q F1 (pc + 3) lv st) : J p l e Rm s m args below meth c nL D dA ad R A Q F pc lv (.int v :: .ref (ad k) :: st) := r_putI (j := 9) X cl_X1 (by decide) rfl w_115 rfl rfl rfl rfl hk hdg kk
theorem fg_X2_9 (X : Cx p s m args meth c cc nL RX2 D dA) {k : Nat} (hk : OB R k 2) (hdg : decode cc pc = .ok (.getfield 9, 3)) (kk : J p l e Rm s m args below meth c nL D dA ad R A Q F (pc + 3) lv (.int (F k 2) :: st)) : J p l e Rm s m args below meth c nL D dA ad R A Q F pc lv (.ref (ad k) :: st) := r_getI (j := 2) X cl_X2 (by decide) rfl w_167 rfl hk hdg kk
theorem fp_X2_9 (X : Cx p s m args meth c cc nL RX2 D dA) {k : Nat} {v : Int32} (hk : OB R k 2) (hdg : decode cc pc = .ok (.putfield 9, 3)) (kk : ∀ F1 : HF, F1 = hup F k 2 v → J p l e Rm s m args below meth c nL D dA ad R A Q F1 (pc + 3) lv st) : J p l e Rm s m args below meth c nL D dA ad R A Q F pc lv (.int v :: .ref (ad k) :: st) := r_putI (j := 2) X cl_X2 (by decide) rfl w_167 rfl rfl rfl rfl hk hdg kk
theorem fg_X2_15 (X : Cx p s m args meth c cc nL RX2 D dA) {k : Nat} (hk : OB R k 2) (hdg : decode cc pc = .ok (.getfield 15, 3)) (kk : J p l e Rm s m args below meth c nL D dA ad R A Q F (pc + 3) lv (.int (F k 3) :: st)) : J p l e Rm s m args below meth c nL D dA ad R A Q F pc lv (.ref (ad k) :: st) := r_getI (j := 3) X cl_X2 (by decide) rfl w_168 rfl hk hdg kk
theorem fp_X2_15 (X : Cx p s m args meth c cc nL RX2 D dA) {k : Nat} {v : Int32} (hk : OB R k 2) (hdg : decode cc pc = .ok (.putfield 15, 3)) (kk : ∀ F1 : HF, F1 = hup F k 3 v → J p l e Rm s m args below meth c nL D dA ad R A Q F1 (pc + 3) lv st) : J p l e Rm s m args below meth c nL D dA ad R A Q F pc lv (.int v :: .ref (ad k) :: st) := r_putI (j := 3) X cl_X2 (by decide) rfl w_168 rfl rfl rfl rfl hk hdg kk
theorem fg_X2_18 (X : Cx p s m args meth c cc nL RX2 D dA) {k : Nat} (hk : OB R k 2) (hdg : decode cc pc = .ok (.getfield 18, 3)) (kk : J p l e Rm s m args below meth c nL D dA ad R A Q F (pc + 3) lv (.int (F k 4) :: st)) : J p l e Rm s m args below meth c nL D dA ad R A Q F pc lv (.ref (ad k) :: st) := r_getI (j := 4) X cl_X2 (by decide) rfl w_169 rfl hk hdg kk
theorem fp_X2_18 (X : Cx p s m args meth c cc nL RX2 D dA) {k : Nat} {v : Int32} (hk : OB R k 2) (hdg : decode cc pc = .ok (.putfield 18, 3)) (kk : ∀ F1 : HF, F1 = hup F k 4 v → J p l e Rm s m args below meth c nL D dA ad R A Q F1 (pc + 3) lv st) : J p l e Rm s m args below meth c nL D dA ad R A Q F pc lv (.int v :: .ref (ad k) :: st) := r_putI (j := 4) X cl_X2 (by decide) rfl w_169 rfl rfl rfl rfl hk hdg kk
theorem fg_X2_21 (X : Cx p s m args meth c cc nL RX2 D dA) {k : Nat} (hk : OB R k 2) (hdg : decode cc pc = .ok (.getfield 21, 3)) (kk : J p l e Rm s m args below meth c nL D dA ad R A Q F (pc + 3) lv (.int (F k 5) :: st)) : J p l e Rm s m args below meth c nL D dA ad R A Q F pc lv (.ref (ad k) :: st) := r_getI (j := 5) X cl_X2 (by decide) rfl w_170 rfl hk hdg kk
theorem fp_X2_21 (X : Cx p s m args meth c cc nL RX2 D dA) {k : Nat} {v : Int32} (hz : v = 0 ∨ v = 1) (hk : OB R k 2) (hdg : decode cc pc = .ok (.putfield 21, 3)) (kk : ∀ F1 : HF, F1 = hup F k 5 v → J p l e Rm s m args below meth c nL D dA ad R A Q F1 (pc + 3) lv st) : J p l e Rm s m args below meth c nL D dA ad R A Q F pc lv (.int v :: .ref (ad k) :: st) := r_putI (j := 5) X cl_X2 (by decide) rfl w_170 rfl rfl (nbz hz) (fbz hz) hk hdg kk
theorem fg_X2_25 (X : Cx p s m args meth c cc nL RX2 D dA) {k : Nat} (hk : OB R k 2) (hdg : decode cc pc = .ok (.getfield 25, 3)) (kk : J p l e Rm s m args below meth c nL D dA ad R A Q F (pc + 3) lv (.ref (ad (4)) :: st)) : J p l e Rm s m args below meth c nL D dA ad R A Q F pc lv (.ref (ad k) :: st) := r_getR (j := 0) (k := k) X cl_X2 (by decide) rfl w_165 rfl rfl hk hdg kk
theorem fg_X2_34 (X : Cx p s m args meth c cc nL RX2 D dA) {k : Nat} (hk : OB R k 2) (hdg : decode cc pc = .ok (.getfield 34, 3)) (kk : J p l e Rm s m args below meth c nL D dA ad R A Q F (pc + 3) lv (.ref (ad (k + 1)) :: st)) : J p l e Rm s m args below meth c nL D dA ad R A Q F pc lv (.ref (ad k) :: st) := r_getR (j := 1) (k := k) X cl_X2 (by decide) rfl w_166 rfl rfl hk hdg kk
theorem fg_X3_9 (X : Cx p s m args meth c cc nL RX3 D dA) (hk : OB R 1 3) (hdg : decode cc pc = .ok (.getfield 9, 3)) (kk : J p l e Rm s m args below meth c nL D dA ad R A Q F (pc + 3) lv (.ref (ad (2)) :: st)) : J p l e Rm s m args below meth c nL D dA ad R A Q F pc lv (.ref (ad 1) :: st) := r_getR (j := 0) (k := 1) X cl_X3 (by decide) rfl w_84 rfl rfl hk hdg kk
theorem fg_X3_15 (X : Cx p s m args meth c cc nL RX3 D dA) (hk : OB R 1 3) (hdg : decode cc pc = .ok (.getfield 15, 3)) (kk : J p l e Rm s m args below meth c nL D dA ad R A Q F (pc + 3) lv (.ref (ad (3)) :: st)) : J p l e Rm s m args below meth c nL D dA ad R A Q F pc lv (.ref (ad 1) :: st) := r_getR (j := 1) (k := 1) X cl_X3 (by decide) rfl w_85 rfl rfl hk hdg kk
theorem fg_X3_19 (X : Cx p s m args meth c cc nL RX3 D dA) (hk : OB R 1 3) (hdg : decode cc pc = .ok (.getfield 19, 3)) (kk : J p l e Rm s m args below meth c nL D dA ad R A Q F (pc + 3) lv (.int (F 1 2) :: st)) : J p l e Rm s m args below meth c nL D dA ad R A Q F pc lv (.ref (ad 1) :: st) := r_getI (j := 2) X cl_X3 (by decide) rfl w_86 rfl hk hdg kk
theorem fp_X3_19 (X : Cx p s m args meth c cc nL RX3 D dA) {v : Int32} (hk : OB R 1 3) (hdg : decode cc pc = .ok (.putfield 19, 3)) (kk : ∀ F1 : HF, F1 = hup F 1 2 v → J p l e Rm s m args below meth c nL D dA ad R A Q F1 (pc + 3) lv st) : J p l e Rm s m args below meth c nL D dA ad R A Q F pc lv (.int v :: .ref (ad 1) :: st) := r_putI (j := 2) X cl_X3 (by decide) rfl w_86 rfl rfl rfl rfl hk hdg kk
theorem fg_X4_9 (X : Cx p s m args meth c cc nL RX4 D dA) (hk : OB R 79 4) (hdg : decode cc pc = .ok (.getfield 9, 3)) (kk : J p l e Rm s m args below meth c nL D dA ad R A Q F (pc + 3) lv (.ref (ad (84)) :: st)) : J p l e Rm s m args below meth c nL D dA ad R A Q F pc lv (.ref (ad 79) :: st) := r_getR (j := 2) (k := 79) X cl_X4 (by decide) rfl w_215 rfl rfl hk hdg kk
theorem fg_X4_15 (X : Cx p s m args meth c cc nL RX4 D dA) (hk : OB R 79 4) (hdg : decode cc pc = .ok (.getfield 15, 3)) (kk : J p l e Rm s m args below meth c nL D dA ad R A Q F (pc + 3) lv (.ref (ad (87)) :: st)) : J p l e Rm s m args below meth c nL D dA ad R A Q F pc lv (.ref (ad 79) :: st) := r_getR (j := 3) (k := 79) X cl_X4 (by decide) rfl w_216 rfl rfl hk hdg kk
theorem fg_X4_18 (X : Cx p s m args meth c cc nL RX4 D dA) (hk : OB R 79 4) (hdg : decode cc pc = .ok (.getfield 18, 3)) (kk : J p l e Rm s m args below meth c nL D dA ad R A Q F (pc + 3) lv (.int (F 79 4) :: st)) : J p l e Rm s m args below meth c nL D dA ad R A Q F pc lv (.ref (ad 79) :: st) := r_getI (j := 4) X cl_X4 (by decide) rfl w_217 rfl hk hdg kk
theorem fp_X4_18 (X : Cx p s m args meth c cc nL RX4 D dA) {v : Int32} (hk : OB R 79 4) (hdg : decode cc pc = .ok (.putfield 18, 3)) (kk : ∀ F1 : HF, F1 = hup F 79 4 v → J p l e Rm s m args below meth c nL D dA ad R A Q F1 (pc + 3) lv st) : J p l e Rm s m args below meth c nL D dA ad R A Q F pc lv (.int v :: .ref (ad 79) :: st) := r_putI (j := 4) X cl_X4 (by decide) rfl w_217 rfl rfl rfl rfl hk hdg kk
theorem fg_X4_22 (X : Cx p s m args meth c cc nL RX4 D dA) (hk : OB R 79 4) (hdg : decode cc pc = .ok (.getfield 22, 3)) (kk : J p l e Rm s m args below meth c nL D dA ad R A Q F (pc + 3) lv (.int (F 79 5) :: st)) : J p l e Rm s m args below meth c nL D dA ad R A Q F pc lv (.ref (ad 79) :: st) := r_getI (j := 5) X cl_X4 (by decide) rfl w_218 rfl hk hdg kk
theorem fp_X4_22 (X : Cx p s m args meth c cc nL RX4 D dA) {v : Int32} (hk : OB R 79 4) (hdg : decode cc pc = .ok (.putfield 22, 3)) (kk : ∀ F1 : HF, F1 = hup F 79 5 v → J p l e Rm s m args below meth c nL D dA ad R A Q F1 (pc + 3) lv st) : J p l e Rm s m args below meth c nL D dA ad R A Q F pc lv (.int v :: .ref (ad 79) :: st) := r_putI (j := 5) X cl_X4 (by decide) rfl w_218 rfl rfl rfl rfl hk hdg kk
theorem fg_X4_25 (X : Cx p s m args meth c cc nL RX4 D dA) (hk : OB R 79 4) (hdg : decode cc pc = .ok (.getfield 25, 3)) (kk : J p l e Rm s m args below meth c nL D dA ad R A Q F (pc + 3) lv (.ref (ad (4)) :: st)) : J p l e Rm s m args below meth c nL D dA ad R A Q F pc lv (.ref (ad 79) :: st) := r_getR (j := 0) (k := 79) X cl_X4 (by decide) rfl w_213 rfl rfl hk hdg kk
theorem fg_X4_34 (X : Cx p s m args meth c cc nL RX4 D dA) (hk : OB R 79 4) (hdg : decode cc pc = .ok (.getfield 34, 3)) (kk : J p l e Rm s m args below meth c nL D dA ad R A Q F (pc + 3) lv (.ref (ad (80)) :: st)) : J p l e Rm s m args below meth c nL D dA ad R A Q F pc lv (.ref (ad 79) :: st) := r_getR (j := 1) (k := 79) X cl_X4 (by decide) rfl w_214 rfl rfl hk hdg kk
theorem fg_X5_7 (X : Cx p s m args meth c cc nL RX5 D dA) {k : Nat} (hk : OB R k 5) (hdg : decode cc pc = .ok (.getfield 7, 3)) (kk : J p l e Rm s m args below meth c nL D dA ad R A Q F (pc + 3) lv (.int (F k 1) :: st)) : J p l e Rm s m args below meth c nL D dA ad R A Q F pc lv (.ref (ad k) :: st) := r_getI (j := 1) X cl_X5 (by decide) rfl w_199 rfl hk hdg kk
theorem fp_X5_7 (X : Cx p s m args meth c cc nL RX5 D dA) {k : Nat} {v : Int32} (hk : OB R k 5) (hdg : decode cc pc = .ok (.putfield 7, 3)) (kk : ∀ F1 : HF, F1 = hup F k 1 v → J p l e Rm s m args below meth c nL D dA ad R A Q F1 (pc + 3) lv st) : J p l e Rm s m args below meth c nL D dA ad R A Q F pc lv (.int v :: .ref (ad k) :: st) := r_putI (j := 1) X cl_X5 (by decide) rfl w_199 rfl rfl rfl rfl hk hdg kk
theorem fg_X5_21 (X : Cx p s m args meth c cc nL RX5 D dA) {k : Nat} (hk : OB R k 5) (hdg : decode cc pc = .ok (.getfield 21, 3)) (kk : J p l e Rm s m args below meth c nL D dA ad R A Q F (pc + 3) lv (.ref (ad (k + 1)) :: st)) : J p l e Rm s m args below meth c nL D dA ad R A Q F pc lv (.ref (ad k) :: st) := r_getR (j := 0) (k := k) X cl_X5 (by decide) rfl w_198 rfl rfl hk hdg kk
theorem fg_X7_7 (X : Cx p s m args meth c cc nL RX7 D dA) (hk : OB R 100 7) (hdg : decode cc pc = .ok (.getfield 7, 3)) (kk : J p l e Rm s m args below meth c nL D dA ad R A Q F (pc + 3) lv (.ref (ad (101)) :: st)) : J p l e Rm s m args below meth c nL D dA ad R A Q F pc lv (.ref (ad 100) :: st) := r_getR (j := 1) (k := 100) X cl_X7 (by decide) rfl w_856 rfl rfl hk hdg kk
theorem fg_X7_13 (X : Cx p s m args meth c cc nL RX7 D dA) (hk : OB R 100 7) (hdg : decode cc pc = .ok (.getfield 13, 3)) (kk : J p l e Rm s m args below meth c nL D dA ad R A Q F (pc + 3) lv (.ref (ad (103)) :: st)) : J p l e Rm s m args below meth c nL D dA ad R A Q F pc lv (.ref (ad 100) :: st) := r_getR (j := 3) (k := 100) X cl_X7 (by decide) rfl w_858 rfl rfl hk hdg kk
theorem fg_X7_16 (X : Cx p s m args meth c cc nL RX7 D dA) (hk : OB R 100 7) (hdg : decode cc pc = .ok (.getfield 16, 3)) (kk : J p l e Rm s m args below meth c nL D dA ad R A Q F (pc + 3) lv (.ref (ad (108)) :: st)) : J p l e Rm s m args below meth c nL D dA ad R A Q F pc lv (.ref (ad 100) :: st) := r_getR (j := 8) (k := 100) X cl_X7 (by decide) rfl w_863 rfl rfl hk hdg kk
theorem fg_X7_19 (X : Cx p s m args meth c cc nL RX7 D dA) (hk : OB R 100 7) (hdg : decode cc pc = .ok (.getfield 19, 3)) (kk : J p l e Rm s m args below meth c nL D dA ad R A Q F (pc + 3) lv (.ref (ad (109)) :: st)) : J p l e Rm s m args below meth c nL D dA ad R A Q F pc lv (.ref (ad 100) :: st) := r_getR (j := 9) (k := 100) X cl_X7 (by decide) rfl w_864 rfl rfl hk hdg kk
theorem fg_X7_22 (X : Cx p s m args meth c cc nL RX7 D dA) (hk : OB R 100 7) (hdg : decode cc pc = .ok (.getfield 22, 3)) (kk : J p l e Rm s m args below meth c nL D dA ad R A Q F (pc + 3) lv (.int (F 100 13) :: st)) : J p l e Rm s m args below meth c nL D dA ad R A Q F pc lv (.ref (ad 100) :: st) := r_getI (j := 13) X cl_X7 (by decide) rfl w_868 rfl hk hdg kk
theorem fp_X7_22 (X : Cx p s m args meth c cc nL RX7 D dA) {v : Int32} (hk : OB R 100 7) (hdg : decode cc pc = .ok (.putfield 22, 3)) (kk : ∀ F1 : HF, F1 = hup F 100 13 v → J p l e Rm s m args below meth c nL D dA ad R A Q F1 (pc + 3) lv st) : J p l e Rm s m args below meth c nL D dA ad R A Q F pc lv (.int v :: .ref (ad 100) :: st) := r_putI (j := 13) X cl_X7 (by decide) rfl w_868 rfl rfl rfl rfl hk hdg kk
theorem fg_X7_26 (X : Cx p s m args meth c cc nL RX7 D dA) (hk : OB R 100 7) (hdg : decode cc pc = .ok (.getfield 26, 3)) (kk : J p l e Rm s m args below meth c nL D dA ad R A Q F (pc + 3) lv (.ref (ad (114)) :: st)) : J p l e Rm s m args below meth c nL D dA ad R A Q F pc lv (.ref (ad 100) :: st) := r_getR (j := 14) (k := 100) X cl_X7 (by decide) rfl w_869 rfl rfl hk hdg kk
theorem fg_X7_29 (X : Cx p s m args meth c cc nL RX7 D dA) (hk : OB R 100 7) (hdg : decode cc pc = .ok (.getfield 29, 3)) (kk : J p l e Rm s m args below meth c nL D dA ad R A Q F (pc + 3) lv (.int (F 100 15) :: st)) : J p l e Rm s m args below meth c nL D dA ad R A Q F pc lv (.ref (ad 100) :: st) := r_getI (j := 15) X cl_X7 (by decide) rfl w_870 rfl hk hdg kk
theorem fp_X7_29 (X : Cx p s m args meth c cc nL RX7 D dA) {v : Int32} (hk : OB R 100 7) (hdg : decode cc pc = .ok (.putfield 29, 3)) (kk : ∀ F1 : HF, F1 = hup F 100 15 v → J p l e Rm s m args below meth c nL D dA ad R A Q F1 (pc + 3) lv st) : J p l e Rm s m args below meth c nL D dA ad R A Q F pc lv (.int v :: .ref (ad 100) :: st) := r_putI (j := 15) X cl_X7 (by decide) rfl w_870 rfl rfl rfl rfl hk hdg kk
theorem fg_X7_32 (X : Cx p s m args meth c cc nL RX7 D dA) (hk : OB R 100 7) (hdg : decode cc pc = .ok (.getfield 32, 3)) (kk : J p l e Rm s m args below meth c nL D dA ad R A Q F (pc + 3) lv (.ref (ad (116)) :: st)) : J p l e Rm s m args below meth c nL D dA ad R A Q F pc lv (.ref (ad 100) :: st) := r_getR (j := 16) (k := 100) X cl_X7 (by decide) rfl w_871 rfl rfl hk hdg kk
theorem fg_X7_35 (X : Cx p s m args meth c cc nL RX7 D dA) (hk : OB R 100 7) (hdg : decode cc pc = .ok (.getfield 35, 3)) (kk : J p l e Rm s m args below meth c nL D dA ad R A Q F (pc + 3) lv (.int (F 100 17) :: st)) : J p l e Rm s m args below meth c nL D dA ad R A Q F pc lv (.ref (ad 100) :: st) := r_getI (j := 17) X cl_X7 (by decide) rfl w_872 rfl hk hdg kk
theorem fp_X7_35 (X : Cx p s m args meth c cc nL RX7 D dA) {v : Int32} (hk : OB R 100 7) (hdg : decode cc pc = .ok (.putfield 35, 3)) (kk : ∀ F1 : HF, F1 = hup F 100 17 v → J p l e Rm s m args below meth c nL D dA ad R A Q F1 (pc + 3) lv st) : J p l e Rm s m args below meth c nL D dA ad R A Q F pc lv (.int v :: .ref (ad 100) :: st) := r_putI (j := 17) X cl_X7 (by decide) rfl w_872 rfl rfl rfl rfl hk hdg kk
theorem fg_X7_38 (X : Cx p s m args meth c cc nL RX7 D dA) (hk : OB R 100 7) (hdg : decode cc pc = .ok (.getfield 38, 3)) (kk : J p l e Rm s m args below meth c nL D dA ad R A Q F (pc + 3) lv (.int (F 100 18) :: st)) : J p l e Rm s m args below meth c nL D dA ad R A Q F pc lv (.ref (ad 100) :: st) := r_getI (j := 18) X cl_X7 (by decide) rfl w_873 rfl hk hdg kk
theorem fp_X7_38 (X : Cx p s m args meth c cc nL RX7 D dA) {v : Int32} (hk : OB R 100 7) (hdg : decode cc pc = .ok (.putfield 38, 3)) (kk : ∀ F1 : HF, F1 = hup F 100 18 v → J p l e Rm s m args below meth c nL D dA ad R A Q F1 (pc + 3) lv st) : J p l e Rm s m args below meth c nL D dA ad R A Q F pc lv (.int v :: .ref (ad 100) :: st) := r_putI (j := 18) X cl_X7 (by decide) rfl w_873 rfl rfl rfl rfl hk hdg kk
theorem fg_X7_41 (X : Cx p s m args meth c cc nL RX7 D dA) (hk : OB R 100 7) (hdg : decode cc pc = .ok (.getfield 41, 3)) (kk : J p l e Rm s m args below meth c nL D dA ad R A Q F (pc + 3) lv (.int (F 100 19) :: st)) : J p l e Rm s m args below meth c nL D dA ad R A Q F pc lv (.ref (ad 100) :: st) := r_getI (j := 19) X cl_X7 (by decide) rfl w_874 rfl hk hdg kk
theorem fp_X7_41 (X : Cx p s m args meth c cc nL RX7 D dA) {v : Int32} (hk : OB R 100 7) (hdg : decode cc pc = .ok (.putfield 41, 3)) (kk : ∀ F1 : HF, F1 = hup F 100 19 v → J p l e Rm s m args below meth c nL D dA ad R A Q F1 (pc + 3) lv st) : J p l e Rm s m args below meth c nL D dA ad R A Q F pc lv (.int v :: .ref (ad 100) :: st) := r_putI (j := 19) X cl_X7 (by decide) rfl w_874 rfl rfl rfl rfl hk hdg kk
theorem fg_X7_44 (X : Cx p s m args meth c cc nL RX7 D dA) (hk : OB R 100 7) (hdg : decode cc pc = .ok (.getfield 44, 3)) (kk : J p l e Rm s m args below meth c nL D dA ad R A Q F (pc + 3) lv (.ref (ad (120)) :: st)) : J p l e Rm s m args below meth c nL D dA ad R A Q F pc lv (.ref (ad 100) :: st) := r_getR (j := 20) (k := 100) X cl_X7 (by decide) rfl w_875 rfl rfl hk hdg kk
theorem fg_X7_47 (X : Cx p s m args meth c cc nL RX7 D dA) (hk : OB R 100 7) (hdg : decode cc pc = .ok (.getfield 47, 3)) (kk : J p l e Rm s m args below meth c nL D dA ad R A Q F (pc + 3) lv (.ref (ad (121)) :: st)) : J p l e Rm s m args below meth c nL D dA ad R A Q F pc lv (.ref (ad 100) :: st) := r_getR (j := 21) (k := 100) X cl_X7 (by decide) rfl w_876 rfl rfl hk hdg kk
theorem fg_X7_50 (X : Cx p s m args meth c cc nL RX7 D dA) (hk : OB R 100 7) (hdg : decode cc pc = .ok (.getfield 50, 3)) (kk : J p l e Rm s m args below meth c nL D dA ad R A Q F (pc + 3) lv (.ref (ad (122)) :: st)) : J p l e Rm s m args below meth c nL D dA ad R A Q F pc lv (.ref (ad 100) :: st) := r_getR (j := 22) (k := 100) X cl_X7 (by decide) rfl w_877 rfl rfl hk hdg kk
theorem fg_X7_53 (X : Cx p s m args meth c cc nL RX7 D dA) (hk : OB R 100 7) (hdg : decode cc pc = .ok (.getfield 53, 3)) (kk : J p l e Rm s m args below meth c nL D dA ad R A Q F (pc + 3) lv (.ref (ad (124)) :: st)) : J p l e Rm s m args below meth c nL D dA ad R A Q F pc lv (.ref (ad 100) :: st) := r_getR (j := 24) (k := 100) X cl_X7 (by decide) rfl w_879 rfl rfl hk hdg kk
theorem fg_X7_56 (X : Cx p s m args meth c cc nL RX7 D dA) (hk : OB R 100 7) (hdg : decode cc pc = .ok (.getfield 56, 3)) (kk : J p l e Rm s m args below meth c nL D dA ad R A Q F (pc + 3) lv (.ref (ad (126)) :: st)) : J p l e Rm s m args below meth c nL D dA ad R A Q F pc lv (.ref (ad 100) :: st) := r_getR (j := 26) (k := 100) X cl_X7 (by decide) rfl w_881 rfl rfl hk hdg kk
theorem fg_X7_59 (X : Cx p s m args meth c cc nL RX7 D dA) (hk : OB R 100 7) (hdg : decode cc pc = .ok (.getfield 59, 3)) (kk : J p l e Rm s m args below meth c nL D dA ad R A Q F (pc + 3) lv (.ref (ad (128)) :: st)) : J p l e Rm s m args below meth c nL D dA ad R A Q F pc lv (.ref (ad 100) :: st) := r_getR (j := 28) (k := 100) X cl_X7 (by decide) rfl w_883 rfl rfl hk hdg kk
theorem fg_X7_62 (X : Cx p s m args meth c cc nL RX7 D dA) (hk : OB R 100 7) (hdg : decode cc pc = .ok (.getfield 62, 3)) (kk : J p l e Rm s m args below meth c nL D dA ad R A Q F (pc + 3) lv (.ref (ad (129)) :: st)) : J p l e Rm s m args below meth c nL D dA ad R A Q F pc lv (.ref (ad 100) :: st) := r_getR (j := 29) (k := 100) X cl_X7 (by decide) rfl w_884 rfl rfl hk hdg kk
theorem fg_X7_65 (X : Cx p s m args meth c cc nL RX7 D dA) (hk : OB R 100 7) (hdg : decode cc pc = .ok (.getfield 65, 3)) (kk : J p l e Rm s m args below meth c nL D dA ad R A Q F (pc + 3) lv (.ref (ad (131)) :: st)) : J p l e Rm s m args below meth c nL D dA ad R A Q F pc lv (.ref (ad 100) :: st) := r_getR (j := 31) (k := 100) X cl_X7 (by decide) rfl w_886 rfl rfl hk hdg kk
theorem fg_X7_68 (X : Cx p s m args meth c cc nL RX7 D dA) (hk : OB R 100 7) (hdg : decode cc pc = .ok (.getfield 68, 3)) (kk : J p l e Rm s m args below meth c nL D dA ad R A Q F (pc + 3) lv (.ref (ad (132)) :: st)) : J p l e Rm s m args below meth c nL D dA ad R A Q F pc lv (.ref (ad 100) :: st) := r_getR (j := 32) (k := 100) X cl_X7 (by decide) rfl w_887 rfl rfl hk hdg kk
theorem fg_X7_78 (X : Cx p s m args meth c cc nL RX7 D dA) (hk : OB R 100 7) (hdg : decode cc pc = .ok (.getfield 78, 3)) (kk : J p l e Rm s m args below meth c nL D dA ad R A Q F (pc + 3) lv (.int (F 100 23) :: st)) : J p l e Rm s m args below meth c nL D dA ad R A Q F pc lv (.ref (ad 100) :: st) := r_getI (j := 23) X cl_X7 (by decide) rfl w_878 rfl hk hdg kk
theorem fp_X7_78 (X : Cx p s m args meth c cc nL RX7 D dA) {v : Int32} (hk : OB R 100 7) (hdg : decode cc pc = .ok (.putfield 78, 3)) (kk : ∀ F1 : HF, F1 = hup F 100 23 v → J p l e Rm s m args below meth c nL D dA ad R A Q F1 (pc + 3) lv st) : J p l e Rm s m args below meth c nL D dA ad R A Q F pc lv (.int v :: .ref (ad 100) :: st) := r_putI (j := 23) X cl_X7 (by decide) rfl w_878 rfl rfl rfl rfl hk hdg kk
theorem fg_X7_81 (X : Cx p s m args meth c cc nL RX7 D dA) (hk : OB R 100 7) (hdg : decode cc pc = .ok (.getfield 81, 3)) (kk : J p l e Rm s m args below meth c nL D dA ad R A Q F (pc + 3) lv (.int (F 100 25) :: st)) : J p l e Rm s m args below meth c nL D dA ad R A Q F pc lv (.ref (ad 100) :: st) := r_getI (j := 25) X cl_X7 (by decide) rfl w_880 rfl hk hdg kk
theorem fp_X7_81 (X : Cx p s m args meth c cc nL RX7 D dA) {v : Int32} (hk : OB R 100 7) (hdg : decode cc pc = .ok (.putfield 81, 3)) (kk : ∀ F1 : HF, F1 = hup F 100 25 v → J p l e Rm s m args below meth c nL D dA ad R A Q F1 (pc + 3) lv st) : J p l e Rm s m args below meth c nL D dA ad R A Q F pc lv (.int v :: .ref (ad 100) :: st) := r_putI (j := 25) X cl_X7 (by decide) rfl w_880 rfl rfl rfl rfl hk hdg kk
theorem fg_X7_84 (X : Cx p s m args meth c cc nL RX7 D dA) (hk : OB R 100 7) (hdg : decode cc pc = .ok (.getfield 84, 3)) (kk : J p l e Rm s m args below meth c nL D dA ad R A Q F (pc + 3) lv (.int (F 100 27) :: st)) : J p l e Rm s m args below meth c nL D dA ad R A Q F pc lv (.ref (ad 100) :: st) := r_getI (j := 27) X cl_X7 (by decide) rfl w_882 rfl hk hdg kk
theorem fp_X7_84 (X : Cx p s m args meth c cc nL RX7 D dA) {v : Int32} (hk : OB R 100 7) (hdg : decode cc pc = .ok (.putfield 84, 3)) (kk : ∀ F1 : HF, F1 = hup F 100 27 v → J p l e Rm s m args below meth c nL D dA ad R A Q F1 (pc + 3) lv st) : J p l e Rm s m args below meth c nL D dA ad R A Q F pc lv (.int v :: .ref (ad 100) :: st) := r_putI (j := 27) X cl_X7 (by decide) rfl w_882 rfl rfl rfl rfl hk hdg kk
theorem fg_X7_91 (X : Cx p s m args meth c cc nL RX7 D dA) (hk : OB R 100 7) (hdg : decode cc pc = .ok (.getfield 91, 3)) (kk : J p l e Rm s m args below meth c nL D dA ad R A Q F (pc + 3) lv (.int (F 100 0) :: st)) : J p l e Rm s m args below meth c nL D dA ad R A Q F pc lv (.ref (ad 100) :: st) := r_getI (j := 0) X cl_X7 (by decide) rfl w_855 rfl hk hdg kk
theorem fp_X7_91 (X : Cx p s m args meth c cc nL RX7 D dA) {v : Int32} (hk : OB R 100 7) (hdg : decode cc pc = .ok (.putfield 91, 3)) (kk : ∀ F1 : HF, F1 = hup F 100 0 v → J p l e Rm s m args below meth c nL D dA ad R A Q F1 (pc + 3) lv st) : J p l e Rm s m args below meth c nL D dA ad R A Q F pc lv (.int v :: .ref (ad 100) :: st) := r_putI (j := 0) X cl_X7 (by decide) rfl w_855 rfl rfl rfl rfl hk hdg kk
theorem fg_X7_94 (X : Cx p s m args meth c cc nL RX7 D dA) (hk : OB R 100 7) (hdg : decode cc pc = .ok (.getfield 94, 3)) (kk : J p l e Rm s m args below meth c nL D dA ad R A Q F (pc + 3) lv (.int (F 100 4) :: st)) : J p l e Rm s m args below meth c nL D dA ad R A Q F pc lv (.ref (ad 100) :: st) := r_getI (j := 4) X cl_X7 (by decide) rfl w_859 rfl hk hdg kk
theorem fp_X7_94 (X : Cx p s m args meth c cc nL RX7 D dA) {v : Int32} (hk : OB R 100 7) (hdg : decode cc pc = .ok (.putfield 94, 3)) (kk : ∀ F1 : HF, F1 = hup F 100 4 v → J p l e Rm s m args below meth c nL D dA ad R A Q F1 (pc + 3) lv st) : J p l e Rm s m args below meth c nL D dA ad R A Q F pc lv (.int v :: .ref (ad 100) :: st) := r_putI (j := 4) X cl_X7 (by decide) rfl w_859 rfl rfl rfl rfl hk hdg kk
theorem fg_X7_97 (X : Cx p s m args meth c cc nL RX7 D dA) (hk : OB R 100 7) (hdg : decode cc pc = .ok (.getfield 97, 3)) (kk : J p l e Rm s m args below meth c nL D dA ad R A Q F (pc + 3) lv (.int (F 100 2) :: st)) : J p l e Rm s m args below meth c nL D dA ad R A Q F pc lv (.ref (ad 100) :: st) := r_getI (j := 2) X cl_X7 (by decide) rfl w_857 rfl hk hdg kk
theorem fp_X7_97 (X : Cx p s m args meth c cc nL RX7 D dA) {v : Int32} (hk : OB R 100 7) (hdg : decode cc pc = .ok (.putfield 97, 3)) (kk : ∀ F1 : HF, F1 = hup F 100 2 v → J p l e Rm s m args below meth c nL D dA ad R A Q F1 (pc + 3) lv st) : J p l e Rm s m args below meth c nL D dA ad R A Q F pc lv (.int v :: .ref (ad 100) :: st) := r_putI (j := 2) X cl_X7 (by decide) rfl w_857 rfl rfl rfl rfl hk hdg kk
theorem fg_X7_104 (X : Cx p s m args meth c cc nL RX7 D dA) (hk : OB R 100 7) (hdg : decode cc pc = .ok (.getfield 104, 3)) (kk : J p l e Rm s m args below meth c nL D dA ad R A Q F (pc + 3) lv (.int (F 100 6) :: st)) : J p l e Rm s m args below meth c nL D dA ad R A Q F pc lv (.ref (ad 100) :: st) := r_getI (j := 6) X cl_X7 (by decide) rfl w_861 rfl hk hdg kk
theorem fp_X7_104 (X : Cx p s m args meth c cc nL RX7 D dA) {v : Int32} (hk : OB R 100 7) (hdg : decode cc pc = .ok (.putfield 104, 3)) (kk : ∀ F1 : HF, F1 = hup F 100 6 v → J p l e Rm s m args below meth c nL D dA ad R A Q F1 (pc + 3) lv st) : J p l e Rm s m args below meth c nL D dA ad R A Q F pc lv (.int v :: .ref (ad 100) :: st) := r_putI (j := 6) X cl_X7 (by decide) rfl w_861 rfl rfl rfl rfl hk hdg kk
theorem fg_X7_111 (X : Cx p s m args meth c cc nL RX7 D dA) (hk : OB R 100 7) (hdg : decode cc pc = .ok (.getfield 111, 3)) (kk : J p l e Rm s m args below meth c nL D dA ad R A Q F (pc + 3) lv (.int (F 100 7) :: st)) : J p l e Rm s m args below meth c nL D dA ad R A Q F pc lv (.ref (ad 100) :: st) := r_getI (j := 7) X cl_X7 (by decide) rfl w_862 rfl hk hdg kk
theorem fp_X7_111 (X : Cx p s m args meth c cc nL RX7 D dA) {v : Int32} (hk : OB R 100 7) (hdg : decode cc pc = .ok (.putfield 111, 3)) (kk : ∀ F1 : HF, F1 = hup F 100 7 v → J p l e Rm s m args below meth c nL D dA ad R A Q F1 (pc + 3) lv st) : J p l e Rm s m args below meth c nL D dA ad R A Q F pc lv (.int v :: .ref (ad 100) :: st) := r_putI (j := 7) X cl_X7 (by decide) rfl w_862 rfl rfl rfl rfl hk hdg kk
theorem fg_X7_114 (X : Cx p s m args meth c cc nL RX7 D dA) (hk : OB R 100 7) (hdg : decode cc pc = .ok (.getfield 114, 3)) (kk : J p l e Rm s m args below meth c nL D dA ad R A Q F (pc + 3) lv (.int (F 100 10) :: st)) : J p l e Rm s m args below meth c nL D dA ad R A Q F pc lv (.ref (ad 100) :: st) := r_getI (j := 10) X cl_X7 (by decide) rfl w_865 rfl hk hdg kk
theorem fp_X7_114 (X : Cx p s m args meth c cc nL RX7 D dA) {v : Int32} (hk : OB R 100 7) (hdg : decode cc pc = .ok (.putfield 114, 3)) (kk : ∀ F1 : HF, F1 = hup F 100 10 v → J p l e Rm s m args below meth c nL D dA ad R A Q F1 (pc + 3) lv st) : J p l e Rm s m args below meth c nL D dA ad R A Q F pc lv (.int v :: .ref (ad 100) :: st) := r_putI (j := 10) X cl_X7 (by decide) rfl w_865 rfl rfl rfl rfl hk hdg kk
theorem fg_X7_117 (X : Cx p s m args meth c cc nL RX7 D dA) (hk : OB R 100 7) (hdg : decode cc pc = .ok (.getfield 117, 3)) (kk : J p l e Rm s m args below meth c nL D dA ad R A Q F (pc + 3) lv (.int (F 100 11) :: st)) : J p l e Rm s m args below meth c nL D dA ad R A Q F pc lv (.ref (ad 100) :: st) := r_getI (j := 11) X cl_X7 (by decide) rfl w_866 rfl hk hdg kk
theorem fp_X7_117 (X : Cx p s m args meth c cc nL RX7 D dA) {v : Int32} (hk : OB R 100 7) (hdg : decode cc pc = .ok (.putfield 117, 3)) (kk : ∀ F1 : HF, F1 = hup F 100 11 v → J p l e Rm s m args below meth c nL D dA ad R A Q F1 (pc + 3) lv st) : J p l e Rm s m args below meth c nL D dA ad R A Q F pc lv (.int v :: .ref (ad 100) :: st) := r_putI (j := 11) X cl_X7 (by decide) rfl w_866 rfl rfl rfl rfl hk hdg kk
theorem fg_X7_120 (X : Cx p s m args meth c cc nL RX7 D dA) (hk : OB R 100 7) (hdg : decode cc pc = .ok (.getfield 120, 3)) (kk : J p l e Rm s m args below meth c nL D dA ad R A Q F (pc + 3) lv (.int (F 100 12) :: st)) : J p l e Rm s m args below meth c nL D dA ad R A Q F pc lv (.ref (ad 100) :: st) := r_getI (j := 12) X cl_X7 (by decide) rfl w_867 rfl hk hdg kk
theorem fp_X7_120 (X : Cx p s m args meth c cc nL RX7 D dA) {v : Int32} (hk : OB R 100 7) (hdg : decode cc pc = .ok (.putfield 120, 3)) (kk : ∀ F1 : HF, F1 = hup F 100 12 v → J p l e Rm s m args below meth c nL D dA ad R A Q F1 (pc + 3) lv st) : J p l e Rm s m args below meth c nL D dA ad R A Q F pc lv (.int v :: .ref (ad 100) :: st) := r_putI (j := 12) X cl_X7 (by decide) rfl w_867 rfl rfl rfl rfl hk hdg kk
theorem fg_X7_123 (X : Cx p s m args meth c cc nL RX7 D dA) (hk : OB R 100 7) (hdg : decode cc pc = .ok (.getfield 123, 3)) (kk : J p l e Rm s m args below meth c nL D dA ad R A Q F (pc + 3) lv (.int (F 100 5) :: st)) : J p l e Rm s m args below meth c nL D dA ad R A Q F pc lv (.ref (ad 100) :: st) := r_getI (j := 5) X cl_X7 (by decide) rfl w_860 rfl hk hdg kk
theorem fp_X7_123 (X : Cx p s m args meth c cc nL RX7 D dA) {v : Int32} (hk : OB R 100 7) (hdg : decode cc pc = .ok (.putfield 123, 3)) (kk : ∀ F1 : HF, F1 = hup F 100 5 v → J p l e Rm s m args below meth c nL D dA ad R A Q F1 (pc + 3) lv st) : J p l e Rm s m args below meth c nL D dA ad R A Q F pc lv (.int v :: .ref (ad 100) :: st) := r_putI (j := 5) X cl_X7 (by decide) rfl w_860 rfl rfl rfl rfl hk hdg kk
theorem fg_X7_210 (X : Cx p s m args meth c cc nL RX7 D dA) (hk : OB R 100 7) (hdg : decode cc pc = .ok (.getfield 210, 3)) (kk : J p l e Rm s m args below meth c nL D dA ad R A Q F (pc + 3) lv (.int (F 100 30) :: st)) : J p l e Rm s m args below meth c nL D dA ad R A Q F pc lv (.ref (ad 100) :: st) := r_getI (j := 30) X cl_X7 (by decide) rfl w_885 rfl hk hdg kk
theorem fp_X7_210 (X : Cx p s m args meth c cc nL RX7 D dA) {v : Int32} (hk : OB R 100 7) (hdg : decode cc pc = .ok (.putfield 210, 3)) (kk : ∀ F1 : HF, F1 = hup F 100 30 v → J p l e Rm s m args below meth c nL D dA ad R A Q F1 (pc + 3) lv st) : J p l e Rm s m args below meth c nL D dA ad R A Q F pc lv (.int v :: .ref (ad 100) :: st) := r_putI (j := 30) X cl_X7 (by decide) rfl w_885 rfl rfl rfl rfl hk hdg kk
end FR
theorem g_X6_84 : GoodIn WB (wsV RX6 84 RX3 yX3_append (Cond.code yX3_append cX3_append 2 (some .boolean) :: WB)) := gV w_281 w_282 w_283 w_57 w_284
theorem g_X6_88 : GoodIn WB (wsV RX6 88 RX3 yX3_readInto (Cond.code yX3_readInto cX3_readInto 4 (some .int) :: WB)) := gV w_285 w_286 w_287 w_57 w_288
theorem g_X6_92 : GoodIn WB (wsV RX6 92 RX3 yX3_clear (Cond.code yX3_clear cX3_clear 1 none :: WB)) := gV w_332 w_333 w_334 w_57 w_335
theorem g_X6_95 : GoodIn WB (wsV RX6 95 RX3 yX3_length (Cond.code yX3_length cX3_length 1 (some .int) :: WB)) := gV w_375 w_376 w_377 w_57 w_378
theorem g_X6_96 : GoodIn WB (wsV RX6 96 RX1 yX1_birds (Cond.code yX1_birds cX1_birds 1 (some .int) :: WB)) := gV w_391 w_392 w_393 w_58 w_394
theorem g_X6_99 : GoodIn WB (wsV RX6 99 RX1 yX1_copyFrom (Cond.code yX1_copyFrom cX1_copyFrom 2 none :: WB)) := gV w_395 w_396 w_397 w_58 w_398
theorem g_X6_102 : GoodIn WB (wsV RX6 102 RX2 yX2_begin (Cond.code yX2_begin cX2_begin 1 none :: WB)) := gV w_402 w_403 w_404 w_59 w_405
theorem g_X6_105 : GoodIn WB (wsV RX6 105 RX5 yX5_clear (Cond.code yX5_clear cX5_clear 1 none :: WB)) := gV w_414 w_415 w_416 w_61 w_417
theorem g_X6_106 : GoodIn WB (wsV RX6 106 RX4 yX4_begin (Cond.code yX4_begin cX4_begin 1 none :: WB)) := gV w_418 w_419 w_420 w_63 w_421
theorem g_X6_107 : GoodIn WB (wsV RX6 107 RX6 yX6_isBird (Cond.code yX6_isBird cX6_isBird 2 (some .boolean) :: WB)) := gV w_426 w_428 w_8 w_56 w_429
theorem g_X6_110 : GoodIn WB (wsV RX6 110 RX1 yX1_strengthOf (Cond.code yX1_strengthOf cX1_strengthOf 2 (some .int) :: WB)) := gV w_430 w_431 w_432 w_58 w_433
theorem g_X6_114 : GoodIn WB (wsV RX6 114 RX1 yX1_lengthOf (Cond.code yX1_lengthOf cX1_lengthOf 2 (some .int) :: WB)) := gV w_434 w_435 w_436 w_58 w_437
theorem g_X6_117 : GoodIn WB (wsV RX6 117 RX1 yX1_kindOf (Cond.code yX1_kindOf cX1_kindOf 2 (some .int) :: WB)) := gV w_438 w_439 w_440 w_58 w_441
theorem g_X6_120 : GoodIn WB (wsV RX6 120 RX1 yX1_woodOf (Cond.code yX1_woodOf cX1_woodOf 2 (some .int) :: WB)) := gV w_442 w_443 w_444 w_58 w_445
theorem g_X6_123 : GoodIn WB (wsV RX6 123 RX2 yX2_bridge (Cond.code yX2_bridge cX2_bridge 1 (some (.object "BirdBridge$Bridge")) :: WB)) := gV w_446 w_447 w_448 w_59 w_449
theorem g_X6_127 : GoodIn WB (wsV RX6 127 RX0 yX0_tiredOf (Cond.code yX0_tiredOf cX0_tiredOf 2 (some .int) :: WB)) := gV w_450 w_451 w_452 w_60 w_453
theorem g_X6_130 : GoodIn WB (wsV RX6 130 RX0 yX0_positionOf (Cond.code yX0_positionOf cX0_positionOf 3 (some .int) :: WB)) := gV w_454 w_455 w_456 w_60 w_457
theorem g_X6_133 : GoodIn WB (wsV RX6 133 RX1 yX1_windIn (Cond.code yX1_windIn cX1_windIn 2 (some .int) :: WB)) := gV w_462 w_463 w_464 w_58 w_465
theorem g_X6_136 : GoodIn WB (wsV RX6 136 RX0 yX0_size (Cond.code yX0_size cX0_size 1 (some .int) :: WB)) := gV w_470 w_471 w_472 w_60 w_473
theorem g_X6_139 : GoodIn WB (wsV RX6 139 RX0 yX0_birdAt (Cond.code yX0_birdAt cX0_birdAt 2 (some .int) :: WB)) := gV w_474 w_475 w_476 w_60 w_477
theorem g_X6_142 : GoodIn WB (wsV RX6 142 RX0 yX0_firstPlaceOf (Cond.code yX0_firstPlaceOf cX0_firstPlaceOf 4 (some .int) :: WB)) := gV w_478 w_479 w_480 w_60 w_481
theorem g_X6_145 : GoodIn WB (wsV RX6 145 RX0 yX0_powerAt (Cond.code yX0_powerAt cX0_powerAt 5 (some .int) :: WB)) := gV w_483 w_484 w_485 w_60 w_486
theorem g_X6_148 : GoodIn WB (wsV RX6 148 RX6 yX6_loadNow (Cond.code yX6_loadNow cX6_loadNow 2 (some .int) :: WB)) := gV w_498 w_500 w_9 w_56 w_501
theorem g_X6_151 : GoodIn WB (wsV RX6 151 RX2 yX2_isFixed (Cond.code yX2_isFixed cX2_isFixed 1 (some .boolean) :: WB)) := gV w_557 w_558 w_559 w_59 w_560
theorem g_X6_155 : GoodIn WB (wsV RX6 155 RX0 yX0_mayJoin (Cond.code yX0_mayJoin cX0_mayJoin 3 (some .boolean) :: WB)) := gV w_562 w_563 w_564 w_60 w_565
theorem g_X6_158 : GoodIn WB (wsV RX6 158 RX5 yX5_put (Cond.code yX5_put cX5_put 2 none :: WB)) := gV w_577 w_578 w_579 w_61 w_580
theorem g_X6_162 : GoodIn WB (wsV RX6 162 RX0 yX0_append (Cond.code yX0_append cX0_append 2 none :: WB)) := gV w_594 w_595 w_596 w_60 w_597
theorem g_X6_165 : GoodIn WB (wsV RX6 165 RX0 yX0_dropLast (Cond.code yX0_dropLast cX0_dropLast 1 none :: WB)) := gV w_602 w_603 w_604 w_60 w_605
theorem g_X6_168 : GoodIn WB (wsV RX6 168 RX2 yX2_isBroken (Cond.code yX2_isBroken cX2_isBroken 1 (some .boolean) :: WB)) := gV w_610 w_611 w_612 w_59 w_613
theorem g_X6_171 : GoodIn WB (wsV RX6 171 RX0 yX0_isWhole (Cond.code yX0_isWhole cX0_isWhole 1 (some .boolean) :: WB)) := gV w_614 w_567 w_568 w_60 w_569
theorem g_X6_174 : GoodIn WB (wsV RX6 174 RX2 yX2_place (Cond.code yX2_place cX2_place 1 (some .int) :: WB)) := gV w_519 w_520 w_521 w_59 w_522
theorem g_X6_177 : GoodIn WB (wsV RX6 177 RX1 yX1_width (Cond.code yX1_width cX1_width 1 (some .int) :: WB)) := gV w_615 w_516 w_517 w_58 w_518
theorem g_X6_180 : GoodIn WB (wsV RX6 180 RX2 yX2_passMinuteAt (Cond.code yX2_passMinuteAt cX2_passMinuteAt 2 (some .boolean) :: WB)) := gV w_616 w_617 w_618 w_59 w_619
theorem g_X6_183 : GoodIn WB (wsV RX6 183 RX2 yX2_isOnBridge (Cond.code yX2_isOnBridge cX2_isOnBridge 1 (some .boolean) :: WB)) := gV w_511 w_512 w_513 w_59 w_514
theorem g_X6_186 : GoodIn WB (wsV RX6 186 RX2 yX2_setYear (Cond.code yX2_setYear cX2_setYear 2 none :: WB)) := gV w_648 w_649 w_650 w_59 w_651
theorem g_X6_189 : GoodIn WB (wsV RX6 189 RX2 yX2_weight (Cond.code yX2_weight cX2_weight 1 (some .int) :: WB)) := gV w_523 w_524 w_525 w_59 w_526
theorem g_X6_192 : GoodIn WB (wsV RX6 192 RX5 yX5_takeInto (Cond.code yX5_takeInto cX5_takeInto 2 (some .boolean) :: WB)) := gV w_656 w_657 w_658 w_61 w_659
theorem g_X6_196 : GoodIn WB (wsV RX6 196 RX5 yX5_size (Cond.code yX5_size cX5_size 1 (some .int) :: WB)) := gV w_660 w_661 w_662 w_61 w_663
theorem g_X6_197 : GoodIn WB (wsV RX6 197 RX0 yX0_copyFrom (Cond.code yX0_copyFrom cX0_copyFrom 2 none :: WB)) := gV w_502 w_503 w_504 w_60 w_505
theorem g_X6_200 : GoodIn WB (wsV RX6 200 RX2 yX2_minute (Cond.code yX2_minute cX2_minute 1 (some .int) :: WB)) := gV w_531 w_532 w_533 w_59 w_534
theorem g_X6_203 : GoodIn WB (wsV RX6 203 RX0 yX0_walk (Cond.code yX0_walk cX0_walk 6 (some .int) :: WB)) := gV w_668 w_669 w_670 w_60 w_671
theorem g_X6_207 : GoodIn WB (wsV RX6 207 RX4 yX4_find (Cond.code yX4_find cX4_find 2 none :: WB)) := gV w_679 w_680 w_681 w_63 w_682
theorem g_X6_210 : GoodIn WB (wsV RX6 210 RX4 yX4_foundSize (Cond.code yX4_foundSize cX4_foundSize 1 (some .int) :: WB)) := gV w_734 w_735 w_736 w_63 w_737
theorem g_X6_213 : GoodIn WB (wsV RX6 213 RX4 yX4_foundAt (Cond.code yX4_foundAt cX4_foundAt 2 (some .int) :: WB)) := gV w_738 w_739 w_740 w_63 w_741
theorem g_X6_216 : GoodIn WB (wsV RX6 216 RX6 yX6_mends (Cond.code yX6_mends cX6_mends 4 (some .boolean) :: WB)) := gV w_746 w_748 w_18 w_56 w_749
theorem g_X6_220 : GoodIn WB (wsV RX6 220 RX6 yX6_callMinute (Cond.code yX6_callMinute cX6_callMinute 8 (some .int) :: WB)) := gV w_758 w_760 w_19 w_56 w_761
theorem g_X6_229 : GoodIn WB (wsV RX6 229 RX6 yX6_bothComeOver (Cond.code yX6_bothComeOver cX6_bothComeOver 7 (some .boolean) :: WB)) := gV w_767 w_769 w_20 w_56 w_770
theorem g_X6_232 : GoodIn WB (wsV RX6 232 RX0 yX0_copyRested (Cond.code yX0_copyRested cX0_copyRested 2 none :: WB)) := gV w_771 w_772 w_773 w_60 w_774
theorem g_X6_235 : GoodIn WB (wsV RX6 235 RX1 yX1_weightIn (Cond.code yX1_weightIn cX1_weightIn 2 (some .int) :: WB)) := gV w_781 w_528 w_529 w_58 w_530
theorem g_X6_238 : GoodIn WB (wsV RX6 238 RX6 yX6_isAsSeen (Cond.code yX6_isAsSeen cX6_isAsSeen 4 (some .boolean) :: WB)) := gV w_794 w_796 w_21 w_56 w_797
theorem g_X6_245 : GoodIn WB (wsV RX6 245 RX6 yX6_comesOverByDraws (Cond.code yX6_comesOverByDraws cX6_comesOverByDraws 5 (some .boolean) :: WB)) := gV w_810 w_812 w_22 w_56 w_813
theorem g_X6_248 : GoodIn WB (wsV RX6 248 RX5 yX5_isFull (Cond.code yX5_isFull cX5_isFull 1 (some .boolean) :: WB)) := gV w_827 w_582 w_583 w_61 w_584
theorem g_X6_251 : GoodIn WB (wsV RX6 251 RX0 yX0_placesSpanned (Cond.code yX0_placesSpanned cX0_placesSpanned 1 (some .int) :: WB)) := gV w_836 w_721 w_722 w_60 w_723
theorem g_X6_254 : GoodIn WB (wsV RX6 254 RX2 yX2_yearNow (Cond.code yX2_yearNow cX2_yearNow 1 (some .int) :: WB)) := gV w_837 w_838 w_839 w_59 w_840
theorem g_X6_257 : GoodIn WB (wsV RX6 257 RX0 yX0_unload (Cond.code yX0_unload cX0_unload 2 none :: WB)) := gV w_507 w_508 w_509 w_60 w_510
theorem g_X6_260 : GoodIn WB (wsV RX6 260 RX0 yX0_press (Cond.code yX0_press cX0_press 5 none :: WB)) := gV w_535 w_536 w_537 w_60 w_538
theorem g_X6_264 : GoodIn WB (wsV RX6 264 RX0 yX0_borneAt (Cond.code yX0_borneAt cX0_borneAt 2 (some .int) :: WB)) := gV w_549 w_550 w_551 w_60 w_552
theorem g_X6_267 : GoodIn WB (wsV RX6 267 RX0 yX0_replace (Cond.code yX0_replace cX0_replace 3 none :: WB)) := gV w_750 w_751 w_752 w_60 w_753
theorem g_X6_270 : GoodIn WB (wsV RX6 270 RX0 yX0_settle (Cond.code yX0_settle cX0_settle 2 (some .boolean) :: WB)) := gV w_776 w_629 w_630 w_60 w_631
theorem g_X6_273 : GoodIn WB (wsV RX6 273 RX0 yX0_loadAlone (Cond.code yX0_loadAlone cX0_loadAlone 3 none :: WB)) := gV w_798 w_623 w_624 w_60 w_625
theorem g_X6_276 : GoodIn WB (wsV RX6 276 RX0 yX0_tire (Cond.code yX0_tire cX0_tire 3 none :: WB)) := gV w_799 w_634 w_635 w_60 w_636
theorem g_X6_279 : GoodIn WB (wsS RX6 279 yX6_drawnWind (Cond.code yX6_drawnWind cX6_drawnWind 7 (some .int) :: WB)) := gS w_814 w_815 w_56 w_816
theorem g_X0_29 : GoodIn WB (wsV RX0 29 RX0 yX0_rest (Cond.code yX0_rest cX0_rest 2 none :: WB)) := gV w_410 w_411 w_412 w_60 w_413
theorem g_X0_38 : GoodIn WB (wsV RX0 38 RX0 yX0_copyFrom (Cond.code yX0_copyFrom cX0_copyFrom 2 none :: WB)) := gV w_775 w_503 w_504 w_60 w_505
theorem g_X0_42 : GoodIn WB (wsV RX0 42 RX1 yX1_kindOf (Cond.code yX1_kindOf cX1_kindOf 2 (some .int) :: WB)) := gV w_492 w_439 w_440 w_58 w_441
theorem g_X0_48 : GoodIn WB (wsV RX0 48 RX1 yX1_lengthOf (Cond.code yX1_lengthOf cX1_lengthOf 2 (some .int) :: WB)) := gV w_482 w_435 w_436 w_58 w_437
theorem g_X0_51 : GoodIn WB (wsV RX0 51 RX0 yX0_firstPlaceOf (Cond.code yX0_firstPlaceOf cX0_firstPlaceOf 4 (some .int) :: WB)) := gV w_570 w_479 w_480 w_60 w_481
theorem g_X0_54 : GoodIn WB (wsV RX0 54 RX1 yX1_width (Cond.code yX1_width cX1_width 1 (some .int) :: WB)) := gV w_571 w_516 w_517 w_58 w_518
theorem g_X0_64 : GoodIn WB (wsV RX0 64 RX0 yX0_isWhole (Cond.code yX0_isWhole cX0_isWhole 1 (some .boolean) :: WB)) := gV w_566 w_567 w_568 w_60 w_569
theorem g_X0_68 : GoodIn WB (wsV RX0 68 RX0 yX0_positionOf (Cond.code yX0_positionOf cX0_positionOf 3 (some .int) :: WB)) := gV w_572 w_455 w_456 w_60 w_457
theorem g_X0_71 : GoodIn WB (wsV RX0 71 RX1 yX1_hasCrow (Cond.code yX1_hasCrow cX1_hasCrow 2 (some .boolean) :: WB)) := gV w_573 w_574 w_575 w_58 w_576
theorem g_X0_74 : GoodIn WB (wsV RX0 74 RX0 yX0_kindAt (Cond.code yX0_kindAt cX0_kindAt 2 (some .int) :: WB)) := gV w_488 w_489 w_490 w_60 w_491
theorem g_X0_77 : GoodIn WB (wsV RX0 77 RX0 yX0_birdAt (Cond.code yX0_birdAt cX0_birdAt 2 (some .int) :: WB)) := gV w_487 w_475 w_476 w_60 w_477
theorem g_X0_80 : GoodIn WB (wsV RX0 80 RX1 yX1_strengthOf (Cond.code yX1_strengthOf cX1_strengthOf 2 (some .int) :: WB)) := gV w_493 w_431 w_432 w_58 w_433
theorem g_X0_83 : GoodIn WB (wsV RX0 83 RX0 yX0_tiredOf (Cond.code yX0_tiredOf cX0_tiredOf 2 (some .int) :: WB)) := gV w_494 w_451 w_452 w_60 w_453
theorem g_X0_86 : GoodIn WB (wsS RX0 86 yX0_powerOf (Cond.code yX0_powerOf cX0_powerOf 4 (some .int) :: WB)) := gS w_495 w_496 w_60 w_497
theorem g_X0_90 : GoodIn WB (wsV RX0 90 RX0 yX0_whoSpans (Cond.code yX0_whoSpans cX0_whoSpans 4 (some .int) :: WB)) := gV w_539 w_541 w_10 w_60 w_542
theorem g_X0_96 : GoodIn WB (wsS RX0 96 yX0_partOf (Cond.code yX0_partOf cX0_partOf 2 (some .int) :: WB)) := gS w_546 w_547 w_60 w_548
theorem g_X0_99 : GoodIn WB (wsV RX0 99 RX0 yX0_unload (Cond.code yX0_unload cX0_unload 2 none :: WB)) := gV w_626 w_508 w_509 w_60 w_510
theorem g_X0_102 : GoodIn WB (wsV RX0 102 RX0 yX0_press (Cond.code yX0_press cX0_press 5 none :: WB)) := gV w_627 w_536 w_537 w_60 w_538
theorem g_X0_106 : GoodIn WB (wsV RX0 106 RX0 yX0_powerAt (Cond.code yX0_powerAt cX0_powerAt 5 (some .int) :: WB)) := gV w_632 w_484 w_485 w_60 w_486
theorem g_X0_109 : GoodIn WB (wsV RX0 109 RX0 yX0_tire (Cond.code yX0_tire cX0_tire 3 none :: WB)) := gV w_633 w_634 w_635 w_60 w_636
theorem g_X0_112 : GoodIn WB (wsS RX0 112 yX0_tiredBy (Cond.code yX0_tiredBy cX0_tiredBy 2 (some .int) :: WB)) := gS w_637 w_638 w_60 w_639
theorem g_X0_115 : GoodIn WB (wsV RX0 115 RX1 yX1_windIn (Cond.code yX1_windIn cX1_windIn 2 (some .int) :: WB)) := gV w_672 w_463 w_464 w_58 w_465
theorem g_X0_118 : GoodIn WB (wsV RX0 118 RX0 yX0_loadAlone (Cond.code yX0_loadAlone cX0_loadAlone 3 none :: WB)) := gV w_673 w_623 w_624 w_60 w_625
theorem g_X0_121 : GoodIn WB (wsV RX0 121 RX0 yX0_settle (Cond.code yX0_settle cX0_settle 2 (some .boolean) :: WB)) := gV w_674 w_629 w_630 w_60 w_631
theorem g_X1_27 : GoodIn WB (wsV RX1 27 RX1 yX1_clear (Cond.code yX1_clear cX1_clear 1 none :: WB)) := gV w_102 w_103 w_104 w_58 w_105
theorem g_X1_52 : GoodIn WB (wsV RX1 52 RX1 yX1_takeBird (Cond.code yX1_takeBird cX1_takeBird 5 (some .boolean) :: WB)) := gV w_316 w_318 w_4 w_58 w_319
theorem g_X1_56 : GoodIn WB (wsV RX1 56 RX1 yX1_takeRiver (Cond.code yX1_takeRiver cX1_takeRiver 2 (some .boolean) :: WB)) := gV w_320 w_322 w_5 w_58 w_323
theorem g_X1_60 : GoodIn WB (wsV RX1 60 RX1 yX1_takeWind (Cond.code yX1_takeWind cX1_takeWind 2 (some .boolean) :: WB)) := gV w_324 w_326 w_6 w_58 w_327
theorem g_X1_63 : GoodIn WB (wsV RX1 63 RX1 yX1_takeLoad (Cond.code yX1_takeLoad cX1_takeLoad 3 (some .boolean) :: WB)) := gV w_328 w_330 w_7 w_58 w_331
theorem g_X2_38 : GoodIn WB (wsV RX2 38 RX0 yX0_clear (Cond.code yX0_clear cX0_clear 1 none :: WB)) := gV w_406 w_407 w_408 w_60 w_409
theorem g_X2_41 : GoodIn WB (wsV RX2 41 RX0 yX0_copyFrom (Cond.code yX0_copyFrom cX0_copyFrom 2 none :: WB)) := gV w_593 w_503 w_504 w_60 w_505
theorem g_X2_45 : GoodIn WB (wsV RX2 45 RX1 yX1_weightIn (Cond.code yX1_weightIn cX1_weightIn 2 (some .int) :: WB)) := gV w_527 w_528 w_529 w_58 w_530
theorem g_X2_51 : GoodIn WB (wsV RX2 51 RX1 yX1_width (Cond.code yX1_width cX1_width 1 (some .int) :: WB)) := gV w_515 w_516 w_517 w_58 w_518
theorem g_X2_55 : GoodIn WB (wsV RX2 55 RX2 yX2_isOnBridge (Cond.code yX2_isOnBridge cX2_isOnBridge 1 (some .boolean) :: WB)) := gV w_561 w_512 w_513 w_59 w_514
theorem g_X2_59 : GoodIn WB (wsV RX2 59 RX2 yX2_weight (Cond.code yX2_weight cX2_weight 1 (some .int) :: WB)) := gV w_620 w_524 w_525 w_59 w_526
theorem g_X2_62 : GoodIn WB (wsV RX2 62 RX1 yX1_windIn (Cond.code yX1_windIn cX1_windIn 2 (some .int) :: WB)) := gV w_621 w_463 w_464 w_58 w_465
theorem g_X2_65 : GoodIn WB (wsV RX2 65 RX0 yX0_loadAlone (Cond.code yX0_loadAlone cX0_loadAlone 3 none :: WB)) := gV w_622 w_623 w_624 w_60 w_625
theorem g_X2_69 : GoodIn WB (wsV RX2 69 RX0 yX0_settle (Cond.code yX0_settle cX0_settle 2 (some .boolean) :: WB)) := gV w_628 w_629 w_630 w_60 w_631
theorem g_X3_23 : GoodIn WB (wsV RX3 23 RX1 yX1_clear (Cond.code yX1_clear cX1_clear 1 none :: WB)) := gV w_289 w_103 w_104 w_58 w_105
theorem g_X3_28 : GoodIn WB (wsV RX3 28 RX3 yX3_readItem (Cond.code yX3_readItem cX3_readItem 6 (some .int) :: WB)) := gV w_290 w_292 w_0 w_57 w_293
theorem g_X3_32 : GoodIn WB (wsV RX3 32 RX3 yX3_letterAt (Cond.code yX3_letterAt cX3_letterAt 2 (some .char) :: WB)) := gV w_294 w_296 w_1 w_57 w_297
theorem g_X3_36 : GoodIn WB (wsV RX3 36 RX1 yX1_take (Cond.code yX1_take cX1_take 3 (some .boolean) :: WB)) := gV w_312 w_313 w_314 w_58 w_315
theorem g_X3_40 : GoodIn WB (wsS RX3 40 yX3_numbersBehind (Cond.code yX3_numbersBehind cX3_numbersBehind 1 (some .int) :: WB)) := gS w_298 w_299 w_57 w_300
theorem g_X3_44 : GoodIn WB (wsV RX3 44 RX3 yX3_figuresFrom (Cond.code yX3_figuresFrom cX3_figuresFrom 2 (some .int) :: WB)) := gV w_301 w_303 w_2 w_57 w_304
theorem g_X3_47 : GoodIn WB (wsV RX3 47 RX3 yX3_numberAt (Cond.code yX3_numberAt cX3_numberAt 5 (some .int) :: WB)) := gV w_308 w_310 w_3 w_57 w_311
theorem g_X3_51 : GoodIn WB (wsS RX3 51 yX3_isFigure (Cond.code yX3_isFigure cX3_isFigure 1 (some .boolean) :: WB)) := gS w_305 w_306 w_57 w_307
theorem g_X4_38 : GoodIn WB (wsV RX4 38 RX0 yX0_clear (Cond.code yX0_clear cX0_clear 1 none :: WB)) := gV w_683 w_407 w_408 w_60 w_409
theorem g_X4_41 : GoodIn WB (wsV RX4 41 RX4 yX4_findLeastMore (Cond.code yX4_findLeastMore cX4_findLeastMore 4 none :: WB)) := gV w_684 w_686 w_12 w_63 w_687
theorem g_X4_45 : GoodIn WB (wsV RX4 45 RX4 yX4_extend (Cond.code yX4_extend cX4_extend 8 none :: WB)) := gV w_713 w_715 w_16 w_63 w_716
theorem g_X4_49 : GoodIn WB (wsV RX4 49 RX4 yX4_placesOf (Cond.code yX4_placesOf cX4_placesOf 4 (some .int) :: WB)) := gV w_688 w_690 w_13 w_63 w_691
theorem g_X4_53 : GoodIn WB (wsV RX4 53 RX1 yX1_width (Cond.code yX1_width cX1_width 1 (some .int) :: WB)) := gV w_694 w_516 w_517 w_58 w_518
theorem g_X4_59 : GoodIn WB (wsV RX4 59 RX4 yX4_leastMoreBehind (Cond.code yX4_leastMoreBehind cX4_leastMoreBehind 7 (some .int) :: WB)) := gV w_695 w_697 w_14 w_63 w_698
theorem g_X4_63 : GoodIn WB (wsV RX4 63 RX1 yX1_birds (Cond.code yX1_birds cX1_birds 1 (some .int) :: WB)) := gV w_692 w_392 w_393 w_58 w_394
theorem g_X4_66 : GoodIn WB (wsV RX4 66 RX1 yX1_lengthOf (Cond.code yX1_lengthOf cX1_lengthOf 2 (some .int) :: WB)) := gV w_693 w_435 w_436 w_58 w_437
theorem g_X4_69 : GoodIn WB (wsV RX4 69 RX4 yX4_couldBear (Cond.code yX4_couldBear cX4_couldBear 11 (some .boolean) :: WB)) := gV w_699 w_701 w_15 w_63 w_702
theorem g_X4_79 : GoodIn WB (wsV RX4 79 RX1 yX1_kindOf (Cond.code yX1_kindOf cX1_kindOf 2 (some .int) :: WB)) := gV w_703 w_439 w_440 w_58 w_441
theorem g_X4_82 : GoodIn WB (wsV RX4 82 RX1 yX1_strengthOf (Cond.code yX1_strengthOf cX1_strengthOf 2 (some .int) :: WB)) := gV w_704 w_431 w_432 w_58 w_433
theorem g_X4_88 : GoodIn WB (wsV RX4 88 RX1 yX1_windIn (Cond.code yX1_windIn cX1_windIn 2 (some .int) :: WB)) := gV w_706 w_463 w_464 w_58 w_465
theorem g_X4_91 : GoodIn WB (va_wsS RX4 91 yX0_partOf (Cond.code yX0_partOf cX0_partOf 2 (some .int) :: WB)) := gSx rfl w_707 w_547 w_60 w_548
theorem g_X4_94 : GoodIn WB (va_wsS RX4 94 yX0_powerOf (Cond.code yX0_powerOf cX0_powerOf 4 (some .int) :: WB)) := gSx rfl w_708 w_496 w_60 w_497
theorem g_X4_98 : GoodIn WB (va_wsS RX4 98 yX0_tiredBy (Cond.code yX0_tiredBy cX0_tiredBy 2 (some .int) :: WB)) := gSx rfl w_709 w_638 w_60 w_639
theorem g_X4_101 : GoodIn WB (wsV RX4 101 RX0 yX0_mayJoin (Cond.code yX0_mayJoin cX0_mayJoin 3 (some .boolean) :: WB)) := gV w_717 w_563 w_564 w_60 w_565
theorem g_X4_105 : GoodIn WB (wsV RX4 105 RX0 yX0_append (Cond.code yX0_append cX0_append 2 none :: WB)) := gV w_718 w_595 w_596 w_60 w_597
theorem g_X4_108 : GoodIn WB (wsV RX4 108 RX0 yX0_rest (Cond.code yX0_rest cX0_rest 2 none :: WB)) := gV w_719 w_411 w_412 w_60 w_413
theorem g_X4_111 : GoodIn WB (wsV RX4 111 RX0 yX0_placesSpanned (Cond.code yX0_placesSpanned cX0_placesSpanned 1 (some .int) :: WB)) := gV w_720 w_721 w_722 w_60 w_723
theorem g_X4_114 : GoodIn WB (wsV RX4 114 RX0 yX0_walk (Cond.code yX0_walk cX0_walk 6 (some .int) :: WB)) := gV w_725 w_669 w_670 w_60 w_671
theorem g_X4_118 : GoodIn WB (wsV RX4 118 RX0 yX0_isWhole (Cond.code yX0_isWhole cX0_isWhole 1 (some .boolean) :: WB)) := gV w_726 w_567 w_568 w_60 w_569
theorem g_X4_122 : GoodIn WB (wsV RX4 122 RX4 yX4_noteFound (Cond.code yX4_noteFound cX4_noteFound 2 none :: WB)) := gV w_727 w_729 w_17 w_63 w_730
theorem g_X4_125 : GoodIn WB (wsV RX4 125 RX0 yX0_dropLast (Cond.code yX0_dropLast cX0_dropLast 1 none :: WB)) := gV w_733 w_603 w_604 w_60 w_605
theorem g_X4_128 : GoodIn WB (wsV RX4 128 RX0 yX0_size (Cond.code yX0_size cX0_size 1 (some .int) :: WB)) := gV w_731 w_471 w_472 w_60 w_473
theorem g_X4_131 : GoodIn WB (wsV RX4 131 RX0 yX0_birdAt (Cond.code yX0_birdAt cX0_birdAt 2 (some .int) :: WB)) := gV w_732 w_475 w_476 w_60 w_477
theorem g_X5_28 : GoodIn WB (wsV RX5 28 RX5 yX5_isFull (Cond.code yX5_isFull cX5_isFull 1 (some .boolean) :: WB)) := gV w_581 w_582 w_583 w_61 w_584
theorem g_X5_32 : GoodIn WB (wsV RX5 32 RX5 yX5_giveUpOldest (Cond.code yX5_giveUpOldest cX5_giveUpOldest 3 none :: WB)) := gV w_585 w_587 w_11 w_61 w_588
theorem g_X5_35 : GoodIn WB (wsV RX5 35 RX2 yX2_copyFrom (Cond.code yX2_copyFrom cX2_copyFrom 2 none :: WB)) := gV w_589 w_590 w_591 w_59 w_592
theorem g_L_13 : GoodIn WB (wsV RL 13 RX6 yX6_write (Cond.code yX6_write cX6_write 2 (some .int) :: WB)) := gV w_371 w_372 w_373 w_56 w_374
theorem g_L_17 : GoodIn WB (wsV RL 17 RX7 yX7_write (Cond.code yX7_write cX7_write 2 (some .int) :: WB)) := gV w_955 w_956 w_957 w_68 w_958
theorem g_L_18 : GoodIn WB (wsV RL 18 RX6 yX6_wipe (Cond.code yX6_wipe cX6_wipe 2 (some .int) :: WB)) := gV w_379 w_380 w_381 w_56 w_382
theorem g_L_22 : GoodIn WB (wsV RL 22 RX7 yX7_wipe (Cond.code yX7_wipe cX7_wipe 2 (some .int) :: WB)) := gV w_962 w_963 w_964 w_68 w_965
theorem g_L_23 : GoodIn WB (wsV RL 23 RX6 yX6_fault (Cond.code yX6_fault cX6_fault 1 (some .int) :: WB)) := gV w_383 w_384 w_385 w_56 w_386
theorem g_L_26 : GoodIn WB (wsV RL 26 RX7 yX7_fault (Cond.code yX7_fault cX7_fault 1 (some .int) :: WB)) := gV w_966 w_967 w_968 w_68 w_969
theorem g_L_27 : GoodIn WB (wsV RL 27 RX6 yX6_lay (Cond.code yX6_lay cX6_lay 1 (some .int) :: WB)) := gV w_387 w_388 w_389 w_56 w_390
theorem g_L_30 : GoodIn WB (wsV RL 30 RX7 yX7_lay (Cond.code yX7_lay cX7_lay 2 (some .int) :: WB)) := gV w_986 w_987 w_988 w_68 w_989
theorem g_L_31 : GoodIn WB (wsV RL 31 RX6 yX6_bird (Cond.code yX6_bird cX6_bird 3 (some .int) :: WB)) := gV w_422 w_423 w_424 w_56 w_425
theorem g_L_35 : GoodIn WB (wsV RL 35 RX7 yX7_bird (Cond.code yX7_bird cX7_bird 3 (some .int) :: WB)) := gV w_990 w_991 w_992 w_68 w_993
theorem g_L_36 : GoodIn WB (wsV RL 36 RX6 yX6_wind (Cond.code yX6_wind cX6_wind 2 (some .int) :: WB)) := gV w_458 w_459 w_460 w_56 w_461
theorem g_L_39 : GoodIn WB (wsV RL 39 RX7 yX7_wind (Cond.code yX7_wind cX7_wind 2 (some .int) :: WB)) := gV w_1002 w_1003 w_1004 w_68 w_1005
theorem g_L_40 : GoodIn WB (wsV RL 40 RX6 yX6_span (Cond.code yX6_span cX6_span 4 (some .int) :: WB)) := gV w_466 w_467 w_468 w_56 w_469
theorem g_L_43 : GoodIn WB (wsV RL 43 RX7 yX7_span (Cond.code yX7_span cX7_span 3 (some .int) :: WB)) := gV w_1010 w_1011 w_1012 w_68 w_1013
theorem g_L_44 : GoodIn WB (wsV RL 44 RX6 yX6_join (Cond.code yX6_join cX6_join 2 (some .int) :: WB)) := gV w_553 w_554 w_555 w_56 w_556
theorem g_L_47 : GoodIn WB (wsV RL 47 RX7 yX7_join (Cond.code yX7_join cX7_join 2 (some .int) :: WB)) := gV w_1049 w_1050 w_1051 w_68 w_1052
theorem g_L_48 : GoodIn WB (wsV RL 48 RX6 yX6_leave (Cond.code yX6_leave cX6_leave 3 (some .int) :: WB)) := gV w_598 w_599 w_600 w_56 w_601
theorem g_L_51 : GoodIn WB (wsV RL 51 RX7 yX7_leave (Cond.code yX7_leave cX7_leave 1 (some .int) :: WB)) := gV w_1076 w_1077 w_1078 w_68 w_1079
theorem g_L_52 : GoodIn WB (wsV RL 52 RX6 yX6_step (Cond.code yX6_step cX6_step 1 (some .int) :: WB)) := gV w_606 w_607 w_608 w_56 w_609
theorem g_L_55 : GoodIn WB (wsV RL 55 RX7 yX7_step (Cond.code yX7_step cX7_step 1 (some .int) :: WB)) := gV w_1080 w_1081 w_1082 w_68 w_1083
theorem g_L_56 : GoodIn WB (wsV RL 56 RX6 yX6_stand (Cond.code yX6_stand cX6_stand 1 (some .int) :: WB)) := gV w_640 w_641 w_642 w_56 w_643
theorem g_L_59 : GoodIn WB (wsV RL 59 RX7 yX7_stand (Cond.code yX7_stand cX7_stand 1 (some .int) :: WB)) := gV w_1096 w_1097 w_1098 w_68 w_1099
theorem g_L_60 : GoodIn WB (wsV RL 60 RX6 yX6_year (Cond.code yX6_year cX6_year 2 (some .int) :: WB)) := gV w_644 w_645 w_646 w_56 w_647
theorem g_L_63 : GoodIn WB (wsV RL 63 RX7 yX7_year (Cond.code yX7_year cX7_year 2 (some .int) :: WB)) := gV w_1100 w_1101 w_1102 w_68 w_1103
theorem g_L_64 : GoodIn WB (wsV RL 64 RX6 yX6_undo (Cond.code yX6_undo cX6_undo 1 (some .int) :: WB)) := gV w_652 w_653 w_654 w_56 w_655
theorem g_L_67 : GoodIn WB (wsV RL 67 RX7 yX7_undo (Cond.code yX7_undo cX7_undo 1 (some .int) :: WB)) := gV w_1104 w_1105 w_1106 w_68 w_1107
theorem g_L_68 : GoodIn WB (wsV RL 68 RX6 yX6_over (Cond.code yX6_over cX6_over 5 (some .int) :: WB)) := gV w_664 w_665 w_666 w_56 w_667
theorem g_L_71 : GoodIn WB (wsV RL 71 RX7 yX7_over (Cond.code yX7_over cX7_over 2 (some .int) :: WB)) := gV w_1108 w_1109 w_1110 w_68 w_1111
theorem g_L_72 : GoodIn WB (wsV RL 72 RX6 yX6_fewest (Cond.code yX6_fewest cX6_fewest 2 (some .int) :: WB)) := gV w_675 w_676 w_677 w_56 w_678
theorem g_L_75 : GoodIn WB (wsV RL 75 RX7 yX7_fewest (Cond.code yX7_fewest cX7_fewest 2 (some .int) :: WB)) := gV w_1116 w_1117 w_1118 w_68 w_1119
theorem g_L_76 : GoodIn WB (wsV RL 76 RX6 yX6_mend (Cond.code yX6_mend cX6_mend 4 (some .int) :: WB)) := gV w_742 w_743 w_744 w_56 w_745
theorem g_L_79 : GoodIn WB (wsV RL 79 RX7 yX7_mend (Cond.code yX7_mend cX7_mend 3 (some .int) :: WB)) := gV w_1132 w_1133 w_1134 w_68 w_1135
theorem g_L_80 : GoodIn WB (wsV RL 80 RX6 yX6_calls (Cond.code yX6_calls cX6_calls 6 (some .int) :: WB)) := gV w_754 w_755 w_756 w_56 w_757
theorem g_L_83 : GoodIn WB (wsV RL 83 RX7 yX7_calls (Cond.code yX7_calls cX7_calls 8 (some .int) :: WB)) := gV w_1136 w_1137 w_1138 w_68 w_1139
theorem g_L_84 : GoodIn WB (wsV RL 84 RX6 yX6_second (Cond.code yX6_second cX6_second 3 (some .int) :: WB)) := gV w_763 w_764 w_765 w_56 w_766
theorem g_L_87 : GoodIn WB (wsV RL 87 RX7 yX7_second (Cond.code yX7_second cX7_second 3 (some .int) :: WB)) := gV w_1143 w_1144 w_1145 w_68 w_1146
theorem g_L_88 : GoodIn WB (wsV RL 88 RX6 yX6_years (Cond.code yX6_years cX6_years 2 (some .int) :: WB)) := gV w_777 w_778 w_779 w_56 w_780
theorem g_L_91 : GoodIn WB (wsV RL 91 RX7 yX7_years (Cond.code yX7_years cX7_years 2 (some .int) :: WB)) := gV w_1151 w_1152 w_1153 w_68 w_1154
theorem g_L_92 : GoodIn WB (wsV RL 92 RX6 yX6_seen (Cond.code yX6_seen cX6_seen 3 (some .int) :: WB)) := gV w_782 w_783 w_784 w_56 w_785
theorem g_L_95 : GoodIn WB (wsV RL 95 RX7 yX7_seen (Cond.code yX7_seen cX7_seen 3 (some .int) :: WB)) := gV w_1155 w_1156 w_1157 w_68 w_1158
theorem g_L_96 : GoodIn WB (wsV RL 96 RX6 yX6_forget (Cond.code yX6_forget cX6_forget 2 (some .int) :: WB)) := gV w_786 w_787 w_788 w_56 w_789
theorem g_L_99 : GoodIn WB (wsV RL 99 RX7 yX7_forget (Cond.code yX7_forget cX7_forget 2 (some .int) :: WB)) := gV w_1159 w_1160 w_1161 w_68 w_1162
theorem g_L_100 : GoodIn WB (wsV RL 100 RX6 yX6_stood (Cond.code yX6_stood cX6_stood 4 (some .int) :: WB)) := gV w_790 w_791 w_792 w_56 w_793
theorem g_L_103 : GoodIn WB (wsV RL 103 RX7 yX7_stood (Cond.code yX7_stood cX7_stood 4 (some .int) :: WB)) := gV w_1163 w_1164 w_1165 w_68 w_1166
theorem g_L_104 : GoodIn WB (wsV RL 104 RX6 yX6_rain (Cond.code yX6_rain cX6_rain 7 (some .int) :: WB)) := gV w_800 w_801 w_802 w_56 w_803
theorem g_L_107 : GoodIn WB (wsV RL 107 RX7 yX7_rain (Cond.code yX7_rain cX7_rain 7 (some .int) :: WB)) := gV w_1171 w_1172 w_1173 w_68 w_1174
theorem g_L_108 : GoodIn WB (wsV RL 108 RX6 yX6_century (Cond.code yX6_century cX6_century 7 (some .int) :: WB)) := gV w_806 w_807 w_808 w_56 w_809
theorem g_L_112 : GoodIn WB (wsV RL 112 RX7 yX7_century (Cond.code yX7_century cX7_century 8 (some .int) :: WB)) := gV w_1177 w_1178 w_1179 w_68 w_1180
theorem g_L_113 : GoodIn WB (wsV RL 113 RX6 yX6_keep (Cond.code yX6_keep cX6_keep 1 (some .int) :: WB)) := gV w_823 w_824 w_825 w_56 w_826
theorem g_L_116 : GoodIn WB (wsV RL 116 RX7 yX7_keep (Cond.code yX7_keep cX7_keep 1 (some .int) :: WB)) := gV w_1191 w_1192 w_1193 w_68 w_1194
theorem g_L_117 : GoodIn WB (wsV RL 117 RX6 yX6_back (Cond.code yX6_back cX6_back 1 (some .int) :: WB)) := gV w_828 w_829 w_830 w_56 w_831
theorem g_L_120 : GoodIn WB (wsV RL 120 RX7 yX7_back (Cond.code yX7_back cX7_back 1 (some .int) :: WB)) := gV w_1195 w_1196 w_1197 w_68 w_1198
theorem g_L_121 : GoodIn WB (wsV RL 121 RX6 yX6_count (Cond.code yX6_count cX6_count 2 (some .int) :: WB)) := gV w_832 w_833 w_834 w_56 w_835
theorem g_L_124 : GoodIn WB (wsV RL 124 RX7 yX7_count (Cond.code yX7_count cX7_count 2 (some .int) :: WB)) := gV w_1199 w_1200 w_1201 w_68 w_1202
theorem g_X7_71 : GoodIn WB (wsV RX7 71 RX7 yX7_layBird (Cond.code yX7_layBird cX7_layBird 6 none :: WB)) := gV w_847 w_849 w_23 w_68 w_850
theorem g_X7_75 : GoodIn WB (wsV RX7 75 RX7 yX7_begin (Cond.code yX7_begin cX7_begin 2 none :: WB)) := gV w_851 w_853 w_24 w_68 w_854
theorem g_X7_87 : GoodIn WB (wsS RX7 87 yX7_in (Cond.code yX7_in cX7_in 3 (some .boolean) :: WB)) := gS w_959 w_960 w_68 w_961
theorem g_X7_100 : GoodIn WB (wsV RX7 100 RX7 yX7_letterAt (Cond.code yX7_letterAt cX7_letterAt 2 (some .int) :: WB)) := gV w_978 w_980 w_27 w_68 w_981
theorem g_X7_107 : GoodIn WB (wsV RX7 107 RX7 yX7_isRow (Cond.code yX7_isRow cX7_isRow 4 (some .boolean) :: WB)) := gV w_982 w_984 w_28 w_68 w_985
theorem g_X7_126 : GoodIn WB (wsV RX7 126 RX7 yX7_isItem (Cond.code yX7_isItem cX7_isItem 4 (some .boolean) :: WB)) := gV w_974 w_976 w_26 w_68 w_977
theorem g_X7_130 : GoodIn WB (wsV RX7 130 RX7 yX7_isRead (Cond.code yX7_isRead cX7_isRead 1 (some .boolean) :: WB)) := gV w_970 w_972 w_25 w_68 w_973
theorem g_X7_133 : GoodIn WB (wsV RX7 133 RX7 yX7_isBird (Cond.code yX7_isBird cX7_isBird 2 (some .boolean) :: WB)) := gV w_994 w_996 w_29 w_68 w_997
theorem g_X7_136 : GoodIn WB (wsV RX7 136 RX7 yX7_placeIn (Cond.code yX7_placeIn cX7_placeIn 3 (some .int) :: WB)) := gV w_998 w_1000 w_30 w_68 w_1001
theorem g_X7_139 : GoodIn WB (wsV RX7 139 RX7 yX7_windIn (Cond.code yX7_windIn cX7_windIn 2 (some .int) :: WB)) := gV w_1006 w_1008 w_31 w_68 w_1009
theorem g_X7_142 : GoodIn WB (wsV RX7 142 RX7 yX7_firstOf (Cond.code yX7_firstOf cX7_firstOf 5 (some .int) :: WB)) := gV w_1033 w_1035 w_36 w_68 w_1036
theorem g_X7_146 : GoodIn WB (wsV RX7 146 RX7 yX7_spanned (Cond.code yX7_spanned cX7_spanned 3 (some .int) :: WB)) := gV w_1065 w_1067 w_43 w_68 w_1068
theorem g_X7_150 : GoodIn WB (wsV RX7 150 RX7 yX7_kindOf (Cond.code yX7_kindOf cX7_kindOf 2 (some .int) :: WB)) := gV w_1041 w_1043 w_38 w_68 w_1044
theorem g_X7_153 : GoodIn WB (wsV RX7 153 RX7 yX7_isPair (Cond.code yX7_isPair cX7_isPair 3 (some .boolean) :: WB)) := gV w_1045 w_1047 w_39 w_68 w_1048
theorem g_X7_157 : GoodIn WB (wsV RX7 157 RX7 yX7_holderOf (Cond.code yX7_holderOf cX7_holderOf 5 (some .int) :: WB)) := gV w_1029 w_1031 w_35 w_68 w_1032
theorem g_X7_160 : GoodIn WB (wsV RX7 160 RX7 yX7_powerOf (Cond.code yX7_powerOf cX7_powerOf 6 (some .int) :: WB)) := gV w_1037 w_1039 w_37 w_68 w_1040
theorem g_X7_163 : GoodIn WB (wsV RX7 163 RX7 yX7_tire (Cond.code yX7_tire cX7_tire 5 none :: WB)) := gV w_1092 w_1094 w_47 w_68 w_1095
theorem g_X7_167 : GoodIn WB (wsV RX7 167 RX7 yX7_noLoads (Cond.code yX7_noLoads cX7_noLoads 2 none :: WB)) := gV w_1014 w_1016 w_32 w_68 w_1017
theorem g_X7_170 : GoodIn WB (wsS RX7 170 yX7_isOn (Cond.code yX7_isOn cX7_isOn 2 (some .boolean) :: WB)) := gS w_1018 w_1019 w_68 w_1020
theorem g_X7_174 : GoodIn WB (wsV RX7 174 RX7 yX7_weightIn (Cond.code yX7_weightIn cX7_weightIn 2 (some .int) :: WB)) := gV w_1021 w_1023 w_33 w_68 w_1024
theorem g_X7_177 : GoodIn WB (wsV RX7 177 RX7 yX7_bear (Cond.code yX7_bear cX7_bear 7 none :: WB)) := gV w_1025 w_1027 w_34 w_68 w_1028
theorem g_X7_181 : GoodIn WB (wsV RX7 181 RX7 yX7_holds (Cond.code yX7_holds cX7_holds 3 (some .boolean) :: WB)) := gV w_1088 w_1090 w_46 w_68 w_1091
theorem g_X7_185 : GoodIn WB (wsS RX7 185 yX7_copy (Cond.code yX7_copy cX7_copy 5 none :: WB)) := gS w_1073 w_1074 w_68 w_1075
theorem g_X7_189 : GoodIn WB (wsV RX7 189 RX7 yX7_isWhole (Cond.code yX7_isWhole cX7_isWhole 2 (some .boolean) :: WB)) := gV w_1061 w_1063 w_42 w_68 w_1064
theorem g_X7_192 : GoodIn WB (wsV RX7 192 RX7 yX7_isShut (Cond.code yX7_isShut cX7_isShut 1 (some .boolean) :: WB)) := gV w_1053 w_1055 w_40 w_68 w_1056
theorem g_X7_195 : GoodIn WB (wsV RX7 195 RX7 yX7_mayJoin (Cond.code yX7_mayJoin cX7_mayJoin 6 (some .boolean) :: WB)) := gV w_1057 w_1059 w_41 w_68 w_1060
theorem g_X7_198 : GoodIn WB (wsV RX7 198 RX7 yX7_note (Cond.code yX7_note cX7_note 2 none :: WB)) := gV w_1069 w_1071 w_44 w_68 w_1072
theorem g_X7_201 : GoodIn WB (wsV RX7 201 RX7 yX7_passes (Cond.code yX7_passes cX7_passes 4 (some .boolean) :: WB)) := gV w_1084 w_1086 w_45 w_68 w_1087
theorem g_X7_204 : GoodIn WB (wsV RX7 204 RX7 yX7_goesOver (Cond.code yX7_goesOver cX7_goesOver 2 (some .boolean) :: WB)) := gV w_1112 w_1114 w_48 w_68 w_1115
theorem g_X7_207 : GoodIn WB (wsV RX7 207 RX7 yX7_freshen (Cond.code yX7_freshen cX7_freshen 3 none :: WB)) := gV w_1128 w_1130 w_51 w_68 w_1131
theorem g_X7_213 : GoodIn WB (wsV RX7 213 RX7 yX7_findOf (Cond.code yX7_findOf cX7_findOf 5 (some .boolean) :: WB)) := gV w_1124 w_1126 w_50 w_68 w_1127
theorem g_X7_216 : GoodIn WB (wsV RX7 216 RX7 yX7_layFewest (Cond.code yX7_layFewest cX7_layFewest 3 none :: WB)) := gV w_1120 w_1122 w_49 w_68 w_1123
theorem g_X7_219 : GoodIn WB (wsS RX7 219 yX7_has (Cond.code yX7_has cX7_has 2 (some .boolean) :: WB)) := gS w_1140 w_1141 w_68 w_1142
theorem g_X7_222 : GoodIn WB (wsV RX7 222 RX7 yX7_bothGo (Cond.code yX7_bothGo cX7_bothGo 7 (some .boolean) :: WB)) := gV w_1147 w_1149 w_52 w_68 w_1150
theorem g_X7_225 : GoodIn WB (wsV RX7 225 RX7 yX7_isStood (Cond.code yX7_isStood cX7_isStood 5 (some .boolean) :: WB)) := gV w_1167 w_1169 w_53 w_68 w_1170
theorem g_X7_244 : GoodIn WB (wsV RX7 244 RX7 yX7_comesOver (Cond.code yX7_comesOver cX7_comesOver 6 (some .boolean) :: WB)) := gV w_1181 w_1183 w_54 w_68 w_1184
