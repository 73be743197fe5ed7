theorem z_847 : Cond.methodLink RX7 71 yX7_layBird ∈ WB := inWB 847 (by decide +kernel) (by decide +kernel)
theorem z_849 : Cond.instanceMethod yX7_layBird ∈ WB := inWB 849 (by decide +kernel) (by decide +kernel)
theorem z_23 : Cond.selects RX7 yX7_layBird yX7_layBird ∈ WB := inWB 23 (by decide +kernel) (by decide +kernel)
theorem z_68 : Cond.initialized RX7 ∈ WB := inWB 68 (by decide +kernel) (by decide +kernel)
theorem z_850 : Cond.code yX7_layBird cX7_layBird 6 none ∈ WB := inWB 850 (by decide +kernel) (by decide +kernel)
theorem z_871 : Cond.fieldLink RX7 32 "BirdBridgeModel" "wind" "[I" ∈ WB := inWB 871 (by decide +kernel) (by decide +kernel)
theorem z_851 : Cond.methodLink RX7 75 yX7_begin ∈ WB := inWB 851 (by decide +kernel) (by decide +kernel)
theorem z_853 : Cond.instanceMethod yX7_begin ∈ WB := inWB 853 (by decide +kernel) (by decide +kernel)
theorem z_24 : Cond.selects RX7 yX7_begin yX7_begin ∈ WB := inWB 24 (by decide +kernel) (by decide +kernel)
theorem z_854 : Cond.code yX7_begin cX7_begin 2 none ∈ WB := inWB 854 (by decide +kernel) (by decide +kernel)
theorem z_846 : Cond.methodLink RX7 1 Lib.objectInit ∈ WB := inWB 846 (by decide +kernel) (by decide +kernel)
theorem z_856 : Cond.fieldLink RX7 7 "BirdBridgeModel" "text" "[I" ∈ WB := inWB 856 (by decide +kernel) (by decide +kernel)
theorem z_858 : Cond.fieldLink RX7 13 "BirdBridgeModel" "numbers" "[I" ∈ WB := inWB 858 (by decide +kernel) (by decide +kernel)
theorem z_863 : Cond.fieldLink RX7 16 "BirdBridgeModel" "read" "[I" ∈ WB := inWB 863 (by decide +kernel) (by decide +kernel)
theorem z_864 : Cond.fieldLink RX7 19 "BirdBridgeModel" "readWind" "[I" ∈ WB := inWB 864 (by decide +kernel) (by decide +kernel)
theorem z_868 : Cond.fieldLink RX7 22 "BirdBridgeModel" "birds" "I" ∈ WB := inWB 868 (by decide +kernel) (by decide +kernel)
theorem z_869 : Cond.fieldLink RX7 26 "BirdBridgeModel" "bird" "[I" ∈ WB := inWB 869 (by decide +kernel) (by decide +kernel)
theorem z_870 : Cond.fieldLink RX7 29 "BirdBridgeModel" "winds" "I" ∈ WB := inWB 870 (by decide +kernel) (by decide +kernel)
theorem z_872 : Cond.fieldLink RX7 35 "BirdBridgeModel" "broad" "I" ∈ WB := inWB 872 (by decide +kernel) (by decide +kernel)
theorem z_873 : Cond.fieldLink RX7 38 "BirdBridgeModel" "heavy" "I" ∈ WB := inWB 873 (by decide +kernel) (by decide +kernel)
theorem z_874 : Cond.fieldLink RX7 41 "BirdBridgeModel" "more" "I" ∈ WB := inWB 874 (by decide +kernel) (by decide +kernel)
theorem z_875 : Cond.fieldLink RX7 44 "BirdBridgeModel" "now" "[I" ∈ WB := inWB 875 (by decide +kernel) (by decide +kernel)
theorem z_876 : Cond.fieldLink RX7 47 "BirdBridgeModel" "tried" "[I" ∈ WB := inWB 876 (by decide +kernel) (by decide +kernel)
theorem z_877 : Cond.fieldLink RX7 50 "BirdBridgeModel" "backOf" "[I" ∈ WB := inWB 877 (by decide +kernel) (by decide +kernel)
theorem z_879 : Cond.fieldLink RX7 53 "BirdBridgeModel" "image" "[I" ∈ WB := inWB 879 (by decide +kernel) (by decide +kernel)
theorem z_881 : Cond.fieldLink RX7 56 "BirdBridgeModel" "sight" "[I" ∈ WB := inWB 881 (by decide +kernel) (by decide +kernel)
theorem z_883 : Cond.fieldLink RX7 59 "BirdBridgeModel" "found" "[I" ∈ WB := inWB 883 (by decide +kernel) (by decide +kernel)
theorem z_884 : Cond.fieldLink RX7 62 "BirdBridgeModel" "loads" "[I" ∈ WB := inWB 884 (by decide +kernel) (by decide +kernel)
theorem z_886 : Cond.fieldLink RX7 65 "BirdBridgeModel" "row" "[I" ∈ WB := inWB 886 (by decide +kernel) (by decide +kernel)
theorem z_887 : Cond.fieldLink RX7 68 "BirdBridgeModel" "next" "[I" ∈ WB := inWB 887 (by decide +kernel) (by decide +kernel)
theorem dX7_init_0 : decode cX7_init 0 = .ok (.aload_n 0, 1) := by decide +kernel
theorem dX7_init_1 : decode cX7_init 1 = .ok (.invokespecial 1, 3) := by decide +kernel
theorem dX7_init_4 : decode cX7_init 4 = .ok (.aload_n 0, 1) := by decide +kernel
theorem dX7_init_5 : decode cX7_init 5 = .ok (.sipush 200, 3) := by decide +kernel
theorem dX7_init_8 : decode cX7_init 8 = .ok (.newarray .int, 2) := by decide +kernel
theorem dX7_init_10 : decode cX7_init 10 = .ok (.putfield 7, 3) := by decide +kernel
theorem dX7_init_13 : decode cX7_init 13 = .ok (.aload_n 0, 1) := by decide +kernel
theorem dX7_init_14 : decode cX7_init 14 = .ok (.iconst 4, 1) := by decide +kernel
theorem dX7_init_15 : decode cX7_init 15 = .ok (.newarray .int, 2) := by decide +kernel
theorem dX7_init_17 : decode cX7_init 17 = .ok (.putfield 13, 3) := by decide +kernel
theorem dX7_init_20 : decode cX7_init 20 = .ok (.aload_n 0, 1) := by decide +kernel
theorem dX7_init_21 : decode cX7_init 21 = .ok (.bipush 32, 2) := by decide +kernel
theorem dX7_init_23 : decode cX7_init 23 = .ok (.newarray .int, 2) := by decide +kernel
theorem dX7_init_25 : decode cX7_init 25 = .ok (.putfield 16, 3) := by decide +kernel
theorem dX7_init_28 : decode cX7_init 28 = .ok (.aload_n 0, 1) := by decide +kernel
theorem dX7_init_29 : decode cX7_init 29 = .ok (.bipush 8, 2) := by decide +kernel
theorem dX7_init_31 : decode cX7_init 31 = .ok (.newarray .int, 2) := by decide +kernel
theorem dX7_init_33 : decode cX7_init 33 = .ok (.putfield 19, 3) := by decide +kernel
theorem dX7_init_36 : decode cX7_init 36 = .ok (.aload_n 0, 1) := by decide +kernel
theorem dX7_init_37 : decode cX7_init 37 = .ok (.iconst 5, 1) := by decide +kernel
theorem dX7_init_38 : decode cX7_init 38 = .ok (.putfield 22, 3) := by decide +kernel
theorem dX7_init_41 : decode cX7_init 41 = .ok (.aload_n 0, 1) := by decide +kernel
theorem dX7_init_42 : decode cX7_init 42 = .ok (.bipush 32, 2) := by decide +kernel
theorem dX7_init_44 : decode cX7_init 44 = .ok (.newarray .int, 2) := by decide +kernel
theorem dX7_init_46 : decode cX7_init 46 = .ok (.putfield 26, 3) := by decide +kernel
theorem dX7_init_49 : decode cX7_init 49 = .ok (.aload_n 0, 1) := by decide +kernel
theorem dX7_init_50 : decode cX7_init 50 = .ok (.iconst 3, 1) := by decide +kernel
theorem dX7_init_51 : decode cX7_init 51 = .ok (.putfield 29, 3) := by decide +kernel
theorem dX7_init_54 : decode cX7_init 54 = .ok (.aload_n 0, 1) := by decide +kernel
theorem dX7_init_55 : decode cX7_init 55 = .ok (.bipush 8, 2) := by decide +kernel
theorem dX7_init_57 : decode cX7_init 57 = .ok (.newarray .int, 2) := by decide +kernel
theorem dX7_init_59 : decode cX7_init 59 = .ok (.putfield 32, 3) := by decide +kernel
theorem dX7_init_62 : decode cX7_init 62 = .ok (.aload_n 0, 1) := by decide +kernel
theorem dX7_init_63 : decode cX7_init 63 = .ok (.iconst 5, 1) := by decide +kernel
theorem dX7_init_64 : decode cX7_init 64 = .ok (.putfield 35, 3) := by decide +kernel
theorem dX7_init_67 : decode cX7_init 67 = .ok (.aload_n 0, 1) := by decide +kernel
theorem dX7_init_68 : decode cX7_init 68 = .ok (.bipush 12, 2) := by decide +kernel
theorem dX7_init_70 : decode cX7_init 70 = .ok (.putfield 38, 3) := by decide +kernel
theorem dX7_init_73 : decode cX7_init 73 = .ok (.aload_n 0, 1) := by decide +kernel
theorem dX7_init_74 : decode cX7_init 74 = .ok (.iconst 1, 1) := by decide +kernel
theorem dX7_init_75 : decode cX7_init 75 = .ok (.putfield 41, 3) := by decide +kernel
theorem dX7_init_78 : decode cX7_init 78 = .ok (.aload_n 0, 1) := by decide +kernel
theorem dX7_init_79 : decode cX7_init 79 = .ok (.bipush 21, 2) := by decide +kernel
theorem dX7_init_81 : decode cX7_init 81 = .ok (.newarray .int, 2) := by decide +kernel
theorem dX7_init_83 : decode cX7_init 83 = .ok (.putfield 44, 3) := by decide +kernel
theorem dX7_init_86 : decode cX7_init 86 = .ok (.aload_n 0, 1) := by decide +kernel
theorem dX7_init_87 : decode cX7_init 87 = .ok (.bipush 21, 2) := by decide +kernel
theorem dX7_init_89 : decode cX7_init 89 = .ok (.newarray .int, 2) := by decide +kernel
theorem dX7_init_91 : decode cX7_init 91 = .ok (.putfield 47, 3) := by decide +kernel
theorem dX7_init_94 : decode cX7_init 94 = .ok (.aload_n 0, 1) := by decide +kernel
theorem dX7_init_95 : decode cX7_init 95 = .ok (.sipush 168, 3) := by decide +kernel
theorem dX7_init_98 : decode cX7_init 98 = .ok (.newarray .int, 2) := by decide +kernel
theorem dX7_init_100 : decode cX7_init 100 = .ok (.putfield 50, 3) := by decide +kernel
theorem dX7_init_103 : decode cX7_init 103 = .ok (.aload_n 0, 1) := by decide +kernel
theorem dX7_init_104 : decode cX7_init 104 = .ok (.bipush 42, 2) := by decide +kernel
theorem dX7_init_106 : decode cX7_init 106 = .ok (.newarray .int, 2) := by decide +kernel
theorem dX7_init_108 : decode cX7_init 108 = .ok (.putfield 53, 3) := by decide +kernel
theorem dX7_init_111 : decode cX7_init 111 = .ok (.aload_n 0, 1) := by decide +kernel
theorem dX7_init_112 : decode cX7_init 112 = .ok (.bipush 12, 2) := by decide +kernel
theorem dX7_init_114 : decode cX7_init 114 = .ok (.newarray .int, 2) := by decide +kernel
theorem dX7_init_116 : decode cX7_init 116 = .ok (.putfield 56, 3) := by decide +kernel
theorem dX7_init_119 : decode cX7_init 119 = .ok (.aload_n 0, 1) := by decide +kernel
theorem dX7_init_120 : decode cX7_init 120 = .ok (.bipush 8, 2) := by decide +kernel
theorem dX7_init_122 : decode cX7_init 122 = .ok (.newarray .int, 2) := by decide +kernel
theorem dX7_init_124 : decode cX7_init 124 = .ok (.putfield 59, 3) := by decide +kernel
theorem dX7_init_127 : decode cX7_init 127 = .ok (.aload_n 0, 1) := by decide +kernel
theorem dX7_init_128 : decode cX7_init 128 = .ok (.bipush 8, 2) := by decide +kernel
theorem dX7_init_130 : decode cX7_init 130 = .ok (.newarray .int, 2) := by decide +kernel
theorem dX7_init_132 : decode cX7_init 132 = .ok (.putfield 62, 3) := by decide +kernel
theorem dX7_init_135 : decode cX7_init 135 = .ok (.aload_n 0, 1) := by decide +kernel
theorem dX7_init_136 : decode cX7_init 136 = .ok (.bipush 21, 2) := by decide +kernel
theorem dX7_init_138 : decode cX7_init 138 = .ok (.newarray .int, 2) := by decide +kernel
theorem dX7_init_140 : decode cX7_init 140 = .ok (.putfield 65, 3) := by decide +kernel
theorem dX7_init_143 : decode cX7_init 143 = .ok (.aload_n 0, 1) := by decide +kernel
theorem dX7_init_144 : decode cX7_init 144 = .ok (.bipush 9, 2) := by decide +kernel
theorem dX7_init_146 : decode cX7_init 146 = .ok (.newarray .int, 2) := by decide +kernel
theorem dX7_init_148 : decode cX7_init 148 = .ok (.putfield 68, 3) := by decide +kernel
theorem dX7_init_151 : decode cX7_init 151 = .ok (.aload_n 0, 1) := by decide +kernel
theorem dX7_init_152 : decode cX7_init 152 = .ok (.iconst 0, 1) := by decide +kernel
theorem dX7_init_153 : decode cX7_init 153 = .ok (.bipush 30, 2) := by decide +kernel
theorem dX7_init_155 : decode cX7_init 155 = .ok (.iconst 2, 1) := by decide +kernel
theorem dX7_init_156 : decode cX7_init 156 = .ok (.iconst 0, 1) := by decide +kernel
theorem dX7_init_157 : decode cX7_init 157 = .ok (.iconst 5, 1) := by decide +kernel
theorem dX7_init_158 : decode cX7_init 158 = .ok (.invokevirtual 71, 3) := by decide +kernel
theorem dX7_init_161 : decode cX7_init 161 = .ok (.aload_n 0, 1) := by decide +kernel
theorem dX7_init_162 : decode cX7_init 162 = .ok (.iconst 1, 1) := by decide +kernel
theorem dX7_init_163 : decode cX7_init 163 = .ok (.bipush 20, 2) := by decide +kernel
theorem dX7_init_165 : decode cX7_init 165 = .ok (.iconst 1, 1) := by decide +kernel
theorem dX7_init_166 : decode cX7_init 166 = .ok (.iconst 1, 1) := by decide +kernel
theorem dX7_init_167 : decode cX7_init 167 = .ok (.iconst 0, 1) := by decide +kernel
theorem dX7_init_168 : decode cX7_init 168 = .ok (.invokevirtual 71, 3) := by decide +kernel
theorem dX7_init_171 : decode cX7_init 171 = .ok (.aload_n 0, 1) := by decide +kernel
theorem dX7_init_172 : decode cX7_init 172 = .ok (.iconst 2, 1) := by decide +kernel
theorem dX7_init_173 : decode cX7_init 173 = .ok (.bipush 18, 2) := by decide +kernel
theorem dX7_init_175 : decode cX7_init 175 = .ok (.iconst 2, 1) := by decide +kernel
theorem dX7_init_176 : decode cX7_init 176 = .ok (.iconst 2, 1) := by decide +kernel
theorem dX7_init_177 : decode cX7_init 177 = .ok (.bipush 9, 2) := by decide +kernel
theorem dX7_init_179 : decode cX7_init 179 = .ok (.invokevirtual 71, 3) := by decide +kernel
theorem dX7_init_182 : decode cX7_init 182 = .ok (.aload_n 0, 1) := by decide +kernel
theorem dX7_init_183 : decode cX7_init 183 = .ok (.iconst 3, 1) := by decide +kernel
theorem dX7_init_184 : decode cX7_init 184 = .ok (.bipush 40, 2) := by decide +kernel
theorem dX7_init_186 : decode cX7_init 186 = .ok (.iconst 1, 1) := by decide +kernel
theorem dX7_init_187 : decode cX7_init 187 = .ok (.iconst 3, 1) := by decide +kernel
theorem dX7_init_188 : decode cX7_init 188 = .ok (.iconst 3, 1) := by decide +kernel
theorem dX7_init_189 : decode cX7_init 189 = .ok (.invokevirtual 71, 3) := by decide +kernel
theorem dX7_init_192 : decode cX7_init 192 = .ok (.aload_n 0, 1) := by decide +kernel
theorem dX7_init_193 : decode cX7_init 193 = .ok (.iconst 4, 1) := by decide +kernel
theorem dX7_init_194 : decode cX7_init 194 = .ok (.bipush 25, 2) := by decide +kernel
theorem dX7_init_196 : decode cX7_init 196 = .ok (.iconst 2, 1) := by decide +kernel
theorem dX7_init_197 : decode cX7_init 197 = .ok (.iconst 4, 1) := by decide +kernel
theorem dX7_init_198 : decode cX7_init 198 = .ok (.bipush 7, 2) := by decide +kernel
theorem dX7_init_200 : decode cX7_init 200 = .ok (.invokevirtual 71, 3) := by decide +kernel
theorem dX7_init_203 : decode cX7_init 203 = .ok (.aload_n 0, 1) := by decide +kernel
theorem dX7_init_204 : decode cX7_init 204 = .ok (.getfield 32, 3) := by decide +kernel
theorem dX7_init_207 : decode cX7_init 207 = .ok (.iconst 0, 1) := by decide +kernel
theorem dX7_init_208 : decode cX7_init 208 = .ok (.iconst 2, 1) := by decide +kernel
theorem dX7_init_209 : decode cX7_init 209 = .ok (.iastore, 1) := by decide +kernel
theorem dX7_init_210 : decode cX7_init 210 = .ok (.aload_n 0, 1) := by decide +kernel
theorem dX7_init_211 : decode cX7_init 211 = .ok (.getfield 32, 3) := by decide +kernel
theorem dX7_init_214 : decode cX7_init 214 = .ok (.iconst 1, 1) := by decide +kernel
theorem dX7_init_215 : decode cX7_init 215 = .ok (.bipush 6, 2) := by decide +kernel
theorem dX7_init_217 : decode cX7_init 217 = .ok (.iastore, 1) := by decide +kernel
theorem dX7_init_218 : decode cX7_init 218 = .ok (.aload_n 0, 1) := by decide +kernel
theorem dX7_init_219 : decode cX7_init 219 = .ok (.getfield 32, 3) := by decide +kernel
theorem dX7_init_222 : decode cX7_init 222 = .ok (.iconst 2, 1) := by decide +kernel
theorem dX7_init_223 : decode cX7_init 223 = .ok (.iconst 0, 1) := by decide +kernel
theorem dX7_init_224 : decode cX7_init 224 = .ok (.iastore, 1) := by decide +kernel
theorem dX7_init_225 : decode cX7_init 225 = .ok (.aload_n 0, 1) := by decide +kernel
theorem dX7_init_226 : decode cX7_init 226 = .ok (.invokevirtual 75, 3) := by decide +kernel
theorem dX7_init_229 : decode cX7_init 229 = .ok (.return_, 1) := by decide +kernel
/-! ===== BirdBridgeModel() ===== -/
abbrev RA : List Nat := RC ++ [100] ++ [101] ++ [103] ++ [108] ++ [109] ++ [114] ++ [116] ++ [120] ++ [121] ++ [122] ++ [124] ++ [126] ++ [128] ++ [129] ++ [131] ++ [132]
set_option maxRecDepth 100000 in
theorem RA_cls : ∀ k, k ∈ RA → k < 88 ∨ k = 100 ∨ (kd k).1 ≤ 1 := by decide +kernel
set_option maxRecDepth 100000 in
theorem RA_in : ∀ k, k ∈ [100, 101, 103, 108, 109, 114, 116, 120, 121, 122, 124, 126, 128, 129, 131, 132] → k ∈ RA := by decide +kernel
set_option maxRecDepth 100000 in
theorem RA_RC : ∀ k, k < 88 → k ∈ RA := by decide +kernel
set_option maxRecDepth 100000 in
theorem rfc_lt : ∀ k, k < 88 → ∀ j, j < 11 → rfc ((kd k).1 - 3) k j < 100 := by decide +kernel
set_option maxRecDepth 100000 in
theorem nf_lt : ∀ k, k < 88 → nf ((kd k).1 - 3) ≤ 11 := by decide +kernel
theorem GK.tr {ad ad' : Nat → Nat} {F F' : HF} {G G' : HG} {k : Nat} (h : GK ad F G k) (hk : k < 88) (hF : F' k = F k) (hG : G' k = G k) (ha : ∀ r, r < 100 → ad' r = ad r) (hn : ∀ n, kd k = (2, n) → ∀ j, j < n → (F k j).toNatClampNeg < 100) : GK ad' F' G' k := by
  refine ⟨fun n e j hj => ?_, fun c x e j hj hr => ?_⟩
  · rw [hG, hF, ha _ (hn n e j hj)]; exact h.1 n e j hj
  · have h1 := rfc_lt k hk j (by have := nf_lt k hk; rw [e] at this; simp at this; omega)
    rw [e] at h1
    rw [hG, ha _ (by simpa using h1)]; exact h.2 c x e j hj hr
set_option maxRecDepth 100000 in
theorem dT_n : fB dT = 5 ∧ fC dT = 3 ∧ fW dT = 5 ∧ fH dT = 12 ∧ fG dT = 1 := by decide +kernel
set_option maxRecDepth 100000 in
theorem dT_b : ∀ b, b < 5 → fS dT b = [30, 20, 18, 40, 25].getD b 0 ∧ fL dT b = [2, 1, 2, 1, 2].getD b 0 ∧ fK dT b = [0, 1, 2, 3, 4].getD b 0 ∧ fD dT b = [5, 0, 9, 3, 7].getD b 0 := by decide +kernel
set_option maxRecDepth 100000 in
theorem dT_w : ∀ i, i < 3 → fV dT i = [2, 6, 0].getD i 0 := by decide +kernel
theorem ok_dT : OkF dT := qr_ok _ _ _ ok_d00
theorem s_layBird {F : HF} {K : HF → Prop} {b : Nat} {v1 v2 v3 v4 : Int32} (hb : b < 8) (k : ∀ G : HF, (∀ a, a ≠ 114 → G a = F a) → (∀ j, G 114 j = if j = 4 * b + 3 then v4 else if j = 4 * b + 2 then v3 else if j = 4 * b + 1 then v2 else if j = 4 * b then v1 else F 114 j) → K G) : wp_X7_layBird K F (nI b) v1 v2 v3 v4 := by
  unfold wp_X7_layBird
  simp only [pk_mul, nI_add]
  rw [nIcl (by omega), nIcl (by omega), nIcl (by omega), nIcl (by omega)]
  refine ⟨vin (by omega) (by omega), fun F1 e1 => ⟨vin (by omega) (by omega), fun F2 e2 => ⟨vin (by omega) (by omega), fun F3 e3 => ⟨vin (by omega) (by omega), fun F4 e4 => k F4 (fun a ha => ?_) (fun j => ?_)⟩⟩⟩⟩
  · rw [e4, hup_n _ _ _ ha, e3, hup_n _ _ _ ha, e2, hup_n _ _ _ ha, e1, hup_n _ _ _ ha]
  · rw [e4, hup_at, e3, hup_at, e2, hup_at, e1, hup_at]
def IM (F0 F : HF) : Prop := (∀ a, a < 100 → F a = F0 a) ∧ F 100 0 = nI 0 ∧ MF F dT ∧ F 100 23 = nI 0 ∧ F 100 25 = nI 0 ∧ F 100 27 = nI 0 ∧ MNf (F 120) Nz0
theorem inRA {k : Nat} (h : k ∈ [100, 101, 103, 108, 109, 114, 116, 120, 121, 122, 124, 126, 128, 129, 131, 132]) : k ∈ RA := RA_in k h
theorem Md_RA : Md RA := by
  refine ⟨⟨rfl, inRA (by decide)⟩, ⟨rfl, inRA (by decide)⟩, ⟨rfl, inRA (by decide)⟩, ⟨rfl, inRA (by decide)⟩, ⟨rfl, inRA (by decide)⟩, ⟨rfl, inRA (by decide)⟩, ⟨rfl, inRA (by decide)⟩, ⟨rfl, inRA (by decide)⟩, ⟨rfl, inRA (by decide)⟩, ⟨rfl, inRA (by decide)⟩, ⟨rfl, inRA (by decide)⟩, ⟨rfl, inRA (by decide)⟩, ⟨rfl, inRA (by decide)⟩, ⟨rfl, inRA (by decide)⟩, ⟨rfl, inRA (by decide)⟩, ⟨rfl, inRA (by decide)⟩⟩
section CtorM
variable {p : Program} {l : Launch} {e : Env} {Rm : Room} {s : State} {m : MethodId} {args : Array Value} {below : List Frame} {meth : Method} {c : Code} {nL : Nat} {D : va_G} {dA : Nat → ClassId} {ad : Nat → Nat} {A : Nat → Prop} {F : HF} {G : HG} {pc : Nat} {lv : List (Nat × Value)} {cc : ByteArray} {own : String}
abbrev rm_md : Room := { frames := 2, cells := 15, slots := 594, locals := 60 }
def PreM (D : va_G) (dA : Nat → ClassId) (ad : Nat → Nat) (F : HF) (G : HG) (sz : Nat) (U : State) : Prop := U.heap.size = sz ∧ va_P D clsL (wlG dA ad (RC ++ [100]) F G) U.heap ∧ va_K D clsL (tysL dA) U ∧ va_D (fun _ => True) (wlG dA ad (RC ++ [100]) F G)
def PostM (D : va_G) (dA : Nat → ClassId) (A : Nat → Prop) (u : UB) (t : State) : Prop := va_P D clsL (wl dA u.1 RA u.2) t.heap ∧ va_D A (wl dA u.1 RA u.2)
abbrev QM (D : va_G) (dA : Nat → ClassId) (A : Nat → Prop) (below : List Frame) (args : Array Value) (s : State) (K : (Nat → Nat) → HF → Prop) : State → Prop := MQ below (va_Qv (fun u : UB => K u.1 u.2) (PostM D dA A) A) args s 15 594 A
theorem PreM_blind {sz : Nat} {av : List Value} : FrameBlind (va_Pc av (PreM D dA ad F G sz)) := fun a U g mk q => by
  obtain ⟨q0, q1, qP, qK, qD⟩ := q
  exact ⟨q0, q1, qP, va_K.moved (u := U) (U := U.calling g mk a) (Vm.Alike.refl U.vm) qK, qD⟩
theorem md_vret (X : Cx p s m args meth c cc nL own D dA) {K : (Nat → Nat) → HF → Prop} (hr : meth.sig.returnType = none) (hdg : decode cc pc = .ok (.return_, 1)) (h : K ad F) : JG 15 594 p l e Rm s m args below meth c nL D (wl dA ad RA F) A (QM D dA A below args s K) pc lv [] := fun H locs ls hP hD hS hl =>
  W.vret X.1 X.2.1 hr (fun t ht hW => ⟨⟨(ad, F), rfl, h, by rw [ht]; exact hP, hD⟩, hS.F ht⟩) hS.2.2 hdg X.2.2.2.2.2.2
set_option maxRecDepth 100000 in
set_option maxHeartbeats 4000000 in
theorem md_tail (X : Cx p s m args meth c cX7_init 1 RX7 D dA) (hA : ∀ q, s.heap.size ≤ q → A q) (hr : meth.sig.returnType = none) {a0 : Nat} (h0 : ad 100 = a0) {F0 : HF} (hz : F0 100 0 = nI 0) (h13 : F0 100 13 = nI 5) (h15 : F0 100 15 = nI 3) (h17 : F0 100 17 = nI 5) (h18 : F0 100 18 = nI 12) (h19 : F0 100 19 = nI 1) {K : (Nat → Nat) → HF → Prop} (h : ∀ F', IM F0 F' → K ad F') : JG 15 594 p l e rm_md s m args below meth c 1 D (wl dA ad RA F0) A (QM D dA A below args s K) 151 [(0, .ref a0)] [] := by
  subst h0
  refine g_aload_n X 0 dX7_init_151 rfl rfl ?_
  refine g_iconst X (v := (nI 0)) dX7_init_152 (by decide) ?_
  refine g_bipush X (v := (nI 30)) dX7_init_153 (by decide) ?_
  refine g_iconst X (v := (nI 2)) dX7_init_155 (by decide) ?_
  refine g_iconst X (v := (nI 0)) dX7_init_156 (by decide) ?_
  refine g_iconst X (v := (nI 5)) dX7_init_157 (by decide) ?_
  refine l_callVV X hA (np := 5) (t := 100) (As := [.int (nI 0), .int (nI 30), .int (nI 2), .int (nI 0), .int (nI 5)]) (st := []) (c_X7_layBird Md_RA (s_layBird (K := fun F' => (∀ a, a ≠ 114 → F' a = F0 a) ∧ ∀ j, F' 114 j = if j = 4 * 0 + 3 then nI 5 else if j = 4 * 0 + 2 then nI 0 else if j = 4 * 0 + 1 then nI 2 else if j = 4 * 0 then nI 30 else F0 114 j) (by omega) (fun G x y => ⟨x, y⟩))) (gV z_847 z_849 z_23 z_68 z_850) cl_X7 Md_RA.1 (by decide +kernel) rfl rfl rfl ⟨Nat.le_of_ble_eq_true rfl, Nat.le_of_ble_eq_true rfl⟩ ⟨Nat.le_of_ble_eq_true rfl, Nat.le_of_ble_eq_true rfl⟩ rfl (Nat.le_of_ble_eq_true rfl) dX7_init_158 ?_
  rintro F1 ⟨x1, y1⟩
  refine g_aload_n X 0 dX7_init_161 rfl rfl ?_
  refine g_iconst X (v := (nI 1)) dX7_init_162 (by decide) ?_
  refine g_bipush X (v := (nI 20)) dX7_init_163 (by decide) ?_
  refine g_iconst X (v := (nI 1)) dX7_init_165 (by decide) ?_
  refine g_iconst X (v := (nI 1)) dX7_init_166 (by decide) ?_
  refine g_iconst X (v := (nI 0)) dX7_init_167 (by decide) ?_
  refine l_callVV X hA (np := 5) (t := 100) (As := [.int (nI 1), .int (nI 20), .int (nI 1), .int (nI 1), .int (nI 0)]) (st := []) (c_X7_layBird Md_RA (s_layBird (K := fun F' => (∀ a, a ≠ 114 → F' a = F1 a) ∧ ∀ j, F' 114 j = if j = 4 * 1 + 3 then nI 0 else if j = 4 * 1 + 2 then nI 1 else if j = 4 * 1 + 1 then nI 1 else if j = 4 * 1 then nI 20 else F1 114 j) (by omega) (fun G x y => ⟨x, y⟩))) (gV z_847 z_849 z_23 z_68 z_850) cl_X7 Md_RA.1 (by decide +kernel) rfl rfl rfl ⟨Nat.le_of_ble_eq_true rfl, Nat.le_of_ble_eq_true rfl⟩ ⟨Nat.le_of_ble_eq_true rfl, Nat.le_of_ble_eq_true rfl⟩ rfl (Nat.le_of_ble_eq_true rfl) dX7_init_168 ?_
  rintro F2 ⟨x2, y2⟩
  refine g_aload_n X 0 dX7_init_171 rfl rfl ?_
  refine g_iconst X (v := (nI 2)) dX7_init_172 (by decide) ?_
  refine g_bipush X (v := (nI 18)) dX7_init_173 (by decide) ?_
  refine g_iconst X (v := (nI 2)) dX7_init_175 (by decide) ?_
  refine g_iconst X (v := (nI 2)) dX7_init_176 (by decide) ?_
  refine g_bipush X (v := (nI 9)) dX7_init_177 (by decide) ?_
  refine l_callVV X hA (np := 5) (t := 100) (As := [.int (nI 2), .int (nI 18), .int (nI 2), .int (nI 2), .int (nI 9)]) (st := []) (c_X7_layBird Md_RA (s_layBird (K := fun F' => (∀ a, a ≠ 114 → F' a = F2 a) ∧ ∀ j, F' 114 j = if j = 4 * 2 + 3 then nI 9 else if j = 4 * 2 + 2 then nI 2 else if j = 4 * 2 + 1 then nI 2 else if j = 4 * 2 then nI 18 else F2 114 j) (by omega) (fun G x y => ⟨x, y⟩))) (gV z_847 z_849 z_23 z_68 z_850) cl_X7 Md_RA.1 (by decide +kernel) rfl rfl rfl ⟨Nat.le_of_ble_eq_true rfl, Nat.le_of_ble_eq_true rfl⟩ ⟨Nat.le_of_ble_eq_true rfl, Nat.le_of_ble_eq_true rfl⟩ rfl (Nat.le_of_ble_eq_true rfl) dX7_init_179 ?_
  rintro F3 ⟨x3, y3⟩
  refine g_aload_n X 0 dX7_init_182 rfl rfl ?_
  refine g_iconst X (v := (nI 3)) dX7_init_183 (by decide) ?_
  refine g_bipush X (v := (nI 40)) dX7_init_184 (by decide) ?_
  refine g_iconst X (v := (nI 1)) dX7_init_186 (by decide) ?_
  refine g_iconst X (v := (nI 3)) dX7_init_187 (by decide) ?_
  refine g_iconst X (v := (nI 3)) dX7_init_188 (by decide) ?_
  refine l_callVV X hA (np := 5) (t := 100) (As := [.int (nI 3), .int (nI 40), .int (nI 1), .int (nI 3), .int (nI 3)]) (st := []) (c_X7_layBird Md_RA (s_layBird (K := fun F' => (∀ a, a ≠ 114 → F' a = F3 a) ∧ ∀ j, F' 114 j = if j = 4 * 3 + 3 then nI 3 else if j = 4 * 3 + 2 then nI 3 else if j = 4 * 3 + 1 then nI 1 else if j = 4 * 3 then nI 40 else F3 114 j) (by omega) (fun G x y => ⟨x, y⟩))) (gV z_847 z_849 z_23 z_68 z_850) cl_X7 Md_RA.1 (by decide +kernel) rfl rfl rfl ⟨Nat.le_of_ble_eq_true rfl, Nat.le_of_ble_eq_true rfl⟩ ⟨Nat.le_of_ble_eq_true rfl, Nat.le_of_ble_eq_true rfl⟩ rfl (Nat.le_of_ble_eq_true rfl) dX7_init_189 ?_
  rintro F4 ⟨x4, y4⟩
  refine g_aload_n X 0 dX7_init_192 rfl rfl ?_
  refine g_iconst X (v := (nI 4)) dX7_init_193 (by decide) ?_
  refine g_bipush X (v := (nI 25)) dX7_init_194 (by decide) ?_
  refine g_iconst X (v := (nI 2)) dX7_init_196 (by decide) ?_
  refine g_iconst X (v := (nI 4)) dX7_init_197 (by decide) ?_
  refine g_bipush X (v := (nI 7)) dX7_init_198 (by decide) ?_
  refine l_callVV X hA (np := 5) (t := 100) (As := [.int (nI 4), .int (nI 25), .int (nI 2), .int (nI 4), .int (nI 7)]) (st := []) (c_X7_layBird Md_RA (s_layBird (K := fun F' => (∀ a, a ≠ 114 → F' a = F4 a) ∧ ∀ j, F' 114 j = if j = 4 * 4 + 3 then nI 7 else if j = 4 * 4 + 2 then nI 4 else if j = 4 * 4 + 1 then nI 2 else if j = 4 * 4 then nI 25 else F4 114 j) (by omega) (fun G x y => ⟨x, y⟩))) (gV z_847 z_849 z_23 z_68 z_850) cl_X7 Md_RA.1 (by decide +kernel) rfl rfl rfl ⟨Nat.le_of_ble_eq_true rfl, Nat.le_of_ble_eq_true rfl⟩ ⟨Nat.le_of_ble_eq_true rfl, Nat.le_of_ble_eq_true rfl⟩ rfl (Nat.le_of_ble_eq_true rfl) dX7_init_200 ?_
  rintro F5 ⟨x5, y5⟩
  refine g_aload_n X 0 dX7_init_203 rfl rfl ?_
  refine l_getR (j := 16) (k := 100) (t := 116) X cl_X7 (by decide) rfl z_871 rfl rfl Md_RA.1 dX7_init_204 ?_
  refine g_iconst X (v := (nI 0)) dX7_init_207 (by decide) ?_
  refine g_iconst X (v := (nI 2)) dX7_init_208 (by decide) ?_
  refine l_iast X (k := 116) (n := 8) ⟨rfl, inRA (by decide)⟩ (vin (by omega) (by omega)) dX7_init_209 (fun F6 w6 => ?_)
  rw [nIcl (by omega)] at w6
  refine g_aload_n X 0 dX7_init_210 rfl rfl ?_
  refine l_getR (j := 16) (k := 100) (t := 116) X cl_X7 (by decide) rfl z_871 rfl rfl Md_RA.1 dX7_init_211 ?_
  refine g_iconst X (v := (nI 1)) dX7_init_214 (by decide) ?_
  refine g_bipush X (v := (nI 6)) dX7_init_215 (by decide) ?_
  refine l_iast X (k := 116) (n := 8) ⟨rfl, inRA (by decide)⟩ (vin (by omega) (by omega)) dX7_init_217 (fun F7 w7 => ?_)
  rw [nIcl (by omega)] at w7
  refine g_aload_n X 0 dX7_init_218 rfl rfl ?_
  refine l_getR (j := 16) (k := 100) (t := 116) X cl_X7 (by decide) rfl z_871 rfl rfl Md_RA.1 dX7_init_219 ?_
  refine g_iconst X (v := (nI 2)) dX7_init_222 (by decide) ?_
  refine g_iconst X (v := (nI 0)) dX7_init_223 (by decide) ?_
  refine l_iast X (k := 116) (n := 8) ⟨rfl, inRA (by decide)⟩ (vin (by omega) (by omega)) dX7_init_224 (fun F8 w8 => ?_)
  rw [nIcl (by omega)] at w8
  refine g_aload_n X 0 dX7_init_225 rfl rfl ?_
  refine l_callVV X hA (np := 0) (t := 100) (As := []) (st := []) (c_X7_begin Md_RA (s_X7_begin (K := fun F' => (∀ a, a ≠ 100 → a ≠ 120 → F' a = F8 a) ∧ (∀ j, j ≠ 23 → j ≠ 25 → j ≠ 27 → F' 100 j = F8 100 j) ∧ F' 100 23 = nI 0 ∧ F' 100 25 = nI 0 ∧ F' 100 27 = nI 0 ∧ MNf (F' 120) Nz0) (fun G a b c d e f => ⟨a, b, c, d, e, f⟩))) (gV z_851 z_853 z_24 z_68 z_854) cl_X7 Md_RA.1 (by decide +kernel) rfl rfl rfl ⟨Nat.le_of_ble_eq_true rfl, Nat.le_of_ble_eq_true rfl⟩ ⟨Nat.le_of_ble_eq_true rfl, Nat.le_of_ble_eq_true rfl⟩ rfl (Nat.le_of_ble_eq_true rfl) dX7_init_226 ?_
  rintro F9 ⟨b1, b2, b3, b4, b5, b6⟩
  refine md_vret X hr dX7_init_229 (h F9 ⟨fun a ha => ?_, ?_, ?_, b3, b4, b5, b6⟩)
  · rw [b1 a (by omega) (by omega), w8, hup_n _ _ _ (by omega), w7, hup_n _ _ _ (by omega), w6, hup_n _ _ _ (by omega), x5 a (by omega), x4 a (by omega), x3 a (by omega), x2 a (by omega), x1 a (by omega)]
  · rw [b2 _ (by omega) (by omega) (by omega), w8, hup_n _ _ _ (by omega), w7, hup_n _ _ _ (by omega), w6, hup_n _ _ _ (by omega), x5 _ (by omega), x4 _ (by omega), x3 _ (by omega), x2 _ (by omega), x1 _ (by omega)]; exact hz
  · have u : ∀ j, j ≠ 23 → j ≠ 25 → j ≠ 27 → F9 100 j = F0 100 j := fun j p q r => by rw [b2 j p q r, w8, hup_n _ _ _ (by omega), w7, hup_n _ _ _ (by omega), w6, hup_n _ _ _ (by omega), x5 _ (by omega), x4 _ (by omega), x3 _ (by omega), x2 _ (by omega), x1 _ (by omega)]
    have u114 : F9 114 = F5 114 := by rw [b1 _ (by omega) (by omega), w8, hup_n _ _ _ (by omega), w7, hup_n _ _ _ (by omega), w6, hup_n _ _ _ (by omega)]
    have u116 : ∀ j, F9 116 j = if j = 2 then nI 0 else if j = 1 then nI 6 else if j = 0 then nI 2 else F5 116 j := fun j => by rw [b1 _ (by omega) (by omega), w8, hup_at, w7, hup_at, w6, hup_at]
    obtain ⟨d1, d2, d3, d4, d5⟩ := dT_n
    refine ⟨by rw [d1, u _ (by omega) (by omega) (by omega)]; exact h13, by rw [d2, u _ (by omega) (by omega) (by omega)]; exact h15, by rw [d3, u _ (by omega) (by omega) (by omega)]; exact h17, by rw [d4, u _ (by omega) (by omega) (by omega)]; exact h18, by rw [d5, u _ (by omega) (by omega) (by omega)]; exact h19, fun b hb => ?_, fun b hb => ?_, fun b hb => ?_, fun b hb => ?_, fun b hb => ?_⟩
    all_goals first | rw [d1] at hb | rw [d2] at hb
    · rw [(dT_b b hb).1, u114]
      rcases (show b = 0 ∨ b = 1 ∨ b = 2 ∨ b = 3 ∨ b = 4 by omega) with rfl | rfl | rfl | rfl | rfl <;> simp only [y5, y4, y3, y2, y1] <;> rfl
    · rw [(dT_b b hb).2.1, u114]
      rcases (show b = 0 ∨ b = 1 ∨ b = 2 ∨ b = 3 ∨ b = 4 by omega) with rfl | rfl | rfl | rfl | rfl <;> simp only [y5, y4, y3, y2, y1] <;> rfl
    · rw [(dT_b b hb).2.2.1, u114]
      rcases (show b = 0 ∨ b = 1 ∨ b = 2 ∨ b = 3 ∨ b = 4 by omega) with rfl | rfl | rfl | rfl | rfl <;> simp only [y5, y4, y3, y2, y1] <;> rfl
    · rw [(dT_b b hb).2.2.2, u114]
      rcases (show b = 0 ∨ b = 1 ∨ b = 2 ∨ b = 3 ∨ b = 4 by omega) with rfl | rfl | rfl | rfl | rfl <;> simp only [y5, y4, y3, y2, y1] <;> rfl
    · rw [dT_w b hb, u116]
      rcases (show b = 0 ∨ b = 1 ∨ b = 2 by omega) with rfl | rfl | rfl <;> rfl
set_option maxRecDepth 100000 in
set_option maxHeartbeats 8000000 in
theorem md_init (X : Cx p s m args meth c cX7_init 1 RX7 D dA) (hA : ∀ q, s.heap.size ≤ q → A q) (hnm : meth.name = "<init>") (hr : meth.sig.returnType = none) {a0 : Nat} (h0 : ad 100 = a0) (hz : F 100 0 = nI 0) (hG : ∀ k, k < 88 → GK ad F G k) (hN : ∀ k, k < 88 → ∀ n, kd k = (2, n) → ∀ j, j < n → (F k j).toNatClampNeg < 100) {K : (Nat → Nat) → HF → Prop} (h : ∀ ad' F', (∀ k, k ≤ 100 → ad' k = ad k) → IM F F' → K ad' F') : JG 0 0 p l e rm_md s m args below meth c 1 D (wlG dA ad (RC ++ [100]) F G) A (QM D dA A below args s K) 0 [(0, .ref a0)] [] := by
  refine g_aload_n X 0 dX7_init_0 rfl rfl ?_
  refine m_objInit X z_846 (Nat.le_of_ble_eq_true rfl) (Nat.le_of_ble_eq_true rfl) dX7_init_1 ?_
  refine g_aload_n X 0 dX7_init_4 rfl rfl ?_
  refine g_sipush X (v := (nI 200)) dX7_init_5 (by decide) ?_
  refine m_newI X hA (101) 200 rfl (by omega) rfl (by decide) (Nat.le_of_ble_eq_true rfl) (Nat.le_of_ble_eq_true rfl) dX7_init_8 (fun ad1 F1 e1 f1 => ?_)
  have a1 : ad1 (100) = a0 := (e1 _ (by omega)).trans h0
  refine m_putR X hnm (k := 100) (j := 1) cl_X7 (by decide) rfl z_856 rfl rfl rfl rfl rfl rfl (in_push in_last) a1 dX7_init_10 (fun G2 g2 => ?_)
  refine g_aload_n X 0 dX7_init_13 rfl rfl ?_
  refine g_iconst X (v := (nI 4)) dX7_init_14 (by decide) ?_
  refine m_newI X hA (103) 4 rfl (by omega) rfl (by decide) (Nat.le_of_ble_eq_true rfl) (Nat.le_of_ble_eq_true rfl) dX7_init_15 (fun ad3 F3 e3 f3 => ?_)
  have a3 : ad3 (100) = a0 := (e3 _ (by omega)).trans a1
  refine m_putR X hnm (k := 100) (j := 3) cl_X7 (by decide) rfl z_858 rfl rfl rfl rfl rfl rfl (in_push (in_push in_last)) a3 dX7_init_17 (fun G4 g4 => ?_)
  refine g_aload_n X 0 dX7_init_20 rfl rfl ?_
  refine g_bipush X (v := (nI 32)) dX7_init_21 (by decide) ?_
  refine m_newI X hA (108) 32 rfl (by omega) rfl (by decide) (Nat.le_of_ble_eq_true rfl) (Nat.le_of_ble_eq_true rfl) dX7_init_23 (fun ad5 F5 e5 f5 => ?_)
  have a5 : ad5 (100) = a0 := (e5 _ (by omega)).trans a3
  refine m_putR X hnm (k := 100) (j := 8) cl_X7 (by decide) rfl z_863 rfl rfl rfl rfl rfl rfl (in_push (in_push (in_push in_last))) a5 dX7_init_25 (fun G6 g6 => ?_)
  refine g_aload_n X 0 dX7_init_28 rfl rfl ?_
  refine g_bipush X (v := (nI 8)) dX7_init_29 (by decide) ?_
  refine m_newI X hA (109) 8 rfl (by omega) rfl (by decide) (Nat.le_of_ble_eq_true rfl) (Nat.le_of_ble_eq_true rfl) dX7_init_31 (fun ad7 F7 e7 f7 => ?_)
  have a7 : ad7 (100) = a0 := (e7 _ (by omega)).trans a5
  refine m_putR X hnm (k := 100) (j := 9) cl_X7 (by decide) rfl z_864 rfl rfl rfl rfl rfl rfl (in_push (in_push (in_push (in_push in_last)))) a7 dX7_init_33 (fun G8 g8 => ?_)
  refine g_aload_n X 0 dX7_init_36 rfl rfl ?_
  refine g_iconst X (v := (nI 5)) dX7_init_37 (by decide) ?_
  refine m_putI X (k := 100) (j := 13) cl_X7 (by decide) rfl z_868 rfl rfl rfl rfl rfl (in_push (in_push (in_push (in_push in_last)))) a7 dX7_init_38 (fun F9 f9 => ?_)
  refine g_aload_n X 0 dX7_init_41 rfl rfl ?_
  refine g_bipush X (v := (nI 32)) dX7_init_42 (by decide) ?_
  refine m_newI X hA (114) 32 rfl (by omega) rfl (by decide) (Nat.le_of_ble_eq_true rfl) (Nat.le_of_ble_eq_true rfl) dX7_init_44 (fun ad10 F10 e10 f10 => ?_)
  have a10 : ad10 (100) = a0 := (e10 _ (by omega)).trans a7
  refine m_putR X hnm (k := 100) (j := 14) cl_X7 (by decide) rfl z_869 rfl rfl rfl rfl rfl rfl (in_push (in_push (in_push (in_push (in_push in_last))))) a10 dX7_init_46 (fun G11 g11 => ?_)
  refine g_aload_n X 0 dX7_init_49 rfl rfl ?_
  refine g_iconst X (v := (nI 3)) dX7_init_50 (by decide) ?_
  refine m_putI X (k := 100) (j := 15) cl_X7 (by decide) rfl z_870 rfl rfl rfl rfl rfl (in_push (in_push (in_push (in_push (in_push in_last))))) a10 dX7_init_51 (fun F12 f12 => ?_)
  refine g_aload_n X 0 dX7_init_54 rfl rfl ?_
  refine g_bipush X (v := (nI 8)) dX7_init_55 (by decide) ?_
  refine m_newI X hA (116) 8 rfl (by omega) rfl (by decide) (Nat.le_of_ble_eq_true rfl) (Nat.le_of_ble_eq_true rfl) dX7_init_57 (fun ad13 F13 e13 f13 => ?_)
  have a13 : ad13 (100) = a0 := (e13 _ (by omega)).trans a10
  refine m_putR X hnm (k := 100) (j := 16) cl_X7 (by decide) rfl z_871 rfl rfl rfl rfl rfl rfl (in_push (in_push (in_push (in_push (in_push (in_push in_last)))))) a13 dX7_init_59 (fun G14 g14 => ?_)
  refine g_aload_n X 0 dX7_init_62 rfl rfl ?_
  refine g_iconst X (v := (nI 5)) dX7_init_63 (by decide) ?_
  refine m_putI X (k := 100) (j := 17) cl_X7 (by decide) rfl z_872 rfl rfl rfl rfl rfl (in_push (in_push (in_push (in_push (in_push (in_push in_last)))))) a13 dX7_init_64 (fun F15 f15 => ?_)
  refine g_aload_n X 0 dX7_init_67 rfl rfl ?_
  refine g_bipush X (v := (nI 12)) dX7_init_68 (by decide) ?_
  refine m_putI X (k := 100) (j := 18) cl_X7 (by decide) rfl z_873 rfl rfl rfl rfl rfl (in_push (in_push (in_push (in_push (in_push (in_push in_last)))))) a13 dX7_init_70 (fun F16 f16 => ?_)
  refine g_aload_n X 0 dX7_init_73 rfl rfl ?_
  refine g_iconst X (v := (nI 1)) dX7_init_74 (by decide) ?_
  refine m_putI X (k := 100) (j := 19) cl_X7 (by decide) rfl z_874 rfl rfl rfl rfl rfl (in_push (in_push (in_push (in_push (in_push (in_push in_last)))))) a13 dX7_init_75 (fun F17 f17 => ?_)
  refine g_aload_n X 0 dX7_init_78 rfl rfl ?_
  refine g_bipush X (v := (nI 21)) dX7_init_79 (by decide) ?_
  refine m_newI X hA (120) 21 rfl (by omega) rfl (by decide) (Nat.le_of_ble_eq_true rfl) (Nat.le_of_ble_eq_true rfl) dX7_init_81 (fun ad18 F18 e18 f18 => ?_)
  have a18 : ad18 (100) = a0 := (e18 _ (by omega)).trans a13
  refine m_putR X hnm (k := 100) (j := 20) cl_X7 (by decide) rfl z_875 rfl rfl rfl rfl rfl rfl (in_push (in_push (in_push (in_push (in_push (in_push (in_push in_last))))))) a18 dX7_init_83 (fun G19 g19 => ?_)
  refine g_aload_n X 0 dX7_init_86 rfl rfl ?_
  refine g_bipush X (v := (nI 21)) dX7_init_87 (by decide) ?_
  refine m_newI X hA (121) 21 rfl (by omega) rfl (by decide) (Nat.le_of_ble_eq_true rfl) (Nat.le_of_ble_eq_true rfl) dX7_init_89 (fun ad20 F20 e20 f20 => ?_)
  have a20 : ad20 (100) = a0 := (e20 _ (by omega)).trans a18
  refine m_putR X hnm (k := 100) (j := 21) cl_X7 (by decide) rfl z_876 rfl rfl rfl rfl rfl rfl (in_push (in_push (in_push (in_push (in_push (in_push (in_push (in_push in_last)))))))) a20 dX7_init_91 (fun G21 g21 => ?_)
  refine g_aload_n X 0 dX7_init_94 rfl rfl ?_
  refine g_sipush X (v := (nI 168)) dX7_init_95 (by decide) ?_
  refine m_newI X hA (122) 168 rfl (by omega) rfl (by decide) (Nat.le_of_ble_eq_true rfl) (Nat.le_of_ble_eq_true rfl) dX7_init_98 (fun ad22 F22 e22 f22 => ?_)
  have a22 : ad22 (100) = a0 := (e22 _ (by omega)).trans a20
  refine m_putR X hnm (k := 100) (j := 22) cl_X7 (by decide) rfl z_877 rfl rfl rfl rfl rfl rfl (in_push (in_push (in_push (in_push (in_push (in_push (in_push (in_push (in_push in_last))))))))) a22 dX7_init_100 (fun G23 g23 => ?_)
  refine g_aload_n X 0 dX7_init_103 rfl rfl ?_
  refine g_bipush X (v := (nI 42)) dX7_init_104 (by decide) ?_
  refine m_newI X hA (124) 42 rfl (by omega) rfl (by decide) (Nat.le_of_ble_eq_true rfl) (Nat.le_of_ble_eq_true rfl) dX7_init_106 (fun ad24 F24 e24 f24 => ?_)
  have a24 : ad24 (100) = a0 := (e24 _ (by omega)).trans a22
  refine m_putR X hnm (k := 100) (j := 24) cl_X7 (by decide) rfl z_879 rfl rfl rfl rfl rfl rfl (in_push (in_push (in_push (in_push (in_push (in_push (in_push (in_push (in_push (in_push in_last)))))))))) a24 dX7_init_108 (fun G25 g25 => ?_)
  refine g_aload_n X 0 dX7_init_111 rfl rfl ?_
  refine g_bipush X (v := (nI 12)) dX7_init_112 (by decide) ?_
  refine m_newI X hA (126) 12 rfl (by omega) rfl (by decide) (Nat.le_of_ble_eq_true rfl) (Nat.le_of_ble_eq_true rfl) dX7_init_114 (fun ad26 F26 e26 f26 => ?_)
  have a26 : ad26 (100) = a0 := (e26 _ (by omega)).trans a24
  refine m_putR X hnm (k := 100) (j := 26) cl_X7 (by decide) rfl z_881 rfl rfl rfl rfl rfl rfl (in_push (in_push (in_push (in_push (in_push (in_push (in_push (in_push (in_push (in_push (in_push in_last))))))))))) a26 dX7_init_116 (fun G27 g27 => ?_)
  refine g_aload_n X 0 dX7_init_119 rfl rfl ?_
  refine g_bipush X (v := (nI 8)) dX7_init_120 (by decide) ?_
  refine m_newI X hA (128) 8 rfl (by omega) rfl (by decide) (Nat.le_of_ble_eq_true rfl) (Nat.le_of_ble_eq_true rfl) dX7_init_122 (fun ad28 F28 e28 f28 => ?_)
  have a28 : ad28 (100) = a0 := (e28 _ (by omega)).trans a26
  refine m_putR X hnm (k := 100) (j := 28) cl_X7 (by decide) rfl z_883 rfl rfl rfl rfl rfl rfl (in_push (in_push (in_push (in_push (in_push (in_push (in_push (in_push (in_push (in_push (in_push (in_push in_last)))))))))))) a28 dX7_init_124 (fun G29 g29 => ?_)
  refine g_aload_n X 0 dX7_init_127 rfl rfl ?_
  refine g_bipush X (v := (nI 8)) dX7_init_128 (by decide) ?_
  refine m_newI X hA (129) 8 rfl (by omega) rfl (by decide) (Nat.le_of_ble_eq_true rfl) (Nat.le_of_ble_eq_true rfl) dX7_init_130 (fun ad30 F30 e30 f30 => ?_)
  have a30 : ad30 (100) = a0 := (e30 _ (by omega)).trans a28
  refine m_putR X hnm (k := 100) (j := 29) cl_X7 (by decide) rfl z_884 rfl rfl rfl rfl rfl rfl (in_push (in_push (in_push (in_push (in_push (in_push (in_push (in_push (in_push (in_push (in_push (in_push (in_push in_last))))))))))))) a30 dX7_init_132 (fun G31 g31 => ?_)
  refine g_aload_n X 0 dX7_init_135 rfl rfl ?_
  refine g_bipush X (v := (nI 21)) dX7_init_136 (by decide) ?_
  refine m_newI X hA (131) 21 rfl (by omega) rfl (by decide) (Nat.le_of_ble_eq_true rfl) (Nat.le_of_ble_eq_true rfl) dX7_init_138 (fun ad32 F32 e32 f32 => ?_)
  have a32 : ad32 (100) = a0 := (e32 _ (by omega)).trans a30
  refine m_putR X hnm (k := 100) (j := 31) cl_X7 (by decide) rfl z_886 rfl rfl rfl rfl rfl rfl (in_push (in_push (in_push (in_push (in_push (in_push (in_push (in_push (in_push (in_push (in_push (in_push (in_push (in_push in_last)))))))))))))) a32 dX7_init_140 (fun G33 g33 => ?_)
  refine g_aload_n X 0 dX7_init_143 rfl rfl ?_
  refine g_bipush X (v := (nI 9)) dX7_init_144 (by decide) ?_
  refine m_newI X hA (132) 9 rfl (by omega) rfl (by decide) (Nat.le_of_ble_eq_true rfl) (Nat.le_of_ble_eq_true rfl) dX7_init_146 (fun ad34 F34 e34 f34 => ?_)
  have a34 : ad34 (100) = a0 := (e34 _ (by omega)).trans a32
  refine m_putR X hnm (k := 100) (j := 32) cl_X7 (by decide) rfl z_887 rfl rfl rfl rfl rfl rfl (in_push (in_push (in_push (in_push (in_push (in_push (in_push (in_push (in_push (in_push (in_push (in_push (in_push (in_push (in_push in_last))))))))))))))) a34 dX7_init_148 (fun G35 g35 => ?_)
  have ad_c : ∀ k, k ≤ 100 → ad34 k = ad k := fun k hk => by rw [e34 _ (by omega), e32 _ (by omega), e30 _ (by omega), e28 _ (by omega), e26 _ (by omega), e24 _ (by omega), e22 _ (by omega), e20 _ (by omega), e18 _ (by omega), e13 _ (by omega), e10 _ (by omega), e7 _ (by omega), e5 _ (by omega), e3 _ (by omega), e1 _ (by omega)]
  have F_c : ∀ k, k < 100 → F34 k = F k := fun k hk => by rw [f34, hst_n _ _ (by omega), f32, hst_n _ _ (by omega), f30, hst_n _ _ (by omega), f28, hst_n _ _ (by omega), f26, hst_n _ _ (by omega), f24, hst_n _ _ (by omega), f22, hst_n _ _ (by omega), f20, hst_n _ _ (by omega), f18, hst_n _ _ (by omega), f17, hup_n _ _ _ (by omega), f16, hup_n _ _ _ (by omega), f15, hup_n _ _ _ (by omega), f13, hst_n _ _ (by omega), f12, hup_n _ _ _ (by omega), f10, hst_n _ _ (by omega), f9, hup_n _ _ _ (by omega), f7, hst_n _ _ (by omega), f5, hst_n _ _ (by omega), f3, hst_n _ _ (by omega), f1, hst_n _ _ (by omega)]
  have G_c : ∀ k, k < 100 → G35 k = G k := fun k hk => by rw [g35, gup_n _ _ _ (by omega), g33, gup_n _ _ _ (by omega), g31, gup_n _ _ _ (by omega), g29, gup_n _ _ _ (by omega), g27, gup_n _ _ _ (by omega), g25, gup_n _ _ _ (by omega), g23, gup_n _ _ _ (by omega), g21, gup_n _ _ _ (by omega), g19, gup_n _ _ _ (by omega), g14, gup_n _ _ _ (by omega), g11, gup_n _ _ _ (by omega), g8, gup_n _ _ _ (by omega), g6, gup_n _ _ _ (by omega), g4, gup_n _ _ _ (by omega), g2, gup_n _ _ _ (by omega)]
  have v13 : F34 100 13 = nI 5 := by rw [f34, hst_n _ _ (by omega), f32, hst_n _ _ (by omega), f30, hst_n _ _ (by omega), f28, hst_n _ _ (by omega), f26, hst_n _ _ (by omega), f24, hst_n _ _ (by omega), f22, hst_n _ _ (by omega), f20, hst_n _ _ (by omega), f18, hst_n _ _ (by omega), f17, hup_at, if_neg (by omega), f16, hup_at, if_neg (by omega), f15, hup_at, if_neg (by omega), f13, hst_n _ _ (by omega), f12, hup_at, if_neg (by omega), f10, hst_n _ _ (by omega), f9, hup_at, if_pos rfl]
  have v15 : F34 100 15 = nI 3 := by rw [f34, hst_n _ _ (by omega), f32, hst_n _ _ (by omega), f30, hst_n _ _ (by omega), f28, hst_n _ _ (by omega), f26, hst_n _ _ (by omega), f24, hst_n _ _ (by omega), f22, hst_n _ _ (by omega), f20, hst_n _ _ (by omega), f18, hst_n _ _ (by omega), f17, hup_at, if_neg (by omega), f16, hup_at, if_neg (by omega), f15, hup_at, if_neg (by omega), f13, hst_n _ _ (by omega), f12, hup_at, if_pos rfl]
  have v17 : F34 100 17 = nI 5 := by rw [f34, hst_n _ _ (by omega), f32, hst_n _ _ (by omega), f30, hst_n _ _ (by omega), f28, hst_n _ _ (by omega), f26, hst_n _ _ (by omega), f24, hst_n _ _ (by omega), f22, hst_n _ _ (by omega), f20, hst_n _ _ (by omega), f18, hst_n _ _ (by omega), f17, hup_at, if_neg (by omega), f16, hup_at, if_neg (by omega), f15, hup_at, if_pos rfl]
  have v18 : F34 100 18 = nI 12 := by rw [f34, hst_n _ _ (by omega), f32, hst_n _ _ (by omega), f30, hst_n _ _ (by omega), f28, hst_n _ _ (by omega), f26, hst_n _ _ (by omega), f24, hst_n _ _ (by omega), f22, hst_n _ _ (by omega), f20, hst_n _ _ (by omega), f18, hst_n _ _ (by omega), f17, hup_at, if_neg (by omega), f16, hup_at, if_pos rfl]
  have v19 : F34 100 19 = nI 1 := by rw [f34, hst_n _ _ (by omega), f32, hst_n _ _ (by omega), f30, hst_n _ _ (by omega), f28, hst_n _ _ (by omega), f26, hst_n _ _ (by omega), f24, hst_n _ _ (by omega), f22, hst_n _ _ (by omega), f20, hst_n _ _ (by omega), f18, hst_n _ _ (by omega), f17, hup_at, if_pos rfl]
  have v0 : F34 100 0 = nI 0 := by rw [f34, hst_n _ _ (by omega), f32, hst_n _ _ (by omega), f30, hst_n _ _ (by omega), f28, hst_n _ _ (by omega), f26, hst_n _ _ (by omega), f24, hst_n _ _ (by omega), f22, hst_n _ _ (by omega), f20, hst_n _ _ (by omega), f18, hst_n _ _ (by omega), f17, hup_at, if_neg (by omega), f16, hup_at, if_neg (by omega), f15, hup_at, if_neg (by omega), f13, hst_n _ _ (by omega), f12, hup_at, if_neg (by omega), f10, hst_n _ _ (by omega), f9, hup_at, if_neg (by omega), f7, hst_n _ _ (by omega), f5, hst_n _ _ (by omega), f3, hst_n _ _ (by omega), f1, hst_n _ _ (by omega)]; exact hz
  have w1 : G35 100 1 = some (ad34 101) := by rw [g35, gup_at, if_neg (by omega), g33, gup_at, if_neg (by omega), g31, gup_at, if_neg (by omega), g29, gup_at, if_neg (by omega), g27, gup_at, if_neg (by omega), g25, gup_at, if_neg (by omega), g23, gup_at, if_neg (by omega), g21, gup_at, if_neg (by omega), g19, gup_at, if_neg (by omega), g14, gup_at, if_neg (by omega), g11, gup_at, if_neg (by omega), g8, gup_at, if_neg (by omega), g6, gup_at, if_neg (by omega), g4, gup_at, if_neg (by omega), g2, gup_at, if_pos rfl, e34 _ (by omega), e32 _ (by omega), e30 _ (by omega), e28 _ (by omega), e26 _ (by omega), e24 _ (by omega), e22 _ (by omega), e20 _ (by omega), e18 _ (by omega), e13 _ (by omega), e10 _ (by omega), e7 _ (by omega), e5 _ (by omega), e3 _ (by omega)]
  have w3 : G35 100 3 = some (ad34 103) := by rw [g35, gup_at, if_neg (by omega), g33, gup_at, if_neg (by omega), g31, gup_at, if_neg (by omega), g29, gup_at, if_neg (by omega), g27, gup_at, if_neg (by omega), g25, gup_at, if_neg (by omega), g23, gup_at, if_neg (by omega), g21, gup_at, if_neg (by omega), g19, gup_at, if_neg (by omega), g14, gup_at, if_neg (by omega), g11, gup_at, if_neg (by omega), g8, gup_at, if_neg (by omega), g6, gup_at, if_neg (by omega), g4, gup_at, if_pos rfl, e34 _ (by omega), e32 _ (by omega), e30 _ (by omega), e28 _ (by omega), e26 _ (by omega), e24 _ (by omega), e22 _ (by omega), e20 _ (by omega), e18 _ (by omega), e13 _ (by omega), e10 _ (by omega), e7 _ (by omega), e5 _ (by omega)]
  have w8 : G35 100 8 = some (ad34 108) := by rw [g35, gup_at, if_neg (by omega), g33, gup_at, if_neg (by omega), g31, gup_at, if_neg (by omega), g29, gup_at, if_neg (by omega), g27, gup_at, if_neg (by omega), g25, gup_at, if_neg (by omega), g23, gup_at, if_neg (by omega), g21, gup_at, if_neg (by omega), g19, gup_at, if_neg (by omega), g14, gup_at, if_neg (by omega), g11, gup_at, if_neg (by omega), g8, gup_at, if_neg (by omega), g6, gup_at, if_pos rfl, e34 _ (by omega), e32 _ (by omega), e30 _ (by omega), e28 _ (by omega), e26 _ (by omega), e24 _ (by omega), e22 _ (by omega), e20 _ (by omega), e18 _ (by omega), e13 _ (by omega), e10 _ (by omega), e7 _ (by omega)]
  have w9 : G35 100 9 = some (ad34 109) := by rw [g35, gup_at, if_neg (by omega), g33, gup_at, if_neg (by omega), g31, gup_at, if_neg (by omega), g29, gup_at, if_neg (by omega), g27, gup_at, if_neg (by omega), g25, gup_at, if_neg (by omega), g23, gup_at, if_neg (by omega), g21, gup_at, if_neg (by omega), g19, gup_at, if_neg (by omega), g14, gup_at, if_neg (by omega), g11, gup_at, if_neg (by omega), g8, gup_at, if_pos rfl, e34 _ (by omega), e32 _ (by omega), e30 _ (by omega), e28 _ (by omega), e26 _ (by omega), e24 _ (by omega), e22 _ (by omega), e20 _ (by omega), e18 _ (by omega), e13 _ (by omega), e10 _ (by omega)]
  have w14 : G35 100 14 = some (ad34 114) := by rw [g35, gup_at, if_neg (by omega), g33, gup_at, if_neg (by omega), g31, gup_at, if_neg (by omega), g29, gup_at, if_neg (by omega), g27, gup_at, if_neg (by omega), g25, gup_at, if_neg (by omega), g23, gup_at, if_neg (by omega), g21, gup_at, if_neg (by omega), g19, gup_at, if_neg (by omega), g14, gup_at, if_neg (by omega), g11, gup_at, if_pos rfl, e34 _ (by omega), e32 _ (by omega), e30 _ (by omega), e28 _ (by omega), e26 _ (by omega), e24 _ (by omega), e22 _ (by omega), e20 _ (by omega), e18 _ (by omega), e13 _ (by omega)]
  have w16 : G35 100 16 = some (ad34 116) := by rw [g35, gup_at, if_neg (by omega), g33, gup_at, if_neg (by omega), g31, gup_at, if_neg (by omega), g29, gup_at, if_neg (by omega), g27, gup_at, if_neg (by omega), g25, gup_at, if_neg (by omega), g23, gup_at, if_neg (by omega), g21, gup_at, if_neg (by omega), g19, gup_at, if_neg (by omega), g14, gup_at, if_pos rfl, e34 _ (by omega), e32 _ (by omega), e30 _ (by omega), e28 _ (by omega), e26 _ (by omega), e24 _ (by omega), e22 _ (by omega), e20 _ (by omega), e18 _ (by omega)]
  have w20 : G35 100 20 = some (ad34 120) := by rw [g35, gup_at, if_neg (by omega), g33, gup_at, if_neg (by omega), g31, gup_at, if_neg (by omega), g29, gup_at, if_neg (by omega), g27, gup_at, if_neg (by omega), g25, gup_at, if_neg (by omega), g23, gup_at, if_neg (by omega), g21, gup_at, if_neg (by omega), g19, gup_at, if_pos rfl, e34 _ (by omega), e32 _ (by omega), e30 _ (by omega), e28 _ (by omega), e26 _ (by omega), e24 _ (by omega), e22 _ (by omega), e20 _ (by omega)]
  have w21 : G35 100 21 = some (ad34 121) := by rw [g35, gup_at, if_neg (by omega), g33, gup_at, if_neg (by omega), g31, gup_at, if_neg (by omega), g29, gup_at, if_neg (by omega), g27, gup_at, if_neg (by omega), g25, gup_at, if_neg (by omega), g23, gup_at, if_neg (by omega), g21, gup_at, if_pos rfl, e34 _ (by omega), e32 _ (by omega), e30 _ (by omega), e28 _ (by omega), e26 _ (by omega), e24 _ (by omega), e22 _ (by omega)]
  have w22 : G35 100 22 = some (ad34 122) := by rw [g35, gup_at, if_neg (by omega), g33, gup_at, if_neg (by omega), g31, gup_at, if_neg (by omega), g29, gup_at, if_neg (by omega), g27, gup_at, if_neg (by omega), g25, gup_at, if_neg (by omega), g23, gup_at, if_pos rfl, e34 _ (by omega), e32 _ (by omega), e30 _ (by omega), e28 _ (by omega), e26 _ (by omega), e24 _ (by omega)]
  have w24 : G35 100 24 = some (ad34 124) := by rw [g35, gup_at, if_neg (by omega), g33, gup_at, if_neg (by omega), g31, gup_at, if_neg (by omega), g29, gup_at, if_neg (by omega), g27, gup_at, if_neg (by omega), g25, gup_at, if_pos rfl, e34 _ (by omega), e32 _ (by omega), e30 _ (by omega), e28 _ (by omega), e26 _ (by omega)]
  have w26 : G35 100 26 = some (ad34 126) := by rw [g35, gup_at, if_neg (by omega), g33, gup_at, if_neg (by omega), g31, gup_at, if_neg (by omega), g29, gup_at, if_neg (by omega), g27, gup_at, if_pos rfl, e34 _ (by omega), e32 _ (by omega), e30 _ (by omega), e28 _ (by omega)]
  have w28 : G35 100 28 = some (ad34 128) := by rw [g35, gup_at, if_neg (by omega), g33, gup_at, if_neg (by omega), g31, gup_at, if_neg (by omega), g29, gup_at, if_pos rfl, e34 _ (by omega), e32 _ (by omega), e30 _ (by omega)]
  have w29 : G35 100 29 = some (ad34 129) := by rw [g35, gup_at, if_neg (by omega), g33, gup_at, if_neg (by omega), g31, gup_at, if_pos rfl, e34 _ (by omega), e32 _ (by omega)]
  have w31 : G35 100 31 = some (ad34 131) := by rw [g35, gup_at, if_neg (by omega), g33, gup_at, if_pos rfl, e34 _ (by omega)]
  have w32 : G35 100 32 = some (ad34 132) := by rw [g35, gup_at, if_pos rfl]
  have cls0 : ∀ k, k ∈ RA → GK ad34 F34 G35 k := by
    intro k hk
    rcases RA_cls k hk with g | rfl | g
    · exact (hG k g).tr g (F_c k (by omega)) (G_c k (by omega)) (fun r hr => ad_c r (by omega)) (hN k g)
    · refine GK_obj (c := 7) rfl (fun j hj hr => ?_)
      have hnf : nf 7 = 33 := rfl
      rcases (show j = 0 ∨ j = 1 ∨ j = 2 ∨ j = 3 ∨ j = 4 ∨ j = 5 ∨ j = 6 ∨ j = 7 ∨ j = 8 ∨ j = 9 ∨ j = 10 ∨ j = 11 ∨ j = 12 ∨ j = 13 ∨ j = 14 ∨ j = 15 ∨ j = 16 ∨ j = 17 ∨ j = 18 ∨ j = 19 ∨ j = 20 ∨ j = 21 ∨ j = 22 ∨ j = 23 ∨ j = 24 ∨ j = 25 ∨ j = 26 ∨ j = 27 ∨ j = 28 ∨ j = 29 ∨ j = 30 ∨ j = 31 ∨ j = 32 by omega) with rfl | rfl | rfl | rfl | rfl | rfl | rfl | rfl | rfl | rfl | rfl | rfl | rfl | rfl | rfl | rfl | rfl | rfl | rfl | rfl | rfl | rfl | rfl | rfl | rfl | rfl | rfl | rfl | rfl | rfl | rfl | rfl | rfl
      · exact absurd hr (by decide)
      · exact w1
      · exact absurd hr (by decide)
      · exact w3
      · exact absurd hr (by decide)
      · exact absurd hr (by decide)
      · exact absurd hr (by decide)
      · exact absurd hr (by decide)
      · exact w8
      · exact w9
      · exact absurd hr (by decide)
      · exact absurd hr (by decide)
      · exact absurd hr (by decide)
      · exact absurd hr (by decide)
      · exact w14
      · exact absurd hr (by decide)
      · exact w16
      · exact absurd hr (by decide)
      · exact absurd hr (by decide)
      · exact absurd hr (by decide)
      · exact w20
      · exact w21
      · exact w22
      · exact absurd hr (by decide)
      · exact w24
      · exact absurd hr (by decide)
      · exact w26
      · exact absurd hr (by decide)
      · exact w28
      · exact w29
      · exact absurd hr (by decide)
      · exact w31
      · exact w32
    · exact GK_arr g
  refine m_toL cls0 ?_
  exact md_tail X hA hr a34 v0 v13 v15 v17 v18 v19 (fun F' im => h ad34 F' (fun k hk => ad_c k hk) ⟨fun a ha => by rw [im.1 a ha, F_c a ha], im.2⟩)
theorem k_X7_init {a0 : Nat} (h0 : ad 100 = a0) (hz : F 100 0 = nI 0) (hG : ∀ k, k < 88 → GK ad F G k) (hN : ∀ k, k < 88 → ∀ n, kd k = (2, n) → ∀ j, j < n → (F k j).toNatClampNeg < 100) {K : (Nat → Nat) → HF → Prop} (h : ∀ ad' F', (∀ k, k ≤ 100 → ad' k = ad k) → IM F F' → K ad' F') (sz : Nat) : Met l yX7_init (Cond.code yX7_init cX7_init 1 none :: WB) rm_md (va_Pc [.ref a0] (PreM D dA ad F G sz)) (va_Qv (fun u : UB => K u.1 u.2) (PostM D dA (AG dA ad (RC ++ [100]) F G sz)) (AG dA ad (RC ++ [100]) F G sz)) 15 594 (AG dA ad (RC ++ [100]) F G sz) := by
  refine Met.ofW (cc := cX7_init) (maxL := 1) (ret := none) (by decide) rfl ?_
  intro p e s m args below meth c s₁ B hml hv
  obtain ⟨rfl, hsz, hP, hK, hD0⟩ := hv
  have hts := atoms_spec (ws := Cond.code yX7_init cX7_init 1 none :: WB) B.pre
  subst hsz
  have hD := hD0.self (sz := s.heap.size)
  rw [lg_entry_eq]
  have hown : s.vm.findClass RX7 = some m.cls := findClass_of_methodNamed B.named
  exact md_init ⟨B.exec, B.bytes, hml, hown, fun w h => hts w (List.mem_cons_of_mem _ h), hK, B.notSynchronized⟩ (fun q h => Or.inr h) (name_of_methodNamed B.named B.method).1 B.returns h0 hz hG hN h s.heap [] _ hP hD va_S.rf (lv_entry [.ref a0] (Nat.le_of_ble_eq_true rfl))
end CtorM
