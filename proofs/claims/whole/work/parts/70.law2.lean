section LawLoop
variable {p : Program} {l : Launch} {e : Env} {s : State} {m : MethodId} {below : List Frame} {meth : Method} {c : Code} {D : va_G} {dA : Nat → ClassId} {ad : Nat → Nat} {b L : Nat} {xs : Nat → Int32}
set_option maxRecDepth 100000 in
set_option maxHeartbeats 4000000 in
theorem law_end (Z : LX p s m meth c D dA b L xs) {F : HF} {i : Nat} : JL p l e s m below meth c D dA b ad F 723 i := by
  obtain ⟨X, hX, hbl, hL, hr⟩ := Z
  refine g_iconst X (v := 1) dL_law_723 (by decide) ?_
  intro H locs ls hP hD hS hl
  exact W.widen (k := 600000) (n := 7302250) (Nat.le_of_ble_eq_true rfl) (Nat.le_of_ble_eq_true rfl) (va_forget hS.2.2 (lw_ret X.1 X.2.1 hr X.2.2.2.2.2.2 dL_law_724))
set_option maxRecDepth 100000 in
set_option maxHeartbeats 4000000 in
theorem law_loop (Z : LX p s m meth c D dA b L xs) : ∀ k n (F : HF), L ≤ 4 * (n + k) → n ≤ 512 → Inv n F → JL p l e s m below meth c D dA b ad F 18 (4 * n) := by
  obtain ⟨X, hX, hbl, hL, hr⟩ := id Z
  have hA : ∀ q : Nat, s.heap.size ≤ q → (fun q : Nat => s.heap.size ≤ q) q := fun _ h => h
  have hbA : ¬ (fun q : Nat => s.heap.size ≤ q) b := Nat.not_le.mpr hbl
  have test : ∀ (n : Nat) (F : HF), n ≤ 512 → (4 * n + 4 ≤ L → JL p l e s m below meth c D dA b ad F 26 (4 * n)) → JL p l e s m below meth c D dA b ad F 18 (4 * n) := by
    intro n F hn hk
    refine g_iload_n X 0 dL_law_18 rfl rfl ?_
    refine g_aload_n X 3 dL_law_19 rfl rfl ?_
    refine g_slen X hX hbl hbA dL_law_20 ?_
    refine g_iconst X (v := nI 4) dL_law_21 (by decide) ?_
    refine g_isub X dL_law_22 ?_
    refine g_icmp_gt X (tgt := 723) dL_law_23 (by decide) (fun _ => law_end Z) (fun g => hk ?_)
    by_cases h4 : 4 ≤ L
    · rw [nIsub h4, nIlt (by omega) (by omega)] at g
      omega
    · exfalso
      apply g
      have : ∀ v, v < 4 → ∀ w : Nat, w < 2 ^ 31 → nI v - nI 4 < nI w := by
        intro v hv w hw
        rw [Int32.lt_iff_toInt_lt, nI_toInt hw]
        have : (nI v - nI 4).toInt < 0 := by
          rcases (show v = 0 ∨ v = 1 ∨ v = 2 ∨ v = 3 by omega) with rfl | rfl | rfl | rfl <;> decide
        omega
      exact this L (by omega) _ (by omega)
  intro k
  induction k with
  | zero => intro n F h1 h2 hI; exact test n F h2 (fun h => absurd h (by omega))
  | succ k ih =>
    intro n F h1 h2 hI
    refine test n F h2 (fun h4 => ?_)
    have kk : ∀ F', Inv (n + 1) F' → JL p l e s m below meth c D dA b ad F' 717 (4 * n) := by
      intro F' hI'
      refine g_iinc X 0 [(3, .int (nI (4 * (n + 1)))), (2, .ref (ad 100)), (1, .ref (ad 0)), (0, .ref b)] dL_law_717 rfl (show nI (4 * n) + nI 4 = nI (4 * (n + 1)) by rw [nI_add]; congr 1) (by decide) rfl ?_
      refine g_goto X (tgt := 18) dL_law_720 (by decide) ?_
      exact ih (n + 1) F' (by omega) (by omega) hI'
    refine g_aload_n X 3 dL_law_26 rfl rfl ?_
    refine g_iload_n X 0 dL_law_27 rfl rfl ?_
    refine g_sld X hX hbl hbA (vin (by omega) (by omega)) dL_law_28 ?_
    refine g_bipush X (v := nI 31) dL_law_29 (by decide) ?_
    refine g_iand X dL_law_31 ?_
    obtain ⟨t, ht, et⟩ := pk_andE (xs (nI (4 * n)).toNatClampNeg) (m := nI 31) 5 (by decide)
    rw [et]
    have ti : (nI t).toInt = (t : Int) := nI_toInt (by omega)
    by_cases h26 : 26 < t
    · exact g_tableOut X (tgt := 717) dL_law_32 (Or.inr (by rw [ti]; omega)) (by decide) (kk F hI.mono)
    have tb : ∀ (o : Int) (tg : Nat), (#[124, 147, 160, 173, 186, 219, 242, 275, 298, 311, 324, 337, 360, 373, 396, 419, 442, 465, 488, 501, 534, 547, 570, 593, 636, 649, 662] : Array Int)[t]? = some o → ((32 : Nat) : Int) + o = (tg : Int) → JL p l e s m below meth c D dA b ad F tg (4 * n) → JG 104 1684 p l e room_1 s m #[Value.ref b] below meth c 4 D (wl dA ad RA F) (fun q => s.heap.size ≤ q) (lw_Z below #[Value.ref b] s) 32 [(3, .int (nI (4 * n))), (2, .ref (ad 100)), (1, .ref (ad 0)), (0, .ref b)] [.int (nI t)] := by
      intro o tg ho hg hk
      refine g_tableIn X (tgt := tg) dL_law_32 (by rw [ti]; omega) (by rw [ti]; omega) (off := o) ?_ hg hk
      rw [ti]
      rw [show ((t : Int) - 0).toNat = t by omega]
      exact ho
    rcases (show t = 0 ∨ t = 1 ∨ t = 2 ∨ t = 3 ∨ t = 4 ∨ t = 5 ∨ t = 6 ∨ t = 7 ∨ t = 8 ∨ t = 9 ∨ t = 10 ∨ t = 11 ∨ t = 12 ∨ t = 13 ∨ t = 14 ∨ t = 15 ∨ t = 16 ∨ t = 17 ∨ t = 18 ∨ t = 19 ∨ t = 20 ∨ t = 21 ∨ t = 22 ∨ t = 23 ∨ t = 24 ∨ t = 25 ∨ t = 26 by omega) with rfl | rfl | rfl | rfl | rfl | rfl | rfl | rfl | rfl | rfl | rfl | rfl | rfl | rfl | rfl | rfl | rfl | rfl | rfl | rfl | rfl | rfl | rfl | rfl | rfl | rfl | rfl
    · exact tb 124 156 rfl (by decide) (lc_0 Z h4 hI kk)
    · exact tb 147 179 rfl (by decide) (lc_1 Z h4 hI kk)
    · exact tb 160 192 rfl (by decide) (lc_2 Z h4 hI kk)
    · exact tb 173 205 rfl (by decide) (lc_3 Z h4 hI kk)
    · exact tb 186 218 rfl (by decide) (lc_4 Z h4 hI kk)
    · exact tb 219 251 rfl (by decide) (lc_5 Z h4 hI kk)
    · exact tb 242 274 rfl (by decide) (lc_6 Z h4 hI kk)
    · exact tb 275 307 rfl (by decide) (lc_7 Z h4 hI kk)
    · exact tb 298 330 rfl (by decide) (lc_8 Z h4 hI kk)
    · exact tb 311 343 rfl (by decide) (lc_9 Z h4 hI kk)
    · exact tb 324 356 rfl (by decide) (lc_10 Z h4 hI kk)
    · exact tb 337 369 rfl (by decide) (lc_11 Z h4 hI kk)
    · exact tb 360 392 rfl (by decide) (lc_12 Z h4 hI kk)
    · exact tb 373 405 rfl (by decide) (lc_13 Z h4 hI kk)
    · exact tb 396 428 rfl (by decide) (lc_14 Z h4 hI kk)
    · exact tb 419 451 rfl (by decide) (lc_15 Z h4 hI kk)
    · exact tb 442 474 rfl (by decide) (lc_16 Z h4 hI kk)
    · exact tb 465 497 rfl (by decide) (lc_17 Z h4 hI kk)
    · exact tb 488 520 rfl (by decide) (lc_18 Z h4 hI kk)
    · exact tb 501 533 rfl (by decide) (lc_19 Z h4 hI kk)
    · exact tb 534 566 rfl (by decide) (lc_20 Z h4 hI kk)
    · exact tb 547 579 rfl (by decide) (lc_21 Z h4 hI kk)
    · exact tb 570 602 rfl (by decide) (lc_22 Z h4 hI kk)
    · exact tb 593 625 rfl (by decide) (lc_23 Z h4 hI kk)
    · exact tb 636 668 rfl (by decide) (lc_24 Z h4 hI kk)
    · exact tb 649 681 rfl (by decide) (lc_25 Z h4 hI kk)
    · exact tb 662 694 rfl (by decide) (lc_26 Z h4 hI kk)
end LawLoop
