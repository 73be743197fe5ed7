theorem dX5_size_0 : decode cX5_size 0 = .ok (.aload_n 0, 1) := by decide +kernel
theorem dX5_size_1 : decode cX5_size 1 = .ok (.getfield 7, 3) := by decide +kernel
theorem dX5_size_4 : decode cX5_size 4 = .ok (.ireturn, 1) := by decide +kernel
theorem hd_X5_size : yX5_size.cls = RX5 ∧ yX5_size.cls ≠ "java/lang/invoke/MethodHandle" ∧ yX5_size.cls ≠ "java/lang/invoke/VarHandle" ∧ (parseMethodDescriptor yX5_size.desc).map (fun d => d.parameters.length) = some 0 := by decide +kernel
abbrev rm_X5_size : Room := { frames := 0, cells := 0, slots := 0, locals := 0 }
def wp_X5_size (K : Int32 → HF → Prop) (F : HF) (s : Nat) (ln : Nat) : Prop := K (F s 1) F
set_option maxRecDepth 100000 in
set_option maxHeartbeats 4000000 in
theorem c_X5_size {l : Launch} {D : va_G} {dA : Nat → ClassId} {ad : Nat → Nat} {R : List Nat} {F : HF} {s : Nat} {ln : Nat} {K : Int32 → HF → Prop} (hT : Sh R s ln) (h : wp_X5_size K F s ln) : MI l yX5_size cX5_size 1 .int rm_X5_size D dA ad R F [.ref (ad s)] K := by
  refine MI.of (own := RX5) (by decide) rfl (Nat.le_of_ble_eq_true rfl) ?_
  intro p e st₁ m args below meth c A hA X hr
  unfold wp_X5_size at h
  show J p l e rm_X5_size st₁ m args below meth c 1 D dA ad R A (QI D dA ad R A below args st₁ K) F 0 [(0, .ref (ad s))] []
  refine r_aload_n (pc := 0) X 0 dX5_size_0 rfl rfl ?_
  refine fg_X5_7 (pc := 1) X hT.1 dX5_size_1 ?_
  exact r_iret (pc := 4) X hr dX5_size_4 h
theorem dX5_isFull_0 : decode cX5_isFull 0 = .ok (.aload_n 0, 1) := by decide +kernel
theorem dX5_isFull_1 : decode cX5_isFull 1 = .ok (.getfield 7, 3) := by decide +kernel
theorem dX5_isFull_4 : decode cX5_isFull 4 = .ok (.aload_n 0, 1) := by decide +kernel
theorem dX5_isFull_5 : decode cX5_isFull 5 = .ok (.getfield 21, 3) := by decide +kernel
theorem dX5_isFull_8 : decode cX5_isFull 8 = .ok (.arraylength, 1) := by decide +kernel
theorem dX5_isFull_9 : decode cX5_isFull 9 = .ok (.if_icmp .lt 7, 3) := by decide +kernel
theorem dX5_isFull_12 : decode cX5_isFull 12 = .ok (.iconst 1, 1) := by decide +kernel
theorem dX5_isFull_13 : decode cX5_isFull 13 = .ok (.goto 4, 3) := by decide +kernel
theorem dX5_isFull_16 : decode cX5_isFull 16 = .ok (.iconst 0, 1) := by decide +kernel
theorem dX5_isFull_17 : decode cX5_isFull 17 = .ok (.ireturn, 1) := by decide +kernel
theorem hd_X5_isFull : yX5_isFull.cls = RX5 ∧ yX5_isFull.cls ≠ "java/lang/invoke/MethodHandle" ∧ yX5_isFull.cls ≠ "java/lang/invoke/VarHandle" ∧ (parseMethodDescriptor yX5_isFull.desc).map (fun d => d.parameters.length) = some 0 := by decide +kernel
abbrev rm_X5_isFull : Room := { frames := 0, cells := 0, slots := 0, locals := 0 }
def wp_X5_isFull (K : Int32 → HF → Prop) (F : HF) (s : Nat) (ln : Nat) : Prop := (((F s 1) < (nI ln)) → (K (nI 0) F)) ∧ ((¬ (F s 1) < (nI ln)) → (K (nI 1) F))
set_option maxRecDepth 100000 in
set_option maxHeartbeats 4000000 in
theorem c_X5_isFull {l : Launch} {D : va_G} {dA : Nat → ClassId} {ad : Nat → Nat} {R : List Nat} {F : HF} {s : Nat} {ln : Nat} {K : Int32 → HF → Prop} (hT : Sh R s ln) (h : wp_X5_isFull K F s ln) : MI l yX5_isFull cX5_isFull 1 .boolean rm_X5_isFull D dA ad R F [.ref (ad s)] K := by
  refine MI.of (own := RX5) (by decide) rfl (Nat.le_of_ble_eq_true rfl) ?_
  intro p e st₁ m args below meth c A hA X hr
  unfold wp_X5_isFull at h
  show J p l e rm_X5_isFull st₁ m args below meth c 1 D dA ad R A (QI D dA ad R A below args st₁ K) F 0 [(0, .ref (ad s))] []
  refine r_aload_n (pc := 0) X 0 dX5_isFull_0 rfl rfl ?_
  refine fg_X5_7 (pc := 1) X hT.1 dX5_isFull_1 ?_
  refine r_aload_n (pc := 4) X 0 dX5_isFull_4 rfl rfl ?_
  refine fg_X5_21 (pc := 5) X hT.1 dX5_isFull_5 ?_
  refine r_alen (pc := 8) (v := (nI ln)) X (Or.inr (Or.inr hT.2.1)) rfl dX5_isFull_8 ?_
  refine r_icmp_lt (pc := 9) (tgt := 16) X dX5_isFull_9 (by decide) (fun hc => ?_) (fun hc => ?_)
  · replace h := h.1 hc
    refine r_iconst (pc := 16) (v := (nI 0)) X dX5_isFull_16 (by decide) ?_
    exact r_zret (pc := 17) X hr dX5_isFull_17 nb0 h
  · replace h := h.2 hc
    refine r_iconst (pc := 12) (v := (nI 1)) X dX5_isFull_12 (by decide) ?_
    refine r_goto (pc := 13) (tgt := 17) X dX5_isFull_13 (by decide) ?_
    exact r_zret (pc := 17) X hr dX5_isFull_17 nb1 h
theorem dX5_clear_0 : decode cX5_clear 0 = .ok (.aload_n 0, 1) := by decide +kernel
theorem dX5_clear_1 : decode cX5_clear 1 = .ok (.iconst 0, 1) := by decide +kernel
theorem dX5_clear_2 : decode cX5_clear 2 = .ok (.putfield 7, 3) := by decide +kernel
theorem dX5_clear_5 : decode cX5_clear 5 = .ok (.return_, 1) := by decide +kernel
theorem hd_X5_clear : yX5_clear.cls = RX5 ∧ yX5_clear.cls ≠ "java/lang/invoke/MethodHandle" ∧ yX5_clear.cls ≠ "java/lang/invoke/VarHandle" ∧ (parseMethodDescriptor yX5_clear.desc).map (fun d => d.parameters.length) = some 0 := by decide +kernel
abbrev rm_X5_clear : Room := { frames := 0, cells := 0, slots := 0, locals := 0 }
def wp_X5_clear (K : HF → Prop) (F : HF) (s : Nat) (ln : Nat) : Prop := ∀ F1 : HF, F1 = hup F s 1 (nI 0) → (K F1)
set_option maxRecDepth 100000 in
set_option maxHeartbeats 4000000 in
theorem c_X5_clear {l : Launch} {D : va_G} {dA : Nat → ClassId} {ad : Nat → Nat} {R : List Nat} {F : HF} {s : Nat} {ln : Nat} {K : HF → Prop} (hT : Sh R s ln) (h : wp_X5_clear K F s ln) : MV l yX5_clear cX5_clear 1 rm_X5_clear D dA ad R F [.ref (ad s)] K := by
  refine MV.of (own := RX5) (by decide) rfl (Nat.le_of_ble_eq_true rfl) ?_
  intro p e st₁ m args below meth c A hA X hr
  unfold wp_X5_clear at h
  show J p l e rm_X5_clear st₁ m args below meth c 1 D dA ad R A (QV D dA ad R A below args st₁ K) F 0 [(0, .ref (ad s))] []
  refine r_aload_n (pc := 0) X 0 dX5_clear_0 rfl rfl ?_
  refine r_iconst (pc := 1) (v := (nI 0)) X dX5_clear_1 (by decide) ?_
  refine fp_X5_7 (pc := 2) X hT.1 dX5_clear_2 (fun F1 e1 => ?_)
  replace h := h F1 e1
  exact r_vret (pc := 5) X hr dX5_clear_5 h
theorem dX5_giveUpOldest_0 : decode cX5_giveUpOldest 0 = .ok (.aload_n 0, 1) := by decide +kernel
theorem dX5_giveUpOldest_1 : decode cX5_giveUpOldest 1 = .ok (.getfield 21, 3) := by decide +kernel
theorem dX5_giveUpOldest_4 : decode cX5_giveUpOldest 4 = .ok (.iconst 0, 1) := by decide +kernel
theorem dX5_giveUpOldest_5 : decode cX5_giveUpOldest 5 = .ok (.aaload, 1) := by decide +kernel
theorem dX5_giveUpOldest_6 : decode cX5_giveUpOldest 6 = .ok (.astore_n 1, 1) := by decide +kernel
theorem dX5_giveUpOldest_7 : decode cX5_giveUpOldest 7 = .ok (.iconst 1, 1) := by decide +kernel
theorem dX5_giveUpOldest_8 : decode cX5_giveUpOldest 8 = .ok (.istore_n 2, 1) := by decide +kernel
theorem dX5_giveUpOldest_9 : decode cX5_giveUpOldest 9 = .ok (.iload_n 2, 1) := by decide +kernel
theorem dX5_giveUpOldest_10 : decode cX5_giveUpOldest 10 = .ok (.aload_n 0, 1) := by decide +kernel
theorem dX5_giveUpOldest_11 : decode cX5_giveUpOldest 11 = .ok (.getfield 21, 3) := by decide +kernel
theorem dX5_giveUpOldest_14 : decode cX5_giveUpOldest 14 = .ok (.arraylength, 1) := by decide +kernel
theorem dX5_giveUpOldest_15 : decode cX5_giveUpOldest 15 = .ok (.if_icmp .ge 23, 3) := by decide +kernel
theorem dX5_giveUpOldest_18 : decode cX5_giveUpOldest 18 = .ok (.aload_n 0, 1) := by decide +kernel
theorem dX5_giveUpOldest_19 : decode cX5_giveUpOldest 19 = .ok (.getfield 21, 3) := by decide +kernel
theorem dX5_giveUpOldest_22 : decode cX5_giveUpOldest 22 = .ok (.iload_n 2, 1) := by decide +kernel
theorem dX5_giveUpOldest_23 : decode cX5_giveUpOldest 23 = .ok (.iconst 1, 1) := by decide +kernel
theorem dX5_giveUpOldest_24 : decode cX5_giveUpOldest 24 = .ok (.isub, 1) := by decide +kernel
theorem dX5_giveUpOldest_25 : decode cX5_giveUpOldest 25 = .ok (.aload_n 0, 1) := by decide +kernel
theorem dX5_giveUpOldest_26 : decode cX5_giveUpOldest 26 = .ok (.getfield 21, 3) := by decide +kernel
theorem dX5_giveUpOldest_29 : decode cX5_giveUpOldest 29 = .ok (.iload_n 2, 1) := by decide +kernel
theorem dX5_giveUpOldest_30 : decode cX5_giveUpOldest 30 = .ok (.aaload, 1) := by decide +kernel
theorem dX5_giveUpOldest_31 : decode cX5_giveUpOldest 31 = .ok (.aastore, 1) := by decide +kernel
theorem dX5_giveUpOldest_32 : decode cX5_giveUpOldest 32 = .ok (.iinc 2 1, 3) := by decide +kernel
theorem dX5_giveUpOldest_35 : decode cX5_giveUpOldest 35 = .ok (.goto (-26), 3) := by decide +kernel
theorem dX5_giveUpOldest_38 : decode cX5_giveUpOldest 38 = .ok (.aload_n 0, 1) := by decide +kernel
theorem dX5_giveUpOldest_39 : decode cX5_giveUpOldest 39 = .ok (.getfield 21, 3) := by decide +kernel
theorem dX5_giveUpOldest_42 : decode cX5_giveUpOldest 42 = .ok (.aload_n 0, 1) := by decide +kernel
theorem dX5_giveUpOldest_43 : decode cX5_giveUpOldest 43 = .ok (.getfield 21, 3) := by decide +kernel
theorem dX5_giveUpOldest_46 : decode cX5_giveUpOldest 46 = .ok (.arraylength, 1) := by decide +kernel
theorem dX5_giveUpOldest_47 : decode cX5_giveUpOldest 47 = .ok (.iconst 1, 1) := by decide +kernel
theorem dX5_giveUpOldest_48 : decode cX5_giveUpOldest 48 = .ok (.isub, 1) := by decide +kernel
theorem dX5_giveUpOldest_49 : decode cX5_giveUpOldest 49 = .ok (.aload_n 1, 1) := by decide +kernel
theorem dX5_giveUpOldest_50 : decode cX5_giveUpOldest 50 = .ok (.aastore, 1) := by decide +kernel
theorem dX5_giveUpOldest_51 : decode cX5_giveUpOldest 51 = .ok (.aload_n 0, 1) := by decide +kernel
theorem dX5_giveUpOldest_52 : decode cX5_giveUpOldest 52 = .ok (.dup, 1) := by decide +kernel
theorem dX5_giveUpOldest_53 : decode cX5_giveUpOldest 53 = .ok (.getfield 7, 3) := by decide +kernel
theorem dX5_giveUpOldest_56 : decode cX5_giveUpOldest 56 = .ok (.iconst 1, 1) := by decide +kernel
theorem dX5_giveUpOldest_57 : decode cX5_giveUpOldest 57 = .ok (.isub, 1) := by decide +kernel
theorem dX5_giveUpOldest_58 : decode cX5_giveUpOldest 58 = .ok (.putfield 7, 3) := by decide +kernel
theorem dX5_giveUpOldest_61 : decode cX5_giveUpOldest 61 = .ok (.return_, 1) := by decide +kernel
theorem hd_X5_giveUpOldest : yX5_giveUpOldest.cls = RX5 ∧ yX5_giveUpOldest.cls ≠ "java/lang/invoke/MethodHandle" ∧ yX5_giveUpOldest.cls ≠ "java/lang/invoke/VarHandle" ∧ (parseMethodDescriptor yX5_giveUpOldest.desc).map (fun d => d.parameters.length) = some 0 := by decide +kernel
abbrev rm_X5_giveUpOldest : Room := { frames := 0, cells := 0, slots := 0, locals := 0 }
def wp_X5_giveUpOldest_9 (K : HF → Prop) (s : Nat) (ln : Nat) (v1 : Nat) : Nat → HF → Int32 → Prop
  | 0 => fun _ _ => False
  | n9_ + 1 => fun F v2 => (((nI ln) ≤ v2) → ((vp_in ((nI ln) - (nI 1)) ln) ∧ (∀ F101 : HF, F101 = hup F (s + 1) ((nI ln) - (nI 1)).toNatClampNeg (nI v1) → (∀ F102 : HF, F102 = hup F101 s 1 ((F101 s 1) - (nI 1)) → (K F102))))) ∧ ((¬ (nI ln) ≤ v2) → ((vp_in v2 ln) ∧ ((F (s + 1) v2.toNatClampNeg).toNatClampNeg ∈ ntL) ∧ ((vp_in (v2 - (nI 1)) ln) ∧ (∀ F103 : HF, F103 = hup F (s + 1) (v2 - (nI 1)).toNatClampNeg (nI (F (s + 1) v2.toNatClampNeg).toNatClampNeg) → (wp_X5_giveUpOldest_9 K s ln v1 n9_ F103 (v2 + (nI 1)))))))
set_option maxRecDepth 100000 in
set_option maxHeartbeats 4000000 in
theorem k_X5_giveUpOldest_9 {p : Program} {l : Launch} {e : Env} {st₁ : State} {m : MethodId} {args : Array Value} {below : List Frame} {meth : Method} {c : Code} {D : va_G} {dA : Nat → ClassId} {ad : Nat → Nat} {R : List Nat} {A : Nat → Prop} {K : HF → Prop} {s : Nat} {ln : Nat} {v1 : Nat} (X : Cx p st₁ m args meth c cX5_giveUpOldest 3 RX5 D dA) (hA : ∀ q, st₁.heap.size ≤ q → A q) (hr : meth.sig.returnType = none) (hT : Sh R s ln) (hv1 : v1 ∈ ntL) : ∀ (n_ : Nat) (F : HF) (v2 : Int32), wp_X5_giveUpOldest_9 K s ln v1 n_ F v2 → J p l e rm_X5_giveUpOldest st₁ m args below meth c 3 D dA ad R A (QV D dA ad R A below args st₁ K) F 9 [(0, .ref (ad s)), (1, .ref (ad v1)), (2, .int v2)] [] := by
  intro n_
  induction n_ with
  | zero => intro F v2 h; exact h.elim
  | succ n_ ih =>
    intro F v2 h
    unfold wp_X5_giveUpOldest_9 at h
    refine r_iload_n (pc := 9) X 2 dX5_giveUpOldest_9 rfl rfl ?_
    refine r_aload_n (pc := 10) X 0 dX5_giveUpOldest_10 rfl rfl ?_
    refine fg_X5_21 (pc := 11) X hT.1 dX5_giveUpOldest_11 ?_
    refine r_alen (pc := 14) (v := (nI ln)) X (Or.inr (Or.inr hT.2.1)) rfl dX5_giveUpOldest_14 ?_
    refine r_icmp_ge (pc := 15) (tgt := 38) X dX5_giveUpOldest_15 (by decide) (fun hc => ?_) (fun hc => ?_)
    · replace h := h.1 hc
      refine r_aload_n (pc := 38) X 0 dX5_giveUpOldest_38 rfl rfl ?_
      refine fg_X5_21 (pc := 39) X hT.1 dX5_giveUpOldest_39 ?_
      refine r_aload_n (pc := 42) X 0 dX5_giveUpOldest_42 rfl rfl ?_
      refine fg_X5_21 (pc := 43) X hT.1 dX5_giveUpOldest_43 ?_
      refine r_alen (pc := 46) (v := (nI ln)) X (Or.inr (Or.inr hT.2.1)) rfl dX5_giveUpOldest_46 ?_
      refine r_iconst (pc := 47) (v := (nI 1)) X dX5_giveUpOldest_47 (by decide) ?_
      refine r_isub (pc := 48) X dX5_giveUpOldest_48 ?_
      refine r_aload_n (pc := 49) X 1 dX5_giveUpOldest_49 rfl rfl ?_
      refine r_aast (pc := 50) X hT.2.1 (hT.2.2 _ hv1).1 (nt_lt hv1) h.1 dX5_giveUpOldest_50 (fun F101 e1 => ?_)
      replace h := h.2 F101 e1
      refine r_aload_n (pc := 51) X 0 dX5_giveUpOldest_51 rfl rfl ?_
      refine r_dup (pc := 52) X dX5_giveUpOldest_52 rfl ?_
      refine fg_X5_7 (pc := 53) X hT.1 dX5_giveUpOldest_53 ?_
      refine r_iconst (pc := 56) (v := (nI 1)) X dX5_giveUpOldest_56 (by decide) ?_
      refine r_isub (pc := 57) X dX5_giveUpOldest_57 ?_
      refine fp_X5_7 (pc := 58) X hT.1 dX5_giveUpOldest_58 (fun F102 e1 => ?_)
      replace h := h F102 e1
      exact r_vret (pc := 61) X hr dX5_giveUpOldest_61 h
    · replace h := h.2 hc
      refine r_aload_n (pc := 18) X 0 dX5_giveUpOldest_18 rfl rfl ?_
      refine fg_X5_21 (pc := 19) X hT.1 dX5_giveUpOldest_19 ?_
      refine r_iload_n (pc := 22) X 2 dX5_giveUpOldest_22 rfl rfl ?_
      refine r_iconst (pc := 23) (v := (nI 1)) X dX5_giveUpOldest_23 (by decide) ?_
      refine r_isub (pc := 24) X dX5_giveUpOldest_24 ?_
      refine r_aload_n (pc := 25) X 0 dX5_giveUpOldest_25 rfl rfl ?_
      refine fg_X5_21 (pc := 26) X hT.1 dX5_giveUpOldest_26 ?_
      refine r_iload_n (pc := 29) X 2 dX5_giveUpOldest_29 rfl rfl ?_
      refine r_aald (pc := 30) X hT.2.1 h.1 dX5_giveUpOldest_30 ?_
      have hd2 := h.2.1
      replace h := h.2.2
      refine r_aast (pc := 31) X hT.2.1 (hT.2.2 _ hd2).1 (nt_lt hd2) h.1 dX5_giveUpOldest_31 (fun F103 e1 => ?_)
      replace h := h.2 F103 e1
      refine r_iinc (pc := 32) (v := (v2 + (nI 1))) X 2 [(2, .int (v2 + (nI 1))), (0, .ref (ad s)), (1, .ref (ad v1))] dX5_giveUpOldest_32 rfl rfl (by decide) rfl ?_
      refine r_goto (pc := 35) (tgt := 9) X dX5_giveUpOldest_35 (by decide) ?_
      refine r_sub [1, 2, 0] rfl ?_
      exact ih _ _ h
def wp_X5_giveUpOldest (K : HF → Prop) (F : HF) (s : Nat) (ln : Nat) : Prop := (vp_in (nI 0) ln) ∧ ((F (s + 1) (nI 0).toNatClampNeg).toNatClampNeg ∈ ntL) ∧ (∃ m_, wp_X5_giveUpOldest_9 K s ln (F (s + 1) (nI 0).toNatClampNeg).toNatClampNeg m_ F (nI 1))
set_option maxRecDepth 100000 in
set_option maxHeartbeats 4000000 in
theorem c_X5_giveUpOldest {l : Launch} {D : va_G} {dA : Nat → ClassId} {ad : Nat → Nat} {R : List Nat} {F : HF} {s : Nat} {ln : Nat} {K : HF → Prop} (hT : Sh R s ln) (h : wp_X5_giveUpOldest K F s ln) : MV l yX5_giveUpOldest cX5_giveUpOldest 3 rm_X5_giveUpOldest D dA ad R F [.ref (ad s)] K := by
  refine MV.of (own := RX5) (by decide) rfl (Nat.le_of_ble_eq_true rfl) ?_
  intro p e st₁ m args below meth c A hA X hr
  unfold wp_X5_giveUpOldest at h
  show J p l e rm_X5_giveUpOldest st₁ m args below meth c 3 D dA ad R A (QV D dA ad R A below args st₁ K) F 0 [(0, .ref (ad s))] []
  refine r_aload_n (pc := 0) X 0 dX5_giveUpOldest_0 rfl rfl ?_
  refine fg_X5_21 (pc := 1) X hT.1 dX5_giveUpOldest_1 ?_
  refine r_iconst (pc := 4) (v := (nI 0)) X dX5_giveUpOldest_4 (by decide) ?_
  refine r_aald (pc := 5) X hT.2.1 h.1 dX5_giveUpOldest_5 ?_
  have hd1 := h.2.1
  replace h := h.2.2
  refine r_astore_n (pc := 6) X [(1, .ref (ad (F (s + 1) (nI 0).toNatClampNeg).toNatClampNeg)), (0, .ref (ad s))] dX5_giveUpOldest_6 rfl (by decide) rfl ?_
  refine r_iconst (pc := 7) (v := (nI 1)) X dX5_giveUpOldest_7 (by decide) ?_
  refine r_istore_n (pc := 8) X [(2, .int (nI 1)), (1, .ref (ad (F (s + 1) (nI 0).toNatClampNeg).toNatClampNeg)), (0, .ref (ad s))] dX5_giveUpOldest_8 rfl (by decide) rfl ?_
  refine r_sub [2, 1, 0] rfl ?_
  obtain ⟨n1, h⟩ := h
  exact k_X5_giveUpOldest_9 X hA hr hT hd1  n1 _ _ h
theorem dX5_put_0 : decode cX5_put 0 = .ok (.aload_n 0, 1) := by decide +kernel
theorem dX5_put_1 : decode cX5_put 1 = .ok (.invokevirtual 28, 3) := by decide +kernel
theorem dX5_put_4 : decode cX5_put 4 = .ok (.ifCond .eq 7, 3) := by decide +kernel
theorem dX5_put_7 : decode cX5_put 7 = .ok (.aload_n 0, 1) := by decide +kernel
theorem dX5_put_8 : decode cX5_put 8 = .ok (.invokevirtual 32, 3) := by decide +kernel
theorem dX5_put_11 : decode cX5_put 11 = .ok (.aload_n 0, 1) := by decide +kernel
theorem dX5_put_12 : decode cX5_put 12 = .ok (.getfield 21, 3) := by decide +kernel
theorem dX5_put_15 : decode cX5_put 15 = .ok (.aload_n 0, 1) := by decide +kernel
theorem dX5_put_16 : decode cX5_put 16 = .ok (.getfield 7, 3) := by decide +kernel
theorem dX5_put_19 : decode cX5_put 19 = .ok (.aaload, 1) := by decide +kernel
theorem dX5_put_20 : decode cX5_put 20 = .ok (.aload_n 1, 1) := by decide +kernel
theorem dX5_put_21 : decode cX5_put 21 = .ok (.invokevirtual 35, 3) := by decide +kernel
theorem dX5_put_24 : decode cX5_put 24 = .ok (.aload_n 0, 1) := by decide +kernel
theorem dX5_put_25 : decode cX5_put 25 = .ok (.dup, 1) := by decide +kernel
theorem dX5_put_26 : decode cX5_put 26 = .ok (.getfield 7, 3) := by decide +kernel
theorem dX5_put_29 : decode cX5_put 29 = .ok (.iconst 1, 1) := by decide +kernel
theorem dX5_put_30 : decode cX5_put 30 = .ok (.iadd, 1) := by decide +kernel
theorem dX5_put_31 : decode cX5_put 31 = .ok (.putfield 7, 3) := by decide +kernel
theorem dX5_put_34 : decode cX5_put 34 = .ok (.return_, 1) := by decide +kernel
theorem hd_X5_put : yX5_put.cls = RX5 ∧ yX5_put.cls ≠ "java/lang/invoke/MethodHandle" ∧ yX5_put.cls ≠ "java/lang/invoke/VarHandle" ∧ (parseMethodDescriptor yX5_put.desc).map (fun d => d.parameters.length) = some 1 := by decide +kernel
abbrev rm_X5_put : Room := { frames := 3, cells := 0, slots := 0, locals := 90 }
def wp_X5_put_11 (K : HF → Prop) (s : Nat) (ln : Nat) (r1 : Nat) (F : HF) : Prop := (vp_in (F s 1) ln) ∧ ((F (s + 1) (F s 1).toNatClampNeg).toNatClampNeg ∈ ntL) ∧ (wp_X2_copyFrom (fun F102 => ∀ F103 : HF, F103 = hup F102 s 1 ((F102 s 1) + (nI 1)) → (K F103)) F (F (s + 1) (F s 1).toNatClampNeg).toNatClampNeg r1)
set_option maxRecDepth 100000 in
set_option maxHeartbeats 4000000 in
theorem k_X5_put_11 {p : Program} {l : Launch} {e : Env} {st₁ : State} {m : MethodId} {args : Array Value} {below : List Frame} {meth : Method} {c : Code} {D : va_G} {dA : Nat → ClassId} {ad : Nat → Nat} {R : List Nat} {A : Nat → Prop} {K : HF → Prop} {s : Nat} {ln : Nat} {r1 : Nat} (X : Cx p st₁ m args meth c cX5_put 2 RX5 D dA) (hA : ∀ q, st₁.heap.size ≤ q → A q) (hr : meth.sig.returnType = none) (hT : Sh R s ln) (hr1 : Nt R r1) : ∀ (F : HF), wp_X5_put_11 K s ln r1 F  → J p l e rm_X5_put st₁ m args below meth c 2 D dA ad R A (QV D dA ad R A below args st₁ K) F 11 [(0, .ref (ad s)), (1, .ref (ad r1))] [] := by
  intro F  h
  unfold wp_X5_put_11 at h
  refine r_aload_n (pc := 11) X 0 dX5_put_11 rfl rfl ?_
  refine fg_X5_21 (pc := 12) X hT.1 dX5_put_12 ?_
  refine r_aload_n (pc := 15) X 0 dX5_put_15 rfl rfl ?_
  refine fg_X5_7 (pc := 16) X hT.1 dX5_put_16 ?_
  refine r_aald (pc := 19) X hT.2.1 h.1 dX5_put_19 ?_
  have hd2 := h.2.1
  replace h := h.2.2
  refine r_aload_n (pc := 20) X 1 dX5_put_20 rfl rfl ?_
  refine r_callVV (pc := 21) (As := [.ref (ad r1)]) (st := []) X hA (c_X2_copyFrom (hT.2.2 _ hd2) hr1 h) g_X5_35 cl_X2 (hT.2.2 _ hd2).1 hd_X2_copyFrom rfl rfl rfl ⟨Nat.le_of_ble_eq_true rfl, Nat.le_of_ble_eq_true rfl⟩ rfl (Nat.le_of_ble_eq_true rfl) dX5_put_21 (fun F102 h => ?_)
  refine r_aload_n (pc := 24) X 0 dX5_put_24 rfl rfl ?_
  refine r_dup (pc := 25) X dX5_put_25 rfl ?_
  refine fg_X5_7 (pc := 26) X hT.1 dX5_put_26 ?_
  refine r_iconst (pc := 29) (v := (nI 1)) X dX5_put_29 (by decide) ?_
  refine r_iadd (pc := 30) X dX5_put_30 ?_
  refine fp_X5_7 (pc := 31) X hT.1 dX5_put_31 (fun F103 e1 => ?_)
  replace h := h F103 e1
  exact r_vret (pc := 34) X hr dX5_put_34 h
def wp_X5_put (K : HF → Prop) (F : HF) (s : Nat) (ln : Nat) (r1 : Nat) : Prop := wp_X5_isFull (fun x1 F1 => ((x1 = (nI 0)) → (wp_X5_put_11 K s ln r1  F1)) ∧ ((¬ x1 = (nI 0)) → (wp_X5_giveUpOldest (fun F104 => wp_X5_put_11 K s ln r1  F104) F1 s ln))) F s ln
set_option maxRecDepth 100000 in
set_option maxHeartbeats 4000000 in
theorem c_X5_put {l : Launch} {D : va_G} {dA : Nat → ClassId} {ad : Nat → Nat} {R : List Nat} {F : HF} {s : Nat} {ln : Nat} {r1 : Nat} {K : HF → Prop} (hT : Sh R s ln) (hr1 : Nt R r1) (h : wp_X5_put K F s ln r1) : MV l yX5_put cX5_put 2 rm_X5_put D dA ad R F [.ref (ad s), .ref (ad r1)] K := by
  refine MV.of (own := RX5) (by decide) rfl (Nat.le_of_ble_eq_true rfl) ?_
  intro p e st₁ m args below meth c A hA X hr
  unfold wp_X5_put at h
  show J p l e rm_X5_put st₁ m args below meth c 2 D dA ad R A (QV D dA ad R A below args st₁ K) F 0 [(0, .ref (ad s)), (1, .ref (ad r1))] []
  refine r_aload_n (pc := 0) X 0 dX5_put_0 rfl rfl ?_
  refine r_callIV (pc := 1) (As := []) (st := []) X hA (c_X5_isFull hT h) g_X5_28 cl_X5 hT.1 hd_X5_isFull rfl rfl rfl ⟨Nat.le_of_ble_eq_true rfl, Nat.le_of_ble_eq_true rfl⟩ rfl (Nat.le_of_ble_eq_true rfl) dX5_put_1 (fun x1 F1 h => ?_)
  refine r_if_eq (pc := 4) (tgt := 11) X dX5_put_4 (by decide) (fun hc => ?_) (fun hc => ?_)
  · replace h := h.1 hc
    exact k_X5_put_11 X hA hr hT hr1  _ h
  · replace h := h.2 hc
    refine r_aload_n (pc := 7) X 0 dX5_put_7 rfl rfl ?_
    refine r_callVV (pc := 8) (As := []) (st := []) X hA (c_X5_giveUpOldest hT h) g_X5_32 cl_X5 hT.1 hd_X5_giveUpOldest rfl rfl rfl ⟨Nat.le_of_ble_eq_true rfl, Nat.le_of_ble_eq_true rfl⟩ rfl (Nat.le_of_ble_eq_true rfl) dX5_put_8 (fun F104 h => ?_)
    exact k_X5_put_11 X hA hr hT hr1  _ h
theorem dX5_takeInto_0 : decode cX5_takeInto 0 = .ok (.aload_n 0, 1) := by decide +kernel
theorem dX5_takeInto_1 : decode cX5_takeInto 1 = .ok (.getfield 7, 3) := by decide +kernel
theorem dX5_takeInto_4 : decode cX5_takeInto 4 = .ok (.ifCond .gt 5, 3) := by decide +kernel
theorem dX5_takeInto_7 : decode cX5_takeInto 7 = .ok (.iconst 0, 1) := by decide +kernel
theorem dX5_takeInto_8 : decode cX5_takeInto 8 = .ok (.ireturn, 1) := by decide +kernel
theorem dX5_takeInto_9 : decode cX5_takeInto 9 = .ok (.aload_n 0, 1) := by decide +kernel
theorem dX5_takeInto_10 : decode cX5_takeInto 10 = .ok (.dup, 1) := by decide +kernel
theorem dX5_takeInto_11 : decode cX5_takeInto 11 = .ok (.getfield 7, 3) := by decide +kernel
theorem dX5_takeInto_14 : decode cX5_takeInto 14 = .ok (.iconst 1, 1) := by decide +kernel
theorem dX5_takeInto_15 : decode cX5_takeInto 15 = .ok (.isub, 1) := by decide +kernel
theorem dX5_takeInto_16 : decode cX5_takeInto 16 = .ok (.putfield 7, 3) := by decide +kernel
theorem dX5_takeInto_19 : decode cX5_takeInto 19 = .ok (.aload_n 1, 1) := by decide +kernel
theorem dX5_takeInto_20 : decode cX5_takeInto 20 = .ok (.aload_n 0, 1) := by decide +kernel
theorem dX5_takeInto_21 : decode cX5_takeInto 21 = .ok (.getfield 21, 3) := by decide +kernel
theorem dX5_takeInto_24 : decode cX5_takeInto 24 = .ok (.aload_n 0, 1) := by decide +kernel
theorem dX5_takeInto_25 : decode cX5_takeInto 25 = .ok (.getfield 7, 3) := by decide +kernel
theorem dX5_takeInto_28 : decode cX5_takeInto 28 = .ok (.aaload, 1) := by decide +kernel
theorem dX5_takeInto_29 : decode cX5_takeInto 29 = .ok (.invokevirtual 35, 3) := by decide +kernel
theorem dX5_takeInto_32 : decode cX5_takeInto 32 = .ok (.iconst 1, 1) := by decide +kernel
theorem dX5_takeInto_33 : decode cX5_takeInto 33 = .ok (.ireturn, 1) := by decide +kernel
theorem hd_X5_takeInto : yX5_takeInto.cls = RX5 ∧ yX5_takeInto.cls ≠ "java/lang/invoke/MethodHandle" ∧ yX5_takeInto.cls ≠ "java/lang/invoke/VarHandle" ∧ (parseMethodDescriptor yX5_takeInto.desc).map (fun d => d.parameters.length) = some 1 := by decide +kernel
abbrev rm_X5_takeInto : Room := { frames := 3, cells := 0, slots := 0, locals := 90 }
def wp_X5_takeInto (K : Int32 → HF → Prop) (F : HF) (s : Nat) (ln : Nat) (r1 : Nat) : Prop := (((nI 0) < (F s 1)) → (∀ F1 : HF, F1 = hup F s 1 ((F s 1) - (nI 1)) → ((vp_in (F1 s 1) ln) ∧ ((F1 (s + 1) (F1 s 1).toNatClampNeg).toNatClampNeg ∈ ntL) ∧ (wp_X2_copyFrom (fun F2 => K (nI 1) F2) F1 r1 (F1 (s + 1) (F1 s 1).toNatClampNeg).toNatClampNeg)))) ∧ ((¬ (nI 0) < (F s 1)) → (K (nI 0) F))
set_option maxRecDepth 100000 in
set_option maxHeartbeats 4000000 in
theorem c_X5_takeInto {l : Launch} {D : va_G} {dA : Nat → ClassId} {ad : Nat → Nat} {R : List Nat} {F : HF} {s : Nat} {ln : Nat} {r1 : Nat} {K : Int32 → HF → Prop} (hT : Sh R s ln) (hr1 : Nt R r1) (h : wp_X5_takeInto K F s ln r1) : MI l yX5_takeInto cX5_takeInto 2 .boolean rm_X5_takeInto D dA ad R F [.ref (ad s), .ref (ad r1)] K := by
  refine MI.of (own := RX5) (by decide) rfl (Nat.le_of_ble_eq_true rfl) ?_
  intro p e st₁ m args below meth c A hA X hr
  unfold wp_X5_takeInto at h
  show J p l e rm_X5_takeInto st₁ m args below meth c 2 D dA ad R A (QI D dA ad R A below args st₁ K) F 0 [(0, .ref (ad s)), (1, .ref (ad r1))] []
  refine r_aload_n (pc := 0) X 0 dX5_takeInto_0 rfl rfl ?_
  refine fg_X5_7 (pc := 1) X hT.1 dX5_takeInto_1 ?_
  refine r_if_gt (pc := 4) (tgt := 9) X dX5_takeInto_4 (by decide) (fun hc => ?_) (fun hc => ?_)
  · replace h := h.1 hc
    refine r_aload_n (pc := 9) X 0 dX5_takeInto_9 rfl rfl ?_
    refine r_dup (pc := 10) X dX5_takeInto_10 rfl ?_
    refine fg_X5_7 (pc := 11) X hT.1 dX5_takeInto_11 ?_
    refine r_iconst (pc := 14) (v := (nI 1)) X dX5_takeInto_14 (by decide) ?_
    refine r_isub (pc := 15) X dX5_takeInto_15 ?_
    refine fp_X5_7 (pc := 16) X hT.1 dX5_takeInto_16 (fun F1 e1 => ?_)
    replace h := h F1 e1
    refine r_aload_n (pc := 19) X 1 dX5_takeInto_19 rfl rfl ?_
    refine r_aload_n (pc := 20) X 0 dX5_takeInto_20 rfl rfl ?_
    refine fg_X5_21 (pc := 21) X hT.1 dX5_takeInto_21 ?_
    refine r_aload_n (pc := 24) X 0 dX5_takeInto_24 rfl rfl ?_
    refine fg_X5_7 (pc := 25) X hT.1 dX5_takeInto_25 ?_
    refine r_aald (pc := 28) X hT.2.1 h.1 dX5_takeInto_28 ?_
    have hd1 := h.2.1
    replace h := h.2.2
    refine r_callVV (pc := 29) (As := [.ref (ad (F1 (s + 1) (F1 s 1).toNatClampNeg).toNatClampNeg)]) (st := []) X hA (c_X2_copyFrom hr1 (hT.2.2 _ hd1) h) g_X5_35 cl_X2 hr1.1 hd_X2_copyFrom rfl rfl rfl ⟨Nat.le_of_ble_eq_true rfl, Nat.le_of_ble_eq_true rfl⟩ rfl (Nat.le_of_ble_eq_true rfl) dX5_takeInto_29 (fun F2 h => ?_)
    refine r_iconst (pc := 32) (v := (nI 1)) X dX5_takeInto_32 (by decide) ?_
    exact r_zret (pc := 33) X hr dX5_takeInto_33 nb1 h
  · replace h := h.2 hc
    refine r_iconst (pc := 7) (v := (nI 0)) X dX5_takeInto_7 (by decide) ?_
    exact r_zret (pc := 8) X hr dX5_takeInto_8 nb0 h
