theorem z_71 : Cond.instantiable RX6 11 ∈ WB := inWB 71 (by decide +kernel) (by decide +kernel)
theorem z_842 : Cond.instantiable RX7 33 ∈ WB := inWB 842 (by decide +kernel) (by decide +kernel)
theorem z_841 : Cond.classLink RL 10 RX7 ∈ WB := inWB 841 (by decide +kernel) (by decide +kernel)
theorem z_845 : Cond.code yX7_init cX7_init 1 none ∈ WB := inWB 845 (by decide +kernel) (by decide +kernel)
theorem z_843 : Cond.methodLink RL 12 yX7_init ∈ WB := inWB 843 (by decide +kernel) (by decide +kernel)
theorem z_844 : Cond.instanceMethod yX7_init ∈ WB := inWB 844 (by decide +kernel) (by decide +kernel)
theorem z_70 : Cond.classLink RL 7 RX6 ∈ WB := inWB 70 (by decide +kernel) (by decide +kernel)
theorem z_74 : Cond.code yX6_init cX6_init 2 none ∈ WB := inWB 74 (by decide +kernel) (by decide +kernel)
theorem z_72 : Cond.methodLink RL 9 yX6_init ∈ WB := inWB 72 (by decide +kernel) (by decide +kernel)
theorem z_73 : Cond.instanceMethod yX6_init ∈ WB := inWB 73 (by decide +kernel) (by decide +kernel)
theorem arr_known {args : Array Value} {s : State} {ty : FieldType} (h : (Cond.arrayClass ty).before args s = true) : ∃ (cA : ClassId) (kA : Class) (comp : ClassId), s.vm.findClass ("[" ++ ty.toString) = some cA ∧ s.vm.classes[cA]? = some kA ∧ kA.kind = .array comp ty := by
  simp only [Cond.before, Cond.holds, Cond.value] at h
  cases h1 : s.vm.findClass ("[" ++ ty.toString) with
  | none => simp [h1] at h
  | some cA =>
    cases h2 : s.vm.classes[cA]? with
    | none => simp [h1, h2] at h
    | some kA =>
      simp only [h1, h2, Option.bind_some, Option.map_some] at h
      split at h
      · rename_i comp ty' hk
        have e : ty' = ty := by simpa using h
        subst e
        exact ⟨cA, kA, comp, rfl, h2, hk⟩
      · simp at h
section LawEnv
variable {p : Program} {s : State} {m : MethodId} {meth : Method} {c : Code} {b L : Nat} {xs : Nat → Int32}
set_option maxRecDepth 100000 in
set_option maxHeartbeats 4000000 in
theorem law_K (hwb : ∀ w ∈ WB, w.before #[Value.ref b] s = true) (hts : ∀ w ∈ lw_tbl, w.before #[Value.ref b] s = true) : ∃ (D : va_G) (dA : Nat → ClassId), va_K D clsL (tysL dA) s ∧ va_AO RX2 s := by
  obtain ⟨c0, i0, k0⟩ := u_known (C := RX0) (T := TX0) (N := 5) (n := 5) hwb iw_X0 (hwb _ z_144)
  obtain ⟨c1, i1, k1⟩ := u_known (C := RX1) (T := TX1) (N := 10) (n := 10) hwb iw_X1 (hwb _ z_97)
  obtain ⟨c2, i2, k2⟩ := u_known (C := RX2) (T := TX2) (N := 6) (n := 6) hwb iw_X2 (hwb _ z_138)
  obtain ⟨c3, i3, k3⟩ := u_known (C := RX3) (T := TX3) (N := 3) (n := 3) hwb iw_X3 (hwb _ z_79)
  obtain ⟨c4, i4, k4⟩ := u_known (C := RX4) (T := TX4) (N := 6) (n := 6) hwb iw_X4 (hwb _ z_206)
  obtain ⟨c5, i5, k5⟩ := u_known (C := RX5) (T := TX5) (N := 2) (n := 2) hwb iw_X5 (hwb _ z_187)
  obtain ⟨c6, i6, k6⟩ := u_known (C := RX6) (T := TX6) (N := 11) (n := 11) hwb iw_X6 (hwb _ z_71)
  obtain ⟨c7, i7, k7⟩ := u_known (C := RX7) (T := TX7) (N := 33) (n := 33) hwb iw_X7 (hwb _ z_842)
  obtain ⟨dC, dI, hKc⟩ : ∃ (dC : Nat → ClassId) (dI : Nat → Nat → Nat), ∀ (k : Nat) (q : vw_C), clsL[k]? = some q → u_Kn s q.1 q.2.1 q.2.2 (dC k) (dI k) := by
    refine ⟨fun k => if k = 0 then c0 else if k = 1 then c1 else if k = 2 then c2 else if k = 3 then c3 else if k = 4 then c4 else if k = 5 then c5 else if k = 6 then c6 else c7, fun k => if k = 0 then i0 else if k = 1 then i1 else if k = 2 then i2 else if k = 3 then i3 else if k = 4 then i4 else if k = 5 then i5 else if k = 6 then i6 else i7, ?_⟩
    intro k q hq
    match k, hq with
    | 0, hq => cases hq; exact k0
    | 1, hq => cases hq; exact k1
    | 2, hq => cases hq; exact k2
    | 3, hq => cases hq; exact k3
    | 4, hq => cases hq; exact k4
    | 5, hq => cases hq; exact k5
    | 6, hq => cases hq; exact k6
    | 7, hq => cases hq; exact k7
    | k + 8, hq => simp [clsL] at hq
  obtain ⟨a0, ka0, cm0, f0, g0, h0⟩ := arr_known (hwb (.arrayClass .int) (inWB 95 (by decide +kernel) (by decide +kernel)))
  obtain ⟨a1, ka1, cm1, f1, g1, h1⟩ := arr_known (hwb (.arrayClass .char) (inWB 94 (by decide +kernel) (by decide +kernel)))
  have hover : (Cond.arrayOver (.object RX2)).before #[Value.ref b] s = true := hts _ (List.mem_of_getElem? (i := 196) (by decide +kernel))
  obtain ⟨comp, a2, ka2, hcomp, hidx, g2, h2, f2⟩ := Cond.arrayOver_spec hover
  refine ⟨(dC, dI), fun k => if k = 0 then a0 else if k = 1 then a1 else a2, ⟨hKc, ?_⟩, va_AO.of hover⟩
  intro k q hq
  match k, hq with
  | 0, hq =>
    cases hq
    exact ⟨fun N z => ⟨(fun k h => by cases h), ka0, g0, cm0, h0⟩, f0⟩
  | 1, hq =>
    cases hq
    exact ⟨fun N z => ⟨(fun k h => by cases h), ka1, g1, cm1, h1⟩, f1⟩
  | 2, hq =>
    cases hq
    exact ⟨fun N z => ⟨(fun k h => by cases h), ka2, g2, comp, h2⟩, ka2, comp, g2, h2, hcomp, f2⟩
  | k + 3, hq => simp at hq
def tmS : Term := .string "BirdBridge" 72
def tmV : Term := .field tmS "java/lang/String" "value" "[B"
set_option maxRecDepth 100000 in
theorem fl_el : ∀ j, j < 68 → Cond.eq (.elem tmV (.int (Int32.ofNat j))) (.int (txB j)) ∈ flatC (Jvm.Cond.and given_1 narrow_1) := by decide +kernel
set_option maxRecDepth 100000 in
theorem fl_ex : Cond.exactly tmS "java/lang/String" ∈ flatC (Jvm.Cond.and given_1 narrow_1) := by decide +kernel
set_option maxRecDepth 100000 in
theorem fl_co : Cond.eq (.field tmS "java/lang/String" "coder" "B") (.int 0) ∈ flatC (Jvm.Cond.and given_1 narrow_1) := by decide +kernel
set_option maxRecDepth 100000 in
theorem fl_ar : Cond.arrayOf tmV .byte ∈ flatC (Jvm.Cond.and given_1 narrow_1) := by decide +kernel
set_option maxRecDepth 100000 in
theorem fl_le : Cond.eq (.length tmV) (.int (Int32.ofNat 68)) ∈ flatC (Jvm.Cond.and given_1 narrow_1) := by decide +kernel
set_option maxRecDepth 100000 in
theorem fl_cs : Cond.eq (.static "java/lang/String" "COMPACT_STRINGS" "Z") (.int 1) ∈ flatC (Jvm.Cond.and given_1 narrow_1) := by decide +kernel
set_option maxRecDepth 100000 in
theorem fl_si : Cond.isRef (.static "jdk/internal/util/Preconditions" "SIOOBE_FORMATTER" "Ljava/util/function/BiFunction;") ∈ flatC (Jvm.Cond.and given_1 narrow_1) := by decide +kernel
set_option maxRecDepth 100000 in
set_option maxHeartbeats 4000000 in
theorem law_S (hts : ∀ w ∈ lw_tbl, w.before #[Value.ref b] s = true) (hgv : (Jvm.Cond.and given_1 narrow_1).before #[Value.ref b] s = true) : ∃ (kS kV : Nat) (fv : Value), (fv = .null ∨ ∃ t, fv = .ref t) ∧ vk_R RX6 72 txS kS s ∧ va_Nw (.methodLinkNest RX6 9 yX3_init RX6) s ∧ SZ kS kV fv (fun q => s.heap.size ≤ q) s s.heap := by
  have hs := flat_of_before _ hgv
  have hA : ∀ a : Nat, a < s.heap.size → ¬ (fun q : Nat => s.heap.size ≤ q) a := fun a h => Nat.not_le.mpr h
  obtain ⟨a, c, cA, kA, q1, q2, q3, q4, q5, q6, -⟩ := Cond.exactly_spec (args := #[Value.ref b]) (first := s) (o := none) (s := s) (idx := []) (t := tmS) (cls := "java/lang/String") (hs _ fl_ex)
  obtain ⟨t, ht, hT⟩ := va_Tof (N := 68) (f := fun j => .int (txB j)) (A := fun q => s.heap.size ≤ q) (by omega) (hs _ fl_ar) (va_eqt (hs _ fl_le)) (fun j hj => va_eqt (hs _ (fl_el j hj))) hA
  have hZc := va_Zof (A := fun q => s.heap.size ≤ q) (hts (.laysStatic "java/lang/String" "COMPACT_STRINGS" "Z") (List.mem_of_getElem? (i := 242) (by decide +kernel))) (hts (.initialized "java/lang/String") (List.mem_of_getElem? (i := 64) (by decide +kernel))) (va_eqt (hs _ fl_cs)) hA
  have hZq := va_Zqof (A := fun q => s.heap.size ≤ q) (hts (.laysStatic "jdk/internal/util/Preconditions" "SIOOBE_FORMATTER" "Ljava/util/function/BiFunction;") (List.mem_of_getElem? (i := 258) (by decide +kernel))) (hts (.initialized "jdk/internal/util/Preconditions") (List.mem_of_getElem? (i := 66) (by decide +kernel))) (hs _ fl_si) hA
  have hR : vk_R RX6 72 txS a s := vk_R.of (hts (.stringRef RX6 72 txS) (List.mem_of_getElem? (i := 232) (by decide +kernel))) q1
  have hN : va_Nw (.methodLinkNest RX6 9 yX3_init RX6) s := va_Nw.of rfl (hts (.methodLinkNest RX6 9 yX3_init RX6) (List.mem_of_getElem? (i := 80) (by decide +kernel)))
  have base : ∀ fv, va_Z "jdk/internal/util/Preconditions" "SIOOBE_FORMATTER" "Ljava/util/function/BiFunction;" fv (fun q => s.heap.size ≤ q) s s.heap → SZ a t fv (fun q => s.heap.size ≤ q) s s.heap := fun fv hz => ⟨⟨cA, q3, q5, by rw [q6]; exact q2, hA a (Array.getElem?_eq_some_iff.mp q3).1⟩, vk_OFof q1 (va_eqt (hs _ fl_co)) hA, vk_OFof q1 ht hA, hT, hZc, hz⟩
  rcases hZq with h | ⟨t2, h⟩
  · exact ⟨a, t, .null, Or.inl rfl, hR, hN, base _ h⟩
  · exact ⟨a, t, .ref t2, Or.inr ⟨t2, rfl⟩, hR, hN, base _ h⟩
end LawEnv
def Gof (ad : Nat → Nat) (F : HF) : HG := fun k j => match kd k with
  | (2, _) => some (ad (F k j).toNatClampNeg)
  | (c + 3, _) => some (ad (rfc c k j))
  | _ => none
theorem Gof_GK (ad : Nat → Nat) (F : HF) (k : Nat) : GK ad F (Gof ad F) k := ⟨fun n e j _ => by simp only [Gof, e], fun c x e j _ _ => by simp only [Gof, e]⟩
theorem Gof_wl (dA : Nat → ClassId) (ad : Nat → Nat) (R : List Nat) (F : HF) : wlG dA ad R F (Gof ad F) = wl dA ad R F := by
  unfold wlG wl
  apply List.map_congr_left
  intro k _
  congr 1
  unfold cellG cellGK cellE cellK
  split
  · rename_i e; rw [e]
  · rename_i e; rw [e]
  · rename_i n e
    have : Gof ad F k = fun j => some (ad (F k j).toNatClampNeg) := by funext j; simp only [Gof, e]
    rw [e, this]
  · rename_i c x e
    rw [e]
    have : fldG F (Gof ad F) c k = fldL ad F c k := by
      unfold fldG fldL
      apply List.map_congr_left
      intro j _
      by_cases hr : isr c j = true
      · rw [if_pos hr, if_pos hr]
        have : Gof ad F k j = some (ad (rfc c k j)) := by simp only [Gof, e]
        rw [this]; rfl
      · rw [if_neg hr, if_neg hr]
    rw [this]
set_option maxRecDepth 100000 in
theorem kd2 : ∀ k, k < 88 → (kd k).1 = 2 → (k = 26 ∧ kd k = (2, 8)) ∨ (k = 68 ∧ kd k = (2, 2)) := by decide +kernel
section LawStart
variable {p : Program} {l : Launch} {e : Env} {s : State} {m : MethodId} {below : List Frame} {meth : Method} {c : Code} {D : va_G} {dA : Nat → ClassId} {b L : Nat} {xs : Nat → Int32}
set_option maxRecDepth 100000 in
set_option maxHeartbeats 4000000 in
theorem law_md (Z : LX p s m meth c D dA b L xs) {ad : Nat → Nat} {F : HF} (hc : IC F) : JG 88 1057 p l e room_1 s m #[Value.ref b] below meth c 4 D (wl dA ad RC F) (fun q => s.heap.size ≤ q) (lw_Z below #[Value.ref b] s) 8 [(1, .ref (ad 0)), (0, .ref b)] [] := by
  obtain ⟨X, hX, hbl, hL, hr⟩ := id Z
  have hA : ∀ q : Nat, s.heap.size ≤ q → (fun q : Nat => s.heap.size ≤ q) q := fun _ h => h
  rw [← Gof_wl]
  refine m_new X hA 100 cl_X7 z_841 z_842 z_68 rfl (fun g => absurd (RC_lt 100 g) (by omega)) (by decide) (Nat.le_of_ble_eq_true rfl) (Nat.le_of_ble_eq_true rfl) dL_law_8 (fun ad1 F1 G1 e1 f1 g1 => ?_)
  refine g_dup X dL_law_11 rfl ?_
  intro H locs ls hP hD hS hl
  have hFc := AG_in hD hS hA
  have hz : F1 100 0 = nI 0 := by rw [f1, hst_s]; exact nI_0.symm
  have fo : ∀ k, k < 100 → F1 k = F k := fun k hk => by rw [f1, hst_n _ _ (by omega)]
  have hN : ∀ k, k < 88 → ∀ n, kd k = (2, n) → ∀ j, j < n → (F k j).toNatClampNeg < 100 := by
    intro k hk n en j hj
    rcases kd2 k hk (by rw [en]) with ⟨rfl, e2⟩ | ⟨rfl, e2⟩
    · have : n = 8 := by rw [en] at e2; exact congrArg Prod.snd e2
      have h1 : F 26 j = nI (25 + 2 + 5 * j) := hc.2.2.1.2.2.1 j (by omega)
      rw [h1, nIcl (by omega)]; omega
    · have : n = 2 := by rw [en] at e2; exact congrArg Prod.snd e2
      have h1 : F 68 j = nI (67 + 2 + 5 * j) := hc.2.2.2.1.2.2.1 j (by omega)
      rw [h1, nIcl (by omega)]; omega
  have hG : ∀ k, k < 88 → GK ad1 F1 G1 k := fun k hk => (Gof_GK ad F k).tr hk (fo k (by omega)) (by rw [g1, gst_n _ _ (by omega)]) (fun r hr => e1 r (by omega)) (hN k hk)
  have hN1 : ∀ k, k < 88 → ∀ n, kd k = (2, n) → ∀ j, j < n → (F1 k j).toNatClampNeg < 100 := fun k hk n en j hj => by rw [fo k (by omega)]; exact hN k hk n en j hj
  refine va_callv (va_runI (As := []) (rest := [.ref (ad1 100)]) ⟨X.1, X.2.1, X.2.2.1, X.2.2.2.1, X.2.2.2.2.1⟩ (k_X7_init (K := fun ad2 F2 => (∀ k, k ≤ 100 → ad2 k = ad1 k) ∧ IM F1 F2) rfl hz hG hN1 (fun ad2 F2 h1 h2 => ⟨h1, h2⟩) H.size) (cwI 0 X.2.2.2.2.1 (gI z_845) rfl rfl rfl (X.2.2.2.2.1 _ z_68) (X.2.2.2.2.1 _ z_843) (X.2.2.2.2.1 _ z_844) rfl (by decide +kernel) ⟨Nat.le_of_ble_eq_true rfl, Nat.le_of_ble_eq_true rfl⟩) ⟨PreM_blind, fun U hU hW => ⟨rfl, by rw [hU], by rw [hU]; exact hP, va_K.moved hW.alike X.2.2.2.2.2.1, hD.weaken (fun _ _ _ _ => trivial)⟩⟩ rfl rfl hl.1 rfl (lv_room (Nat.le_of_ble_eq_true rfl)) dL_law_12 ⟨Nat.le_of_ble_eq_true rfl, Nat.le_of_ble_eq_true rfl⟩) hS (fun q _ h => hFc q h) hFc ?_
  intro u t' H1 locs1 ht hvm hw hB hz1 hk1 hS1
  obtain ⟨ad2, F2⟩ := u
  obtain ⟨ha, im⟩ := hw
  have a0 : ad2 0 = ad 0 := (ha 0 (by omega)).trans (e1 0 (by omega))
  have a100 : ad2 100 = ad1 100 := ha 100 (by omega)
  have hP1 : va_P D clsL (wl dA ad2 RA F2) H1 := by rw [← ht]; exact hB.1
  have hD1 : va_D (fun q : Nat => s.heap.size ≤ q) (wl dA ad2 RA F2) := ⟨hB.2.1, fun k q hk => hFc _ (hB.2.2 k q hk)⟩
  have J1 : JG 104 1684 p l e room_1 s m #[Value.ref b] below meth c 4 D (wl dA ad2 RA F2) (fun q => s.heap.size ≤ q) (lw_Z below #[Value.ref b] s) 15 [(1, .ref (ad 0)), (0, .ref b)] [.ref (ad1 100)] := by
    rw [← a0, ← a100]
    refine g_astore_n X [(2, .ref (ad2 100)), (1, .ref (ad2 0)), (0, .ref b)] dL_law_15 rfl (by decide) rfl ?_
    refine g_iconst X (v := nI 0) dL_law_16 (by decide) ?_
    refine g_istore_n X [(3, .int (nI 0)), (2, .ref (ad2 100)), (1, .ref (ad2 0)), (0, .ref b)] dL_law_17 rfl (by decide) rfl ?_
    exact law_loop Z 512 0 F2 (by omega) (by omega) (inv0 hc ⟨fun a ha => (im.1 a ha).trans (fo a ha), im.2⟩)
  exact J1 H1 locs1 ls hP1 hD1 hS1 hl
set_option maxRecDepth 100000 in
set_option maxHeartbeats 4000000 in
theorem law_bb (Z : LX p s m meth c D dA b L xs) (hO : va_AO RX2 s) {kS kV : Nat} {fv : Value} (hfv : fv = .null ∨ ∃ t, fv = .ref t) (hR : vk_R RX6 72 txS kS s) (hN : va_Nw (.methodLinkNest RX6 9 yX3_init RX6) s) (hZ : SZ kS kV fv (fun q => s.heap.size ≤ q) s s.heap) : JG 0 0 p l e room_1 s m #[Value.ref b] below meth c 4 D (wlG dA (fun _ => 0) [] (fun _ _ => 0) (fun _ _ => none)) (fun q => s.heap.size ≤ q) (lw_Z below #[Value.ref b] s) 0 [(0, .ref b)] [] := by
  obtain ⟨X, hX, hbl, hL, hr⟩ := id Z
  have hA : ∀ q : Nat, s.heap.size ≤ q → (fun q : Nat => s.heap.size ≤ q) q := fun _ h => h
  refine m_new X hA 0 cl_X6 z_70 z_71 z_56 rfl (by simp) (by decide) (Nat.le_of_ble_eq_true rfl) (Nat.le_of_ble_eq_true rfl) dL_law_0 (fun ad1 F1 G1 e1 f1 g1 => ?_)
  refine g_dup X dL_law_3 rfl ?_
  intro H locs ls hP hD hS hl
  have hFc := AG_in hD hS hA
  have hZH : SZ kS kV fv (AG dA ad1 [0] F1 G1 H.size) s H := (hZ.kept hS.2.1).narrow (fun q h => hFc q h)
  refine va_callv (va_runI (As := []) (rest := [.ref (ad1 0)]) ⟨X.1, X.2.1, X.2.2.1, X.2.2.2.1, X.2.2.2.2.1⟩ (k_X6_init (ad := ad1) (F := F1) (G := G1) (kS := kS) (kV := kV) (K := fun ad2 F2 => ad2 0 = ad1 0 ∧ IC F2) hfv rfl (fun ad2 F2 h1 h2 => ⟨h1, h2⟩) H.size) (cwI 0 X.2.2.2.2.1 (gI z_74) rfl rfl rfl (X.2.2.2.2.1 _ z_56) (X.2.2.2.2.1 _ z_72) (X.2.2.2.2.1 _ z_73) rfl (by decide +kernel) ⟨Nat.le_of_ble_eq_true rfl, Nat.le_of_ble_eq_true rfl⟩) ⟨PreB_blind, fun U hU hW => ⟨rfl, by rw [hU], by rw [hU]; exact hP, va_K.moved hW.alike X.2.2.2.2.2.1, va_AO.moved hW.alike hO, va_Nw.warmM hW hN, vk_R.warm hW hR, by rw [hU]; exact SZ.moved hW.alike hZH, hD.weaken (fun _ _ _ _ => trivial)⟩⟩ rfl rfl hl.1 rfl (lv_room (Nat.le_of_ble_eq_true rfl)) dL_law_4 ⟨Nat.le_of_ble_eq_true rfl, Nat.le_of_ble_eq_true rfl⟩) hS (fun q _ h => hFc q h) hFc ?_
  intro u t' H1 locs1 ht hvm hw hB hz1 hk1 hS1
  obtain ⟨ad2, F2⟩ := u
  obtain ⟨ha, ic⟩ := hw
  have hP1 : va_P D clsL (wl dA ad2 RC F2) H1 := by rw [← ht]; exact hB.1
  have hD1 : va_D (fun q : Nat => s.heap.size ≤ q) (wl dA ad2 RC F2) := ⟨hB.2.1, fun k q hk => hFc _ (hB.2.2 k q hk)⟩
  have J1 : JG 88 1057 p l e room_1 s m #[Value.ref b] below meth c 4 D (wl dA ad2 RC F2) (fun q => s.heap.size ≤ q) (lw_Z below #[Value.ref b] s) 7 [(0, .ref b)] [.ref (ad1 0)] := by
    have ha' : ad2 0 = ad1 0 := ha
    rw [← ha']
    refine g_astore_n X [(1, .ref (ad2 0)), (0, .ref b)] dL_law_7 rfl (by decide) rfl ?_
    exact law_md Z ic
  exact J1 H1 locs1 ls hP1 hD1 hS1 hl
end LawStart
