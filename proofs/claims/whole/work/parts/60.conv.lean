/-! ===== from a world under construction to the world as numbers ===== -/
def GK (ad : Nat → Nat) (F : HF) (G : HG) (k : Nat) : Prop := (∀ n, kd k = (2, n) → ∀ j, j < n → G k j = some (ad (F k j).toNatClampNeg)) ∧ ∀ c x, kd k = (c + 3, x) → ∀ j, j < nf c → isr c j = true → G k j = some (ad (rfc c k j))
theorem GK_arr {ad : Nat → Nat} {F : HF} {G : HG} {k : Nat} (h : (kd k).1 ≤ 1) : GK ad F G k := ⟨fun n e => by rw [e] at h; exact absurd h (by simp), fun c x e => by rw [e] at h; exact absurd h (by simp)⟩
theorem GK_obj {ad : Nat → Nat} {F : HF} {G : HG} {k c : Nat} (hk : kd k = (c + 3, 0)) (h : ∀ j, j < nf c → isr c j = true → G k j = some (ad (rfc c k j))) : GK ad F G k := ⟨fun n e => by rw [hk] at e; exact absurd (congrArg Prod.fst e) (by simp), fun c' x e j hj => by
  rw [hk] at e
  have : c = c' := by have := congrArg Prod.fst e; simpa using this
  subst this
  exact h j hj⟩
theorem GK_nts {ad : Nat → Nat} {F : HF} {G : HG} {k n : Nat} (hk : kd k = (2, n)) (h : ∀ j, j < n → G k j = some (ad (F k j).toNatClampNeg)) : GK ad F G k := ⟨fun n' e => by
  rw [hk] at e
  have : n = n' := congrArg Prod.snd e
  subst this
  exact h, fun c x e => by rw [hk] at e; exact absurd (congrArg Prod.fst e) (by simp)⟩
theorem arrV_cong {cI : ClassId} {N : Nat} {f g : Nat → Value} (h : ∀ j, j < N → f j = g j) : arrV cI N f = arrV cI N g := by
  unfold arrV
  congr 1
  apply congrArg
  funext j
  exact h j.val j.isLt
theorem toL {D : va_G} {dA : Nat → ClassId} {ad : Nat → Nat} {R : List Nat} {F : HF} {G : HG} {H : Heap} (h : ∀ k, k ∈ R → GK ad F G k) (hP : va_P D clsL (wlG dA ad R F G) H) : va_P D clsL (wl dA ad R F) H := by
  intro i q hi
  cases hk : R[i]? with
  | none => simp [wl, hk] at hi
  | some k =>
    rw [wl_get hk] at hi
    have e := Option.some.inj hi
    subst e
    have h1 := hP i _ (wlG_get hk)
    obtain ⟨g1, g2⟩ := h k (List.mem_of_getElem? hk)
    unfold cellG cellGK at h1
    unfold cellE cellK
    split at h1
    · rename_i e; rw [e]; exact h1
    · rename_i e; rw [e]; exact h1
    · rename_i n e; rw [e]
      refine Eq.trans (show H[ad k]? = some (vp_cell (dA 2) (n, .inr (.inr (.inr (.inr (G k)))))) from h1) ?_
      show some (arrV (dA 2) n (fun j => va_rf (G k j))) = some (arrV (dA 2) n (fun j => va_rf (some (ad (F k j).toNatClampNeg))))
      rw [arrV_cong (fun j hj => by rw [g1 n e j hj])]
    · rename_i c x e; rw [e]
      have ef : fldG F G c k = fldL ad F c k := by
        unfold fldG fldL
        apply List.map_congr_left
        intro j hj
        by_cases hr : isr c j = true
        · rw [if_pos hr, if_pos hr, g2 c x e j (List.mem_range.mp hj) hr]; rfl
        · rw [if_neg hr, if_neg hr]
      rw [ef] at h1
      exact h1
theorem wl_map {dA : Nat → ClassId} {ad : Nat → Nat} {R : List Nat} {F : HF} {G : HG} : (wl dA ad R F).map (·.1) = (wlG dA ad R F G).map (·.1) := by simp [wl, wlG, Function.comp]
theorem toLD {dA : Nat → ClassId} {ad : Nat → Nat} {R : List Nat} {F : HF} {G : HG} {A : Nat → Prop} (hD : va_D A (wlG dA ad R F G)) : va_D A (wl dA ad R F) := by
  have at' : ∀ (k : Nat) (q : Nat × va_E), (wl dA ad R F)[k]? = some q → ∃ q2, (wlG dA ad R F G)[k]? = some q2 ∧ q2.1 = q.1 := by
    intro k q hk
    cases hr : R[k]? with
    | none => simp [wl, hr] at hk
    | some r =>
      rw [wl_get hr] at hk
      have e := Option.some.inj hk
      subst e
      exact ⟨_, wlG_get hr, rfl⟩
  refine ⟨fun i j p q hi hj e => ?_, fun k q hk => ?_⟩
  · obtain ⟨p2, hp2, e1⟩ := at' i p hi
    obtain ⟨q2, hq2, e2⟩ := at' j q hj
    exact hD.1 i j p2 q2 hp2 hq2 (by rw [e1, e2, e])
  · obtain ⟨q2, hq2, e2⟩ := at' k q hk
    rw [← e2]; exact hD.2 k q2 hq2
section GLS
variable {p : Program} {l : Launch} {e : Env} {Rm : Room} {s : State} {m : MethodId} {args : Array Value} {below : List Frame} {meth : Method} {c : Code} {nL : Nat} {D : va_G} {dA : Nat → ClassId} {ad : Nat → Nat} {R : List Nat} {A : Nat → Prop} {Q : State → Prop} {F : HF} {G : HG} {pc : Nat} {lv : List (Nat × Value)} {st : List Value} {cc : ByteArray} {own : String} {nc ns : Nat}
theorem m_toL (h : ∀ k, k ∈ R → GK ad F G k) (kk : JG nc ns p l e Rm s m args below meth c nL D (wl dA ad R F) A Q pc lv st) : JG nc ns p l e Rm s m args below meth c nL D (wlG dA ad R F G) A Q pc lv st := fun H locs ls hP hD hS hl => kk H locs ls (toL h hP) (toLD hD) hS hl
theorem s_ldc (X : Cx p s m args meth c cc nL own D dA) {ws : va_W} {tx : String} {index q : Nat} (hZ : vk_R own index tx q s) (hdg : decode cc pc = .ok (.ldc index, 2)) (kk : JG nc ns p l e Rm s m args below meth c nL D ws A Q (pc + 2) lv (.ref q :: st)) : JG nc ns p l e Rm s m args below meth c nL D ws A Q pc lv st := fun H locs ls hP hD hS hl =>
  va_ldcS X.1 X.2.1 X.2.2.2.1 hZ hdg (kk H locs ls hP hD hS hl)
theorem l_getR (X : Cx p s m args meth c cc nL own D dA) {k ci j N index t : Nat} {C ref : String} {T : u_T} {ty : Nat → FieldType} (hc : CLS ci C T N ty) (hj : j < N) (hi : isr ci j = true) (hw : Cond.fieldLink own index ref (T j).2.1 (T j).2.2.1 ∈ WB) (hsame : (T j).1 = ref) (ht : rfc ci k j = t) (hk : OB R k ci) (hdg : decode cc pc = .ok (.getfield index, 3)) (kk : JG nc ns p l e Rm s m args below meth c nL D (wl dA ad R F) A Q (pc + 3) lv (.ref (ad t) :: st)) : JG nc ns p l e Rm s m args below meth c nL D (wl dA ad R F) A Q pc lv (.ref (ad k) :: st) := by
  intro H locs ls hP hD hS hl
  subst ht
  obtain ⟨q0, hq⟩ := List.getElem?_of_mem hk.2
  refine va_get (C := C) (T := T) (N := N) X.1 X.2.1 X.2.2.2.2.1 hc.2.1 X.2.2.2.1 X.2.2.2.2.2.1 hP q0 ((wl_get hq).trans (by rw [cell_OB hk])) hc.1 j hj (X.2.2.2.2.1 _ hw) (fun x h => by rw [← hsame]; exact h) (fldL_getR (by rw [hc.2.2.1]; exact hj) hi) hdg (kk H locs ls hP hD hS hl)
theorem l_putI (X : Cx p s m args meth c cc nL own D dA) {k ci j N index : Nat} {C ref : String} {T : u_T} {ty : Nat → FieldType} {v : Int32} (hc : CLS ci C T N ty) (hj : j < N) (hi : isr ci j = false) (hw : Cond.fieldLink own index ref (T j).2.1 (T j).2.2.1 ∈ WB) (hsame : (T j).1 = ref) (hfin : (T j).2.2.2 = false) (hn : narrow (ty j) (.int v) = .int v) (hfit : fits (ty j) (.int v) = true) (hk : OB R k ci) (hdg : decode cc pc = .ok (.putfield index, 3)) (kk : ∀ F1 : HF, F1 = hup F k j v → JG nc ns p l e Rm s m args below meth c nL D (wl dA ad R F1) A Q (pc + 3) lv st) : JG nc ns p l e Rm s m args below meth c nL D (wl dA ad R F) A Q pc lv (.int v :: .ref (ad k) :: st) := by
  intro H locs ls hP hD hS hl
  obtain ⟨q0, hq⟩ := List.getElem?_of_mem hk.2
  have hset : ∀ e, e = Sum.inr (ci, (fldL ad F ci k).set j (.int v)) → (wl dA ad R F).set q0 (ad k, e) = wl dA ad R (hup F k j v) := by
    intro e he
    refine wl_set hD hq (fun i hi => hup_n F j v hi) ?_
    rw [cell_OB hk, fldL_set (by rw [hc.2.2.1]; exact hj) hi, he]
  refine va_put (C := C) (T := T) (N := N) (fs := fldL ad F ci k) (ty := ty j) X.1 X.2.1 X.2.2.2.2.1 hc.2.1 ty hc.2.2.2.1 hc.2.2.2.2 X.2.2.2.1 X.2.2.2.2.2.1 hP hD hS q0 ((wl_get hq).trans (by rw [cell_OB hk])) hc.1 j hj (X.2.2.2.2.1 _ hw) (fun x h => by rw [← hsame]; exact h) hfin (hc.2.2.2.1 j hj) hn hfit (by rw [show (fldL ad F ci k).length = nf ci by simp [fldL], hc.2.2.1]; exact hj) hdg ?_
  intro H1 locs1 hP1 hD1 hS1
  rw [hset _ rfl] at hP1 hD1
  exact kk _ rfl H1 locs1 ls hP1 hD1 hS1 hl
theorem l_iast (X : Cx p s m args meth c cc nL own D dA) {k n : Nat} {i x : Int32} (hk : IA R k n) (hin : vp_in i n) (hdg : decode cc pc = .ok (.iastore, 1)) (kk : ∀ F1 : HF, F1 = hup F k i.toNatClampNeg x → JG nc ns p l e Rm s m args below meth c nL D (wl dA ad R F1) A Q (pc + 1) lv st) : JG nc ns p l e Rm s m args below meth c nL D (wl dA ad R F) A Q pc lv (.int x :: .int i :: .ref (ad k) :: st) := by
  intro H locs ls hP hD hS hl
  obtain ⟨q0, hq⟩ := List.getElem?_of_mem hk.2
  refine va_iast X.1 X.2.1 X.2.2.2.2.2.1 hP hD hS q0 0 ((wl_get hq).trans (by rw [cell_IA hk])) rfl hin hdg ?_
  intro H1 locs1 hP1 hD1 hS1
  rw [wl_set (F' := hup F k i.toNatClampNeg x) hD hq (fun a ha => hup_n F _ _ ha) (by rw [cell_IA hk, hup_s])] at hP1 hD1
  exact kk _ rfl H1 locs1 ls hP1 hD1 hS1 hl
theorem l_callIV (X : Cx p s m args meth c cc nL own D dA) (hA : ∀ q, s.heap.size ≤ q → A q) {y : MethodName} {b : ByteArray} {n t ci np idx N : Nat} {rt : FieldType} {rm : Room} {As : List Value} {K : Int32 → HF → Prop} {C : String} {T : u_T} {ty : Nat → FieldType} {st0 : List Value} (hM : MI l y b n rt rm D dA ad R F (.ref (ad t) :: As) K) (hG : GoodIn WB (wsV own idx C y (Cond.code y b n (some rt) :: WB))) (hc : CLS ci C T N ty) (hk : OB R t ci) (hd : y.cls = C ∧ y.cls ≠ "java/lang/invoke/MethodHandle" ∧ y.cls ≠ "java/lang/invoke/VarHandle" ∧ (parseMethodDescriptor y.desc).map (fun d => d.parameters.length) = some np) (hnp : As.length = np) (hrc : rm.cells = 0) (hrs : rm.slots = 0) (hRm : rm.frames + 1 ≤ Rm.frames ∧ 8 + (n + 11) + rm.locals ≤ Rm.locals) (hf : nc ≤ Rm.cells ∧ ns ≤ Rm.slots) (hst : st0 = As.reverse ++ .ref (ad t) :: st) (hcat : (st.map fun v => v.category).sum ≤ 8) (hdg : decode cc pc = .ok (.invokevirtual idx, 3)) (kk : ∀ (r : Int32) (F1 : HF), K r F1 → JG nc ns p l e Rm s m args below meth c nL D (wl dA ad R F1) A Q (pc + 3) lv (.int r :: st)) : JG nc ns p l e Rm s m args below meth c nL D (wl dA ad R F) A Q pc lv st0 := by
  intro H locs ls hP hD hS hl
  subst hst
  obtain ⟨q0, hq⟩ := List.getElem?_of_mem hk.2
  have hFc := AN_in hD hS hA
  refine va_calli (va_runV (As := As) (rest := st) ⟨X.1, X.2.1, X.2.2.1, X.2.2.2.1, X.2.2.2.2.1⟩ (hM H.size) (cwV np X.2.2.2.2.1 hG rfl hrc hrs hd hRm) ⟨PreN_blind, va_recv X.2.2.2.2.2.1 hP hc.1 ((wl_get hq).trans (by rw [cell_OB hk])), fun U hU hW => ⟨rfl, by rw [hU], by rw [hU]; exact hP, va_K.moved hW.alike X.2.2.2.2.2.1, hD.weaken (fun _ _ _ _ => trivial)⟩⟩ rfl hnp hl.1 rfl (lv_room hcat) hdg hf) hS (fun q _ h => hFc q h) hFc ?_
  intro r u t' H1 locs1 ht hvm hw hB hz1 hk1 hS1
  refine kk r u hw H1 locs1 ls (by rw [← ht]; exact hB.1) (PostN_D hD hB.2.2 hFc) hS1 hl
theorem l_callVV (X : Cx p s m args meth c cc nL own D dA) (hA : ∀ q, s.heap.size ≤ q → A q) {y : MethodName} {b : ByteArray} {n t ci np idx N : Nat} {rm : Room} {As : List Value} {K : HF → Prop} {C : String} {T : u_T} {ty : Nat → FieldType} {st0 : List Value} (hM : MV l y b n rm D dA ad R F (.ref (ad t) :: As) K) (hG : GoodIn WB (wsV own idx C y (Cond.code y b n none :: WB))) (hc : CLS ci C T N ty) (hk : OB R t ci) (hd : y.cls = C ∧ y.cls ≠ "java/lang/invoke/MethodHandle" ∧ y.cls ≠ "java/lang/invoke/VarHandle" ∧ (parseMethodDescriptor y.desc).map (fun d => d.parameters.length) = some np) (hnp : As.length = np) (hrc : rm.cells = 0) (hrs : rm.slots = 0) (hRm : rm.frames + 1 ≤ Rm.frames ∧ 8 + (n + 11) + rm.locals ≤ Rm.locals) (hf : nc ≤ Rm.cells ∧ ns ≤ Rm.slots) (hst : st0 = As.reverse ++ .ref (ad t) :: st) (hcat : (st.map fun v => v.category).sum ≤ 8) (hdg : decode cc pc = .ok (.invokevirtual idx, 3)) (kk : ∀ (F1 : HF), K F1 → JG nc ns p l e Rm s m args below meth c nL D (wl dA ad R F1) A Q (pc + 3) lv st) : JG nc ns p l e Rm s m args below meth c nL D (wl dA ad R F) A Q pc lv st0 := by
  intro H locs ls hP hD hS hl
  subst hst
  obtain ⟨q0, hq⟩ := List.getElem?_of_mem hk.2
  have hFc := AN_in hD hS hA
  refine va_callv (va_runV (As := As) (rest := st) ⟨X.1, X.2.1, X.2.2.1, X.2.2.2.1, X.2.2.2.2.1⟩ (hM H.size) (cwV np X.2.2.2.2.1 hG rfl hrc hrs hd hRm) ⟨PreN_blind, va_recv X.2.2.2.2.2.1 hP hc.1 ((wl_get hq).trans (by rw [cell_OB hk])), fun U hU hW => ⟨rfl, by rw [hU], by rw [hU]; exact hP, va_K.moved hW.alike X.2.2.2.2.2.1, hD.weaken (fun _ _ _ _ => trivial)⟩⟩ rfl hnp hl.1 rfl (lv_room hcat) hdg hf) hS (fun q _ h => hFc q h) hFc ?_
  intro u t' H1 locs1 ht hvm hw hB hz1 hk1 hS1
  refine kk u hw H1 locs1 ls (by rw [← ht]; exact hB.1) (PostN_D hD hB.2.2 hFc) hS1 hl
end GLS
