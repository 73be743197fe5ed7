/-! ===== worlds under construction: references as addresses, or null ===== -/
abbrev HG : Type := Nat → Nat → Option Nat
def gst (G : HG) (k : Nat) (f : Nat → Option Nat) : HG := fun a => if a = k then f else G a
def gup (G : HG) (k j : Nat) (v : Option Nat) : HG := gst G k (va_up (G k) j v)
theorem gst_s (G : HG) (k : Nat) (f : Nat → Option Nat) : gst G k f k = f := by simp [gst]
theorem gst_n (G : HG) {k a : Nat} (f : Nat → Option Nat) (h : a ≠ k) : gst G k f a = G a := by simp [gst, h]
theorem gup_s (G : HG) (k j : Nat) (v : Option Nat) : gup G k j v k = va_up (G k) j v := gst_s G k _
theorem gup_n (G : HG) {k a : Nat} (j : Nat) (v : Option Nat) (h : a ≠ k) : gup G k j v a = G a := gst_n G _ h
theorem gup_at (G : HG) (k j : Nat) (v : Option Nat) (i : Nat) : gup G k j v k i = if i = j then v else G k i := by rw [gup_s]; rfl
def aup (ad : Nat → Nat) (k q : Nat) : Nat → Nat := fun a => if a = k then q else ad a
theorem aup_s (ad : Nat → Nat) (k q : Nat) : aup ad k q k = q := by simp [aup]
theorem aup_n (ad : Nat → Nat) {k a : Nat} (q : Nat) (h : a ≠ k) : aup ad k q a = ad a := by simp [aup, h]
def fldG (F : HF) (G : HG) (c k : Nat) : List Value := (List.range (nf c)).map (fun j => if isr c j = true then va_rf (G k j) else Value.int (F k j))
def cellGK (dA : Nat → ClassId) (F : HF) (G : HG) (k : Nat) (q : Nat × Nat) : va_E := match q with
  | (0, n) => .inl (dA 0, n, .inl (F k))
  | (1, n) => .inl (dA 1, n, .inl (F k))
  | (2, n) => .inl (dA 2, n, .inr (.inr (.inr (.inr (G k)))))
  | (c + 3, _) => .inr (c, fldG F G c k)
def cellG (dA : Nat → ClassId) (F : HF) (G : HG) (k : Nat) : va_E := cellGK dA F G k (kd k)
def wlG (dA : Nat → ClassId) (ad : Nat → Nat) (R : List Nat) (F : HF) (G : HG) : va_W := R.map (fun k => (ad k, cellG dA F G k))
theorem fldG_cong {F F' : HF} {G G' : HG} {c k : Nat} (h : F k = F' k) (hg : G k = G' k) : fldG F G c k = fldG F' G' c k := by simp [fldG, h, hg]
theorem cellG_cong {dA : Nat → ClassId} {F F' : HF} {G G' : HG} {k : Nat} (h : F k = F' k) (hg : G k = G' k) : cellG dA F G k = cellG dA F' G' k := by
  unfold cellG cellGK
  split <;> simp [h, hg, fldG_cong h hg]
theorem wlG_get {dA : Nat → ClassId} {ad : Nat → Nat} {R : List Nat} {F : HF} {G : HG} {q0 k : Nat} (h : R[q0]? = some k) : (wlG dA ad R F G)[q0]? = some (ad k, cellG dA F G k) := by simp [wlG, h]
theorem wlG_set {dA : Nat → ClassId} {ad : Nat → Nat} {R : List Nat} {F F' : HF} {G G' : HG} {A : Nat → Prop} {q0 k : Nat} {e : va_E} (hD : va_D A (wlG dA ad R F G)) (hq : R[q0]? = some k) (ho : ∀ j, j ≠ k → F' j = F j) (hg : ∀ j, j ≠ k → G' j = G j) (he : cellG dA F' G' k = e) : (wlG dA ad R F G).set q0 (ad k, e) = wlG dA ad R F' G' := by
  apply List.ext_getElem?
  intro i
  rw [List.getElem?_set]
  by_cases hi : q0 = i
  · subst hi
    have hlt : q0 < (wlG dA ad R F G).length := by
      have := (List.getElem?_eq_some_iff.mp hq).1
      simpa [wlG] using this
    simp [hlt, wlG_get hq, he]
  · simp only [hi, if_false]
    cases hj : R[i]? with
    | none => simp [wlG, hj]
    | some j =>
      have hne : j ≠ k := by
        intro e1
        subst e1
        exact hi (hD.1 q0 i _ _ (wlG_get hq) (wlG_get hj) rfl)
      rw [wlG_get hj, wlG_get hj, cellG_cong (ho j hne) (hg j hne)]
theorem wlG_push {dA : Nat → ClassId} {ad : Nat → Nat} {R : List Nat} {F F' : HF} {G G' : HG} {k q : Nat} {e : va_E} (hk : k ∉ R) (ho : ∀ j, j ≠ k → F' j = F j) (hg : ∀ j, j ≠ k → G' j = G j) (he : cellG dA F' G' k = e) : wlG dA ad R F G ++ [(q, e)] = wlG dA (aup ad k q) (R ++ [k]) F' G' := by
  unfold wlG
  rw [List.map_append, List.map_singleton, aup_s, he]
  congr 1
  apply List.map_congr_left
  intro j hj
  have hne : j ≠ k := fun e1 => hk (e1 ▸ hj)
  rw [aup_n ad q hne, cellG_cong (ho j hne) (hg j hne)]
theorem cellG_OB {dA : Nat → ClassId} {F : HF} {G : HG} {k c : Nat} (h : kd k = (c + 3, 0)) : cellG dA F G k = .inr (c, fldG F G c k) := by
  unfold cellG; rw [h]; rfl
theorem cellG_IA {dA : Nat → ClassId} {F : HF} {G : HG} {k n : Nat} (h : kd k = (0, n)) : cellG dA F G k = .inl (dA 0, n, .inl (F k)) := by
  unfold cellG; rw [h]; rfl
theorem cellG_CA {dA : Nat → ClassId} {F : HF} {G : HG} {k n : Nat} (h : kd k = (1, n)) : cellG dA F G k = .inl (dA 1, n, .inl (F k)) := by
  unfold cellG; rw [h]; rfl
theorem cellG_NA {dA : Nat → ClassId} {F : HF} {G : HG} {k n : Nat} (h : kd k = (2, n)) : cellG dA F G k = .inl (dA 2, n, .inr (.inr (.inr (.inr (G k))))) := by
  unfold cellG; rw [h]; rfl
theorem fldG_len {F : HF} {G : HG} {c k : Nat} : (fldG F G c k).length = nf c := by simp [fldG]
theorem fldG_getI {F : HF} {G : HG} {c k j : Nat} (hj : j < nf c) (h : isr c j = false) : (fldG F G c k)[j]? = some (.int (F k j)) := by
  simp [fldG, List.getElem?_map, List.getElem?_range hj, h]
theorem fldG_getR {F : HF} {G : HG} {c k j : Nat} (hj : j < nf c) (h : isr c j = true) : (fldG F G c k)[j]? = some (va_rf (G k j)) := by
  simp [fldG, List.getElem?_map, List.getElem?_range hj, h]
theorem fldG_setI {F : HF} {G : HG} {c k j : Nat} {v : Int32} (hj : j < nf c) (h : isr c j = false) : fldG (hup F k j v) G c k = (fldG F G c k).set j (.int v) := by
  apply List.ext_getElem?
  intro i
  rw [List.getElem?_set]
  by_cases hi : j = i
  · subst hi
    have hlt : j < (fldG F G c k).length := by rw [fldG_len]; exact hj
    rw [fldG_getI hj h, if_pos rfl, if_pos hlt, hup_s]; simp [upd]
  · simp only [hi, if_false]
    by_cases hl : i < nf c
    · have hne : ¬ i = j := fun e => hi e.symm
      by_cases hr : isr c i = true
      · rw [fldG_getR hl hr, fldG_getR hl hr]
      · have hr' : isr c i = false := by simpa using hr
        rw [fldG_getI hl hr', fldG_getI hl hr', hup_s]
        simp [upd, hne]
    · have h1 : (fldG (hup F k j v) G c k)[i]? = none := by simp [fldG]; omega
      have h2 : (fldG F G c k)[i]? = none := by simp [fldG]; omega
      rw [h1, h2]
theorem fldG_setR {F : HF} {G : HG} {c k j : Nat} {v : Option Nat} (hj : j < nf c) (h : isr c j = true) : fldG F (gup G k j v) c k = (fldG F G c k).set j (va_rf v) := by
  apply List.ext_getElem?
  intro i
  rw [List.getElem?_set]
  by_cases hi : j = i
  · subst hi
    have hlt : j < (fldG F G c k).length := by rw [fldG_len]; exact hj
    rw [fldG_getR hj h, if_pos rfl, if_pos hlt, gup_at, if_pos rfl]
  · simp only [hi, if_false]
    by_cases hl : i < nf c
    · have hne : ¬ i = j := fun e => hi e.symm
      by_cases hr : isr c i = true
      · rw [fldG_getR hl hr, fldG_getR hl hr, gup_at, if_neg hne]
      · have hr' : isr c i = false := by simpa using hr
        rw [fldG_getI hl hr', fldG_getI hl hr']
    · have h1 : (fldG F (gup G k j v) c k)[i]? = none := by simp [fldG]; omega
      have h2 : (fldG F G c k)[i]? = none := by simp [fldG]; omega
      rw [h1, h2]
section GW
variable {p : Program} {l : Launch} {e : Env} {Rm : Room} {s : State} {m : MethodId} {args : Array Value} {below : List Frame} {meth : Method} {c : Code} {nL : Nat} {D : va_G} {dA : Nat → ClassId} {ad : Nat → Nat} {R : List Nat} {A : Nat → Prop} {Q : State → Prop} {F : HF} {G : HG} {pc : Nat} {lv : List (Nat × Value)} {st : List Value} {cc : ByteArray} {own : String} {nc ns : Nat}
theorem m_new (X : Cx p s m args meth c cc nL own D dA) (hA : ∀ q, s.heap.size ≤ q → A q) (k : Nat) {ci N idx : Nat} {C : String} {T : u_T} {ty : Nat → FieldType} (hc : CLS ci C T N ty) (hw1 : Cond.classLink own idx C ∈ WB) (hw2 : Cond.instantiable C N ∈ WB) (hw3 : Cond.initialized C ∈ WB) (hkd : kd k = (ci + 3, 0)) (hk : k ∉ R) (hdf : ∀ j, j < N → defaultValue (ty j) = if isr ci j = true then .null else .int 0) (hcells : nc + 1 ≤ Rm.cells) (hslots : ns + N ≤ Rm.slots) (hdg : decode cc pc = .ok (.new idx, 3))
    (kk : ∀ (ad' : Nat → Nat) (F' : HF) (G' : HG), (∀ a, a ≠ k → ad' a = ad a) → F' = hst F k (fun _ => 0) → G' = gst G k (fun _ => none) → JG (nc + 1) (ns + N) p l e Rm s m args below meth c nL D (wlG dA ad' (R ++ [k]) F' G') A Q (pc + 3) lv (.ref (ad' k) :: st)) : JG nc ns p l e Rm s m args below meth c nL D (wlG dA ad R F G) A Q pc lv st := by
  intro H locs ls hP hD hS hl
  have hn := hc.2.2.1
  have hfs : ∀ j, j < N → defaultValue (ty j) = vp_V (fldG (hst F k (fun _ => 0)) (gst G k (fun _ => none)) ci k) j := by
    intro j hj
    unfold vp_V
    rw [hdf j hj, List.getD_eq_getElem?_getD]
    by_cases hr : isr ci j = true
    · rw [fldG_getR (by omega) hr, if_pos hr, gst_s]; rfl
    · rw [fldG_getI (by omega) (by simpa using hr), if_neg hr, hst_s]; rfl
  refine va_new (C := C) (T := T) (N := N) X.1 X.2.1 X.2.2.2.2.1 hc.2.1 ty hc.2.2.2.1 X.2.2.2.1 (X.2.2.2.2.1 _ hw1) (X.2.2.2.2.1 _ hw2) (X.2.2.2.2.1 _ hw3) X.2.2.2.2.2.1 hP hD hS hA hc.1 hfs hcells hslots hdg (fun q H1 hP1 hD1 hS1 => ?_)
  have e1 := wlG_push (dA := dA) (ad := ad) (R := R) (F := F) (F' := hst F k (fun _ => 0)) (G := G) (G' := gst G k (fun _ => none)) (q := q) hk (fun j hj => hst_n F _ hj) (fun j hj => gst_n G _ hj) (cellG_OB hkd)
  rw [e1] at hP1 hD1
  have := kk (aup ad k q) _ _ (fun a ha => aup_n ad q ha) rfl rfl H1 locs ls hP1 hD1 hS1 hl
  rw [aup_s] at this
  exact this
theorem m_newI (X : Cx p s m args meth c cc nL own D dA) (hA : ∀ q, s.heap.size ≤ q → A q) (k n : Nat) {v : Int32} (hv : v = nI n) (hn : n < 2 ^ 20) (hkd : kd k = (0, n)) (hk : k ∉ R) (hcells : nc + 1 ≤ Rm.cells) (hslots : ns + n ≤ Rm.slots) (hdg : decode cc pc = .ok (.newarray .int, 2))
    (kk : ∀ (ad' : Nat → Nat) (F' : HF), (∀ a, a ≠ k → ad' a = ad a) → F' = hst F k (fun _ => 0) → JG (nc + 1) (ns + n) p l e Rm s m args below meth c nL D (wlG dA ad' (R ++ [k]) F' G) A Q (pc + 2) lv (.ref (ad' k) :: st)) : JG nc ns p l e Rm s m args below meth c nL D (wlG dA ad R F G) A Q pc lv (.int v :: st) := by
  intro H locs ls hP hD hS hl
  subst hv
  refine va_newa (atype := .int) (ty := .int) (N' := n) (a0 := (n, .inl (fun _ => 0))) X.1 X.2.1 (X.2.2.2.2.1 _ (inWB 95 (by decide +kernel) (by decide +kernel))) rfl X.2.2.2.2.2.1 hP hD hS hA (fun _ => rfl) (nI_pos (by omega)) (nIcl (by omega)) (by show n * 4 ≤ _; omega) hcells hslots hdg (fun q cA H1 hK1 hP1 hD1 hS1 => ?_)
  have ec : cA = dA 0 := by
    have h1 : s.vm.findClass _ = some cA := (hK1.2 3 (cA, .int) rfl).2
    have h2 : s.vm.findClass _ = some (dA 0) := (X.2.2.2.2.2.1.2 0 (dA 0, .int) rfl).2
    exact Option.some.inj (h1.symm.trans h2)
  subst ec
  have e1 := wlG_push (dA := dA) (ad := ad) (R := R) (F := F) (F' := hst F k (fun _ => 0)) (G := G) (G' := G) (q := q) hk (fun j hj => hst_n F _ hj) (fun _ _ => rfl) (cellG_IA hkd)
  rw [hst_s] at e1
  rw [e1] at hP1 hD1
  have := kk (aup ad k q) _ (fun a ha => aup_n ad q ha) rfl H1 locs ls hP1 hD1 hS1 hl
  rw [aup_s] at this
  exact this
theorem m_newC (X : Cx p s m args meth c cc nL own D dA) (hA : ∀ q, s.heap.size ≤ q → A q) (k n : Nat) {v : Int32} (hv : v = nI n) (hn : n < 2 ^ 20) (hkd : kd k = (1, n)) (hk : k ∉ R) (hcells : nc + 1 ≤ Rm.cells) (hslots : ns + n ≤ Rm.slots) (hdg : decode cc pc = .ok (.newarray .char, 2))
    (kk : ∀ (ad' : Nat → Nat) (F' : HF), (∀ a, a ≠ k → ad' a = ad a) → F' = hst F k (fun _ => 0) → JG (nc + 1) (ns + n) p l e Rm s m args below meth c nL D (wlG dA ad' (R ++ [k]) F' G) A Q (pc + 2) lv (.ref (ad' k) :: st)) : JG nc ns p l e Rm s m args below meth c nL D (wlG dA ad R F G) A Q pc lv (.int v :: st) := by
  intro H locs ls hP hD hS hl
  subst hv
  refine va_newa (atype := .char) (ty := .char) (N' := n) (a0 := (n, .inl (fun _ => 0))) X.1 X.2.1 (X.2.2.2.2.1 _ (inWB 94 (by decide +kernel) (by decide +kernel))) rfl X.2.2.2.2.2.1 hP hD hS hA (fun _ => rfl) (nI_pos (by omega)) (nIcl (by omega)) (by show n * 2 ≤ _; omega) hcells hslots hdg (fun q cA H1 hK1 hP1 hD1 hS1 => ?_)
  have ec : cA = dA 1 := by
    have h1 : s.vm.findClass _ = some cA := (hK1.2 3 (cA, .char) rfl).2
    have h2 : s.vm.findClass _ = some (dA 1) := (X.2.2.2.2.2.1.2 1 (dA 1, .char) rfl).2
    exact Option.some.inj (h1.symm.trans h2)
  subst ec
  have e1 := wlG_push (dA := dA) (ad := ad) (R := R) (F := F) (F' := hst F k (fun _ => 0)) (G := G) (G' := G) (q := q) hk (fun j hj => hst_n F _ hj) (fun _ _ => rfl) (cellG_CA hkd)
  rw [hst_s] at e1
  rw [e1] at hP1 hD1
  have := kk (aup ad k q) _ (fun a ha => aup_n ad q ha) rfl H1 locs ls hP1 hD1 hS1 hl
  rw [aup_s] at this
  exact this
theorem m_newN (X : Cx p s m args meth c cc nL own D dA) (hO : va_AO RX2 s) (hA : ∀ q, s.heap.size ≤ q → A q) (k n : Nat) (f : Nat → Int32) {idx : Nat} {v : Int32} (hv : v = nI n) (hn : n < 2 ^ 20) (hw : Cond.classLink own idx RX2 ∈ WB) (hkd : kd k = (2, n)) (hk : k ∉ R) (hcells : nc + 1 ≤ Rm.cells) (hslots : ns + n ≤ Rm.slots) (hdg : decode cc pc = .ok (.anewarray idx, 3))
    (kk : ∀ (ad' : Nat → Nat) (F' : HF) (G' : HG), (∀ a, a ≠ k → ad' a = ad a) → F' = hst F k f → G' = gst G k (fun _ => none) → JG (nc + 1) (ns + n) p l e Rm s m args below meth c nL D (wlG dA ad' (R ++ [k]) F' G') A Q (pc + 3) lv (.ref (ad' k) :: st)) : JG nc ns p l e Rm s m args below meth c nL D (wlG dA ad R F G) A Q pc lv (.int v :: st) := by
  intro H locs ls hP hD hS hl
  subst hv
  refine va_newq (C := RX2) (N' := n) X.1 X.2.1 X.2.2.2.1 (X.2.2.2.2.1 _ hw) hO X.2.2.2.2.2.1 hP hD hS hA (nI_pos (by omega)) (nIcl (by omega)) (by omega) hcells hslots hdg (fun q cA H1 hK1 hP1 hD1 hS1 => ?_)
  have ec : cA = dA 2 := by
    obtain ⟨_, _, -, -, -, h1⟩ := (hK1.2 3 (cA, .object RX2) rfl).2
    obtain ⟨_, _, -, -, -, h2⟩ := (X.2.2.2.2.2.1.2 2 (dA 2, .object RX2) rfl).2
    exact Option.some.inj (h1.symm.trans h2)
  subst ec
  have e1 := wlG_push (dA := dA) (ad := ad) (R := R) (F := F) (F' := hst F k f) (G := G) (G' := gst G k (fun _ => none)) (q := q) hk (fun j hj => hst_n F _ hj) (fun j hj => gst_n G _ hj) (cellG_NA hkd)
  rw [gst_s] at e1
  rw [e1] at hP1 hD1
  have := kk (aup ad k q) _ _ (fun a ha => aup_n ad q ha) rfl rfl H1 locs ls hP1 hD1 hS1 hl
  rw [aup_s] at this
  exact this
theorem m_getR (X : Cx p s m args meth c cc nL own D dA) {k ci j N index t : Nat} {C ref : String} {T : u_T} {ty : Nat → FieldType} (hc : CLS ci C T N ty) (hj : j < N) (hi : isr ci j = true) (hw : Cond.fieldLink own index ref (T j).2.1 (T j).2.2.1 ∈ WB) (hsame : (T j).1 = ref) (hkd : kd k = (ci + 3, 0)) (hk : k ∈ R) {ak : Nat} (ha : ad k = ak) (ht : G k j = some t) (hdg : decode cc pc = .ok (.getfield index, 3)) (kk : JG nc ns p l e Rm s m args below meth c nL D (wlG dA ad R F G) A Q (pc + 3) lv (.ref t :: st)) : JG nc ns p l e Rm s m args below meth c nL D (wlG dA ad R F G) A Q pc lv (.ref ak :: st) := by
  subst ha
  intro H locs ls hP hD hS hl
  obtain ⟨q0, hq⟩ := List.getElem?_of_mem hk
  refine va_get (v := .ref t) (C := C) (T := T) (N := N) X.1 X.2.1 X.2.2.2.2.1 hc.2.1 X.2.2.2.1 X.2.2.2.2.2.1 hP q0 ((wlG_get hq).trans (by rw [cellG_OB hkd])) hc.1 j hj (X.2.2.2.2.1 _ hw) (fun x h => by rw [← hsame]; exact h) ((fldG_getR (by rw [hc.2.2.1]; exact hj) hi).trans (by rw [ht]; rfl)) hdg (kk H locs ls hP hD hS hl)
theorem m_putI (X : Cx p s m args meth c cc nL own D dA) {k ci j N index : Nat} {C ref : String} {T : u_T} {ty : Nat → FieldType} {v : Int32} (hc : CLS ci C T N ty) (hj : j < N) (hi : isr ci j = false) (hw : Cond.fieldLink own index ref (T j).2.1 (T j).2.2.1 ∈ WB) (hsame : (T j).1 = ref) (hfin : (T j).2.2.2 = false) (hn : narrow (ty j) (.int v) = .int v) (hfit : fits (ty j) (.int v) = true) (hkd : kd k = (ci + 3, 0)) (hk : k ∈ R) {ak : Nat} (ha : ad k = ak) (hdg : decode cc pc = .ok (.putfield index, 3)) (kk : ∀ F1 : HF, F1 = hup F k j v → JG nc ns p l e Rm s m args below meth c nL D (wlG dA ad R F1 G) A Q (pc + 3) lv st) : JG nc ns p l e Rm s m args below meth c nL D (wlG dA ad R F G) A Q pc lv (.int v :: .ref ak :: st) := by
  subst ha
  intro H locs ls hP hD hS hl
  obtain ⟨q0, hq⟩ := List.getElem?_of_mem hk
  have hset : ∀ e, e = Sum.inr (ci, (fldG F G ci k).set j (.int v)) → (wlG dA ad R F G).set q0 (ad k, e) = wlG dA ad R (hup F k j v) G := by
    intro e he
    refine wlG_set hD hq (fun i hi => hup_n F j v hi) (fun _ _ => rfl) ?_
    rw [cellG_OB hkd, fldG_setI (by rw [hc.2.2.1]; exact hj) hi, he]
  refine va_put (C := C) (T := T) (N := N) (fs := fldG F G ci k) (ty := ty j) X.1 X.2.1 X.2.2.2.2.1 hc.2.1 ty hc.2.2.2.1 hc.2.2.2.2 X.2.2.2.1 X.2.2.2.2.2.1 hP hD hS q0 ((wlG_get hq).trans (by rw [cellG_OB hkd])) hc.1 j hj (X.2.2.2.2.1 _ hw) (fun x h => by rw [← hsame]; exact h) hfin (hc.2.2.2.1 j hj) hn hfit (by rw [fldG_len, hc.2.2.1]; exact hj) hdg ?_
  intro H1 locs1 hP1 hD1 hS1
  rw [hset _ rfl] at hP1 hD1
  exact kk _ rfl H1 locs1 ls hP1 hD1 hS1 hl
theorem m_putR (X : Cx p s m args meth c cc nL own D dA) (hnm : meth.name = "<init>") {k ci j N index a : Nat} {C ref : String} {T : u_T} {ty : Nat → FieldType} (hc : CLS ci C T N ty) (hj : j < N) (hi : isr ci j = true) (hw : Cond.fieldLink own index ref (T j).2.1 (T j).2.2.1 ∈ WB) (hsame : (T j).1 = ref) (hfin : (T j).2.2.2 = true) (hdecl : (T j).1 = own) (hn : narrow (ty j) (.ref a) = .ref a) (hfit : fits (ty j) (.ref a) = true) (hkd : kd k = (ci + 3, 0)) (hk : k ∈ R) {ak : Nat} (ha : ad k = ak) (hdg : decode cc pc = .ok (.putfield index, 3)) (kk : ∀ G1 : HG, G1 = gup G k j (some a) → JG nc ns p l e Rm s m args below meth c nL D (wlG dA ad R F G1) A Q (pc + 3) lv st) : JG nc ns p l e Rm s m args below meth c nL D (wlG dA ad R F G) A Q pc lv (.ref a :: .ref ak :: st) := by
  subst ha
  intro H locs ls hP hD hS hl
  obtain ⟨q0, hq⟩ := List.getElem?_of_mem hk
  have hset : ∀ e, e = Sum.inr (ci, (fldG F G ci k).set j (.ref a)) → (wlG dA ad R F G).set q0 (ad k, e) = wlG dA ad R F (gup G k j (some a)) := by
    intro e he
    refine wlG_set hD hq (fun _ _ => rfl) (fun i hi => gup_n G j _ hi) ?_
    rw [cellG_OB hkd, fldG_setR (by rw [hc.2.2.1]; exact hj) hi, he]; rfl
  refine va_putF (C := C) (T := T) (N := N) (fs := fldG F G ci k) (ty := ty j) X.1 X.2.1 X.2.2.2.2.1 hc.2.1 ty hc.2.2.2.1 hc.2.2.2.2 X.2.2.2.1 X.2.2.2.2.2.1 hP hD hS q0 ((wlG_get hq).trans (by rw [cellG_OB hkd])) hc.1 j hj (X.2.2.2.2.1 _ hw) (fun x h => by rw [← hsame]; exact h) hfin hnm hdecl (hc.2.2.2.1 j hj) hn hfit (by rw [fldG_len, hc.2.2.1]; exact hj) hdg ?_
  intro H1 locs1 hP1 hD1 hS1
  rw [hset _ rfl] at hP1 hD1
  exact kk _ rfl H1 locs1 ls hP1 hD1 hS1 hl
theorem m_alen (X : Cx p s m args meth c cc nL own D dA) {k n : Nat} (hkd : kd k = (2, n)) (hk : k ∈ R) {ak : Nat} (ha : ad k = ak) (hdg : decode cc pc = .ok (.arraylength, 1)) (kk : JG nc ns p l e Rm s m args below meth c nL D (wlG dA ad R F G) A Q (pc + 1) lv (.int (nI n) :: st)) : JG nc ns p l e Rm s m args below meth c nL D (wlG dA ad R F G) A Q pc lv (.ref ak :: st) := by
  subst ha
  intro H locs ls hP hD hS hl
  obtain ⟨q0, hq⟩ := List.getElem?_of_mem hk
  exact va_alen X.1 X.2.1 X.2.2.2.2.2.1 hP q0 2 ((wlG_get hq).trans (by rw [cellG_NA hkd])) (ty := .object RX2) rfl (v := nI n) rfl hdg (kk H locs ls hP hD hS hl)
theorem m_aast (X : Cx p s m args meth c cc nL own D dA) {k n v : Nat} {i : Int32} (hkd : kd k = (2, n)) (hk : k ∈ R) (hvd : kd v = (2 + 3, 0)) (hv : v ∈ R) {ak av : Nat} (ha : ad k = ak) (hb : ad v = av) (hin : vp_in i n) (hdg : decode cc pc = .ok (.aastore, 1)) (kk : ∀ G1 : HG, G1 = gup G k i.toNatClampNeg (some av) → JG nc ns p l e Rm s m args below meth c nL D (wlG dA ad R F G1) A Q (pc + 1) lv st) : JG nc ns p l e Rm s m args below meth c nL D (wlG dA ad R F G) A Q pc lv (.ref av :: .int i :: .ref ak :: st) := by
  subst ha
  subst hb
  intro H locs ls hP hD hS hl
  obtain ⟨q0, hq⟩ := List.getElem?_of_mem hk
  obtain ⟨q1, hq1⟩ := List.getElem?_of_mem hv
  refine va_astq (r := (RX2, TX2, 6)) X.1 X.2.1 X.2.2.2.2.2.1 hP hD hS q0 2 q1 2 ((wlG_get hq).trans (by rw [cellG_NA hkd])) rfl ((wlG_get hq1).trans (by rw [cellG_OB hvd])) rfl hin hdg ?_
  intro H1 locs1 hP1 hD1 hS1
  have hset := wlG_set (F' := F) (G' := gup G k i.toNatClampNeg (some (ad v))) hD hq (fun _ _ => rfl) (fun j hj => gup_n G _ _ hj) (cellG_NA hkd)
  rw [gup_s] at hset
  rw [hset] at hP1 hD1
  exact kk _ rfl H1 locs1 ls hP1 hD1 hS1 hl
theorem m_objInit (X : Cx p s m args meth c cc nL own D dA) {ws : va_W} {idx a : Nat} (hw : Cond.methodLink own idx Lib.objectInit ∈ WB) (hf : 1 ≤ Rm.frames) (hst : (st.map fun v => v.category).sum + 12 ≤ Rm.locals) (hdg : decode cc pc = .ok (.invokespecial idx, 3)) (kk : JG nc ns p l e Rm s m args below meth c nL D ws A Q (pc + 3) lv st) : JG nc ns p l e Rm s m args below meth c nL D ws A Q pc lv (.ref a :: st) := by
  intro H locs ls hP hD hS hl
  refine W.objInit X.1 X.2.1 X.2.2.2.1 (X.2.2.2.2.1 _ hw) (X.2.2.2.2.1 _ (inWB 76 (by decide +kernel) (by decide +kernel))) (X.2.2.2.2.1 _ (inWB 77 (by decide +kernel) (by decide +kernel))) rfl (by rw [X.2.2.1]; exact hl.1) rfl hdg hf (by show 2 * 0 + _ + 12 ≤ _; omega) (kk H locs ls hP hD hS hl)
theorem m_mmax (X : Cx p s m args meth c cc nL own D dA) {ws : va_W} {index : Nat} {x y : Int32} (hw : Cond.methodLink own index Lib.Math.max.name ∈ WB) (hw2 : Cond.static Lib.Math.max.name ∈ WB) (hw3 : Cond.initialized "java/lang/Math" ∈ WB) (hw4 : Cond.code Lib.Math.max.name Lib.Math.max.code 2 (some .int) ∈ WB) (hf : 1 ≤ Rm.frames) (hst : (st.map fun v => v.category).sum + 13 ≤ Rm.locals) (hc : nc ≤ Rm.cells) (hs : ns ≤ Rm.slots) (hdg : decode cc pc = .ok (.invokestatic index, 3)) (kk : JG nc ns p l e Rm s m args below meth c nL D ws A Q (pc + 3) lv (.int (if x < y then y else x) :: st)) : JG nc ns p l e Rm s m args below meth c nL D ws A Q pc lv (.int y :: .int x :: st) := by
  intro H locs ls hP hD hS hl
  exact va_mmax X.1 X.2.1 (by rw [X.2.2.1]; exact hl.1.symm) X.2.2.2.1 (X.2.2.2.2.1 _ hw) (X.2.2.2.2.1 _ hw2) (X.2.2.2.2.1 _ hw3) (X.2.2.2.2.1 _ hw4) hf hst hc hs hdg (kk H locs ls hP hD hS hl)
/-- a contract of a constructor: the world before, what is behind it -/
abbrev AG (dA : Nat → ClassId) (ad : Nat → Nat) (R : List Nat) (F : HF) (G : HG) (sz : Nat) : Nat → Prop := va_A (wlG dA ad R F G) sz
def PreG (D : va_G) (dA : Nat → ClassId) (ad : Nat → Nat) (R : List Nat) (F : HF) (G : HG) (sz : Nat) (U : State) : Prop := U.heap.size = sz ∧ va_P D clsL (wlG dA ad R F G) U.heap ∧ va_K D clsL (tysL dA) U ∧ va_AO RX2 U ∧ va_D (fun _ => True) (wlG dA ad R F G)
abbrev UG : Type := (Nat → Nat) × List Nat × HF × HG
def PostG (D : va_G) (dA : Nat → ClassId) (A : Nat → Prop) (u : UG) (t : State) : Prop := va_P D clsL (wlG dA u.1 u.2.1 u.2.2.1 u.2.2.2) t.heap ∧ va_D A (wlG dA u.1 u.2.1 u.2.2.1 u.2.2.2)
def MK (l : Launch) (y : MethodName) (b : ByteArray) (n : Nat) (rm : Room) (mc ms : Nat) (D : va_G) (dA : Nat → ClassId) (ad : Nat → Nat) (R : List Nat) (F : HF) (G : HG) (av : List Value) (K : (Nat → Nat) → List Nat → HF → HG → Prop) : Prop :=
  ∀ sz : Nat, Met l y (Cond.code y b n none :: WB) rm (va_Pc av (PreG D dA ad R F G sz)) (va_Qv (fun u : UG => K u.1 u.2.1 u.2.2.1 u.2.2.2) (PostG D dA (AG dA ad R F G sz)) (AG dA ad R F G sz)) mc ms (AG dA ad R F G sz)
abbrev QK (D : va_G) (dA : Nat → ClassId) (A : Nat → Prop) (below : List Frame) (args : Array Value) (s : State) (mc ms : Nat) (K : (Nat → Nat) → List Nat → HF → HG → Prop) : State → Prop := MQ below (va_Qv (fun u : UG => K u.1 u.2.1 u.2.2.1 u.2.2.2) (PostG D dA A) A) args s mc ms A
theorem MK.of {y : MethodName} {b : ByteArray} {n mc ms : Nat} {rm : Room} {av : List Value} {K : (Nat → Nat) → List Nat → HF → HG → Prop} {own : String} (hy : plainName y.cls = true) (ho : own = y.cls) (hn : (lg_sl av).length ≤ n)
    (body : ∀ (p : Program) (e : Env) (s : State) (m : MethodId) (args : Array Value) (below : List Frame) (meth : Method) (c : Code) (A : Nat → Prop), (∀ q, s.heap.size ≤ q → A q) → Cx p s m args meth c b n own D dA → va_AO RX2 s → meth.name = y.name → meth.sig.returnType = none → JG 0 0 p l e rm s m args below meth c n D (wlG dA ad R F G) A (QK D dA A below args s mc ms K) 0 (lv_args 0 av) []) : MK l y b n rm mc ms D dA ad R F G av K := by
  intro sz
  refine Met.ofW (cc := b) (maxL := n) (ret := none) hy rfl ?_
  intro p e s m args below meth c s₁ B hml hv
  obtain ⟨rfl, hsz, hP, hK, hO, hD0⟩ := hv
  have hts := atoms_spec (ws := Cond.code y b n none :: WB) B.pre
  subst hsz
  have hD := hD0.self (sz := s.heap.size)
  rw [lg_entry_eq]
  have hown : s.vm.findClass own = some m.cls := by rw [ho]; exact findClass_of_methodNamed B.named
  exact body p e s m _ below meth c (AG dA ad R F G s.heap.size) (fun q h => Or.inr h) ⟨B.exec, B.bytes, hml, hown, fun w h => hts w (List.mem_cons_of_mem _ h), hK, B.notSynchronized⟩ hO (name_of_methodNamed B.named B.method).1 B.returns s.heap [] _ hP hD va_S.rf (lv_entry av hn)
theorem m_vret (X : Cx p s m args meth c cc nL own D dA) {K : (Nat → Nat) → List Nat → HF → HG → Prop} (hr : meth.sig.returnType = none) (hdg : decode cc pc = .ok (.return_, 1)) (h : K ad R F G) : JG nc ns p l e Rm s m args below meth c nL D (wlG dA ad R F G) A (QK D dA A below args s nc ns K) pc lv [] := fun H locs ls hP hD hS hl =>
  W.vret X.1 X.2.1 hr (fun t ht hW => ⟨⟨(ad, R, F, G), rfl, h, by rw [ht]; exact hP, hD⟩, hS.F ht⟩) hS.2.2 hdg X.2.2.2.2.2.2
theorem PreG_blind {sz : Nat} {av : List Value} : FrameBlind (va_Pc av (PreG D dA ad R F G sz)) := fun a U g mk q => by
  obtain ⟨q0, q1, qP, qK, qO, qD⟩ := q
  exact ⟨q0, q1, qP, va_K.moved (u := U) (U := U.calling g mk a) (Vm.Alike.refl U.vm) qK, va_AO.moved (u := U) (U := U.calling g mk a) (Vm.Alike.refl U.vm) qO, qD⟩
theorem AG_in {H0 H : Heap} {locs : List Loc} (hD : va_D A (wlG dA ad R F G)) (hS : va_S A H0 H locs) (hA : ∀ q, H0.size ≤ q → A q) : ∀ q, AG dA ad R F G H.size q → A q := by
  intro q h
  rcases h with ⟨k, e, h⟩ | h
  · exact hD.2 k (q, e) h
  · exact hA q (Nat.le_trans hS.1 h)
theorem m_callK (X : Cx p s m args meth c cc nL own D dA) (hO : va_AO RX2 s) (hA : ∀ q, s.heap.size ≤ q → A q) {y : MethodName} {b : ByteArray} {n t np idx mc ms : Nat} {rm : Room} {As : List Value} {K : (Nat → Nat) → List Nat → HF → HG → Prop} {st0 : List Value} (hM : MK l y b n rm mc ms D dA ad R F G (.ref t :: As) K) (hG : Cond.code y b n none ∈ WB) (hini : Cond.initialized y.cls ∈ WB) (hl1 : Cond.methodLink own idx y ∈ WB) (hin : Cond.instanceMethod y ∈ WB) (hy1 : y.name = "<init>") (hd : y.cls ≠ "java/lang/invoke/MethodHandle" ∧ y.cls ≠ "java/lang/invoke/VarHandle" ∧ (parseMethodDescriptor y.desc).map (fun d => d.parameters.length) = some np) (hnp : As.length = np) (hrc : rm.cells = mc) (hrs : rm.slots = ms) (hRm : rm.frames + 1 ≤ Rm.frames ∧ 8 + (n + 11) + rm.locals ≤ Rm.locals) (hf : nc + mc ≤ Rm.cells ∧ ns + ms ≤ Rm.slots) (hst : st0 = As.reverse ++ .ref t :: st) (hcat : (st.map fun v => v.category).sum ≤ 8) (hdg : decode cc pc = .ok (.invokespecial idx, 3))
    (kk : ∀ (ad' : Nat → Nat) (R' : List Nat) (F' : HF) (G' : HG), K ad' R' F' G' → JG (nc + mc) (ns + ms) p l e Rm s m args below meth c nL D (wlG dA ad' R' F' G') A Q (pc + 3) lv st) : JG nc ns p l e Rm s m args below meth c nL D (wlG dA ad R F G) A Q pc lv st0 := by
  intro H locs ls hP hD hS hl
  subst hst
  have hFc := AG_in hD hS hA
  refine va_callv (va_runI (As := As) (rest := st) ⟨X.1, X.2.1, X.2.2.1, X.2.2.2.1, X.2.2.2.2.1⟩ (hM H.size) (cwI np X.2.2.2.2.1 (gI hG) rfl hrc hrs (X.2.2.2.2.1 _ hini) (X.2.2.2.2.1 _ hl1) (X.2.2.2.2.1 _ hin) hy1 hd hRm) ⟨PreG_blind, fun U hU hW => ⟨rfl, by rw [hU], by rw [hU]; exact hP, va_K.moved hW.alike X.2.2.2.2.2.1, va_AO.moved hW.alike hO, hD.weaken (fun _ _ _ _ => trivial)⟩⟩ rfl hnp hl.1 rfl (lv_room hcat) hdg hf) hS (fun q _ h => hFc q h) hFc ?_
  intro u t' H1 locs1 ht hvm hw hB hz1 hk1 hS1
  exact kk u.1 u.2.1 u.2.2.1 u.2.2.2 hw H1 locs1 ls (by rw [← ht]; exact hB.1) ⟨hB.2.1, fun k q hk => hFc _ (hB.2.2 k q hk)⟩ hS1 hl
end GW
