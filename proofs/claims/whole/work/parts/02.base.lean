/-! ===== the heap as numbers: role, slot -> int; a role has a fixed kind, references are fixed by kind ===== -/
abbrev HF : Type := Nat → Nat → Int32
def hst (F : HF) (k : Nat) (f : Nat → Int32) : HF := fun a => if a = k then f else F a
def hup (F : HF) (k j : Nat) (v : Int32) : HF := hst F k (upd (F k) j v)
theorem hst_s (F : HF) (k : Nat) (f : Nat → Int32) : hst F k f k = f := by simp [hst]
theorem hst_n (F : HF) {k a : Nat} (f : Nat → Int32) (h : a ≠ k) : hst F k f a = F a := by simp [hst, h]
theorem hup_s (F : HF) (k j : Nat) (v : Int32) : hup F k j v k = upd (F k) j v := hst_s F k _
theorem hup_n (F : HF) {k a : Nat} (j : Nat) (v : Int32) (h : a ≠ k) : hup F k j v a = F a := hst_n F _ h
abbrev clsL : List vw_C := [(RX0, TX0, 5), (RX1, TX1, 10), (RX2, TX2, 6), (RX3, TX3, 3), (RX4, TX4, 6), (RX5, TX5, 2), (RX6, TX6, 11), (RX7, TX7, 33)]
/-- field kinds: 1 a reference, 0 an int, 2 a boolean -/
def fkL : List (List Nat) := [[1, 1, 1, 1, 0], [1, 1, 1, 1, 1, 0, 0, 0, 0, 0], [1, 1, 0, 0, 0, 2], [1, 1, 0], [1, 1, 1, 1, 0, 0], [1, 0], [1, 1, 1, 1, 1, 1, 1, 1, 1, 1, 0], [0, 1, 0, 1, 0, 0, 0, 0, 1, 1, 0, 0, 0, 0, 1, 0, 1, 0, 0, 0, 1, 1, 1, 0, 1, 0, 1, 0, 1, 1, 0, 1, 1]]
def isr (c j : Nat) : Bool := (fkL.getD c []).getD j 0 == 1
def nf (c : Nat) : Nat := (fkL.getD c []).length
def rfc (c k j : Nat) : Nat := match c with
  | 0 => (match j with | 0 => 4 | i + 1 => k + (i + 1))
  | 1 => k + (j + 1)
  | 2 => (match j with | 0 => 4 | _ => k + 1)
  | 3 => k + (j + 1)
  | 4 => (match j with | 0 => 4 | 1 => k + 1 | 2 => k + 5 | _ => k + 8)
  | 5 => k + 1
  | 6 => (match j with | 0 => 1 | 1 => 4 | 2 => 10 | 3 => 16 | 4 => 21 | 5 => 25 | 6 => 67 | 7 => 79 | 8 => 85 | _ => 86)
  | _ => k + j
def kdL : List (Nat × Nat) := [(9, 0), (6, 0), (1, 200), (0, 4), (4, 0), (0, 8), (0, 8), (0, 8), (0, 8), (0, 8), (4, 0), (0, 8), (0, 8), (0, 8), (0, 8), (0, 8), (5, 0), (3, 0), (0, 8), (0, 8), (0, 8), (3, 0), (0, 8), (0, 8), (0, 8), (8, 0), (2, 8), (5, 0), (3, 0), (0, 8), (0, 8), (0, 8), (5, 0), (3, 0), (0, 8), (0, 8), (0, 8), (5, 0), (3, 0), (0, 8), (0, 8), (0, 8), (5, 0), (3, 0), (0, 8), (0, 8), (0, 8), (5, 0), (3, 0), (0, 8), (0, 8), (0, 8), (5, 0), (3, 0), (0, 8), (0, 8), (0, 8), (5, 0), (3, 0), (0, 8), (0, 8), (0, 8), (5, 0), (3, 0), (0, 8), (0, 8), (0, 8), (8, 0), (2, 2), (5, 0), (3, 0), (0, 8), (0, 8), (0, 8), (5, 0), (3, 0), (0, 8), (0, 8), (0, 8), (7, 0), (3, 0), (0, 8), (0, 8), (0, 8), (0, 8), (0, 6), (0, 6), (0, 256), (99, 0), (99, 0), (99, 0), (99, 0), (99, 0), (99, 0), (99, 0), (99, 0), (99, 0), (99, 0), (99, 0), (99, 0), (10, 0), (0, 200), (99, 0), (0, 4), (99, 0), (99, 0), (99, 0), (99, 0), (0, 32), (0, 8), (99, 0), (99, 0), (99, 0), (99, 0), (0, 32), (99, 0), (0, 8), (99, 0), (99, 0), (99, 0), (0, 21), (0, 21), (0, 168), (99, 0), (0, 42), (99, 0), (0, 12), (99, 0), (0, 8), (0, 8), (99, 0), (0, 21), (0, 9)]
def kd (k : Nat) : Nat × Nat := kdL.getD k (99, 0)
def fldL (ad : Nat → Nat) (F : HF) (c k : Nat) : List Value := (List.range (nf c)).map (fun j => if isr c j = true then Value.ref (ad (rfc c k j)) else Value.int (F k j))
def cellK (dA : Nat → ClassId) (ad : Nat → Nat) (F : HF) (k : Nat) (q : Nat × Nat) : va_E := match q with
  | (0, n) => .inl (dA 0, n, .inl (F k))
  | (1, n) => .inl (dA 1, n, .inl (F k))
  | (2, n) => .inl (dA 2, n, .inr (.inr (.inr (.inr (fun j => some (ad (F k j).toNatClampNeg))))))
  | (c + 3, _) => .inr (c, fldL ad F c k)
def cellE (dA : Nat → ClassId) (ad : Nat → Nat) (F : HF) (k : Nat) : va_E := cellK dA ad F k (kd k)
def wl (dA : Nat → ClassId) (ad : Nat → Nat) (R : List Nat) (F : HF) : va_W := R.map (fun k => (ad k, cellE dA ad F k))
abbrev tysL (dA : Nat → ClassId) : List (ClassId × FieldType) := [(dA 0, .int), (dA 1, .char), (dA 2, .object RX2)]
theorem fldL_cong {ad : Nat → Nat} {F G : HF} {c k : Nat} (h : F k = G k) : fldL ad F c k = fldL ad G c k := by simp [fldL, h]
theorem cellE_cong {dA : Nat → ClassId} {ad : Nat → Nat} {F G : HF} {k : Nat} (h : F k = G k) : cellE dA ad F k = cellE dA ad G k := by
  unfold cellE cellK
  split <;> simp [h, fldL_cong h]
theorem wl_get {dA : Nat → ClassId} {ad : Nat → Nat} {R : List Nat} {F : HF} {q0 k : Nat} (h : R[q0]? = some k) : (wl dA ad R F)[q0]? = some (ad k, cellE dA ad F k) := by simp [wl, h]
theorem wl_set {dA : Nat → ClassId} {ad : Nat → Nat} {R : List Nat} {F F' : HF} {A : Nat → Prop} {q0 k : Nat} {e : va_E} (hD : va_D A (wl dA ad R F)) (hq : R[q0]? = some k) (ho : ∀ j, j ≠ k → F' j = F j) (he : cellE dA ad F' k = e) : (wl dA ad R F).set q0 (ad k, e) = wl dA ad R F' := by
  apply List.ext_getElem?
  intro i
  rw [List.getElem?_set]
  by_cases hi : q0 = i
  · subst hi
    have hlt : q0 < (wl dA ad R F).length := by
      have := (List.getElem?_eq_some_iff.mp hq).1
      simpa [wl] using this
    simp [hlt, wl_get hq, he]
  · simp only [hi, if_false]
    cases hj : R[i]? with
    | none => simp [wl, hj]
    | some j =>
      have hne : j ≠ k := by
        intro e1
        subst e1
        exact hi (hD.1 q0 i _ _ (wl_get hq) (wl_get hj) rfl)
      rw [wl_get hj, wl_get hj, cellE_cong (ho j hne)]
/-- an object of a class, an array of ints, of chars, of nights -/
def OB (R : List Nat) (k c : Nat) : Prop := kd k = (c + 3, 0) ∧ k ∈ R
def IA (R : List Nat) (k n : Nat) : Prop := kd k = (0, n) ∧ k ∈ R
def CA (R : List Nat) (k n : Nat) : Prop := kd k = (1, n) ∧ k ∈ R
def NA (R : List Nat) (k n : Nat) : Prop := kd k = (2, n) ∧ k ∈ R
theorem cell_OB {dA : Nat → ClassId} {ad : Nat → Nat} {R : List Nat} {F : HF} {k c : Nat} (h : OB R k c) : cellE dA ad F k = .inr (c, fldL ad F c k) := by
  unfold cellE; rw [h.1]; rfl
theorem cell_IA {dA : Nat → ClassId} {ad : Nat → Nat} {R : List Nat} {F : HF} {k n : Nat} (h : IA R k n) : cellE dA ad F k = .inl (dA 0, n, .inl (F k)) := by
  unfold cellE; rw [h.1]; rfl
theorem cell_CA {dA : Nat → ClassId} {ad : Nat → Nat} {R : List Nat} {F : HF} {k n : Nat} (h : CA R k n) : cellE dA ad F k = .inl (dA 1, n, .inl (F k)) := by
  unfold cellE; rw [h.1]; rfl
theorem cell_NA {dA : Nat → ClassId} {ad : Nat → Nat} {R : List Nat} {F : HF} {k n : Nat} (h : NA R k n) : cellE dA ad F k = .inl (dA 2, n, .inr (.inr (.inr (.inr (fun j => some (ad (F k j).toNatClampNeg)))))) := by
  unfold cellE; rw [h.1]; rfl
theorem fldL_getI {ad : Nat → Nat} {F : HF} {c k j : Nat} (hj : j < nf c) (h : isr c j = false) : (fldL ad F c k)[j]? = some (.int (F k j)) := by
  simp [fldL, List.getElem?_map, List.getElem?_range hj, h]
theorem fldL_getR {ad : Nat → Nat} {F : HF} {c k j : Nat} (hj : j < nf c) (h : isr c j = true) : (fldL ad F c k)[j]? = some (.ref (ad (rfc c k j))) := by
  simp [fldL, List.getElem?_map, List.getElem?_range hj, h]
theorem fldL_set {ad : Nat → Nat} {F : HF} {c k j : Nat} {v : Int32} (hj : j < nf c) (h : isr c j = false) : fldL ad (hup F k j v) c k = (fldL ad F c k).set j (.int v) := by
  apply List.ext_getElem?
  intro i
  rw [List.getElem?_set]
  by_cases hi : j = i
  · subst hi
    have hlt : j < (fldL ad F c k).length := by simpa [fldL] using hj
    simp [hlt, fldL_getI hj h, hup_s, upd]
  · simp only [hi, if_false]
    by_cases hl : i < nf c
    · have hne : ¬ i = j := fun e => hi e.symm
      by_cases hr : isr c i = true
      · rw [fldL_getR hl hr, fldL_getR hl hr]
      · have hr' : isr c i = false := by simpa using hr
        rw [fldL_getI hl hr', fldL_getI hl hr', hup_s]
        simp [upd, hne]
    · have h1 : (fldL ad (hup F k j v) c k)[i]? = none := by simp [fldL]; omega
      have h2 : (fldL ad F c k)[i]? = none := by simp [fldL]; omega
      rw [h1, h2]
/-! ===== the tables' words, all of them, for every method ===== -/
def WB : List Cond := lw_tbl.filter goodWord
theorem WB_good : GoodIn WB WB := fun w h => ⟨h, good_of_word (List.mem_filter.mp h).2⟩
theorem inWB {w : Cond} (i : Nat) (h : lw_tbl[i]? = some w) (hg : goodWord w = true) : w ∈ WB := List.mem_filter.mpr ⟨List.mem_of_getElem? h, hg⟩
theorem WB_tbl {w : Cond} (h : w ∈ WB) : w ∈ lw_tbl := (List.mem_filter.mp h).1
theorem WB_one {w : Cond} (h : w ∈ WB) : w ∈ WB ∧ ((w.onTables && w.keeps) = true ∨ ∃ ty, w = .arrayClass ty) := WB_good w h
theorem gV {own C : String} {i : Nat} {y : MethodName} {b : ByteArray} {n : Nat} {r : Option FieldType} (h1 : Cond.methodLink own i y ∈ WB) (h2 : Cond.instanceMethod y ∈ WB) (h3 : Cond.selects C y y ∈ WB) (h4 : Cond.initialized C ∈ WB) (h5 : Cond.code y b n r ∈ WB) : GoodIn WB (wsV own i C y (Cond.code y b n r :: WB)) := by
  intro w hw
  unfold wsV at hw
  rcases List.mem_append.mp hw with h | h
  · simp only [List.mem_cons, List.not_mem_nil, or_false] at h
    rcases h with rfl | rfl | rfl | rfl
    · exact WB_one h1
    · exact WB_one h2
    · exact WB_one h3
    · exact WB_one h4
  · rcases List.mem_cons.mp h with rfl | h
    · exact WB_one h5
    · exact WB_one h
theorem gS {own : String} {i : Nat} {y : MethodName} {b : ByteArray} {n : Nat} {r : Option FieldType} (h1 : Cond.methodLink own i y ∈ WB) (h2 : Cond.static y ∈ WB) (h4 : Cond.initialized own ∈ WB) (h5 : Cond.code y b n r ∈ WB) : GoodIn WB (wsS own i y (Cond.code y b n r :: WB)) := by
  intro w hw
  unfold wsS at hw
  rcases List.mem_append.mp hw with h | h
  · simp only [List.mem_cons, List.not_mem_nil, or_false] at h
    rcases h with rfl | rfl | rfl
    · exact WB_one h1
    · exact WB_one h2
    · exact WB_one h4
  · rcases List.mem_cons.mp h with rfl | h
    · exact WB_one h5
    · exact WB_one h
/-- a static method of another class -/
theorem gSx {own C : String} {i : Nat} {y : MethodName} {b : ByteArray} {n : Nat} {r : Option FieldType} (hC : y.cls = C) (h1 : Cond.methodLink own i y ∈ WB) (h2 : Cond.static y ∈ WB) (h4 : Cond.initialized C ∈ WB) (h5 : Cond.code y b n r ∈ WB) : GoodIn WB (va_wsS own i y (Cond.code y b n r :: WB)) := by
  intro w hw
  unfold va_wsS at hw
  rcases List.mem_append.mp hw with h | h
  · simp only [List.mem_cons, List.not_mem_nil, or_false] at h
    rcases h with rfl | rfl | rfl
    · exact WB_one h1
    · exact WB_one h2
    · rw [hC]; exact WB_one h4
  · rcases List.mem_cons.mp h with rfl | h
    · exact WB_one h5
    · exact WB_one h
theorem gI {y : MethodName} {b : ByteArray} {n : Nat} {r : Option FieldType} (h5 : Cond.code y b n r ∈ WB) : GoodIn WB (Cond.code y b n r :: WB) := by
  intro w hw
  rcases List.mem_cons.mp hw with rfl | h
  · exact WB_one h5
  · exact WB_one h
/-- a class of the world: its number, its words, its fields' types -/
def CLS (ci : Nat) (C : String) (T : u_T) (N : Nat) (ty : Nat → FieldType) : Prop := clsL[ci]? = some (C, T, N) ∧ (∀ w ∈ u_ws C T N, w ∈ WB) ∧ nf ci = N ∧ (∀ k, k < N → parseFieldDescriptor (T k).2.2.1 = some (ty k)) ∧ (∀ a, a < N → ∀ b, b < N → a ≠ b → (T a).2.1 ≠ (T b).2.1)
