/-! The rows lw_* below are the kit's skeleton, pasted as a starting text. -/
/-! THE CLAIM OUT OF ONE WALK OF THE LAW'S BODY. Your part is whole_start (and what it stands on); all else here is the same for every law, but numbers. -/
def R_law : String := "BirdBridgeLaw"
def lw_P (b : Addr) (xs : List Int32) (args : Array Value) (s : State) : Prop := args = #[.ref b] ∧ s.IntsAt b xs ∧ xs.length ≤ 2048 ∧ (Jvm.Cond.and given_1 narrow_1).before args s = true
def lw_Q (_ : Array Value) (s : State) (o : Outcome) (t : State) : Prop := o = .returned (some (.int 1)) ∧ Framed s o t [] 600000 7302250
def lw_Z (below : List Frame) (a : Array Value) (s : State) : State → Prop := fun t => ∃ o, t.status = .running ∧ Ended t below o ∧ lw_Q a s o t
/-- the law's own end, with 1 on the stack, nothing written that was there before, its room as the claim has it -/
theorem lw_ret {p : Program} {l : Launch} {e : Env} {s : State} {m : MethodId} {below : List Frame} {meth : Method} {c : Code} {b : Nat} (hx : p.tables.exec = Jvm.exec) (hb : c.code = code) (hr : meth.sig.returnType = ret) (hlocks : meth.locks = false) {pc : Nat} {H : Heap} {ls : Array Slot} (hdg : decode code pc = .ok (.ireturn, 1)) : W p l e room_1 s m #[Value.ref b] below meth c H [] 600000 7302250 (lw_Z below #[Value.ref b] s) (F0 m pc ls [.int 1]) := by
  intro T hT X
  obtain ⟨fs, hret, hrun, hended, hW, hframe⟩ := X.leave (v := some (.int 1)) (hlocks := hlocks) (fun h => by rw [hr] at h; cases h)
  have hmeth' : T.vm.method? m = some meth := X.method'
  refine ⟨T.setFrames fs, ?_, .returned (some (.int 1)), hrun, hended, rfl, ⟨_, rfl⟩, hW, hframe⟩
  jvm_step X.here [X.here.top, hx, hb, hdg, hmeth', hr, ret, narrow_b1]
  (try refine ⟨rfl, ?_⟩); (try refine ⟨rfl, ?_⟩)
  first | (intro acts; rw [hret _ acts rfl rfl rfl]) | rw [hret _ _ rfl rfl rfl]
  exact Steps.refl _
/-- what holds at the law's entry: the machine, the code, the tables' words (any of lw_tbl by 'hts w (by decide +kernel)'), the script of L ints xs at the cell b, what the Statement gives of the start (any of its parts by flat_of_before) -/
def lw_At (p : Program) (s : State) (m : MethodId) (meth : Method) (c : Code) (b L : Nat) (xs : Nat → Int32) : Prop :=
  p.tables.exec = Jvm.exec ∧ c.code = code ∧ meth.sig.returnType = ret ∧ c.maxLocals = 4 ∧ s.vm.findClass R_law = some m.cls ∧ (∀ w ∈ lw_tbl, w.before #[Value.ref b] s = true) ∧ va_X b L xs s s.heap ∧ b < s.heap.size ∧ meth.locks = false ∧ (Jvm.Cond.and given_1 narrow_1).before #[Value.ref b] s = true
/-! ===== the start of both ===== -/
theorem inv0 {F0 F : HF} (hc : IC F0) (hm : IM F0 F) : Inv 0 F := by
  obtain ⟨c1, c2, c3, c4, c5, c6, c7⟩ := hc
  obtain ⟨m1, m2, m3, m4, m5, m6, m7⟩ := hm
  refine ⟨dT, ok_dT, by rw [dT_n.1]; omega, ⟨c1.kept (m1 _ (by omega)) (m1 _ (by omega)) (m1 _ (by omega)) (m1 _ (by omega)) (m1 _ (by omega)) (m1 _ (by omega)), m3⟩, ⟨Nz0, Nz0_wf ok_dT, c2.kept (m1 _ (by omega)) (m1 _ (by omega)) (m1 _ (by omega)) (m1 _ (by omega)), m7⟩, ⟨0, _, _, c3.kept (fun a x y => m1 a (by omega)), ⟨m4, fun i hi => absurd hi (Nat.not_lt_zero i)⟩, fun i hi => absurd hi (Nat.not_lt_zero i)⟩, ⟨0, _, c4.kept (fun a x y => m1 a (by omega)), ⟨m5, fun i hi => absurd hi (Nat.not_lt_zero i)⟩, fun i hi => absurd hi (Nat.not_lt_zero i)⟩, ⟨0, fun _ => 0, fun _ => 0, by omega, by rw [m1 _ (by omega)]; exact c5, m6, fun i hi => absurd hi (Nat.not_lt_zero i)⟩, ⟨0, fun _ => 0, by omega, by rw [m1 _ (by omega)]; exact c6, m2, fun i hi => absurd hi (Nat.not_lt_zero i)⟩, Or.inl (by rw [m1 _ (by omega)]; exact c7)⟩
theorem inRB {k : Nat} (h : k < 88) : k ∈ RA := RA_RC k h
theorem Fl_RA {f : Nat} (hk : FlK f) (h : f + 5 < 88) : Fl RA f := ⟨⟨hk.1, inRB (by omega)⟩, ⟨hk.2.1, inRB (by omega)⟩, ⟨hk.2.2.1, inRB (by omega)⟩, ⟨hk.2.2.2.1, inRB (by omega)⟩, ⟨hk.2.2.2.2.1, inRB (by omega)⟩, ⟨hk.2.2.2.2.2, inRB (by omega)⟩⟩
theorem Br_RA {b : Nat} (hk : BrK b) (h : b + 3 < 88) : Br RA b := ⟨⟨hk.1, inRB (by omega)⟩, ⟨hk.2.1, inRB (by omega)⟩, ⟨hk.2.2.1, inRB (by omega)⟩, ⟨hk.2.2.2, inRB (by omega)⟩, Fl_RA ⟨rfl, rfl, rfl, rfl, rfl, rfl⟩ (by omega)⟩
theorem Nt_RA {n : Nat} (hk : NtK n) (h : n + 4 < 88) : Nt RA n := ⟨⟨hk.1, inRB (by omega)⟩, Br_RA hk.2 (by omega)⟩
theorem ntL_RA : ∀ r, r ∈ ntL → Nt RA r := by
  intro r h
  simp only [ntL, List.mem_cons, List.not_mem_nil, or_false] at h
  rcases h with rfl | rfl | rfl | rfl | rfl | rfl | rfl | rfl | rfl | rfl | rfl <;> exact Nt_RA ⟨rfl, rfl, rfl, rfl, rfl⟩ (by omega)
theorem BBr_RA : BBr RA := ⟨⟨rfl, inRB (by omega)⟩, ⟨⟨rfl, inRB (by omega)⟩, ⟨rfl, inRB (by omega)⟩, ⟨rfl, inRB (by omega)⟩⟩, Fl_RA ⟨rfl, rfl, rfl, rfl, rfl, rfl⟩ (by omega), Fl_RA ⟨rfl, rfl, rfl, rfl, rfl, rfl⟩ (by omega), Nt_RA ⟨rfl, rfl, rfl, rfl, rfl⟩ (by omega), Br_RA ⟨rfl, rfl, rfl, rfl⟩ (by omega), ⟨⟨rfl, inRB (by omega)⟩, ⟨rfl, inRB (by omega)⟩, ntL_RA⟩, ⟨⟨rfl, inRB (by omega)⟩, ⟨rfl, inRB (by omega)⟩, ntL_RA⟩, ⟨⟨rfl, inRB (by omega)⟩, Br_RA ⟨rfl, rfl, rfl, rfl⟩ (by omega), ⟨rfl, inRB (by omega)⟩, ⟨rfl, inRB (by omega)⟩⟩, ⟨rfl, inRB (by omega)⟩, ⟨rfl, inRB (by omega)⟩⟩
section LawRows
variable {p : Program} {l : Launch} {e : Env} {Rm : Room} {s : State} {m : MethodId} {args : Array Value} {below : List Frame} {meth : Method} {c : Code} {nL : Nat} {D : va_G} {dA : Nat → ClassId} {A : Nat → Prop} {Q : State → Prop} {pc : Nat} {lv : List (Nat × Value)} {st : List Value} {cc : ByteArray} {own : String} {ws : va_W} {nc ns : Nat} {b L : Nat} {xs : Nat → Int32}
theorem g_sld (X : Cx p s m args meth c cc nL own D dA) (hX : va_X b L xs s s.heap) (hbl : b < s.heap.size) (hbA : ¬ A b) {i : Int32} (hin : vp_in i L) (hdg : decode cc pc = .ok (.iaload, 1)) (kk : JG nc ns p l e Rm s m args below meth c nL D ws A Q (pc + 1) lv (.int (xs i.toNatClampNeg) :: st)) : JG nc ns p l e Rm s m args below meth c nL D ws A Q pc lv (.int i :: .ref b :: st) := fun H locs ls hP hD hS hl =>
  va_sld X.1 X.2.1 hX hbl hbA hS hin hdg (kk H locs ls hP hD hS hl)
theorem g_slen (X : Cx p s m args meth c cc nL own D dA) (hX : va_X b L xs s s.heap) (hbl : b < s.heap.size) (hbA : ¬ A b) (hdg : decode cc pc = .ok (.arraylength, 1)) (kk : JG nc ns p l e Rm s m args below meth c nL D ws A Q (pc + 1) lv (.int (nI L) :: st)) : JG nc ns p l e Rm s m args below meth c nL D ws A Q pc lv (.ref b :: st) := fun H locs ls hP hD hS hl =>
  va_slen X.1 X.2.1 hX hbl hbA hS hdg (kk H locs ls hP hD hS hl)
/-- the law's rows stand on these -/
def LX (p : Program) (s : State) (m : MethodId) (meth : Method) (c : Code) (D : va_G) (dA : Nat → ClassId) (b L : Nat) (xs : Nat → Int32) : Prop := Cx p s m #[Value.ref b] meth c code 4 RL D dA ∧ va_X b L xs s s.heap ∧ b < s.heap.size ∧ L ≤ 2048 ∧ meth.sig.returnType = ret
abbrev JL (p : Program) (l : Launch) (e : Env) (s : State) (m : MethodId) (below : List Frame) (meth : Method) (c : Code) (D : va_G) (dA : Nat → ClassId) (b : Nat) (ad : Nat → Nat) (F : HF) (pc i : Nat) : Prop := JG 104 1684 p l e room_1 s m #[Value.ref b] below meth c 4 D (wl dA ad RA F) (fun q => s.heap.size ≤ q) (lw_Z below #[Value.ref b] s) pc [(3, .int (nI i)), (2, .ref (ad 100)), (1, .ref (ad 0)), (0, .ref b)] []
end LawRows
