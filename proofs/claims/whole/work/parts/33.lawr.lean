/-! THE CLAIM OUT OF ONE WALK OF THE LAW'S BODY. Your part is whole_start (and what it stands on); all else here is the same for every law, but numbers. -/
def R_law : String := "IntervalRouterLaw"
def lw_P (b : Addr) (xs : List Int32) (args : Array Value) (s : State) : Prop := args = #[.ref b] ∧ s.IntsAt b xs ∧ xs.length ≤ 2560 ∧ (Jvm.Cond.and given_1 narrow_1).before args s = true
/-- what a walk over the start with the record d0 says of its end, said of the start itself -/
theorem lw_closed {s t : State} {o : Outcome} {d0 : Drawn} {L : List Loc} {k n : Nat} (hd0 : s.drawn.sameBut d0 lw_cs) (hv : ∃ v, o = .returned v) (hW : (s.setDrawn d0).WarmedH t.vm) (hs : (s.setDrawn d0).sameButNew ({ t with vm := s.vm } : State) L k n) : State.butDraws s t lw_cs (fun t1 => Framed s o t1 L k n) := by
  have h2 : t.drawn = d0 := congrArg State.drawn hs.1
  refine ⟨⟨hv, hW, State.sameButNew.setDrawn hs s.drawn⟩, ?_, by decide⟩
  rw [h2]
  exact hd0
def lw_Q (_ : Array Value) (s : State) (o : Outcome) (t : State) : Prop := o = .returned (some (.int 1)) ∧ State.butDraws s t lw_cs (fun t1 => Framed s o t1 [] 601024 7293034)
def lw_Z (below : List Frame) (a : Array Value) (s : State) : State → Prop := fun t => ∃ o, t.status = .running ∧ Ended t below o ∧ lw_Q a s o t
/-- the law's own end, with 1 on the stack, nothing written that was there before, its room as the claim has it; d0: the record of draws at this point (at the entry s.drawn: begin with 'refine W.base ?_' and 'have hd0 := Drawn.sameBut.refl s.drawn lw_cs') -/
theorem lw_ret {p : Program} {l : Launch} {e : Env} {s : State} {m : MethodId} {below : List Frame} {meth : Method} {c : Code} {b : Nat} {d0 : Drawn} (hd0 : s.drawn.sameBut d0 lw_cs) (hx : p.tables.exec = Jvm.exec) (hb : c.code = code) (hr : meth.sig.returnType = ret) (hlocks : meth.locks = false) {pc : Nat} {H : Heap} {ls : Array Slot} (hdg : decode code pc = .ok (.ireturn, 1)) : W p l e room_1 (s.setDrawn d0) m #[Value.ref b] below meth c H [] 601024 7293034 (lw_Z below #[Value.ref b] s) (F0 m pc ls [.int 1]) := by
  intro T hT X
  obtain ⟨fs, hret, hrun, hended, hW, hframe⟩ := X.leave (v := some (.int 1)) (hlocks := hlocks) (fun h => by rw [hr] at h; cases h)
  have hmeth' : T.vm.method? m = some meth := X.method'
  refine ⟨T.setFrames fs, ?_, .returned (some (.int 1)), hrun, hended, rfl, lw_closed hd0 ⟨_, rfl⟩ hW hframe⟩
  jvm_step X.here [X.here.top, hx, hb, hdg, hmeth', hr, ret, narrow_b1]
  (try refine ⟨rfl, ?_⟩); (try refine ⟨rfl, ?_⟩)
  first | (intro acts; rw [hret _ acts rfl rfl rfl]) | rw [hret _ _ rfl rfl rfl]
  exact Steps.refl _
/-- what holds at the law's entry: the machine, the code, the tables' words (any of lw_tbl by 'hts w (by decide +kernel)'), the script of L ints xs at the cell b, what the Statement gives of the start (any of its parts by flat_of_before) -/
def lw_At (p : Program) (s : State) (m : MethodId) (meth : Method) (c : Code) (b L : Nat) (xs : Nat → Int32) : Prop :=
  p.tables.exec = Jvm.exec ∧ c.code = code ∧ meth.sig.returnType = ret ∧ c.maxLocals = 9 ∧ s.vm.findClass R_law = some m.cls ∧ (∀ w ∈ lw_tbl, w.before #[Value.ref b] s = true) ∧ va_X b L xs s s.heap ∧ b < s.heap.size ∧ meth.locks = false ∧ (Jvm.Cond.and given_1 narrow_1).before #[Value.ref b] s = true
/-- the script, below the base -/
def Scr (G : gC) (X : gX) (b N : Nat) (zs : Int → Int) (L : Int) : Prop := match X with
  | (p, l, e, R, s, m, args, below, meth, c, Q) => ∃ xs : Nat → Int32, va_X b N xs s s.heap ∧ b < s.heap.size ∧ ¬ gA G b ∧ L = (N : Int) ∧ N < 2147483648 ∧ ∀ i : Int, zs i = (xs i.toNat).toInt
def LawRet (X : gX) : Prop := match X with
  | (p, l, e, R, s, m, args, below, meth, c, Q) => R = room_1
def LawEnd (G : gC) (X : gX) (b : Nat) : Prop := match X with
  | (p, l, e, R, s, m, args, below, meth, c, Q) => s.heap.size = G.2.2 ∧ args = #[Value.ref b] ∧ ∃ s0 : State, s = s0.setDrawn s0.drawn ∧ Q = lw_Z below #[Value.ref b] s0
section GoLaw
variable {G : gC} {X : gX} {cc : ByteArray} {nL fr mc ms kc ks pc : Nat} {own : String} {rt : Option FieldType} {tb : List ExceptionTableEntry} {ls : List (Option Value)} {st : List Value} {I : Heap → Prop} {M : Mem} {b N : Nat} {zs : Int → Int} {L : Int}
theorem go_slen (hscr : Scr G X b N zs L) (C : Cx G X cc nL own fr mc ms rt tb) (d : decode cc pc = .ok (.arraylength, 1)) (k : GoI G X nL kc ks (pc + 1) ls (.int (iI L) :: st) I) : GoI G X nL kc ks pc ls (.ref b :: st) I := by
  obtain ⟨p, l, e, R, s, m, args, below, meth, c, Q⟩ := X
  intro H locs la hP hS hl
  obtain ⟨xs, h1, h2, h3, h4, h5, h6⟩ := hscr
  subst h4
  exact va_slen C.1 C.2.1 h1 h2 h3 hS d (k H locs la hP hS hl)
theorem go_sld {i : Int} (hscr : Scr G X b N zs L) (C : Cx G X cc nL own fr mc ms rt tb) (d : decode cc pc = .ok (.iaload, 1)) (hi : 0 ≤ i ∧ i < L) (k : GoI G X nL kc ks (pc + 1) ls (.int (iI (zs i)) :: st) I) : GoI G X nL kc ks pc ls (.int (iI i) :: .ref b :: st) I := by
  obtain ⟨p, l, e, R, s, m, args, below, meth, c, Q⟩ := X
  intro H locs la hP hS hl
  obtain ⟨xs, h1, h2, h3, h4, h5, h6⟩ := hscr
  subst h4
  have hz : (iI i).toNatClampNeg = i.toNat := by have := cl_eq (in_R h5 hi) hi.1; omega
  refine va_sld C.1 C.2.1 h1 h2 h3 hS (cl_in h5 hi) d ?_
  rw [hz, ← iI_of (xs i.toNat), ← h6 i]
  exact k H locs la hP hS hl
theorem go_tabIn {dflt lo hi : Int} {offs : Array Int} {len : Nat} {z : Int} {j : Int} {off : Int} {tgt : Nat} (C : Cx G X cc nL own fr mc ms rt tb) (d : decode cc pc = .ok (.tableswitch dflt lo hi offs, len)) (hz : z = j) (h1 : ¬ j < lo ∧ ¬ hi < j) (hR : inR j) (ho : offs[(j - lo).toNat]? = some off) (ht : (pc : Int) + off = (tgt : Int)) (k : GoI G X nL kc ks tgt ls st I) : GoI G X nL kc ks pc ls (.int (iI z) :: st) I := by
  obtain ⟨p, l, e, R, s, m, args, below, meth, c, Q⟩ := X
  intro H locs la hP hS hl
  subst hz
  have e1 : (iI z).toInt = z := iI_toInt hR
  exact lv_tableIn C.1 C.2.1 d (by rw [e1]; exact h1.1) (by rw [e1]; exact h1.2) (by rw [e1]; exact ho) ht (k H locs la hP hS hl)
theorem go_tabOut {dflt lo hi : Int} {offs : Array Int} {len : Nat} {z : Int} {tgt : Nat} (C : Cx G X cc nL own fr mc ms rt tb) (d : decode cc pc = .ok (.tableswitch dflt lo hi offs, len)) (hR : inR z) (h : z < lo ∨ hi < z) (ht : (pc : Int) + dflt = (tgt : Int)) (k : GoI G X nL kc ks tgt ls st I) : GoI G X nL kc ks pc ls (.int (iI z) :: st) I := by
  obtain ⟨p, l, e, R, s, m, args, below, meth, c, Q⟩ := X
  intro H locs la hP hS hl
  have e1 : (iI z).toInt = z := iI_toInt hR
  exact lv_tableOut C.1 C.2.1 d (by rw [e1]; exact h) ht (k H locs la hP hS hl)
theorem go_lawret (hR : LawRet X) (C : Cx G X cL_law nL own fr mc ms (some .boolean) tb) (hZ : LawEnd G X b) (d : decode cL_law pc = .ok (.ireturn, 1)) (h1 : kc ≤ 601024) (h2 : ks ≤ 7293034) : GoI G X nL kc ks pc ls [.int (iI 1)] I := by
  obtain ⟨p, l, e, R, s, m, args, below, meth, c, Q⟩ := X
  intro H locs la hP hS hl
  obtain ⟨c1, c2, c3, c4, c5, c6, c7, c8, c9, c10, -⟩ := C
  obtain ⟨z1, z2, s0, z3, z4⟩ := hZ
  have hR : R = room_1 := hR
  subst z2; subst z3; subst z4; subst hR
  have e1 : iI 1 = 1 := by decide +kernel
  rw [e1]
  refine va_forget (fun q hq => ?_) (W.widen h1 h2 ?_)
  · have := hS.2.2 q hq
    have h9 : G.2.2 ≤ q.base := this
    omega
  · exact lw_ret (Drawn.sameBut.refl s0.drawn lw_cs) c1 c2 c10 c7 d
end GoLaw
