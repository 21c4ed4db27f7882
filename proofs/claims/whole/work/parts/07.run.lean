/-! the machine over the pure memory: where it stands, what it owes -/
abbrev gX : Type := Program × Launch × Env × Room × State × MethodId × Array Value × List Frame × Method × Code × (State → Prop)
def tysG (G : gC) : List (ClassId × FieldType) := [(G.2.1 0, .int), (G.2.1 1, .long), (G.2.1 2, .object RX6)]
def exN (e : Nat) : String := match e with
  | 0 => "java/lang/IllegalArgumentException"
  | 1 => "java/lang/IndexOutOfBoundsException"
  | _ => "java/lang/IllegalStateException"
def GT : List Cond := lw_tbl.filter goodWord
theorem gt_of {w : Cond} (i : Nat) (h : lw_tbl[i]? = some w) (hg : goodWord w = true) : w ∈ GT := List.mem_filter.mpr ⟨List.mem_of_getElem? h, hg⟩
theorem gt_good {w : Cond} (h : w ∈ GT) : (w.onTables && w.keeps) = true ∨ ∃ ty, w = .arrayClass ty := good_of_word (List.mem_filter.mp h).2
/-- what holds of the machine's tables and of the cells below the base, at every point -/
def gK (G : gC) (U : State) : Prop := va_K G.1 vwCl (tysG G) U ∧ vx_Zq Bundle.tN "UNASSIGNED_STACK" Bundle.steD (gA G) U U.heap ∧ vx_Zq Bundle.tN "SUPPRESSED_SENTINEL" Bundle.listD (gA G) U U.heap ∧ (∀ x ∈ stT, ∃ a, vk_R RX9 x.1 x.2 a U) ∧ (∀ x ∈ cbT, (Cond.castable x.1 x.2).before #[] U = true) ∧ (∀ x ∈ dcT, (Cond.declares x).before #[] U = true) ∧ (∀ x ∈ ncT, va_Nc x.1 x.2 U)
theorem gK.at {G : gC} {s U : State} {H : Heap} {locs : List Loc} (h : gK G s) (hS : va_S (gA G) s.heap H locs) (hU : U.heap = H) (hW : s.WarmedH U.vm) : gK G U := by
  obtain ⟨h1, h2, h3, h4, h5, h6, h7⟩ := h
  refine ⟨va_K.moved hW.alike h1, ?_, ?_, fun x hx => ?_, fun x hx => ?_, fun x hx => ?_, fun x hx => va_Nc.moved hW.alike (h7 x hx)⟩
  · rw [hU]; exact vx_Zq.moved hW.alike (h2.kept hS.2.1)
  · rw [hU]; exact vx_Zq.moved hW.alike (h3.kept hS.2.1)
  · obtain ⟨a, ha⟩ := h4 x hx
    exact ⟨a, ha.warm hW⟩
  · have h := h5 x hx
    simp only [Cond.before, Cond.holds, Cond.value] at h ⊢
    rw [hW.alike.findClass, hW.alike.findClass]
    simpa only [hW.alike.assignable] using h
  · exact va_Nw.warmD hW (h6 x hx)
theorem gK.blind {G : gC} {U : State} (h : gK G U) (g : JFrame) (mk : MethodId) (a : Array Value) : gK G (U.calling g mk a) := by
  obtain ⟨h1, h2, h3, h4, h5, h6, h7⟩ := h
  refine ⟨va_K.moved (u := U) (U := U.calling g mk a) (Vm.Alike.refl U.vm) h1, vx_Zq.moved (u := U) (U := U.calling g mk a) (Vm.Alike.refl U.vm) h2, vx_Zq.moved (u := U) (U := U.calling g mk a) (Vm.Alike.refl U.vm) h3, fun x hx => ?_, fun x hx => h5 x hx, fun x hx => h6 x hx, fun x hx => va_Nc.moved (u := U) (U := U.calling g mk a) (Vm.Alike.refl U.vm) (h7 x hx)⟩
  obtain ⟨b, hb⟩ := h4 x hx
  exact ⟨b, vk_R.same (u := U) rfl hb⟩
def gQ (G : gC) (o : Nat ⊕ Option Value) (M' : Mem) : Array Value → State → Outcome → State → Prop := fun _ st oc t => ∃ v, o = .inr v ∧ oc = .returned v ∧ va_P G.1 vwCl (gw G M') t.heap ∧ va_F (gA G) st t ∧ Bd M'
def gXc (G : gC) (o : Nat ⊕ Option Value) (M' : Mem) : String → State → State → Prop := fun E st t => ∃ e, o = .inl e ∧ E = exN e ∧ va_P G.1 vwCl (gw G M') t.heap ∧ va_F (gA G) st t ∧ Bd M'
def gPc (G : gC) (av : List Value) (M : Mem) : Array Value → State → Prop := fun a U => a = av.toArray ∧ va_P G.1 vwCl (gw G M) U.heap ∧ gK G U
theorem gPc.blind (G : gC) (av : List Value) (M : Mem) : FrameBlind (gPc G av M) := fun a U g mk h => ⟨h.1, h.2.1, h.2.2.blind g mk a⟩
def rmF (fr mc ms : Nat) : Room := { frames := fr, cells := mc, slots := ms, locals := 35 * fr }
/-- a method's contract: from the memory M the outcome o and the memory M' -/
def Ok (G : gC) (l : Launch) (fr mc ms : Nat) (y : MethodName) (cw : Cond) (av : List Value) (M : Mem) (o : Nat ⊕ Option Value) (M' : Mem) : Prop := vx_Met l y (cw :: GT) (rmF fr mc ms) (gPc G av M) (gQ G o M') (gXc G o M') mc ms (gA G)
/-- the locals that are known, by place -/
def lh (la : Array Slot) (n : Nat) (ls : List (Option Value)) : Prop := la.size = n ∧ lv_wf la ∧ ∀ (j : Nat) (w : Value), ls[j]? = some (some w) → la[j]? = some (.val w)
/-- the heap holds the world of the memory M -/
abbrev gP (G : gC) (M : Mem) : Heap → Prop := fun H => va_P G.1 vwCl (gw G M) H
/-- from this point of the method, over every heap of which I holds, the machine comes to what it owes -/
def GoI (G : gC) (X : gX) (nL kc ks pc : Nat) (ls : List (Option Value)) (st : List Value) (I : Heap → Prop) : Prop := match X with
  | (p, l, e, R, s, m, args, below, meth, c, Q) => ∀ (H : Heap) (locs : List Loc) (la : Array Slot), I H → va_S (gA G) s.heap H locs → lh la nL ls → W p l e R s m args below meth c H locs kc ks Q (F0 m pc la st)
abbrev Go (G : gC) (X : gX) (nL kc ks pc : Nat) (ls : List (Option Value)) (st : List Value) (M : Mem) : Prop := GoI G X nL kc ks pc ls st (gP G M)
def Cx (G : gC) (X : gX) (cc : ByteArray) (nL : Nat) (own : String) (fr mc ms : Nat) (rt : Option FieldType) (tb : List ExceptionTableEntry) : Prop := match X with
  | (p, l, e, R, s, m, args, below, meth, c, Q) => p.tables.exec = Jvm.exec ∧ c.code = cc ∧ c.maxLocals = nL ∧ s.vm.findClass own = some m.cls ∧ (∀ w ∈ GT, w.before args s = true) ∧ gK G s ∧ meth.locks = false ∧ l.stackTraces = false ∧ (fr ≤ R.frames ∧ 35 * fr ≤ R.locals ∧ mc ≤ R.cells ∧ ms ≤ R.slots) ∧ meth.sig.returnType = rt ∧ c.exceptionTable.toList = tb
def Fnl (G : gC) (X : gX) (mc ms : Nat) (O : Nat ⊕ Option Value) (M9 : Mem) : Prop := match X with
  | (p, l, e, R, s, m, args, below, meth, c, Q) => Q = vx_MQ below (gQ G O M9) (gXc G O M9) args s mc ms (gA G)
/-! fewer known locals -/
def gsb : List (Option Value) → List (Option Value) → Prop
  | [], _ => True
  | none :: a, _ :: b => gsb a b
  | some v :: a, w :: b => some v = w ∧ gsb a b
  | none :: a, [] => gsb a []
  | some _ :: _, [] => False
theorem gsb_at : ∀ {a b : List (Option Value)}, gsb a b → ∀ (j : Nat) (w : Value), a[j]? = some (some w) → b[j]? = some (some w)
  | [], _, _, j, w, h => by simp at h
  | none :: a, c :: b, hs, 0, w, h => by simp at h
  | none :: a, c :: b, hs, j + 1, w, h => by
    have := gsb_at (a := a) (b := b) hs j w (by simpa using h)
    simpa using this
  | some v :: a, c :: b, hs, 0, w, h => by
    obtain ⟨h1, -⟩ := hs
    subst h1
    simpa using h
  | some v :: a, c :: b, hs, j + 1, w, h => by
    have := gsb_at (a := a) (b := b) hs.2 j w (by simpa using h)
    simpa using this
  | none :: a, [], hs, 0, w, h => by simp at h
  | none :: a, [], hs, j + 1, w, h => by
    have := gsb_at (a := a) (b := []) hs j w (by simpa using h)
    simp at this
/-! storing into a local -/
def sl : List (Option Value) → Nat → Value → List (Option Value)
  | [], _, _ => []
  | _ :: r, 0, v => match v with
    | .long _ => some v :: (match r with
      | [] => []
      | _ :: r' => none :: r')
    | .double _ => some v :: (match r with
      | [] => []
      | _ :: r' => none :: r')
    | _ => some v :: r
  | o :: r, 1, v => (match o with
    | some (.long _) => none
    | some (.double _) => none
    | o => o) :: sl r 0 v
  | o :: r, i + 2, v => o :: sl r (i + 1) v
theorem sl0 (o : Option Value) (r : List (Option Value)) (v : Value) (j : Nat) (w : Value) (h : (sl (o :: r) 0 v)[j]? = some (some w)) : (j = 0 ∧ w = v) ∨ (j ≠ 0 ∧ (o :: r)[j]? = some (some w) ∧ ¬ (v.category = 2 ∧ j = 1)) := by
  cases j with
  | zero => cases v <;> simp [sl] at h <;> exact Or.inl ⟨rfl, h.symm⟩
  | succ j =>
    refine Or.inr ⟨by omega, ?_, ?_⟩
    · cases v <;> simp [sl] at h ⊢ <;> first | exact h | skip
      all_goals
        cases r with
        | nil => simp at h
        | cons a r' =>
          cases j with
          | zero => simp at h
          | succ j => simpa using h
    · intro ⟨h2, h3⟩
      have hj : j = 0 := by omega
      subst hj
      cases v <;> simp [Value.category] at h2 <;> simp [sl] at h
      all_goals
        cases r with
        | nil => simp at h
        | cons a r' => simp at h
theorem sl_at : ∀ (ls : List (Option Value)) (i : Nat) (v : Value) (j : Nat) (w : Value), (sl ls i v)[j]? = some (some w) → (j = i ∧ w = v) ∨ (j ≠ i ∧ ls[j]? = some (some w) ∧ ¬ (j + 1 = i ∧ w.category = 2) ∧ ¬ (v.category = 2 ∧ j = i + 1))
  | [], i, v, j, w, h => by simp [sl] at h
  | o :: r, 0, v, j, w, h => by
    rcases sl0 o r v j w h with ⟨h1, h2⟩ | ⟨h1, h2, h3⟩
    · exact Or.inl ⟨h1, h2⟩
    · exact Or.inr ⟨h1, h2, fun q => by omega, fun q => h3 ⟨q.1, by omega⟩⟩
  | o :: r, 1, v, 0, w, h => by
    refine Or.inr ⟨by omega, ?_, ?_, fun q => by omega⟩
    · cases o with
      | none => simp [sl] at h
      | some u => cases u <;> simp [sl] at h ⊢ <;> exact h
    · intro ⟨_, h2⟩
      cases o with
      | none => simp [sl] at h
      | some u => cases u <;> simp [sl] at h <;> subst h <;> simp [Value.category] at h2
  | o :: r, 1, v, j + 1, w, h => by
    have h' : (sl r 0 v)[j]? = some (some w) := by simpa [sl] using h
    rcases sl_at r 0 v j w h' with ⟨h1, h2⟩ | ⟨h1, h2, h3, h4⟩
    · exact Or.inl ⟨by omega, h2⟩
    · exact Or.inr ⟨by omega, by simpa using h2, fun q => by omega, fun q => h4 ⟨q.1, by omega⟩⟩
  | o :: r, i + 2, v, 0, w, h => by
    have h' : o = some w := by simpa [sl] using h
    exact Or.inr ⟨by omega, by simp [h'], fun q => by omega, fun q => by omega⟩
  | o :: r, i + 2, v, j + 1, w, h => by
    have h' : (sl r (i + 1) v)[j]? = some (some w) := by simpa [sl] using h
    rcases sl_at r (i + 1) v j w h' with ⟨h1, h2⟩ | ⟨h1, h2, h3, h4⟩
    · exact Or.inl ⟨by omega, h2⟩
    · exact Or.inr ⟨by omega, by simpa using h2, fun q => h3 ⟨by omega, q.2⟩, fun q => h4 ⟨q.1, by omega⟩⟩
/-- the known locals as the kit lists them -/
def lp : Nat → List (Option Value) → List (Nat × Value)
  | _, [] => []
  | i, none :: r => lp (i + 1) r
  | i, some v :: r => (i, v) :: lp (i + 1) r
theorem lp_mem : ∀ (ls : List (Option Value)) (i : Nat) (q : Nat × Value), q ∈ lp i ls ↔ ∃ j, q.1 = i + j ∧ ls[j]? = some (some q.2)
  | [], i, q => by simp [lp]
  | none :: r, i, q => by
    rw [lp, lp_mem r (i + 1) q]
    constructor
    · rintro ⟨j, h1, h2⟩
      exact ⟨j + 1, by omega, by simpa using h2⟩
    · rintro ⟨j, h1, h2⟩
      cases j with
      | zero => simp at h2
      | succ j => exact ⟨j, by omega, by simpa using h2⟩
  | some v :: r, i, q => by
    rw [lp, List.mem_cons, lp_mem r (i + 1) q]
    constructor
    · rintro (h | ⟨j, h1, h2⟩)
      · subst h
        exact ⟨0, rfl, rfl⟩
      · exact ⟨j + 1, by omega, by simpa using h2⟩
    · rintro ⟨j, h1, h2⟩
      cases j with
      | zero =>
        left
        obtain ⟨a, b⟩ := q
        simp at h1 h2
        rw [h1, h2]
      | succ j => exact Or.inr ⟨j, by omega, by simpa using h2⟩
theorem lh.has {la : Array Slot} {n : Nat} {ls : List (Option Value)} (h : lh la n ls) : lv_has la n (lp 0 ls) := by
  refine ⟨h.1, h.2.1, fun q hq => ?_⟩
  obtain ⟨j, h1, h2⟩ := (lp_mem ls 0 q).mp hq
  have := h.2.2 j q.2 h2
  rw [h1]; simpa using this
theorem lh.st1 {la : Array Slot} {n : Nat} {ls : List (Option Value)} {i : Nat} {v : Value} (hc : v.category = 1) (h : lv_has la n ((i, v) :: (lp 0 ls).filter (fun q => !(q.1 == i) && !(q.1 + 1 == i && q.2.category == 2)))) : lh la n (sl ls i v) := by
  refine ⟨h.1, h.2.1, fun j w hj => ?_⟩
  rcases sl_at ls i v j w hj with ⟨h1, h2⟩ | ⟨h1, h2, h3, h4⟩
  · subst h1; subst h2
    exact h.2.2 _ List.mem_cons_self
  · refine h.2.2 (j, w) (List.mem_cons_of_mem _ (List.mem_filter.mpr ⟨(lp_mem ls 0 (j, w)).mpr ⟨j, by simp, h2⟩, ?_⟩))
    simp only [Bool.and_eq_true, Bool.not_eq_true', beq_eq_false_iff_ne, ne_eq, Bool.and_eq_false_iff]
    refine ⟨h1, ?_⟩
    by_cases hq : j + 1 = i
    · exact Or.inr (fun z => h3 ⟨hq, z⟩)
    · exact Or.inl hq
theorem lh.st2 {la : Array Slot} {n : Nat} {ls : List (Option Value)} {i : Nat} {v : Value} (hc : v.category = 2) (h : lv_has la n ((i, v) :: (lp 0 ls).filter (fun q => !(q.1 == i) && (!(q.1 == i + 1) && !(q.1 + 1 == i && q.2.category == 2))))) : lh la n (sl ls i v) := by
  refine ⟨h.1, h.2.1, fun j w hj => ?_⟩
  rcases sl_at ls i v j w hj with ⟨h1, h2⟩ | ⟨h1, h2, h3, h4⟩
  · subst h1; subst h2
    exact h.2.2 _ List.mem_cons_self
  · refine h.2.2 (j, w) (List.mem_cons_of_mem _ (List.mem_filter.mpr ⟨(lp_mem ls 0 (j, w)).mpr ⟨j, by simp, h2⟩, ?_⟩))
    simp only [Bool.and_eq_true, Bool.not_eq_true', beq_eq_false_iff_ne, ne_eq, Bool.and_eq_false_iff]
    refine ⟨h1, fun z => h4 ⟨hc, z⟩, ?_⟩
    by_cases hq : j + 1 = i
    · exact Or.inr (fun z => h3 ⟨hq, z⟩)
    · exact Or.inl hq
theorem lh.at {la : Array Slot} {n : Nat} {ls : List (Option Value)} (h : lh la n ls) {i : Nat} {v : Value} (hi : ls[i]? = some (some v)) : la[i]? = some (.val v) := h.2.2 i v hi
