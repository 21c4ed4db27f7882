/-! the cells as they are made: one behind the other from the base on -/
def cwl (b : Nat) : List va_E → va_W
  | [] => []
  | e :: r => (b, e) :: cwl (b + 1) r
theorem cwl_at : ∀ (b : Nat) (es : List va_E) (i : Nat) {e : va_E}, es[i]? = some e → (cwl b es)[i]? = some (b + i, e)
  | b, [], i, e, h => by simp at h
  | b, a :: r, 0, e, h => by simp at h; subst h; rfl
  | b, a :: r, i + 1, e, h => by
    have := cwl_at (b + 1) r i (by simpa using h)
    simp only [cwl, List.getElem?_cons_succ, this]
    congr 2; omega
theorem cwl_of : ∀ (b : Nat) (es : List va_E) (i : Nat) {q : Nat × va_E}, (cwl b es)[i]? = some q → q.1 = b + i ∧ es[i]? = some q.2
  | b, [], i, q, h => by simp [cwl] at h
  | b, a :: r, 0, q, h => by simp [cwl] at h; subst h; exact ⟨rfl, rfl⟩
  | b, a :: r, i + 1, q, h => by
    have := cwl_of (b + 1) r i (by simpa [cwl] using h)
    exact ⟨by omega, by simpa using this.2⟩
theorem cwl_app : ∀ (b : Nat) (es fs : List va_E), cwl b (es ++ fs) = cwl b es ++ cwl (b + es.length) fs
  | b, [], fs => by simp [cwl]
  | b, a :: r, fs => by
    simp only [List.cons_append, cwl, cwl_app (b + 1) r fs, List.length_cons]
    rw [show b + 1 + r.length = b + (r.length + 1) by omega]
theorem cwl_set : ∀ (b : Nat) (es : List va_E) (i : Nat) (e : va_E), (cwl b es).set i (b + i, e) = cwl b (es.set i e)
  | b, [], i, e => by simp [cwl]
  | b, a :: r, 0, e => by simp [cwl]
  | b, a :: r, i + 1, e => by
    have := cwl_set (b + 1) r i e
    simp only [cwl, List.set_cons_succ]
    rw [show b + (i + 1) = b + 1 + i by omega, this]
theorem cwl_D (G : gC) (es : List va_E) : va_D (gA G) (cwl G.2.2 es) := by
  constructor
  · intro i j p q hi hj he
    have h1 := (cwl_of _ _ _ hi).1
    have h2 := (cwl_of _ _ _ hj).1
    omega
  · intro k q hk
    have := (cwl_of _ _ _ hk).1
    show G.2.2 ≤ q.1
    omega
def kP (G : gC) (es : List va_E) : Heap → Prop := fun H => va_P G.1 vwCl (cwl G.2.2 es) H
theorem kP_size {G : gC} {es : List va_E} {H : Heap} (h : kP G es H) (h0 : G.2.2 ≤ H.size) : G.2.2 + es.length ≤ H.size := by
  rcases Nat.eq_zero_or_pos es.length with z | z
  · rw [z]; exact h0
  · have hi : es[es.length - 1]? = some (es[es.length - 1]'(by omega)) := List.getElem?_eq_getElem (by omega)
    have := (h (es.length - 1) _ (cwl_at G.2.2 es (es.length - 1) hi)).lt
    have e : ((G.2.2 + (es.length - 1), es[es.length - 1]'(by omega)) : Nat × va_E).1 = G.2.2 + (es.length - 1) := rfl
    omega
theorem W_sz {p : Program} {l : Launch} {e : Env} {R : Room} {s : State} {m : MethodId} {args : Array Value} {below : List Frame} {meth : Method} {c : Code} {H : Heap} {locs : List Loc} {cells slots : Nat} {Q : State → Prop} {g : JFrame} (k : H.size ≤ s.heap.size + cells → W p l e R s m args below meth c H locs cells slots Q g) : W p l e R s m args below meth c H locs cells slots Q g := fun T hT X => k (by rw [← hT]; exact X.heapSize) T hT X
/-- a final field of a reference, written in its class's constructor -/
def FF (own : String) (idx c j : Nat) : Prop := ∃ (C : String) (T : u_T) (ty0 : Nat → FieldType) (N : Nat), vwCl[c]? = some (C, T, N) ∧ j < N ∧ Cond.fieldLink own idx (T j).1 (T j).2.1 (T j).2.2.1 ∈ GT ∧ (∀ w ∈ u_ws C T N, w ∈ GT) ∧ (∀ k, k < N → parseFieldDescriptor (T k).2.2.1 = some (ty0 k)) ∧ (∀ a, a < N → ∀ b, b < N → a ≠ b → (T a).2.1 ≠ (T b).2.1) ∧ (T j).2.2.2 = true ∧ (T j).1 = own ∧ (∃ ty, parseFieldDescriptor (T j).2.2.1 = some ty ∧ ∀ a : Nat, narrow ty (.ref a) = .ref a ∧ fits ty (.ref a) = true)
def NW (own : String) (idx c N : Nat) (fs : List Value) : Prop := ∃ (C : String) (T : u_T) (ty0 : Nat → FieldType), vwCl[c]? = some (C, T, N) ∧ (∀ w ∈ u_ws C T N, w ∈ GT) ∧ (∀ k, k < N → parseFieldDescriptor (T k).2.2.1 = some (ty0 k)) ∧ Cond.classLink own idx C ∈ GT ∧ Cond.instantiable C N ∈ GT ∧ Cond.initialized C ∈ GT ∧ (∀ j, j < N → defaultValue (ty0 j) = vp_V fs j)
section GoCons
variable {G : gC} {X : gX} {cc : ByteArray} {nL fr mc ms kc ks pc : Nat} {own : String} {rt : Option FieldType} {tb : List ExceptionTableEntry} {ls : List (Option Value)} {st : List Value} {pre suf suf2 : List va_E}
/-- how many cells there were at the method's start, and that it is a constructor -/
def Bs (G : gC) (X : gX) (n0 : Nat) : Prop := match X with
  | (p, l, e, R, s, m, args, below, meth, c, Q) => s.heap.size = G.2.2 + n0 ∧ va_AO RX6 s
def Bi (X : gX) : Prop := match X with
  | (p, l, e, R, s, m, args, below, meth, c, Q) => meth.name = "<init>"
theorem gk_new {idx c N a : Nat} {fs : List Value} {n0 : Nat} (C : Cx G X cc nL own fr mc ms rt tb) (B : Bs G X n0) (hz0 : n0 + kc = pre.length + suf.length) (d : decode cc pc = .ok (.new idx, 3)) (hw : NW own idx c N fs) (h1 : kc + 1 ≤ mc) (h2 : ks + N ≤ ms) (ha : G.2.2 + (pre.length + suf.length) = a) (hs : suf ++ [.inr (c, fs)] = suf2) (kk : GoI G X nL (kc + 1) (ks + N) (pc + 3) ls (.ref a :: st) (kP G (pre ++ suf2))) : GoI G X nL kc ks pc ls st (kP G (pre ++ suf)) := by
  obtain ⟨p, l, e, R, s, m, args, below, meth, c9, Q⟩ := X
  intro H locs la hP hS hl
  obtain ⟨c1, c2, c3, c4, c5, c6, c7, c8, ⟨r1, r2, r3, r4⟩, -⟩ := C
  obtain ⟨Cn, T, ty0, hc, hin, hty, w1, w2, w3, hdf⟩ := hw
  have hKn := c6.1.1 c _ hc
  refine W_sz fun hup => ?_
  have B1 : s.heap.size = G.2.2 + n0 := B.1
  have hlow := kP_size hP (by have := hS.1; omega)
  rw [List.length_append] at hlow
  have hsz : H.size = G.2.2 + (pre.length + suf.length) := by omega
  subst ha; subst hs
  refine W.newcK c1 c2 c4 (c5 _ w1) (c5 _ w2) (c5 _ w3) rfl d (by omega) (by omega) hKn.2.1 rfl fun H1 kC hkC e1 z1 o1 => ?_
  have hk : ∀ (k : Nat) (x : Nat × va_E), (cwl G.2.2 (pre ++ suf))[k]? = some x → H1[x.1]? = H[x.1]? := fun k x hx => o1 x.1 ((hP k x hx).lt)
  rw [← hsz] at kk
  refine kk H1 locs la ?_ ⟨Nat.le_trans hS.1 (by omega), fun x h1 h2 => (o1 x (Nat.lt_of_lt_of_le h1 hS.1)).trans (hS.2.1 x h1 h2), hS.2.2⟩ hl
  show va_P G.1 vwCl _ H1
  rw [← List.append_assoc, cwl_app]
  refine va_P.app (va_P.kept (show va_P G.1 vwCl (cwl G.2.2 (pre ++ suf)) H from hP) hk) (fun k x hx => ?_)
  have hz : k < 1 := (List.getElem?_eq_some_iff.mp hx).1
  rw [show k = 0 by omega] at hx
  cases hx
  refine ⟨_, hc, (u_born ty0 c5 hin hKn hkC ?_ hty).to hdf⟩
  have : G.2.2 + (pre ++ suf).length = H.size := by rw [hsz, List.length_append]
  rw [this]
  exact e1
theorem gk_newa {atype : ArrayType} {ty : FieldType} {cA : ClassId} {n : Int} {N a : Nat} {a0 : vp_A} {n0 : Nat} (C : Cx G X cc nL own fr mc ms rt tb) (B : Bs G X n0) (hz0 : n0 + kc = pre.length + suf.length) (d : decode cc pc = .ok (.newarray atype, 2)) (hw : Cond.arrayClass (newarray.typeOf atype) ∈ GT) (hty : newarray.typeOf atype = ty) (t : Nat) (ht : (tysG G)[t]? = some (cA, ty)) (hra : ∀ U : State, va_RA U cA ty → U.vm.findClass ("[" ++ ty.toString) = some cA) (h0 : ∀ cA : ClassId, vp_cell cA a0 = arrV cA N (fun _ => defaultValue ty)) (hn : n = (N : Int)) (hN : N < 10000) (hb : N * componentBytes ty ≤ 536870912) (h1 : kc + 1 ≤ mc) (h2 : ks + N ≤ ms) (ha : G.2.2 + (pre.length + suf.length) = a) (hs : suf ++ [.inl (cA, a0)] = suf2) (kk : GoI G X nL (kc + 1) (ks + N) (pc + 2) ls (.ref a :: st) (kP G (pre ++ suf2))) : GoI G X nL kc ks pc ls (.int (iI n) :: st) (kP G (pre ++ suf)) := by
  obtain ⟨p, l, e, R, s, m, args, below, meth, c9, Q⟩ := X
  intro H locs la hP hS hl
  obtain ⟨c1, c2, c3, c4, c5, c6, c7, c8, ⟨r1, r2, r3, r4⟩, -⟩ := C
  refine W_sz fun hup => ?_
  have B1 : s.heap.size = G.2.2 + n0 := B.1
  have hlow := kP_size hP (by have := hS.1; omega)
  rw [List.length_append] at hlow
  have hsz : H.size = G.2.2 + (pre.length + suf.length) := by omega
  subst ha; subst hs; subst hn; subst hty
  have iR : inR (N : Int) := ⟨by omega, by omega⟩
  refine va_newaK c1 c2 (c5 _ hw) rfl d rfl (by rw [← iI_0, iI_lt iR inR0]; omega) (N := N) (by have := cl_eq iR (by omega); omega) hb (by omega) (by omega) rfl fun H1 cB e1 z1 o1 hAr hNm => ?_
  have hcB : cB = cA := Option.some.inj (hNm.symm.trans (hra s (c6.1.2 t _ ht).2))
  subst hcB
  have hk : ∀ (k : Nat) (x : Nat × va_E), (cwl G.2.2 (pre ++ suf))[k]? = some x → H1[x.1]? = H[x.1]? := fun k x hx => o1 x.1 ((hP k x hx).lt)
  rw [← hsz] at kk
  refine kk H1 locs la ?_ ⟨Nat.le_trans hS.1 (by omega), fun x h1 h2 => (o1 x (Nat.lt_of_lt_of_le h1 hS.1)).trans (hS.2.1 x h1 h2), hS.2.2⟩ hl
  show va_P G.1 vwCl _ H1
  rw [← List.append_assoc, cwl_app]
  refine va_P.app (va_P.kept (show va_P G.1 vwCl (cwl G.2.2 (pre ++ suf)) H from hP) hk) (fun k x hx => ?_)
  have hz : k < 1 := (List.getElem?_eq_some_iff.mp hx).1
  rw [show k = 0 by omega] at hx
  cases hx
  have : G.2.2 + (pre ++ suf).length = H.size := by rw [hsz, List.length_append]
  show H1[G.2.2 + (pre ++ suf).length]? = some (vp_cell cB a0)
  rw [this, h0]
  exact e1
theorem gk_newq {idx : Nat} {n : Int} {N a : Nat} {n0 : Nat} (C : Cx G X cc nL own fr mc ms rt tb) (B : Bs G X n0) (hz0 : n0 + kc = pre.length + suf.length) (d : decode cc pc = .ok (.anewarray idx, 3)) (hw : Cond.classLink own idx RX6 ∈ GT) (hn : n = (N : Int)) (hN : N < 10000) (h1 : kc + 1 ≤ mc) (h2 : ks + N ≤ ms) (ha : G.2.2 + (pre.length + suf.length) = a) (hs : suf ++ [.inl (G.2.1 2, N, .inr (.inr (.inr (.inr (fun _ => none)))))] = suf2) (kk : GoI G X nL (kc + 1) (ks + N) (pc + 3) ls (.ref a :: st) (kP G (pre ++ suf2))) : GoI G X nL kc ks pc ls (.int (iI n) :: st) (kP G (pre ++ suf)) := by
  obtain ⟨p, l, e, R, s, m, args, below, meth, c9, Q⟩ := X
  intro H locs la hP hS hl
  obtain ⟨c1, c2, c3, c4, c5, c6, c7, c8, ⟨r1, r2, r3, r4⟩, -⟩ := C
  refine W_sz fun hup => ?_
  have B1 : s.heap.size = G.2.2 + n0 := B.1
  have hlow := kP_size hP (by have := hS.1; omega)
  rw [List.length_append] at hlow
  have hsz : H.size = G.2.2 + (pre.length + suf.length) := by omega
  subst ha; subst hs; subst hn
  have iR : inR (N : Int) := ⟨by omega, by omega⟩
  have hNn : (iI (N : Int)).toNatClampNeg = N := by have := cl_eq iR (by omega); omega
  refine W.anew c1 c2 c4 (c5 _ hw) (va_AO.use B.2) rfl d rfl (by rw [← iI_0, iI_lt iR inR0]; omega) (by rw [hNn]; omega) (by omega) (by rw [hNn]; omega) fun cB kA comp f1 f2 f3 f4 => ?_
  obtain ⟨k9, comp9, g1, g2, g3, g4⟩ := (c6.1.2 2 _ rfl).2
  have hcB : cB = G.2.1 2 := Option.some.inj (f1.symm.trans g4)
  subst hcB
  rw [hNn]
  generalize hH1 : H.push ({ cls := G.2.1 2, slots := Array.replicate N .null, vm := .none } : Cell) = H1
  have z1 : H1.size = H.size + 1 := by rw [← hH1, Array.size_push]
  have e1 : H1[H.size]? = some (arrV (G.2.1 2) N (fun _ => .null)) := by rw [← hH1, Array.getElem?_push_size, ← arrV_new]
  have o1 : ∀ q : Nat, q < H.size → H1[q]? = H[q]? := fun q hq => by rw [← hH1, Array.getElem?_push, if_neg (Nat.ne_of_lt hq)]
  have hk : ∀ (k : Nat) (x : Nat × va_E), (cwl G.2.2 (pre ++ suf))[k]? = some x → H1[x.1]? = H[x.1]? := fun k x hx => o1 x.1 ((hP k x hx).lt)
  rw [← hsz] at kk
  refine kk H1 locs la ?_ ⟨Nat.le_trans hS.1 (by omega), fun x h1 h2 => (o1 x (Nat.lt_of_lt_of_le h1 hS.1)).trans (hS.2.1 x h1 h2), hS.2.2⟩ hl
  show va_P G.1 vwCl _ H1
  rw [← List.append_assoc, cwl_app]
  refine va_P.app (va_P.kept (show va_P G.1 vwCl (cwl G.2.2 (pre ++ suf)) H from hP) hk) (fun k x hx => ?_)
  have hz : k < 1 := (List.getElem?_eq_some_iff.mp hx).1
  rw [show k = 0 by omega] at hx
  cases hx
  have : G.2.2 + (pre ++ suf).length = H.size := by rw [hsz, List.length_append]
  show H1[G.2.2 + (pre ++ suf).length]? = some (arrV (G.2.1 2) N (fun _ => .null))
  rw [this]
  exact e1
theorem suf_at {i : Nat} {e : va_E} (h : suf[i]? = some e) : (pre ++ suf)[pre.length + i]? = some e := by
  rw [List.getElem?_append_right (by omega)]
  rw [show pre.length + i - pre.length = i by omega]; exact h
theorem suf_set (i : Nat) (e : va_E) : (pre ++ suf).set (pre.length + i) e = pre ++ suf.set i e := by
  rw [List.set_append, if_neg (by omega)]
  rw [show pre.length + i - pre.length = i by omega]
theorem gk_putF {idx c j i a : Nat} {v : Nat} {fs : List Value} (C : Cx G X cc nL own fr mc ms rt tb) (hinit : Bi X) (d : decode cc pc = .ok (.putfield idx, 3)) (hf : FF own idx c j) (ha : G.2.2 + (pre.length + i) = a) (he : suf[i]? = some (.inr (c, fs))) (hl : j < fs.length) (hs : suf.set i (.inr (c, fs.set j (.ref v))) = suf2) (kk : GoI G X nL kc ks (pc + 3) ls st (kP G (pre ++ suf2))) : GoI G X nL kc ks pc ls (.ref v :: .ref a :: st) (kP G (pre ++ suf)) := by
  obtain ⟨p, l, e, R, s, m, args, below, meth, c9, Q⟩ := X
  intro H locs la hP hS hl2
  obtain ⟨c1, c2, c3, c4, c5, c6, -⟩ := C
  obtain ⟨Cn, T, ty0, N, hc, hj, hlk, hin, hty, hnm, hfin, hdecl, ty, hd, hnf⟩ := hf
  subst ha; subst hs
  have hq := cwl_at G.2.2 (pre ++ suf) (pre.length + i) (suf_at he)
  refine va_putF c1 c2 c5 hin ty0 hty hnm c4 c6.1 hP (cwl_D G _) hS (pre.length + i) hq hc j hj (c5 _ hlk) (fun _ h => h) hfin hinit hdecl hd (hnf v).1 (hnf v).2 hl d (fun H1 locs1 hP1 _ hS1 => ?_)
  rw [cwl_set, suf_set] at hP1
  exact kk H1 locs1 la hP1 hS1 hl2
theorem gk_get {idx c j i a : Nat} {v : Value} {fs : List Value} (C : Cx G X cc nL own fr mc ms rt tb) (d : decode cc pc = .ok (.getfield idx, 3)) (hf : FL own idx c j) (ha : G.2.2 + (pre.length + i) = a) (he : suf[i]? = some (.inr (c, fs))) (hv : fs[j]? = some v) (kk : GoI G X nL kc ks (pc + 3) ls (v :: st) (kP G (pre ++ suf))) : GoI G X nL kc ks pc ls (.ref a :: st) (kP G (pre ++ suf)) := by
  obtain ⟨p, l, e, R, s, m, args, below, meth, c9, Q⟩ := X
  intro H locs la hP hS hl2
  obtain ⟨c1, c2, c3, c4, c5, c6, -⟩ := C
  obtain ⟨Cn, T, hc, hj, hlk, hin⟩ := hf
  subst ha
  have hq := cwl_at G.2.2 (pre ++ suf) (pre.length + i) (suf_at he)
  exact va_get c1 c2 c5 hin c4 c6.1 hP (pre.length + i) hq hc j hj (c5 _ hlk) (fun _ h => h) hv d (kk H locs la hP hS hl2)
theorem gk_aast {i k v a n : Nat} {z : Int} {f : Nat → Option Nat} {vs : List Value} (C : Cx G X cc nL own fr mc ms rt tb) (d : decode cc pc = .ok (.aastore, 1)) (ha : G.2.2 + (pre.length + i) = a) (hv : G.2.2 + (pre.length + k) = v) (he : suf[i]? = some (.inl (G.2.1 2, n, .inr (.inr (.inr (.inr f)))))) (hk : suf[k]? = some (.inr (6, vs))) (hn : n < 2147483648) (hi : 0 ≤ z ∧ z < (n : Int)) (hs : suf.set i (.inl (G.2.1 2, n, .inr (.inr (.inr (.inr (va_up f z.toNat (some v))))))) = suf2) (kk : GoI G X nL kc ks (pc + 1) ls st (kP G (pre ++ suf2))) : GoI G X nL kc ks pc ls (.ref v :: .int (iI z) :: .ref a :: st) (kP G (pre ++ suf)) := by
  obtain ⟨p, l, e, R, s, m, args, below, meth, c9, Q⟩ := X
  intro H locs la hP hS hl2
  obtain ⟨c1, c2, c3, c4, c5, c6, -⟩ := C
  subst ha; subst hv; subst hs
  have hq := cwl_at G.2.2 (pre ++ suf) (pre.length + i) (suf_at he)
  have hq2 := cwl_at G.2.2 (pre ++ suf) (pre.length + k) (suf_at hk)
  have hz : (iI z).toNatClampNeg = z.toNat := by have := cl_eq (in_R hn hi) hi.1; omega
  refine va_astq (r := (RX6, TX6, 7)) c1 c2 c6.1 hP (cwl_D G _) hS (pre.length + i) 2 (pre.length + k) 6 hq rfl hq2 rfl (cl_in hn hi) d (fun H1 locs1 hP1 _ hS1 => ?_)
  rw [hz, cwl_set, suf_set] at hP1
  exact kk H1 locs1 la hP1 hS1 hl2
theorem gk_iast {i a n : Nat} {z x : Int} {f : Nat → Int32} {es : List va_E} (C : Cx G X cc nL own fr mc ms rt tb) (d : decode cc pc = .ok (.iastore, 1)) (ha : G.2.2 + i = a) (he : es[i]? = some (.inl (G.2.1 0, n, .inl f))) (hn : n < 2147483648) (hi : 0 ≤ z ∧ z < (n : Int)) (kk : GoI G X nL kc ks (pc + 1) ls st (kP G (es.set i (.inl (G.2.1 0, n, .inl (upd f z.toNat (iI x))))))) : GoI G X nL kc ks pc ls (.int (iI x) :: .int (iI z) :: .ref a :: st) (kP G es) := by
  obtain ⟨p, l, e, R, s, m, args, below, meth, c9, Q⟩ := X
  intro H locs la hP hS hl2
  obtain ⟨c1, c2, c3, c4, c5, c6, -⟩ := C
  subst ha
  have hq := cwl_at G.2.2 es i he
  have hz : (iI z).toNatClampNeg = z.toNat := by have := cl_eq (in_R hn hi) hi.1; omega
  refine va_iast c1 c2 c6.1 hP (cwl_D G _) hS i 0 hq rfl (cl_in hn hi) d (fun H1 locs1 hP1 _ hS1 => ?_)
  rw [hz, cwl_set] at hP1
  exact kk H1 locs1 la hP1 hS1 hl2
theorem gk_alen {i a n : Nat} {f : Nat → Int32} {es : List va_E} (C : Cx G X cc nL own fr mc ms rt tb) (d : decode cc pc = .ok (.arraylength, 1)) (ha : G.2.2 + i = a) (he : es[i]? = some (.inl (G.2.1 0, n, .inl f))) (kk : GoI G X nL kc ks (pc + 1) ls (.int (iI n) :: st) (kP G es)) : GoI G X nL kc ks pc ls (.ref a :: st) (kP G es) := by
  obtain ⟨p, l, e, R, s, m, args, below, meth, c9, Q⟩ := X
  intro H locs la hP hS hl2
  obtain ⟨c1, c2, c3, c4, c5, c6, -⟩ := C
  subst ha
  exact va_alen (v := iI n) c1 c2 c6.1 hP i 0 (cwl_at G.2.2 es i he) rfl (Int32.ofInt_eq_ofNat).symm d (kk H locs la hP hS hl2)
theorem gk_obj {idx a : Nat} {I : Heap → Prop} (C : Cx G X cc nL own fr mc ms rt tb) (d : decode cc pc = .ok (.invokespecial idx, 3)) (hw : Cond.methodLink own idx Lib.objectInit ∈ GT ∧ Cond.instanceMethod Lib.objectInit ∈ GT ∧ Cond.code Lib.objectInit ⟨#[0xb1]⟩ 1 none ∈ GT) (hcat : (st.map fun v => v.category).sum ≤ 8) (hfr : 1 ≤ fr) (kk : GoI G X nL kc ks (pc + 3) ls st I) : GoI G X nL kc ks pc ls (.ref a :: st) I := by
  obtain ⟨p, l, e, R, s, m, args, below, meth, c9, Q⟩ := X
  intro H locs la hP hS hl2
  obtain ⟨c1, c2, c3, c4, c5, c6, c7, c8, ⟨r1, r2, r3, r4⟩, -⟩ := C
  have h0 : 2 * (F0 m pc la (.ref a :: st)).monitorRoom + (st.map fun v => v.category).sum ≤ 8 := lv_room hcat
  exact W.objInit c1 c2 c4 (c5 _ hw.1) (c5 _ hw.2.1) (c5 _ hw.2.2) rfl (hl2.1.trans c3.symm) rfl d (by omega) (by omega) (kk H locs la hP hS hl2)
end GoCons
def kPc (G : gC) (av : List Value) (es : List va_E) : Array Value → State → Prop := fun a U => a = av.toArray ∧ kP G es U.heap ∧ gK G U ∧ U.heap.size = G.2.2 + es.length ∧ va_AO RX6 U
def kQ (G : gC) (es : List va_E) : Array Value → State → Outcome → State → Prop := fun _ st oc t => oc = .returned none ∧ kP G es t.heap ∧ va_F (gA G) st t
theorem kPc.blind (G : gC) (av : List Value) (es : List va_E) : FrameBlind (kPc G av es) := fun a U g mk h => ⟨h.1, h.2.1, h.2.2.1.blind g mk a, h.2.2.2.1, h.2.2.2.2⟩
def OkK (G : gC) (l : Launch) (fr mc ms : Nat) (y : MethodName) (cw : Cond) (av : List Value) (es es2 : List va_E) : Prop := Met l y (cw :: GT) (rmF fr mc ms) (kPc G av es) (kQ G es2) mc ms (gA G)
def FnK (G : gC) (X : gX) (mc ms : Nat) (es2 : List va_E) : Prop := match X with
  | (p, l, e, R, s, m, args, below, meth, c, Q) => Q = MQ below (kQ G es2) args s mc ms (gA G)
/-- a constructor's words -/
def MI (own : String) (idx : Nat) (y : MethodName) (cw : Cond) (n : Nat) : Prop := Cond.methodLink own idx y ∈ GT ∧ Cond.instanceMethod y ∈ GT ∧ Cond.initialized y.cls ∈ GT ∧ cw ∈ GT ∧ y.name = "<init>" ∧ y.cls ≠ "java/lang/invoke/MethodHandle" ∧ y.cls ≠ "java/lang/invoke/VarHandle" ∧ (parseMethodDescriptor y.desc).map (fun d => d.parameters.length) = some n
section GoConsCall
variable {G : gC} {X : gX} {cc : ByteArray} {nL fr mc ms kc ks pc : Nat} {own : String} {rt : Option FieldType} {tb : List ExceptionTableEntry} {ls : List (Option Value)} {st : List Value} {es es2 : List va_E}
variable {idx fr' mc' ms' n maxL n0 : Nat} {y : MethodName} {cc' : ByteArray} {ret' : Option FieldType} {As rest : List Value}
theorem gk_run {p : Program} {l : Launch} {e : Env} {R : Room} {s : State} {m : MethodId} {args : Array Value} {below : List Frame} {meth : Method} {c : Code} {Q : State → Prop} {H : Heap} {locs : List Loc} {la : Array Slot} {a : Array Value}
    (hr : va_Run p l e R s m args below meth c H locs kc ks mc' ms' (F0 m pc la st) rest (kQ G es2 a) (gA G)) (hS : va_S (gA G) s.heap H locs) (hl : lh la nL ls)
    (kk : GoI G (p, l, e, R, s, m, args, below, meth, c, Q) nL (kc + mc') (ks + ms') (pc + 3) ls rest (kP G es2)) : W p l e R s m args below meth c H locs kc ks Q (F0 m pc la st) := by
  intro T hT X
  obtain ⟨v, st₀, t, T', L, h0, X', hL, e1, e2, ⟨hv, hP', hF⟩, stp⟩ := hr T hT X
  cases hv
  obtain ⟨k1, k2, k3⟩ := vx_keep h0 e1 hS (fun _ _ h => h) (fun _ h => h) hL hF
  obtain ⟨t2, a1, b1⟩ := kk T'.heap (locs ++ L) la (by rw [e1]; exact hP') k3 hl T' rfl X'
  exact ⟨t2, stp t2 a1, b1⟩
theorem gk_size {p : Program} {l : Launch} {e : Env} {R : Room} {s : State} {m : MethodId} {args : Array Value} {below : List Frame} {meth : Method} {c : Code} {Q : State → Prop} {H : Heap} {locs : List Loc} {g : JFrame} (B : Bs G (p, l, e, R, s, m, args, below, meth, c, Q) n0) (hz0 : n0 + kc = es.length) (hP : kP G es H) (hS : va_S (gA G) s.heap H locs) (k : H.size = G.2.2 + es.length → W p l e R s m args below meth c H locs kc ks Q g) : W p l e R s m args below meth c H locs kc ks Q g := by
  refine W_sz fun hup => k ?_
  have B1 : s.heap.size = G.2.2 + n0 := B.1
  have hlow := kP_size hP (by have := hS.1; omega)
  omega
theorem gk_callI {b : Nat} (C : Cx G X cc nL own fr mc ms rt tb) (B : Bs G X n0) (hz0 : n0 + kc = es.length) (d : decode cc pc = .ok (.invokespecial idx, 3)) (hM : OkK G X.2.1 fr' mc' ms' y (.code y cc' maxL none) (.ref b :: As) es es2) (hv : MI own idx y (.code y cc' maxL none) n) (hn : As.length = n) (hst : st = As.reverse ++ .ref b :: rest) (hcat : (rest.map fun v => v.category).sum ≤ 8) (hR : fr' + 1 ≤ fr ∧ maxL ≤ 16) (hc : kc + mc' ≤ mc ∧ ks + ms' ≤ ms)
    (kk : GoI G X nL (kc + mc') (ks + ms') (pc + 3) ls rest (kP G es2)) : GoI G X nL kc ks pc ls st (kP G es) := by
  obtain ⟨p, l, e, R, s, m, args, below, meth, c9, Q⟩ := X
  intro H locs la hP hS hl
  obtain ⟨c1, c2, c3, c4, c5, c6, c7, c8, ⟨r1, r2, r3, r4⟩, -⟩ := C
  obtain ⟨w1, w2, w4, w5, w9, w6, w7, w8⟩ := hv
  refine gk_size B hz0 hP hS fun hsz => ?_
  refine gk_run (G := G) (a := (Value.ref b :: As).toArray) (va_runI (As := As) (rest := rest) (b := b) ⟨c1, c2, c3, c4, c5⟩ hM ⟨callB_of n c5 (gt_in w5) rfl rfl rfl (c5 _ w4) (c5 _ w1) ⟨w6, w7, w8⟩ ⟨?_, ?_⟩, w9, c5 _ w2⟩ ⟨kPc.blind G _ es, fun U hU hW => ⟨rfl, by rw [hU]; exact hP, c6.at hS hU hW, by rw [hU]; exact hsz, va_AO.moved hW.alike B.2⟩⟩ rfl hn hl.1 hst (lv_room hcat) d ⟨by omega, by omega⟩) hS hl kk
  · show fr' + 1 ≤ R.frames
    omega
  · show 8 + (maxL + 11) + 35 * fr' ≤ R.locals
    omega
theorem gk_callS (C : Cx G X cc nL own fr mc ms rt tb) (B : Bs G X n0) (hz0 : n0 + kc = es.length) (d : decode cc pc = .ok (.invokestatic idx, 3)) (hM : OkK G X.2.1 fr' mc' ms' y (.code y cc' maxL ret') As es es2) (hv : MS own idx y (.code y cc' maxL ret') n) (hn : As.length = n) (hst : st = As.reverse ++ rest) (hcat : (rest.map fun v => v.category).sum ≤ 8) (hR : fr' + 1 ≤ fr ∧ maxL ≤ 16) (hc : kc + mc' ≤ mc ∧ ks + ms' ≤ ms)
    (kk : GoI G X nL (kc + mc') (ks + ms') (pc + 3) ls rest (kP G es2)) : GoI G X nL kc ks pc ls st (kP G es) := by
  obtain ⟨p, l, e, R, s, m, args, below, meth, c9, Q⟩ := X
  intro H locs la hP hS hl
  obtain ⟨c1, c2, c3, c4, c5, c6, c7, c8, ⟨r1, r2, r3, r4⟩, -⟩ := C
  obtain ⟨w1, w2, w4, w5, w6, w7, w8⟩ := hv
  refine gk_size B hz0 hP hS fun hsz => ?_
  refine gk_run (G := G) (a := As.toArray) (va_runS (As := As) (rest := rest) ⟨c1, c2, c3, c4, c5⟩ hM ⟨callB_of n c5 (gt_in w5) rfl rfl rfl (c5 _ w4) (c5 _ w1) ⟨w6, w7, w8⟩ ⟨?_, ?_⟩, c5 _ w2⟩ ⟨kPc.blind G _ es, fun U hU hW => ⟨rfl, by rw [hU]; exact hP, c6.at hS hU hW, by rw [hU]; exact hsz, va_AO.moved hW.alike B.2⟩⟩ rfl hn hl.1 hst (lv_room hcat) d ⟨by omega, by omega⟩) hS hl kk
  · show fr' + 1 ≤ R.frames
    omega
  · show 8 + (maxL + 11) + 35 * fr' ≤ R.locals
    omega
theorem gk_vret (C : Cx G X cc nL own fr mc ms rt tb) (F : FnK G X mc ms es2) (hrt : rt = none) (d : decode cc pc = .ok (.return_, 1)) (h1 : kc ≤ mc) (h2 : ks ≤ ms) (he : es = es2) : GoI G X nL kc ks pc ls [] (kP G es) := by
  obtain ⟨p, l, e, R, s, m, args, below, meth, c, Q⟩ := X
  intro H locs la hP hS hl
  obtain ⟨c1, c2, c3, c4, c5, c6, c7, c8, c9, c10, -⟩ := C
  have F : Q = _ := F
  subst F; subst he; subst hrt
  exact W.widen h1 h2 (W.vret c1 c2 c10 (fun t ht hw => ⟨rfl, by rw [ht]; exact hP, hS.F ht⟩) hS.2.2 d c7)
end GoConsCall
theorem okK_of {G : gC} {l : Launch} {fr mc ms : Nat} {y : MethodName} {cc : ByteArray} {nL : Nat} {rt : Option FieldType} {av : List Value} {es es2 : List va_E} {ls : List (Option Value)} (hl : l.stackTraces = false) (hy : plainName y.cls = true) (hlen : (lg_sl av).length ≤ nL) (hls : gsb ls (leA av))
    (body : ∀ X : gX, X.2.1 = l → Cx G X cc nL y.cls fr mc ms rt (X.2.2.2.2.2.2.2.2.2.1.exceptionTable.toList) → FnK G X mc ms es2 → Bs G X es.length → (y.name = "<init>" → Bi X) → GoI G X nL 0 0 0 ls [] (kP G es)) : OkK G l fr mc ms y (.code y cc nL rt) av es es2 := by
  refine Met.ofW (cc := cc) (maxL := nL) (ret := rt) hy rfl ?_
  intro p e s m args below meth c s₁ B hml hPc
  obtain ⟨rfl, hP, hK, hsz, hao⟩ := hPc
  have hts : ∀ w ∈ (Cond.code y cc nL rt :: GT), w.before av.toArray s = true := atoms_spec (ws := Cond.code y cc nL rt :: GT) B.pre
  have h := body (p, l, e, rmF fr mc ms, s, m, av.toArray, below, meth, c, MQ below (kQ G es2) av.toArray s mc ms (gA G)) rfl
    ⟨B.exec, B.bytes, hml, findClass_of_methodNamed B.named, fun w hw => hts w (List.mem_cons_of_mem _ hw), hK, B.notSynchronized, hl, ⟨Nat.le_refl _, Nat.le_refl _, Nat.le_refl _, Nat.le_refl _⟩, B.returns, rfl⟩ rfl ⟨hsz, hao⟩ (fun hn => by
      show meth.name = "<init>"
      rw [(name_of_methodNamed B.named B.method).1]; exact hn)
  have he := lv_entry av (n := nL) hlen
  rw [lg_entry_eq]
  refine h s.heap [] _ hP va_S.rf ⟨he.1, he.2.1, fun j w hj => ?_⟩
  have := leA_at av 0 j w (gsb_at hls j w hj)
  exact he.2.2 (j, w) (by simpa using this)
