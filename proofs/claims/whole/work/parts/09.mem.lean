theorem cl_eq {i : Int} (h : inR i) (h0 : 0 ≤ i) : (((iI i).toNatClampNeg : Nat) : Int) = i := by
  show (((iI i).toInt.toNat : Nat) : Int) = i
  rw [iI_toInt h]; omega
theorem cl_in {i : Int} {n : Nat} (hn : n < 2147483648) (h : 0 ≤ i ∧ i < (n : Int)) : vp_in (iI i) n := by
  have hR : inR i := ⟨by omega, by omega⟩
  rw [vp_in_iff, iI_toInt hR]
  exact h
theorem in_R {i : Int} {n : Nat} (hn : n < 2147483648) (h : 0 ≤ i ∧ i < (n : Int)) : inR i := ⟨by omega, by omega⟩
/-- a field: by the class's number and the field's -/
def FL (own : String) (idx c j : Nat) : Prop := ∃ (C : String) (T : u_T), vwCl[c]? = some (C, T, nF c) ∧ j < nF c ∧ Cond.fieldLink own idx (T j).1 (T j).2.1 (T j).2.2.1 ∈ GT ∧ ∀ w ∈ u_ws C T (nF c), w ∈ GT
def FP (own : String) (idx c j : Nat) (ty : FieldType) : Prop := ∃ (C : String) (T : u_T) (ty0 : Nat → FieldType), vwCl[c]? = some (C, T, nF c) ∧ j < nF c ∧ Cond.fieldLink own idx (T j).1 (T j).2.1 (T j).2.2.1 ∈ GT ∧ (∀ w ∈ u_ws C T (nF c), w ∈ GT) ∧ (∀ k, k < nF c → parseFieldDescriptor (T k).2.2.1 = some (ty0 k)) ∧ (∀ a, a < nF c → ∀ b, b < nF c → a ≠ b → (T a).2.1 ≠ (T b).2.1) ∧ (T j).2.2.2 = false ∧ parseFieldDescriptor (T j).2.2.1 = some ty
section GoMem
variable {G : gC} {X : gX} {cc : ByteArray} {nL fr mc ms kc ks pc : Nat} {own : String} {rt : Option FieldType} {tb : List ExceptionTableEntry} {ls : List (Option Value)} {st : List Value} {M : Mem}
theorem go_get {idx c j k : Nat} (C : Cx G X cc nL own fr mc ms rt tb) (d : decode cc pc = .ok (.getfield idx, 3)) (hf : FL own idx c j) (hs : shT[k]? = some (.inl c)) (kk : Go G X nL kc ks (pc + 3) ls (fv G.2.2 k M (fk c j) j :: st) M) : Go G X nL kc ks pc ls (rf G k :: st) M := by
  obtain ⟨p, l, e, R, s, m, args, below, meth, c, Q⟩ := X
  intro H locs la hP hS hl
  obtain ⟨Cn, T, hc, hj, hlk, hin⟩ := hf
  obtain ⟨c1, c2, c3, c4, c5, c6, -⟩ := C
  exact va_get c1 c2 c5 hin c4 c6.1 hP k (by rw [gw_at (sh_lt hs), ent_o hs]) hc j hj (c5 _ hlk) (fun _ h => h) (by simp [hj]) d (kk H locs la hP hS hl)
theorem go_getI {idx c j k : Nat} {z : Int} (C : Cx G X cc nL own fr mc ms rt tb) (d : decode cc pc = .ok (.getfield idx, 3)) (hf : FL own idx c j) (hs : shT[k]? = some (.inl c)) (hk : fk c j = 0) (hz : ((j : Nat) : Int) = z) (kk : Go G X nL kc ks (pc + 3) ls (.int (iI (M k z)) :: st) M) : Go G X nL kc ks pc ls (rf G k :: st) M := by
  refine go_get C d hf hs ?_
  rw [hk]; subst hz; exact kk
theorem go_getL {idx c j k : Nat} {z : Int} (C : Cx G X cc nL own fr mc ms rt tb) (d : decode cc pc = .ok (.getfield idx, 3)) (hf : FL own idx c j) (hs : shT[k]? = some (.inl c)) (hk : fk c j = 1) (hz : ((j : Nat) : Int) = z) {k2 : Nat} (hk2 : k + 1000 = k2) (kk : Go G X nL kc ks (pc + 3) ls (.long (lI (M k2 z)) :: st) M) : Go G X nL kc ks pc ls (rf G k :: st) M := by
  refine go_get C d hf hs ?_
  rw [hk]; subst hz; subst hk2; exact kk
theorem go_getR {idx c j k o k2 : Nat} (C : Cx G X cc nL own fr mc ms rt tb) (d : decode cc pc = .ok (.getfield idx, 3)) (hf : FL own idx c j) (hs : shT[k]? = some (.inl c)) (hk : fk c j = o + 2) (hk2 : k + o = k2) (kk : Go G X nL kc ks (pc + 3) ls (rf G k2 :: st) M) : Go G X nL kc ks pc ls (rf G k :: st) M := by
  refine go_get C d hf hs ?_
  rw [hk]; subst hk2; exact kk
theorem go_putI {idx c j k : Nat} {z x : Int} {ty : FieldType} (C : Cx G X cc nL own fr mc ms rt tb) (d : decode cc pc = .ok (.putfield idx, 3)) (hf : FP own idx c j ty) (hs : shT[k]? = some (.inl c)) (hk : fk c j = 0) (hz : ((j : Nat) : Int) = z) (hn : narrow ty (.int (iI x)) = .int (iI x)) (hfit : fits ty (.int (iI x)) = true) (kk : Go G X nL kc ks (pc + 3) ls st (mset M k z x)) : Go G X nL kc ks pc ls (.int (iI x) :: rf G k :: st) M := by
  obtain ⟨p, l, e, R, s, m, args, below, meth, c, Q⟩ := X
  intro H locs la hP hS hl
  obtain ⟨Cn, T, ty0, hc, hj, hlk, hin, hty, hnm, hfin, hd⟩ := hf
  obtain ⟨c1, c2, c3, c4, c5, c6, -⟩ := C
  subst hz
  refine va_put c1 c2 c5 hin ty0 hty hnm c4 c6.1 hP (gw_D G M) hS k (by rw [gw_at (sh_lt hs), ent_o hs]) hc j hj (c5 _ hlk) (fun _ h => h) hfin hd hn hfit (by simp [hj]) d (fun H1 locs1 hP1 _ hS1 => ?_)
  rw [gw_pst hs hj hk] at hP1
  exact kk H1 locs1 la hP1 hS1 hl
theorem go_putL {idx c j k : Nat} {z x : Int} (C : Cx G X cc nL own fr mc ms rt tb) (d : decode cc pc = .ok (.putfield idx, 3)) (hf : FP own idx c j .long) (hs : shT[k]? = some (.inl c)) (hk : fk c j = 1) (hz : ((j : Nat) : Int) = z) {k2 : Nat} (hk2 : k + 1000 = k2) (kk : Go G X nL kc ks (pc + 3) ls st (mset M k2 z x)) : Go G X nL kc ks pc ls (.long (lI x) :: rf G k :: st) M := by
  obtain ⟨p, l, e, R, s, m, args, below, meth, c, Q⟩ := X
  intro H locs la hP hS hl
  obtain ⟨Cn, T, ty0, hc, hj, hlk, hin, hty, hnm, hfin, hd⟩ := hf
  obtain ⟨c1, c2, c3, c4, c5, c6, -⟩ := C
  subst hz; subst hk2
  refine va_put c1 c2 c5 hin ty0 hty hnm c4 c6.1 hP (gw_D G M) hS k (by rw [gw_at (sh_lt hs), ent_o hs]) hc j hj (c5 _ hlk) (fun _ h => h) hfin hd rfl rfl (by simp [hj]) d (fun H1 locs1 hP1 _ hS1 => ?_)
  rw [gw_plst hs hj hk] at hP1
  exact kk H1 locs1 la hP1 hS1 hl
theorem nar_b {x : Int} (h : bit01 x) : narrow .boolean (.int (iI x)) = .int (iI x) := by
  rcases h with rfl | rfl <;> decide +kernel
theorem fit_b {x : Int} (h : bit01 x) : fits .boolean (.int (iI x)) = true := by
  rcases h with rfl | rfl <;> decide +kernel
theorem go_iald {k n : Nat} {i : Int} (C : Cx G X cc nL own fr mc ms rt tb) (d : decode cc pc = .ok (.iaload, 1)) (hs : shT[k]? = some (.inr (0, n))) (hn : n < 2147483648) (hi : 0 ≤ i ∧ i < (n : Int)) (kk : Go G X nL kc ks (pc + 1) ls (.int (iI (M k i)) :: st) M) : Go G X nL kc ks pc ls (.int (iI i) :: rf G k :: st) M := by
  obtain ⟨p, l, e, R, s, m, args, below, meth, c, Q⟩ := X
  intro H locs la hP hS hl
  obtain ⟨c1, c2, c3, c4, c5, c6, -⟩ := C
  refine va_iald c1 c2 c6.1 hP k 0 (by rw [gw_at (sh_lt hs), ent_i hs]) rfl (cl_in hn hi) d ?_
  rw [cl_eq (in_R hn hi) hi.1]
  exact kk H locs la hP hS hl
theorem go_iast {k n : Nat} {i x : Int} (C : Cx G X cc nL own fr mc ms rt tb) (d : decode cc pc = .ok (.iastore, 1)) (hs : shT[k]? = some (.inr (0, n))) (hn : n < 2147483648) (hi : 0 ≤ i ∧ i < (n : Int)) (kk : Go G X nL kc ks (pc + 1) ls st (mset M k i x)) : Go G X nL kc ks pc ls (.int (iI x) :: .int (iI i) :: rf G k :: st) M := by
  obtain ⟨p, l, e, R, s, m, args, below, meth, c, Q⟩ := X
  intro H locs la hP hS hl
  obtain ⟨c1, c2, c3, c4, c5, c6, -⟩ := C
  refine va_iast c1 c2 c6.1 hP (gw_D G M) hS k 0 (by rw [gw_at (sh_lt hs), ent_i hs]) rfl (cl_in hn hi) d (fun H1 locs1 hP1 _ hS1 => ?_)
  rw [gw_ist hs, cl_eq (in_R hn hi) hi.1] at hP1
  exact kk H1 locs1 la hP1 hS1 hl
theorem go_lald {k n k2 : Nat} {i : Int} (C : Cx G X cc nL own fr mc ms rt tb) (d : decode cc pc = .ok (.laload, 1)) (hs : shT[k]? = some (.inr (1, n))) (hn : n < 2147483648) (hi : 0 ≤ i ∧ i < (n : Int)) (hk2 : k + 1000 = k2) (kk : Go G X nL kc ks (pc + 1) ls (.long (lI (M k2 i)) :: st) M) : Go G X nL kc ks pc ls (.int (iI i) :: rf G k :: st) M := by
  obtain ⟨p, l, e, R, s, m, args, below, meth, c, Q⟩ := X
  intro H locs la hP hS hl
  obtain ⟨c1, c2, c3, c4, c5, c6, -⟩ := C
  subst hk2
  refine va_lald c1 c2 c6.1 hP k 1 (by rw [gw_at (sh_lt hs), ent_l hs]) rfl (cl_in hn hi) d ?_
  rw [cl_eq (in_R hn hi) hi.1]
  exact kk H locs la hP hS hl
theorem go_last {k n k2 : Nat} {i x : Int} (C : Cx G X cc nL own fr mc ms rt tb) (d : decode cc pc = .ok (.lastore, 1)) (hs : shT[k]? = some (.inr (1, n))) (hn : n < 2147483648) (hi : 0 ≤ i ∧ i < (n : Int)) (hk2 : k + 1000 = k2) (kk : Go G X nL kc ks (pc + 1) ls st (mset M k2 i x)) : Go G X nL kc ks pc ls (.long (lI x) :: .int (iI i) :: rf G k :: st) M := by
  obtain ⟨p, l, e, R, s, m, args, below, meth, c, Q⟩ := X
  intro H locs la hP hS hl
  obtain ⟨c1, c2, c3, c4, c5, c6, -⟩ := C
  subst hk2
  refine va_last c1 c2 c6.1 hP (gw_D G M) hS k 1 (by rw [gw_at (sh_lt hs), ent_l hs]) rfl (cl_in hn hi) d (fun H1 locs1 hP1 _ hS1 => ?_)
  rw [gw_lst hs, cl_eq (in_R hn hi) hi.1] at hP1
  exact kk H1 locs1 la hP1 hS1 hl
theorem go_aald {k n : Nat} {i : Int} (C : Cx G X cc nL own fr mc ms rt tb) (d : decode cc pc = .ok (.aaload, 1)) (hs : shT[k]? = some (.inr (2, n))) (hn : n < 2147483648) (hi : 0 ≤ i ∧ i < (n : Int)) (kk : Go G X nL kc ks (pc + 1) ls (rf G (M k i).toNat :: st) M) : Go G X nL kc ks pc ls (.int (iI i) :: rf G k :: st) M := by
  obtain ⟨p, l, e, R, s, m, args, below, meth, c, Q⟩ := X
  intro H locs la hP hS hl
  obtain ⟨c1, c2, c3, c4, c5, c6, -⟩ := C
  refine va_aldq c1 c2 c6.1 hP k 2 (by rw [gw_at (sh_lt hs), ent_q hs]) rfl (cl_in hn hi) d ?_
  rw [cl_eq (in_R hn hi) hi.1]
  exact kk H locs la hP hS hl
theorem go_aast {k n v : Nat} {i : Int} (C : Cx G X cc nL own fr mc ms rt tb) (d : decode cc pc = .ok (.aastore, 1)) (hs : shT[k]? = some (.inr (2, n))) (hv : shT[v]? = some (.inl 6)) (hn : n < 2147483648) (hi : 0 ≤ i ∧ i < (n : Int)) (kk : Go G X nL kc ks (pc + 1) ls st (mset M k i v)) : Go G X nL kc ks pc ls (rf G v :: .int (iI i) :: rf G k :: st) M := by
  obtain ⟨p, l, e, R, s, m, args, below, meth, c, Q⟩ := X
  intro H locs la hP hS hl
  obtain ⟨c1, c2, c3, c4, c5, c6, -⟩ := C
  refine va_astq (r := (RX6, TX6, 7)) c1 c2 c6.1 hP (gw_D G M) hS k 2 v 6 (by rw [gw_at (sh_lt hs), ent_q hs]) rfl (by rw [gw_at (sh_lt hv), ent_o hv]) rfl (cl_in hn hi) d (fun H1 locs1 hP1 _ hS1 => ?_)
  rw [gw_qst hs, cl_eq (in_R hn hi) hi.1] at hP1
  exact kk H1 locs1 la hP1 hS1 hl
theorem go_alen {k n : Nat} {z : Int} (C : Cx G X cc nL own fr mc ms rt tb) (d : decode cc pc = .ok (.arraylength, 1)) (hs : shT[k]? = some (.inr (0, n))) (hz : ((n : Nat) : Int) = z) (kk : Go G X nL kc ks (pc + 1) ls (.int (iI z) :: st) M) : Go G X nL kc ks pc ls (rf G k :: st) M := by
  obtain ⟨p, l, e, R, s, m, args, below, meth, c, Q⟩ := X
  intro H locs la hP hS hl
  obtain ⟨c1, c2, c3, c4, c5, c6, -⟩ := C
  subst hz
  exact va_alen (v := iI n) c1 c2 c6.1 hP k 0 (by rw [gw_at (sh_lt hs), ent_i hs]) rfl (Int32.ofInt_eq_ofNat).symm d (kk H locs la hP hS hl)
theorem fit_i (x : Int32) : fits .int (.int x) = true := rfl
theorem go_cpy {idx k0 k n0 n1 : Nat} {sp dp n : Int} (C : Cx G X cc nL own fr mc ms rt tb) (d : decode cc pc = .ok (.invokestatic idx, 3)) (hw : Cond.methodLink own idx arraycopyName ∈ GT ∧ Cond.native arraycopyName ∈ GT ∧ Cond.static arraycopyName ∈ GT ∧ Cond.initialized "java/lang/System" ∈ GT)
    (h0 : shT[k0]? = some (.inr (0, n0))) (h1 : shT[k]? = some (.inr (0, n1))) (hn0 : n0 < 2147483648) (hn1 : n1 < 2147483648) (hs : 0 ≤ sp ∧ 0 ≤ dp ∧ 0 ≤ n ∧ sp + n ≤ (n0 : Int) ∧ dp + n ≤ (n1 : Int)) (hcat : (st.map fun v => v.category).sum ≤ 8) (hfr : 2 ≤ fr)
    (kk : Go G X nL kc ks (pc + 3) ls st (mcpy M k0 sp k dp n)) : Go G X nL kc ks pc ls (.int (iI n) :: .int (iI dp) :: rf G k :: .int (iI sp) :: rf G k0 :: st) M := by
  obtain ⟨p, l, e, R, s, m, args, below, meth, c, Q⟩ := X
  intro H locs la hP hS hl
  obtain ⟨c1, c2, c3, c4, c5, c6, c7, c8, c9, -⟩ := C
  obtain ⟨w1, w2, w3, w4⟩ := hw
  obtain ⟨a1, a2, a3, a4, a5⟩ := hs
  have i1 : inR sp := ⟨by omega, by omega⟩
  have i2 : inR dp := ⟨by omega, by omega⟩
  have i3 : inR n := ⟨by omega, by omega⟩
  have z0 : (0 : Int32) = iI 0 := iI_0.symm
  have q1 := cl_eq i1 a1
  have q2 := cl_eq i2 a2
  have q3 := cl_eq i3 a3
  refine va_copyi (ty := .int) c1 c2 (c3.trans hl.1.symm) c4 (c5 _ w1) (c5 _ w2) (c5 _ w3) (c5 _ w4) c6.1 hP (gw_D G M) hS k0 k 0 0 (by rw [gw_at (sh_lt h0), ent_i h0]) (by rw [gw_at (sh_lt h1), ent_i h1]) rfl rfl rfl
    (by rw [z0, iI_lt i1 inR0]; omega) (by rw [z0, iI_lt i2 inR0]; omega) (by rw [z0, iI_lt i3 inR0]; omega) (by omega) (by omega) (fun i _ => rfl) (by have := c9.1; omega) ?_ d (fun H1 locs1 hP1 _ hS1 => ?_)
  · have := c9.2.1
    have hw : nativeFrameWords "java/lang/System" "arraycopy" 5 ≤ 40 := by decide +kernel
    omega
  · rw [gw_cpy h1, q1, q2, q3] at hP1
    exact kk H1 locs1 la hP1 hS1 hl
/-! ends -/
theorem go_iret {r : Int} {O : Nat ⊕ Option Value} {M9 : Mem} (C : Cx G X cc nL own fr mc ms rt tb) (F : Fnl G X mc ms O M9) (hrt : rt = some .int) (d : decode cc pc = .ok (.ireturn, 1)) (h1 : kc ≤ mc) (h2 : ks ≤ ms) (hO : O = .inr (some (.int (iI r)))) (hM : M9 = M) (hB : Bd M) : Go G X nL kc ks pc ls [.int (iI r)] M := by
  obtain ⟨p, l, e, R, s, m, args, below, meth, c, Q⟩ := X
  intro H locs la hP hS hl
  obtain ⟨c1, c2, c3, c4, c5, c6, c7, c8, c9, c10, -⟩ := C
  have F : Q = _ := F
  subst F; subst hM; subst hrt
  exact W.widen h1 h2 (vx_ret (W.iret c1 c2 c10 (fun t ht hw => ⟨_, hO, rfl, by rw [ht]; exact hP, hS.F ht, hB⟩) hS.2.2 d c7))
theorem go_zret {r : Int} {O : Nat ⊕ Option Value} {M9 : Mem} (C : Cx G X cc nL own fr mc ms rt tb) (F : Fnl G X mc ms O M9) (hrt : rt = some .boolean) (d : decode cc pc = .ok (.ireturn, 1)) (hr : bit01 r) (h1 : kc ≤ mc) (h2 : ks ≤ ms) (hO : O = .inr (some (.int (iI r)))) (hM : M9 = M) (hB : Bd M) : Go G X nL kc ks pc ls [.int (iI r)] M := by
  obtain ⟨p, l, e, R, s, m, args, below, meth, c, Q⟩ := X
  intro H locs la hP hS hl
  obtain ⟨c1, c2, c3, c4, c5, c6, c7, c8, c9, c10, -⟩ := C
  have F : Q = _ := F
  subst F; subst hM; subst hrt
  exact W.widen h1 h2 (vx_ret (W.zret c1 c2 c10 (nar_b hr) (fun t ht hw => ⟨_, hO, rfl, by rw [ht]; exact hP, hS.F ht, hB⟩) hS.2.2 d c7))
theorem go_lret {r : Int} {O : Nat ⊕ Option Value} {M9 : Mem} (C : Cx G X cc nL own fr mc ms rt tb) (F : Fnl G X mc ms O M9) (hrt : rt = some .long) (d : decode cc pc = .ok (.lreturn, 1)) (h1 : kc ≤ mc) (h2 : ks ≤ ms) (hO : O = .inr (some (.long (lI r)))) (hM : M9 = M) (hB : Bd M) : Go G X nL kc ks pc ls [.long (lI r)] M := by
  obtain ⟨p, l, e, R, s, m, args, below, meth, c, Q⟩ := X
  intro H locs la hP hS hl
  obtain ⟨c1, c2, c3, c4, c5, c6, c7, c8, c9, c10, -⟩ := C
  have F : Q = _ := F
  subst F; subst hM; subst hrt
  exact W.widen h1 h2 (vx_ret (W.lret c1 c2 c10 (fun t ht hw => ⟨_, hO, rfl, by rw [ht]; exact hP, hS.F ht, hB⟩) hS.2.2 d c7))
theorem go_dret {r : UInt64} {O : Nat ⊕ Option Value} {M9 : Mem} (C : Cx G X cc nL own fr mc ms rt tb) (F : Fnl G X mc ms O M9) (hrt : rt = some .double) (d : decode cc pc = .ok (.dreturn, 1)) (h1 : kc ≤ mc) (h2 : ks ≤ ms) (hO : O = .inr (some (.double r))) (hM : M9 = M) (hB : Bd M) : Go G X nL kc ks pc ls [.double r] M := by
  obtain ⟨p, l, e, R, s, m, args, below, meth, c, Q⟩ := X
  intro H locs la hP hS hl
  obtain ⟨c1, c2, c3, c4, c5, c6, c7, c8, c9, c10, -⟩ := C
  have F : Q = _ := F
  subst F; subst hM; subst hrt
  exact W.widen h1 h2 (vx_ret (W.dret c1 c2 c10 (fun t ht hw => ⟨_, hO, rfl, by rw [ht]; exact hP, hS.F ht, hB⟩) hS.2.2 d c7))
theorem go_vret {O : Nat ⊕ Option Value} {M9 : Mem} (C : Cx G X cc nL own fr mc ms rt tb) (F : Fnl G X mc ms O M9) (hrt : rt = none) (d : decode cc pc = .ok (.return_, 1)) (h1 : kc ≤ mc) (h2 : ks ≤ ms) (hO : O = .inr none) (hM : M9 = M) (hB : Bd M) : Go G X nL kc ks pc ls [] M := by
  obtain ⟨p, l, e, R, s, m, args, below, meth, c, Q⟩ := X
  intro H locs la hP hS hl
  obtain ⟨c1, c2, c3, c4, c5, c6, c7, c8, c9, c10, -⟩ := C
  have F : Q = _ := F
  subst F; subst hM; subst hrt
  exact W.widen h1 h2 (vx_ret (W.vret c1 c2 c10 (fun t ht hw => ⟨_, hO, rfl, by rw [ht]; exact hP, hS.F ht, hB⟩) hS.2.2 d c7))
end GoMem
