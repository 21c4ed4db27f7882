abbrev exNs : List String := ["java/lang/RuntimeException", "java/lang/Exception"]
def bwT : List Cond := dcT.map Cond.declares ++ cbT.map (fun q => Cond.castable q.1 q.2)
def TH (x ik ic : Nat) : Prop := Cond.classLink RX9 ik (exN x) ∈ GT ∧ Cond.initialized (exN x) ∈ GT ∧ (∀ w ∈ vx_atS RX9 ic (exN x) exNs, w ∈ lw_tbl ∧ (goodWord w = true ∨ w ∈ bwT)) ∧ (∀ w ∈ vx_atS RX9 ic (exN x) exNs, vx_ot w = true) ∧ Bundle.fit (exN x) = true
set_option maxRecDepth 100000 in
theorem th_0a : ∀ w ∈ vx_atS RX9 105 (exN 0) exNs, w ∈ lw_tbl ∧ (goodWord w = true ∨ w ∈ bwT) := by decide +kernel
set_option maxRecDepth 100000 in
theorem th_1a : ∀ w ∈ vx_atS RX9 227 (exN 1) exNs, w ∈ lw_tbl ∧ (goodWord w = true ∨ w ∈ bwT) := by decide +kernel
set_option maxRecDepth 100000 in
theorem th_2a : ∀ w ∈ vx_atS RX9 112 (exN 2) exNs, w ∈ lw_tbl ∧ (goodWord w = true ∨ w ∈ bwT) := by decide +kernel
theorem TH_0 : TH 0 101 105 := ⟨List.mem_filter.mpr ⟨by decide +kernel, by decide +kernel⟩, List.mem_filter.mpr ⟨by decide +kernel, by decide +kernel⟩, th_0a, by decide +kernel, by decide +kernel⟩
theorem TH_1 : TH 1 225 227 := ⟨List.mem_filter.mpr ⟨by decide +kernel, by decide +kernel⟩, List.mem_filter.mpr ⟨by decide +kernel, by decide +kernel⟩, th_1a, by decide +kernel, by decide +kernel⟩
theorem TH_2 : TH 2 108 112 := ⟨List.mem_filter.mpr ⟨by decide +kernel, by decide +kernel⟩, List.mem_filter.mpr ⟨by decide +kernel, by decide +kernel⟩, th_2a, by decide +kernel, by decide +kernel⟩
theorem exNs_fit : ∀ n ∈ exNs, Bundle.fit n = true := by decide +kernel
theorem gK.words {G : gC} {s : State} {args : Array Value} (h : gK G s) (hts : ∀ w ∈ GT, w.before args s = true) {x ik ic : Nat} (hT : TH x ik ic) : ∀ w ∈ vx_atS RX9 ic (exN x) exNs, w.before args s = true := by
  intro w hw
  obtain ⟨h1, h2⟩ := hT.2.2.1 w hw
  rcases h2 with h2 | h2
  · exact hts w (List.mem_filter.mpr ⟨h1, h2⟩)
  · rcases List.mem_append.mp h2 with h3 | h3
    · obtain ⟨y, hy, rfl⟩ := List.mem_map.mp h3
      exact va_tabs rfl rfl (h.2.2.2.2.2.1 y hy)
    · obtain ⟨y, hy, rfl⟩ := List.mem_map.mp h3
      exact va_tabs rfl rfl (h.2.2.2.2.1 y hy)
section GoThrow
variable {G : gC} {X : gX} {cc : ByteArray} {nL fr mc ms kc ks pc : Nat} {rt : Option FieldType} {ls : List (Option Value)} {st : List Value} {M : Mem}
theorem ot_of {x ik ic : Nat} (hT : TH x ik ic) : ∀ w ∈ Cond.classLink RX9 ik (exN x) :: Cond.initialized (exN x) :: vx_atS RX9 ic (exN x) exNs, vx_ot w = true := by
  intro w hw
  rcases List.mem_cons.mp hw with rfl | hw
  · rfl
  · rcases List.mem_cons.mp hw with rfl | hw
    · rfl
    · exact hT.2.2.2.1 w hw
theorem go_throw {x ik is ic : Nat} {text : String} {O : Nat ⊕ Option Value} {M9 : Mem} (C : Cx G X cc nL RX9 fr mc ms rt []) (F : Fnl G X mc ms O M9) (hT : TH x ik ic) (hstr : (is, text) ∈ stT) (d0 : decode cc pc = .ok (.new ik, 3)) (d3 : decode cc (pc + 3) = .ok (.dup, 1)) (d4 : decode cc (pc + 4) = .ok (.ldc is, 2)) (d6 : decode cc (pc + 6) = .ok (.invokespecial ic, 3)) (d9 : decode cc (pc + 9) = .ok (.athrow, 1))
    (hcat : (st.map fun v => v.category).sum ≤ 8) (hfr : 6 ≤ fr) (h1 : kc + 1 ≤ mc) (h2 : ks + 6 ≤ ms) (hO : O = .inl x) (hM : M9 = M) (hB : Bd M) : Go G X nL kc ks pc ls st M := by
  obtain ⟨p, l, e, R, s, m, args, below, meth, c, Q⟩ := X
  intro H locs la hP hS hl
  obtain ⟨c1, c2, c3, c4, c5, c6, c7, c8, ⟨r1, r2, r3, r4⟩, c10, c11⟩ := C
  have F : Q = _ := F
  subst F; subst hM
  obtain ⟨sa, hsa⟩ := c6.2.2.2.1 _ hstr
  refine vx_throwS (names := exNs) (A := gA G) c1 c2 c8 c4 hT.2.2.2.2 exNs_fit (c5 _ hT.1) (c5 _ hT.2.1) hsa (c6.words c5 hT) (ot_of hT) c6.2.1 c6.2.2.1 hS (hl.1.trans c3.symm) d0 d3 d4 d6 d9 (fun z hz => ?_) (by show 2 + 3 < R.frames; omega) (by show _ + (13 * (2 + 1) + 43) ≤ R.locals; omega) (by omega) (by omega) c7 (fun t hA hz hq => ⟨x, hO, rfl, ?_, ?_, hB⟩) hS.2.2 h1 h2
  · have c11 : c.exceptionTable.toList = [] := c11
    rw [c11] at hz
    cases hz
  · intro k q hk
    have hb := hP k q hk
    refine hb.kept (hq _ ?_)
    rcases hqe : q.2 with a | a
    · have hb2 := hb
      unfold va_at at hb2
      rw [hqe] at hb2
      exact (Array.getElem?_eq_some_iff.mp hb2).1
    · have hb2 := hb
      unfold va_at at hb2
      rw [hqe] at hb2
      obtain ⟨r, -, cell, hc, -⟩ := hb2
      exact (Array.getElem?_eq_some_iff.mp hc).1
  · exact ⟨Nat.le_trans hS.1 hz, fun q hq1 hq2 => by rw [hq q (Nat.lt_of_lt_of_le hq1 hS.1)]; exact hS.2.1 q hq1 hq2⟩
theorem go_throwW {x ik is ic : Nat} {text : String} {O : Nat ⊕ Option Value} {M9 : Mem} (C : Cx G X cc nL RX9 fr mc ms rt []) (F : Fnl G X mc ms O M9) (hT : TH x ik ic) (hstr : (is, text) ∈ stT) (d0 : decode cc pc = .ok (.new ik, 3)) (d3 : decode cc (pc + 3) = .ok (.dup, 1)) (d4 : decode cc (pc + 4) = .ok (.ldc_w is, 3)) (d7 : decode cc (pc + 7) = .ok (.invokespecial ic, 3)) (d10 : decode cc (pc + 10) = .ok (.athrow, 1))
    (hcat : (st.map fun v => v.category).sum ≤ 8) (hfr : 6 ≤ fr) (h1 : kc + 1 ≤ mc) (h2 : ks + 6 ≤ ms) (hO : O = .inl x) (hM : M9 = M) (hB : Bd M) : Go G X nL kc ks pc ls st M := by
  obtain ⟨p, l, e, R, s, m, args, below, meth, c, Q⟩ := X
  intro H locs la hP hS hl
  obtain ⟨c1, c2, c3, c4, c5, c6, c7, c8, ⟨r1, r2, r3, r4⟩, c10, c11⟩ := C
  have F : Q = _ := F
  subst F; subst hM
  obtain ⟨sa, hsa⟩ := c6.2.2.2.1 _ hstr
  refine vx_throwSW (names := exNs) (A := gA G) c1 c2 c8 c4 hT.2.2.2.2 exNs_fit (c5 _ hT.1) (c5 _ hT.2.1) hsa (c6.words c5 hT) (ot_of hT) c6.2.1 c6.2.2.1 hS (hl.1.trans c3.symm) d0 d3 d4 d7 d10 (fun z hz => ?_) (by show 2 + 3 < R.frames; omega) (by show _ + (13 * (2 + 1) + 43) ≤ R.locals; omega) (by omega) (by omega) c7 (fun t hA hz hq => ⟨x, hO, rfl, ?_, ?_, hB⟩) hS.2.2 h1 h2
  · have c11 : c.exceptionTable.toList = [] := c11
    rw [c11] at hz
    cases hz
  · intro k q hk
    have hb := hP k q hk
    refine hb.kept (hq _ ?_)
    rcases hqe : q.2 with a | a
    · have hb2 := hb
      unfold va_at at hb2
      rw [hqe] at hb2
      exact (Array.getElem?_eq_some_iff.mp hb2).1
    · have hb2 := hb
      unfold va_at at hb2
      rw [hqe] at hb2
      obtain ⟨r, -, cell, hc, -⟩ := hb2
      exact (Array.getElem?_eq_some_iff.mp hc).1
  · exact ⟨Nat.le_trans hS.1 hz, fun q hq1 hq2 => by rw [hq q (Nat.lt_of_lt_of_le hq1 hS.1)]; exact hS.2.1 q hq1 hq2⟩
end GoThrow
