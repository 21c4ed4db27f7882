def imax (a b : Int) : Int := if a < b then b else a
def imin (a b : Int) : Int := if b < a then b else a
theorem imax_R {a b : Int} (ha : inR a) (hb : inR b) : inR (imax a b) := by
  unfold imax; split
  · exact hb
  · exact ha
theorem imin_R {a b : Int} (ha : inR a) (hb : inR b) : inR (imin a b) := by
  unfold imin; split
  · exact hb
  · exact ha
theorem ia_of {a n : Nat} (h : shT[a]? = some (.inr (0, n))) : shT[a]? = some (.inr (0, alen a)) := by
  have e : alen a = n := by unfold alen; rw [h]
  rw [e]; exact h
def MXW (own : String) (idx : Nat) : Prop := Cond.methodLink own idx Lib.Math.max.name ∈ GT ∧ Cond.static Lib.Math.max.name ∈ GT ∧ Cond.initialized "java/lang/Math" ∈ GT ∧ Cond.code Lib.Math.max.name Lib.Math.max.code 2 (some .int) ∈ GT
def MNW (own : String) (idx : Nat) : Prop := Cond.methodLink own idx Lib.Math.min.name ∈ GT ∧ Cond.static Lib.Math.min.name ∈ GT ∧ Cond.initialized "java/lang/Math" ∈ GT ∧ Cond.code Lib.Math.min.name Lib.Math.min.code 2 (some .int) ∈ GT
section GoMath
variable {G : gC} {X : gX} {cc : ByteArray} {nL fr mc ms kc ks pc : Nat} {own : String} {rt : Option FieldType} {tb : List ExceptionTableEntry} {ls : List (Option Value)} {st : List Value} {M : Mem}
theorem go_mmax {idx : Nat} {a b : Int} (C : Cx G X cc nL own fr mc ms rt tb) (d : decode cc pc = .ok (.invokestatic idx, 3)) (hw : MXW own idx) (ha : inR a) (hb : inR b) (hcat : (st.map fun v => v.category).sum ≤ 8) (hfr : 1 ≤ fr) (h1 : kc ≤ mc) (h2 : ks ≤ ms) (kk : Go G X nL kc ks (pc + 3) ls (.int (iI (imax a b)) :: st) M) : Go G X nL kc ks pc ls (.int (iI b) :: .int (iI a) :: st) M := by
  obtain ⟨p, l, e, R, s, m, args, below, meth, c, Q⟩ := X
  intro H locs la hP hS hl
  obtain ⟨c1, c2, c3, c4, c5, c6, c7, c8, ⟨r1, r2, r3, r4⟩, -⟩ := C
  obtain ⟨w1, w2, w3, w4⟩ := hw
  refine va_mmax c1 c2 (c3.trans hl.1.symm) c4 (c5 _ w1) (c5 _ w2) (c5 _ w3) (c5 _ w4) (by omega) (by omega) (by omega) (by omega) d ?_
  have e : (if iI a < iI b then iI b else iI a) = iI (imax a b) := by
    unfold imax
    by_cases h : a < b
    · rw [if_pos h, if_pos ((iI_lt ha hb).mpr h)]
    · rw [if_neg h, if_neg (fun q => h ((iI_lt ha hb).mp q))]
  rw [e]
  exact kk H locs la hP hS hl
theorem go_mmin {idx : Nat} {a b : Int} (C : Cx G X cc nL own fr mc ms rt tb) (d : decode cc pc = .ok (.invokestatic idx, 3)) (hw : MNW own idx) (ha : inR a) (hb : inR b) (hcat : (st.map fun v => v.category).sum ≤ 8) (hfr : 1 ≤ fr) (h1 : kc ≤ mc) (h2 : ks ≤ ms) (kk : Go G X nL kc ks (pc + 3) ls (.int (iI (imin a b)) :: st) M) : Go G X nL kc ks pc ls (.int (iI b) :: .int (iI a) :: st) M := by
  obtain ⟨p, l, e, R, s, m, args, below, meth, c, Q⟩ := X
  intro H locs la hP hS hl
  obtain ⟨c1, c2, c3, c4, c5, c6, c7, c8, ⟨r1, r2, r3, r4⟩, -⟩ := C
  obtain ⟨w1, w2, w3, w4⟩ := hw
  refine va_mmin c1 c2 (c3.trans hl.1.symm) c4 (c5 _ w1) (c5 _ w2) (c5 _ w3) (c5 _ w4) (by omega) (by omega) (by omega) (by omega) d ?_
  have e : (if iI b < iI a then iI b else iI a) = iI (imin a b) := by
    unfold imin
    by_cases h : b < a
    · rw [if_pos h, if_pos ((iI_lt hb ha).mpr h)]
    · rw [if_neg h, if_neg (fun q => h ((iI_lt hb ha).mp q))]
  rw [e]
  exact kk H locs la hP hS hl
end GoMath
