section GoRows
variable {G : gC} {X : gX} {cc : ByteArray} {nL fr mc ms kc ks pc : Nat} {own : String} {rt : Option FieldType} {tb : List ExceptionTableEntry} {ls : List (Option Value)} {st : List Value} {I : Heap → Prop}
theorem go_weak {ls' : List (Option Value)} (h : gsb ls' ls) (k : GoI G X nL kc ks pc ls' st I) : GoI G X nL kc ks pc ls st I := by
  obtain ⟨p, l, e, R, s, m, args, below, meth, c, Q⟩ := X
  intro H locs la hP hS hl
  exact k H locs la hP hS ⟨hl.1, hl.2.1, fun j w hj => hl.2.2 j w (gsb_at h j w hj)⟩
theorem go_wide {kc' ks' : Nat} (h1 : kc ≤ kc') (h2 : ks ≤ ks') (k : GoI G X nL kc' ks' pc ls st I) : GoI G X nL kc ks pc ls st I := by
  obtain ⟨p, l, e, R, s, m, args, below, meth, c, Q⟩ := X
  intro H locs la hP hS hl
  exact W.widen h1 h2 (k H locs la hP hS hl)

theorem go_iconst (C : Cx G X cc nL own fr mc ms rt tb) {n : Int} (d : decode cc pc = .ok (.iconst n, 1)) (k : GoI G X nL kc ks (pc + 1) ls (.int (iI n) :: st) I) : GoI G X nL kc ks pc ls st I := by
  obtain ⟨p, l, e, R, s, m, args, below, meth, c, Q⟩ := X
  intro H locs la hP hS hl
  exact lv_iconst C.1 C.2.1 d rfl (k H locs la hP hS hl)

theorem go_bipush (C : Cx G X cc nL own fr mc ms rt tb) {n : Int} (d : decode cc pc = .ok (.bipush n, 2)) (hv : (Int8.ofInt n).toInt32 = iI n) (k : GoI G X nL kc ks (pc + 2) ls (.int (iI n) :: st) I) : GoI G X nL kc ks pc ls st I := by
  obtain ⟨p, l, e, R, s, m, args, below, meth, c, Q⟩ := X
  intro H locs la hP hS hl
  exact lv_bipush C.1 C.2.1 d hv (k H locs la hP hS hl)

theorem go_sipush (C : Cx G X cc nL own fr mc ms rt tb) {n : Int} (d : decode cc pc = .ok (.sipush n, 3)) (hv : (Int16.ofInt n).toInt32 = iI n) (k : GoI G X nL kc ks (pc + 3) ls (.int (iI n) :: st) I) : GoI G X nL kc ks pc ls st I := by
  obtain ⟨p, l, e, R, s, m, args, below, meth, c, Q⟩ := X
  intro H locs la hP hS hl
  exact lv_sipush C.1 C.2.1 d hv (k H locs la hP hS hl)

theorem go_iload_n (C : Cx G X cc nL own fr mc ms rt tb) {j : Fin 4} {i : Nat} {x : Int32} (d : decode cc pc = .ok (.iload_n j, 1)) (hi : (j : Nat) = i) (hx : ls[i]? = some (some (.int x))) (k : GoI G X nL kc ks (pc + 1) ls (.int x :: st) I) : GoI G X nL kc ks pc ls st I := by
  obtain ⟨p, l, e, R, s, m, args, below, meth, c, Q⟩ := X
  intro H locs la hP hS hl
  exact lv_iload_n C.1 C.2.1 d hi (hl.at hx) (k H locs la hP hS hl)

theorem go_iload (C : Cx G X cc nL own fr mc ms rt tb) {i : Nat} {x : Int32} (d : decode cc pc = .ok (.iload i, 2)) (hx : ls[i]? = some (some (.int x))) (k : GoI G X nL kc ks (pc + 2) ls (.int x :: st) I) : GoI G X nL kc ks pc ls st I := by
  obtain ⟨p, l, e, R, s, m, args, below, meth, c, Q⟩ := X
  intro H locs la hP hS hl
  exact lv_iload C.1 C.2.1 d (hl.at hx) (k H locs la hP hS hl)

theorem go_lload_n (C : Cx G X cc nL own fr mc ms rt tb) {j : Fin 4} {i : Nat} {x : Int64} (d : decode cc pc = .ok (.lload_n j, 1)) (hi : (j : Nat) = i) (hx : ls[i]? = some (some (.long x))) (k : GoI G X nL kc ks (pc + 1) ls (.long x :: st) I) : GoI G X nL kc ks pc ls st I := by
  obtain ⟨p, l, e, R, s, m, args, below, meth, c, Q⟩ := X
  intro H locs la hP hS hl
  exact lv_lload_n C.1 C.2.1 d hi (hl.at hx) (k H locs la hP hS hl)

theorem go_lload (C : Cx G X cc nL own fr mc ms rt tb) {i : Nat} {x : Int64} (d : decode cc pc = .ok (.lload i, 2)) (hx : ls[i]? = some (some (.long x))) (k : GoI G X nL kc ks (pc + 2) ls (.long x :: st) I) : GoI G X nL kc ks pc ls st I := by
  obtain ⟨p, l, e, R, s, m, args, below, meth, c, Q⟩ := X
  intro H locs la hP hS hl
  exact lv_lload C.1 C.2.1 d (hl.at hx) (k H locs la hP hS hl)

theorem go_dload_n (C : Cx G X cc nL own fr mc ms rt tb) {j : Fin 4} {i : Nat} {x : UInt64} (d : decode cc pc = .ok (.dload_n j, 1)) (hi : (j : Nat) = i) (hx : ls[i]? = some (some (.double x))) (k : GoI G X nL kc ks (pc + 1) ls (.double x :: st) I) : GoI G X nL kc ks pc ls st I := by
  obtain ⟨p, l, e, R, s, m, args, below, meth, c, Q⟩ := X
  intro H locs la hP hS hl
  exact lv_dload_n C.1 C.2.1 d hi (hl.at hx) (k H locs la hP hS hl)

theorem go_dload (C : Cx G X cc nL own fr mc ms rt tb) {i : Nat} {x : UInt64} (d : decode cc pc = .ok (.dload i, 2)) (hx : ls[i]? = some (some (.double x))) (k : GoI G X nL kc ks (pc + 2) ls (.double x :: st) I) : GoI G X nL kc ks pc ls st I := by
  obtain ⟨p, l, e, R, s, m, args, below, meth, c, Q⟩ := X
  intro H locs la hP hS hl
  exact lv_dload C.1 C.2.1 d (hl.at hx) (k H locs la hP hS hl)

theorem go_aload_n (C : Cx G X cc nL own fr mc ms rt tb) {j : Fin 4} {i : Nat} {x : Nat} (d : decode cc pc = .ok (.aload_n j, 1)) (hi : (j : Nat) = i) (hx : ls[i]? = some (some (.ref x))) (k : GoI G X nL kc ks (pc + 1) ls (.ref x :: st) I) : GoI G X nL kc ks pc ls st I := by
  obtain ⟨p, l, e, R, s, m, args, below, meth, c, Q⟩ := X
  intro H locs la hP hS hl
  exact lv_aload_n C.1 C.2.1 d hi (hl.at hx) (k H locs la hP hS hl)

theorem go_aload (C : Cx G X cc nL own fr mc ms rt tb) {i : Nat} {x : Nat} (d : decode cc pc = .ok (.aload i, 2)) (hx : ls[i]? = some (some (.ref x))) (k : GoI G X nL kc ks (pc + 2) ls (.ref x :: st) I) : GoI G X nL kc ks pc ls st I := by
  obtain ⟨p, l, e, R, s, m, args, below, meth, c, Q⟩ := X
  intro H locs la hP hS hl
  exact lv_aload C.1 C.2.1 d (hl.at hx) (k H locs la hP hS hl)

theorem go_istore_n (C : Cx G X cc nL own fr mc ms rt tb) {j : Fin 4} {i : Nat} {x : Int32} {ls2 : List (Option Value)} (d : decode cc pc = .ok (.istore_n j, 1)) (hi : (j : Nat) = i) (hn : i < nL) (he : sl ls i (.int x) = ls2) (k : GoI G X nL kc ks (pc + 1) ls2 st I) : GoI G X nL kc ks pc ls (.int x :: st) I := by
  obtain ⟨p, l, e, R, s, m, args, below, meth, c, Q⟩ := X
  intro H locs la hP hS hl
  exact lv_istore_n C.1 C.2.1 d hi hl.has hn rfl (fun la2 hl2 => k H locs la2 hP hS (by rw [← he]; exact lh.st1 rfl hl2))

theorem go_istore (C : Cx G X cc nL own fr mc ms rt tb) {i : Nat} {x : Int32} {ls2 : List (Option Value)} (d : decode cc pc = .ok (.istore i, 2)) (hn : i < nL) (he : sl ls i (.int x) = ls2) (k : GoI G X nL kc ks (pc + 2) ls2 st I) : GoI G X nL kc ks pc ls (.int x :: st) I := by
  obtain ⟨p, l, e, R, s, m, args, below, meth, c, Q⟩ := X
  intro H locs la hP hS hl
  exact lv_istore C.1 C.2.1 d hl.has hn rfl (fun la2 hl2 => k H locs la2 hP hS (by rw [← he]; exact lh.st1 rfl hl2))

theorem go_astore_n (C : Cx G X cc nL own fr mc ms rt tb) {j : Fin 4} {i : Nat} {x : Nat} {ls2 : List (Option Value)} (d : decode cc pc = .ok (.astore_n j, 1)) (hi : (j : Nat) = i) (hn : i < nL) (he : sl ls i (.ref x) = ls2) (k : GoI G X nL kc ks (pc + 1) ls2 st I) : GoI G X nL kc ks pc ls (.ref x :: st) I := by
  obtain ⟨p, l, e, R, s, m, args, below, meth, c, Q⟩ := X
  intro H locs la hP hS hl
  exact lv_astore_n C.1 C.2.1 d hi hl.has hn rfl (fun la2 hl2 => k H locs la2 hP hS (by rw [← he]; exact lh.st1 rfl hl2))

theorem go_astore (C : Cx G X cc nL own fr mc ms rt tb) {i : Nat} {x : Nat} {ls2 : List (Option Value)} (d : decode cc pc = .ok (.astore i, 2)) (hn : i < nL) (he : sl ls i (.ref x) = ls2) (k : GoI G X nL kc ks (pc + 2) ls2 st I) : GoI G X nL kc ks pc ls (.ref x :: st) I := by
  obtain ⟨p, l, e, R, s, m, args, below, meth, c, Q⟩ := X
  intro H locs la hP hS hl
  exact lv_astore C.1 C.2.1 d hl.has hn rfl (fun la2 hl2 => k H locs la2 hP hS (by rw [← he]; exact lh.st1 rfl hl2))

theorem go_lstore_n (C : Cx G X cc nL own fr mc ms rt tb) {j : Fin 4} {i : Nat} {x : Int64} {ls2 : List (Option Value)} (d : decode cc pc = .ok (.lstore_n j, 1)) (hi : (j : Nat) = i) (hn : i + 1 < nL) (he : sl ls i (.long x) = ls2) (k : GoI G X nL kc ks (pc + 1) ls2 st I) : GoI G X nL kc ks pc ls (.long x :: st) I := by
  obtain ⟨p, l, e, R, s, m, args, below, meth, c, Q⟩ := X
  intro H locs la hP hS hl
  exact lv_lstore_n C.1 C.2.1 d hi hl.has hn rfl (fun la2 hl2 => k H locs la2 hP hS (by rw [← he]; exact lh.st2 rfl hl2))

theorem go_lstore (C : Cx G X cc nL own fr mc ms rt tb) {i : Nat} {x : Int64} {ls2 : List (Option Value)} (d : decode cc pc = .ok (.lstore i, 2)) (hn : i + 1 < nL) (he : sl ls i (.long x) = ls2) (k : GoI G X nL kc ks (pc + 2) ls2 st I) : GoI G X nL kc ks pc ls (.long x :: st) I := by
  obtain ⟨p, l, e, R, s, m, args, below, meth, c, Q⟩ := X
  intro H locs la hP hS hl
  exact lv_lstore C.1 C.2.1 d hl.has hn rfl (fun la2 hl2 => k H locs la2 hP hS (by rw [← he]; exact lh.st2 rfl hl2))

theorem go_dstore_n (C : Cx G X cc nL own fr mc ms rt tb) {j : Fin 4} {i : Nat} {x : UInt64} {ls2 : List (Option Value)} (d : decode cc pc = .ok (.dstore_n j, 1)) (hi : (j : Nat) = i) (hn : i + 1 < nL) (he : sl ls i (.double x) = ls2) (k : GoI G X nL kc ks (pc + 1) ls2 st I) : GoI G X nL kc ks pc ls (.double x :: st) I := by
  obtain ⟨p, l, e, R, s, m, args, below, meth, c, Q⟩ := X
  intro H locs la hP hS hl
  exact lv_dstore_n C.1 C.2.1 d hi hl.has hn rfl (fun la2 hl2 => k H locs la2 hP hS (by rw [← he]; exact lh.st2 rfl hl2))

theorem go_dstore (C : Cx G X cc nL own fr mc ms rt tb) {i : Nat} {x : UInt64} {ls2 : List (Option Value)} (d : decode cc pc = .ok (.dstore i, 2)) (hn : i + 1 < nL) (he : sl ls i (.double x) = ls2) (k : GoI G X nL kc ks (pc + 2) ls2 st I) : GoI G X nL kc ks pc ls (.double x :: st) I := by
  obtain ⟨p, l, e, R, s, m, args, below, meth, c, Q⟩ := X
  intro H locs la hP hS hl
  exact lv_dstore C.1 C.2.1 d hl.has hn rfl (fun la2 hl2 => k H locs la2 hP hS (by rw [← he]; exact lh.st2 rfl hl2))

theorem go_iinc (C : Cx G X cc nL own fr mc ms rt tb) {i : Nat} {n x : Int} {ls2 : List (Option Value)} (d : decode cc pc = .ok (.iinc i n, 3)) (hx : ls[i]? = some (some (.int (iI x)))) (hn : i < nL) (he : sl ls i (.int (iI (x + n))) = ls2) (k : GoI G X nL kc ks (pc + 3) ls2 st I) : GoI G X nL kc ks pc ls st I := by
  obtain ⟨p, l, e, R, s, m, args, below, meth, c, Q⟩ := X
  intro H locs la hP hS hl
  have hm : (i, Value.int (iI x)) ∈ lp 0 ls := (lp_mem ls 0 _).mpr ⟨i, by simp, hx⟩
  obtain ⟨q, hq⟩ := List.getElem?_of_mem hm
  exact lv_iinc (k := q) C.1 C.2.1 d hl.has hq (iI_add x n) hn rfl (fun la2 hl2 => k H locs la2 hP hS (by rw [← he]; exact lh.st1 rfl hl2))

theorem go_iadd (C : Cx G X cc nL own fr mc ms rt tb) {a b : Int} (d : decode cc pc = .ok (.iadd, 1)) (k : GoI G X nL kc ks (pc + 1) ls (.int (iI (a + b)) :: st) I) : GoI G X nL kc ks pc ls (.int (iI b) :: .int (iI a) :: st) I := by
  obtain ⟨p, l, e, R, s, m, args, below, meth, c, Q⟩ := X
  intro H locs la hP hS hl
  refine lv_iadd C.1 C.2.1 d ?_
  rw [iI_add]
  exact k H locs la hP hS hl

theorem go_isub (C : Cx G X cc nL own fr mc ms rt tb) {a b : Int} (d : decode cc pc = .ok (.isub, 1)) (k : GoI G X nL kc ks (pc + 1) ls (.int (iI (a - b)) :: st) I) : GoI G X nL kc ks pc ls (.int (iI b) :: .int (iI a) :: st) I := by
  obtain ⟨p, l, e, R, s, m, args, below, meth, c, Q⟩ := X
  intro H locs la hP hS hl
  refine lv_isub C.1 C.2.1 d ?_
  rw [iI_sub]
  exact k H locs la hP hS hl

theorem go_imul (C : Cx G X cc nL own fr mc ms rt tb) {a b : Int} (d : decode cc pc = .ok (.imul, 1)) (k : GoI G X nL kc ks (pc + 1) ls (.int (iI (a * b)) :: st) I) : GoI G X nL kc ks pc ls (.int (iI b) :: .int (iI a) :: st) I := by
  obtain ⟨p, l, e, R, s, m, args, below, meth, c, Q⟩ := X
  intro H locs la hP hS hl
  refine lv_imul C.1 C.2.1 d ?_
  rw [iI_mul]
  exact k H locs la hP hS hl

theorem go_ior (C : Cx G X cc nL own fr mc ms rt tb) {a b : Int} (d : decode cc pc = .ok (.ior, 1)) (k : GoI G X nL kc ks (pc + 1) ls (.int (iI (bor a b)) :: st) I) : GoI G X nL kc ks pc ls (.int (iI b) :: .int (iI a) :: st) I := by
  obtain ⟨p, l, e, R, s, m, args, below, meth, c, Q⟩ := X
  intro H locs la hP hS hl
  refine lv_ior C.1 C.2.1 d ?_
  rw [iI_or]
  exact k H locs la hP hS hl

theorem go_iand (C : Cx G X cc nL own fr mc ms rt tb) {a b : Int} (d : decode cc pc = .ok (.iand, 1)) (k : GoI G X nL kc ks (pc + 1) ls (.int (iI (band a b)) :: st) I) : GoI G X nL kc ks pc ls (.int (iI b) :: .int (iI a) :: st) I := by
  obtain ⟨p, l, e, R, s, m, args, below, meth, c, Q⟩ := X
  intro H locs la hP hS hl
  refine lv_iand C.1 C.2.1 d ?_
  rw [iI_and]
  exact k H locs la hP hS hl

theorem go_ishl (C : Cx G X cc nL own fr mc ms rt tb) {a b : Int} (d : decode cc pc = .ok (.ishl, 1)) (k : GoI G X nL kc ks (pc + 1) ls (.int (iI (bshl a b)) :: st) I) : GoI G X nL kc ks pc ls (.int (iI b) :: .int (iI a) :: st) I := by
  obtain ⟨p, l, e, R, s, m, args, below, meth, c, Q⟩ := X
  intro H locs la hP hS hl
  refine lv_ishl C.1 C.2.1 d ?_
  rw [iI_shl]
  exact k H locs la hP hS hl

theorem go_ishr (C : Cx G X cc nL own fr mc ms rt tb) {a b : Int} (d : decode cc pc = .ok (.ishr, 1)) (k : GoI G X nL kc ks (pc + 1) ls (.int (iI (bshr a b)) :: st) I) : GoI G X nL kc ks pc ls (.int (iI b) :: .int (iI a) :: st) I := by
  obtain ⟨p, l, e, R, s, m, args, below, meth, c, Q⟩ := X
  intro H locs la hP hS hl
  refine lv_ishr C.1 C.2.1 d ?_
  rw [iI_shr]
  exact k H locs la hP hS hl

theorem go_idiv (C : Cx G X cc nL own fr mc ms rt tb) {a b : Int} (d : decode cc pc = .ok (.idiv, 1)) (hc : (inR a ∧ inR b) ∧ 0 ≤ a ∧ 0 < b) (k : GoI G X nL kc ks (pc + 1) ls (.int (iI (a / b)) :: st) I) : GoI G X nL kc ks pc ls (.int (iI b) :: .int (iI a) :: st) I := by
  obtain ⟨p, l, e, R, s, m, args, below, meth, c, Q⟩ := X
  intro H locs la hP hS hl
  refine lv_idiv C.1 C.2.1 d (iI_ne0 hc.1.2 hc.2.2) ?_
  rw [iI_div hc.1.1 hc.1.2 hc.2.1 hc.2.2]
  exact k H locs la hP hS hl

theorem go_irem (C : Cx G X cc nL own fr mc ms rt tb) {a b : Int} (d : decode cc pc = .ok (.irem, 1)) (hc : (inR a ∧ inR b) ∧ 0 ≤ a ∧ 0 < b) (k : GoI G X nL kc ks (pc + 1) ls (.int (iI (a % b)) :: st) I) : GoI G X nL kc ks pc ls (.int (iI b) :: .int (iI a) :: st) I := by
  obtain ⟨p, l, e, R, s, m, args, below, meth, c, Q⟩ := X
  intro H locs la hP hS hl
  refine lv_irem C.1 C.2.1 d (iI_ne0 hc.1.2 hc.2.2) ?_
  rw [iI_rem hc.1.1 hc.1.2 hc.2.1 hc.2.2]
  exact k H locs la hP hS hl

theorem go_ladd (C : Cx G X cc nL own fr mc ms rt tb) {a b : Int} (d : decode cc pc = .ok (.ladd, 1)) (k : GoI G X nL kc ks (pc + 1) ls (.long (lI (a + b)) :: st) I) : GoI G X nL kc ks pc ls (.long (lI b) :: .long (lI a) :: st) I := by
  obtain ⟨p, l, e, R, s, m, args, below, meth, c, Q⟩ := X
  intro H locs la hP hS hl
  refine lv_ladd C.1 C.2.1 d ?_
  rw [lI_add]
  exact k H locs la hP hS hl

theorem go_lmul (C : Cx G X cc nL own fr mc ms rt tb) {a b : Int} (d : decode cc pc = .ok (.lmul, 1)) (k : GoI G X nL kc ks (pc + 1) ls (.long (lI (a * b)) :: st) I) : GoI G X nL kc ks pc ls (.long (lI b) :: .long (lI a) :: st) I := by
  obtain ⟨p, l, e, R, s, m, args, below, meth, c, Q⟩ := X
  intro H locs la hP hS hl
  refine lv_lmul C.1 C.2.1 d ?_
  rw [lI_mul]
  exact k H locs la hP hS hl

theorem go_ldiv (C : Cx G X cc nL own fr mc ms rt tb) {a b : Int} (d : decode cc pc = .ok (.ldiv, 1)) (hc : (inL a ∧ inL b) ∧ 0 ≤ a ∧ 0 < b) (k : GoI G X nL kc ks (pc + 1) ls (.long (lI (a / b)) :: st) I) : GoI G X nL kc ks pc ls (.long (lI b) :: .long (lI a) :: st) I := by
  obtain ⟨p, l, e, R, s, m, args, below, meth, c, Q⟩ := X
  intro H locs la hP hS hl
  refine lv_ldiv C.1 C.2.1 d (lI_ne0 hc.1.2 hc.2.2) ?_
  rw [lI_div hc.1.1 hc.1.2 hc.2.1 hc.2.2]
  exact k H locs la hP hS hl

theorem go_lrem (C : Cx G X cc nL own fr mc ms rt tb) {a b : Int} (d : decode cc pc = .ok (.lrem, 1)) (hc : (inL a ∧ inL b) ∧ 0 ≤ a ∧ 0 < b) (k : GoI G X nL kc ks (pc + 1) ls (.long (lI (a % b)) :: st) I) : GoI G X nL kc ks pc ls (.long (lI b) :: .long (lI a) :: st) I := by
  obtain ⟨p, l, e, R, s, m, args, below, meth, c, Q⟩ := X
  intro H locs la hP hS hl
  refine lv_lrem C.1 C.2.1 d (lI_ne0 hc.1.2 hc.2.2) ?_
  rw [lI_rem hc.1.1 hc.1.2 hc.2.1 hc.2.2]
  exact k H locs la hP hS hl

theorem go_i2l (C : Cx G X cc nL own fr mc ms rt tb) {a : Int} (d : decode cc pc = .ok (.i2l, 1)) (hc : inR a) (k : GoI G X nL kc ks (pc + 1) ls (.long (lI a) :: st) I) : GoI G X nL kc ks pc ls (.int (iI a) :: st) I := by
  obtain ⟨p, l, e, R, s, m, args, below, meth, c, Q⟩ := X
  intro H locs la hP hS hl
  exact lv_i2l C.1 C.2.1 d (iI_l hc) (k H locs la hP hS hl)

theorem go_l2i (C : Cx G X cc nL own fr mc ms rt tb) {a : Int} (d : decode cc pc = .ok (.l2i, 1)) (k : GoI G X nL kc ks (pc + 1) ls (.int (iI a) :: st) I) : GoI G X nL kc ks pc ls (.long (lI a) :: st) I := by
  obtain ⟨p, l, e, R, s, m, args, below, meth, c, Q⟩ := X
  intro H locs la hP hS hl
  exact lv_l2i C.1 C.2.1 d (lI_i a) (k H locs la hP hS hl)

theorem go_i2d (C : Cx G X cc nL own fr mc ms rt tb) {a : Int} (d : decode cc pc = .ok (.i2d, 1)) (k : GoI G X nL kc ks (pc + 1) ls (.double (FP.i2d (iI a)) :: st) I) : GoI G X nL kc ks pc ls (.int (iI a) :: st) I := by
  obtain ⟨p, l, e, R, s, m, args, below, meth, c, Q⟩ := X
  intro H locs la hP hS hl
  exact lv_i2d C.1 C.2.1 d (k H locs la hP hS hl)

theorem go_ddiv (C : Cx G X cc nL own fr mc ms rt tb) {a b : UInt64} (d : decode cc pc = .ok (.ddiv, 1)) (hc : vf_n64 (FP.ddiv a b)) (k : GoI G X nL kc ks (pc + 1) ls (.double (FP.ddiv a b) :: st) I) : GoI G X nL kc ks pc ls (.double b :: .double a :: st) I := by
  obtain ⟨p, l, e, R, s, m, args, below, meth, c, Q⟩ := X
  intro H locs la hP hS hl
  exact lv_ddiv C.1 C.2.1 d hc (k H locs la hP hS hl)

theorem go_dconst0 (C : Cx G X cc nL own fr mc ms rt tb) (d : decode cc pc = .ok (.dconst 0, 1)) (k : GoI G X nL kc ks (pc + 1) ls (.double 0 :: st) I) : GoI G X nL kc ks pc ls st I := by
  obtain ⟨p, l, e, R, s, m, args, below, meth, c, Q⟩ := X
  intro H locs la hP hS hl
  exact lv_dconst0 C.1 C.2.1 d (k H locs la hP hS hl)

theorem go_dcmp (C : Cx G X cc nL own fr mc ms rt tb) {a b : UInt64} {op : CmpOp} (d : decode cc pc = .ok (.dcmp op, 1)) (k : GoI G X nL kc ks (pc + 1) ls (.int (iI (Op.cmpValue (FP.dcmp a b) op).toInt) :: st) I) : GoI G X nL kc ks pc ls (.double b :: .double a :: st) I := by
  obtain ⟨p, l, e, R, s, m, args, below, meth, c, Q⟩ := X
  intro H locs la hP hS hl
  refine lv_dcmp C.1 C.2.1 d ?_
  rw [← iI_of (Op.cmpValue (FP.dcmp a b) op)]
  exact k H locs la hP hS hl

theorem go_lcmp (C : Cx G X cc nL own fr mc ms rt tb) {a b : Int} (d : decode cc pc = .ok (.lcmp, 1)) (k : GoI G X nL kc ks (pc + 1) ls (.int (iI (lg_cmp (lI a) (lI b)).toInt) :: st) I) : GoI G X nL kc ks pc ls (.long (lI b) :: .long (lI a) :: st) I := by
  obtain ⟨p, l, e, R, s, m, args, below, meth, c, Q⟩ := X
  intro H locs la hP hS hl
  refine W.lcmp C.1 C.2.1 d ?_
  rw [← iI_of (lg_cmp (lI a) (lI b))]
  exact k H locs la hP hS hl

theorem go_dup (C : Cx G X cc nL own fr mc ms rt tb) {v : Value} (d : decode cc pc = .ok (.dup, 1)) (hv : v.category = 1) (k : GoI G X nL kc ks (pc + 1) ls (v :: v :: st) I) : GoI G X nL kc ks pc ls (v :: st) I := by
  obtain ⟨p, l, e, R, s, m, args, below, meth, c, Q⟩ := X
  intro H locs la hP hS hl
  exact lv_dup C.1 C.2.1 d hv (k H locs la hP hS hl)

theorem go_dup2 (C : Cx G X cc nL own fr mc ms rt tb) {u v : Value} (d : decode cc pc = .ok (.dup2, 1)) (hv : v.category = 1) (hu : u.category = 1) (k : GoI G X nL kc ks (pc + 1) ls (v :: u :: v :: u :: st) I) : GoI G X nL kc ks pc ls (v :: u :: st) I := by
  obtain ⟨p, l, e, R, s, m, args, below, meth, c, Q⟩ := X
  intro H locs la hP hS hl
  exact lv_dup2_11 C.1 C.2.1 d hv hu (k H locs la hP hS hl)

theorem go_ldc (C : Cx G X cc nL own fr mc ms rt tb) {index : Nat} {v : Int} (d : decode cc pc = .ok (.ldc index, 2)) (hw : Cond.constant own index (iI v) ∈ GT) (k : GoI G X nL kc ks (pc + 2) ls (.int (iI v) :: st) I) : GoI G X nL kc ks pc ls st I := by
  obtain ⟨p, l, e, R, s, m, args, below, meth, c, Q⟩ := X
  intro H locs la hP hS hl
  exact lv_ldc C.1 C.2.1 C.2.2.2.1 (C.2.2.2.2.1 _ hw) d (k H locs la hP hS hl)

theorem go_ldc_w (C : Cx G X cc nL own fr mc ms rt tb) {index : Nat} {v : Int} (d : decode cc pc = .ok (.ldc_w index, 3)) (hw : Cond.constant own index (iI v) ∈ GT) (k : GoI G X nL kc ks (pc + 3) ls (.int (iI v) :: st) I) : GoI G X nL kc ks pc ls st I := by
  obtain ⟨p, l, e, R, s, m, args, below, meth, c, Q⟩ := X
  intro H locs la hP hS hl
  exact lv_ldcw C.1 C.2.1 C.2.2.2.1 (C.2.2.2.2.1 _ hw) d (k H locs la hP hS hl)

theorem go_ldc2 (C : Cx G X cc nL own fr mc ms rt tb) {index : Nat} {v : Int} (d : decode cc pc = .ok (.ldc2_w index, 3)) (hw : Cond.constantLong own index (lI v) ∈ GT) (k : GoI G X nL kc ks (pc + 3) ls (.long (lI v) :: st) I) : GoI G X nL kc ks pc ls st I := by
  obtain ⟨p, l, e, R, s, m, args, below, meth, c, Q⟩ := X
  intro H locs la hP hS hl
  exact lv_ldc2 C.1 C.2.1 C.2.2.2.1 (C.2.2.2.2.1 _ hw) d (k H locs la hP hS hl)

theorem go_goto (C : Cx G X cc nL own fr mc ms rt tb) {off : Int} {tgt : Nat} (d : decode cc pc = .ok (.goto off, 3)) (ht : (pc : Int) + off = (tgt : Int)) (k : GoI G X nL kc ks tgt ls st I) : GoI G X nL kc ks pc ls st I := by
  obtain ⟨p, l, e, R, s, m, args, below, meth, c, Q⟩ := X
  intro H locs la hP hS hl
  exact lv_goto C.1 C.2.1 d ht (k H locs la hP hS hl)

theorem go_icmp_eq (C : Cx G X cc nL own fr mc ms rt tb) {off : Int} {tgt : Nat} {a b : Int} (d : decode cc pc = .ok (.if_icmp .eq off, 3)) (ht : (pc : Int) + off = (tgt : Int)) (ha : inR a) (hb : inR b) (kt : a = b → GoI G X nL kc ks tgt ls st I) (kf : ¬ (a = b) → GoI G X nL kc ks (pc + 3) ls st I) : GoI G X nL kc ks pc ls (.int (iI b) :: .int (iI a) :: st) I := by
  obtain ⟨p, l, e, R, s, m, args, below, meth, c, Q⟩ := X
  intro H locs la hP hS hl
  exact lv_icmp_eq C.1 C.2.1 d ht (fun h => kt ((iI_eq ha hb).mp h) H locs la hP hS hl) (fun h => kf (fun q => h ((iI_eq ha hb).mpr q)) H locs la hP hS hl)

theorem go_icmp_ne (C : Cx G X cc nL own fr mc ms rt tb) {off : Int} {tgt : Nat} {a b : Int} (d : decode cc pc = .ok (.if_icmp .ne off, 3)) (ht : (pc : Int) + off = (tgt : Int)) (ha : inR a) (hb : inR b) (kt : ¬ a = b → GoI G X nL kc ks tgt ls st I) (kf : a = b → GoI G X nL kc ks (pc + 3) ls st I) : GoI G X nL kc ks pc ls (.int (iI b) :: .int (iI a) :: st) I := by
  obtain ⟨p, l, e, R, s, m, args, below, meth, c, Q⟩ := X
  intro H locs la hP hS hl
  exact lv_icmp_ne C.1 C.2.1 d ht (fun h => kt (fun q => h ((iI_eq ha hb).mpr q)) H locs la hP hS hl) (fun h => kf ((iI_eq ha hb).mp h) H locs la hP hS hl)

theorem go_icmp_lt (C : Cx G X cc nL own fr mc ms rt tb) {off : Int} {tgt : Nat} {a b : Int} (d : decode cc pc = .ok (.if_icmp .lt off, 3)) (ht : (pc : Int) + off = (tgt : Int)) (ha : inR a) (hb : inR b) (kt : a < b → GoI G X nL kc ks tgt ls st I) (kf : ¬ (a < b) → GoI G X nL kc ks (pc + 3) ls st I) : GoI G X nL kc ks pc ls (.int (iI b) :: .int (iI a) :: st) I := by
  obtain ⟨p, l, e, R, s, m, args, below, meth, c, Q⟩ := X
  intro H locs la hP hS hl
  exact lv_icmp_lt C.1 C.2.1 d ht (fun h => kt ((iI_lt ha hb).mp h) H locs la hP hS hl) (fun h => kf (fun q => h ((iI_lt ha hb).mpr q)) H locs la hP hS hl)

theorem go_icmp_ge (C : Cx G X cc nL own fr mc ms rt tb) {off : Int} {tgt : Nat} {a b : Int} (d : decode cc pc = .ok (.if_icmp .ge off, 3)) (ht : (pc : Int) + off = (tgt : Int)) (ha : inR a) (hb : inR b) (kt : b ≤ a → GoI G X nL kc ks tgt ls st I) (kf : ¬ (b ≤ a) → GoI G X nL kc ks (pc + 3) ls st I) : GoI G X nL kc ks pc ls (.int (iI b) :: .int (iI a) :: st) I := by
  obtain ⟨p, l, e, R, s, m, args, below, meth, c, Q⟩ := X
  intro H locs la hP hS hl
  exact lv_icmp_ge C.1 C.2.1 d ht (fun h => kt ((iI_le hb ha).mp h) H locs la hP hS hl) (fun h => kf (fun q => h ((iI_le hb ha).mpr q)) H locs la hP hS hl)

theorem go_icmp_gt (C : Cx G X cc nL own fr mc ms rt tb) {off : Int} {tgt : Nat} {a b : Int} (d : decode cc pc = .ok (.if_icmp .gt off, 3)) (ht : (pc : Int) + off = (tgt : Int)) (ha : inR a) (hb : inR b) (kt : b < a → GoI G X nL kc ks tgt ls st I) (kf : ¬ (b < a) → GoI G X nL kc ks (pc + 3) ls st I) : GoI G X nL kc ks pc ls (.int (iI b) :: .int (iI a) :: st) I := by
  obtain ⟨p, l, e, R, s, m, args, below, meth, c, Q⟩ := X
  intro H locs la hP hS hl
  exact lv_icmp_gt C.1 C.2.1 d ht (fun h => kt ((iI_lt hb ha).mp h) H locs la hP hS hl) (fun h => kf (fun q => h ((iI_lt hb ha).mpr q)) H locs la hP hS hl)

theorem go_icmp_le (C : Cx G X cc nL own fr mc ms rt tb) {off : Int} {tgt : Nat} {a b : Int} (d : decode cc pc = .ok (.if_icmp .le off, 3)) (ht : (pc : Int) + off = (tgt : Int)) (ha : inR a) (hb : inR b) (kt : a ≤ b → GoI G X nL kc ks tgt ls st I) (kf : ¬ (a ≤ b) → GoI G X nL kc ks (pc + 3) ls st I) : GoI G X nL kc ks pc ls (.int (iI b) :: .int (iI a) :: st) I := by
  obtain ⟨p, l, e, R, s, m, args, below, meth, c, Q⟩ := X
  intro H locs la hP hS hl
  exact lv_icmp_le C.1 C.2.1 d ht (fun h => kt ((iI_le ha hb).mp h) H locs la hP hS hl) (fun h => kf (fun q => h ((iI_le ha hb).mpr q)) H locs la hP hS hl)

theorem go_if_eq (C : Cx G X cc nL own fr mc ms rt tb) {off : Int} {tgt : Nat} {a : Int} (d : decode cc pc = .ok (.ifCond .eq off, 3)) (ht : (pc : Int) + off = (tgt : Int)) (ha : inR a) (kt : a = 0 → GoI G X nL kc ks tgt ls st I) (kf : ¬ (a = 0) → GoI G X nL kc ks (pc + 3) ls st I) : GoI G X nL kc ks pc ls (.int (iI a) :: st) I := by
  obtain ⟨p, l, e, R, s, m, args, below, meth, c, Q⟩ := X
  intro H locs la hP hS hl
  have z := iI_0
  exact lv_if_eq C.1 C.2.1 d ht (fun h => kt ((iI_eq ha inR0).mp (by rw [iI_0]; exact h)) H locs la hP hS hl) (fun h => kf (fun q => h (by have q2 := (iI_eq ha inR0).mpr q; rw [iI_0] at q2; exact q2)) H locs la hP hS hl)

theorem go_if_ne (C : Cx G X cc nL own fr mc ms rt tb) {off : Int} {tgt : Nat} {a : Int} (d : decode cc pc = .ok (.ifCond .ne off, 3)) (ht : (pc : Int) + off = (tgt : Int)) (ha : inR a) (kt : ¬ a = 0 → GoI G X nL kc ks tgt ls st I) (kf : a = 0 → GoI G X nL kc ks (pc + 3) ls st I) : GoI G X nL kc ks pc ls (.int (iI a) :: st) I := by
  obtain ⟨p, l, e, R, s, m, args, below, meth, c, Q⟩ := X
  intro H locs la hP hS hl
  exact lv_if_ne C.1 C.2.1 d ht (fun h => kt (fun q => h (by rw [q]; exact iI_0)) H locs la hP hS hl) (fun h => kf ((iI_eq ha inR0).mp (by rw [iI_0]; exact h)) H locs la hP hS hl)

theorem go_if_lt (C : Cx G X cc nL own fr mc ms rt tb) {off : Int} {tgt : Nat} {a : Int} (d : decode cc pc = .ok (.ifCond .lt off, 3)) (ht : (pc : Int) + off = (tgt : Int)) (ha : inR a) (kt : a < 0 → GoI G X nL kc ks tgt ls st I) (kf : ¬ (a < 0) → GoI G X nL kc ks (pc + 3) ls st I) : GoI G X nL kc ks pc ls (.int (iI a) :: st) I := by
  obtain ⟨p, l, e, R, s, m, args, below, meth, c, Q⟩ := X
  intro H locs la hP hS hl
  have z := iI_0
  exact lv_if_lt C.1 C.2.1 d ht (fun h => kt ((iI_lt ha inR0).mp (by rw [iI_0]; exact h)) H locs la hP hS hl) (fun h => kf (fun q => h (by have q2 := (iI_lt ha inR0).mpr q; rw [iI_0] at q2; exact q2)) H locs la hP hS hl)

theorem go_if_ge (C : Cx G X cc nL own fr mc ms rt tb) {off : Int} {tgt : Nat} {a : Int} (d : decode cc pc = .ok (.ifCond .ge off, 3)) (ht : (pc : Int) + off = (tgt : Int)) (ha : inR a) (kt : 0 ≤ a → GoI G X nL kc ks tgt ls st I) (kf : ¬ (0 ≤ a) → GoI G X nL kc ks (pc + 3) ls st I) : GoI G X nL kc ks pc ls (.int (iI a) :: st) I := by
  obtain ⟨p, l, e, R, s, m, args, below, meth, c, Q⟩ := X
  intro H locs la hP hS hl
  have z := iI_0
  exact lv_if_ge C.1 C.2.1 d ht (fun h => kt ((iI_le inR0 ha).mp (by rw [iI_0]; exact h)) H locs la hP hS hl) (fun h => kf (fun q => h (by have q2 := (iI_le inR0 ha).mpr q; rw [iI_0] at q2; exact q2)) H locs la hP hS hl)

theorem go_if_gt (C : Cx G X cc nL own fr mc ms rt tb) {off : Int} {tgt : Nat} {a : Int} (d : decode cc pc = .ok (.ifCond .gt off, 3)) (ht : (pc : Int) + off = (tgt : Int)) (ha : inR a) (kt : 0 < a → GoI G X nL kc ks tgt ls st I) (kf : ¬ (0 < a) → GoI G X nL kc ks (pc + 3) ls st I) : GoI G X nL kc ks pc ls (.int (iI a) :: st) I := by
  obtain ⟨p, l, e, R, s, m, args, below, meth, c, Q⟩ := X
  intro H locs la hP hS hl
  have z := iI_0
  exact lv_if_gt C.1 C.2.1 d ht (fun h => kt ((iI_lt inR0 ha).mp (by rw [iI_0]; exact h)) H locs la hP hS hl) (fun h => kf (fun q => h (by have q2 := (iI_lt inR0 ha).mpr q; rw [iI_0] at q2; exact q2)) H locs la hP hS hl)

theorem go_if_le (C : Cx G X cc nL own fr mc ms rt tb) {off : Int} {tgt : Nat} {a : Int} (d : decode cc pc = .ok (.ifCond .le off, 3)) (ht : (pc : Int) + off = (tgt : Int)) (ha : inR a) (kt : a ≤ 0 → GoI G X nL kc ks tgt ls st I) (kf : ¬ (a ≤ 0) → GoI G X nL kc ks (pc + 3) ls st I) : GoI G X nL kc ks pc ls (.int (iI a) :: st) I := by
  obtain ⟨p, l, e, R, s, m, args, below, meth, c, Q⟩ := X
  intro H locs la hP hS hl
  have z := iI_0
  exact lv_if_le C.1 C.2.1 d ht (fun h => kt ((iI_le ha inR0).mp (by rw [iI_0]; exact h)) H locs la hP hS hl) (fun h => kf (fun q => h (by have q2 := (iI_le ha inR0).mpr q; rw [iI_0] at q2; exact q2)) H locs la hP hS hl)

end GoRows
