/-! changes of the network -/
abbrev sClr (s : Sg) : Sg := (sN s, sK s, sF s, sS s, sL s, sB s, fun _ _ => -1)
abbrev sDrop (s : Sg) (i : Nat) : Sg := (sN s, sK s - 1, fun j => if j < i then sF s j else sF s (j + 1), fun j => if j < i then sS s j else sS s (j + 1), fun j => if j < i then sL s j else sL s (j + 1), sB s, sE s)
abbrev sLen (s : Sg) (i x : Nat) : Sg := (sN s, sK s, sF s, sS s, fun j => if j = i then x else sL s j, sB s, sE s)
abbrev sLab (s : Sg) (b : Nat → Nat) : Sg := (sN s, sK s, sF s, sS s, sL s, b, sE s)
abbrev sEnt (s : Sg) (e : Nat → Nat → Int) : Sg := (sN s, sK s, sF s, sS s, sL s, sB s, e)
theorem clear_ok {F r : Nat} (hF : 100000 ≤ F) (hr : shT[r]? = some (.inl 6)) {M : Mem} {s : Sg} (h : SC r M s) (w : WN s) : ∃ M', f_X6_clearEntries F r M = some M' ∧ SC r M' (sClr s) := by
  obtain ⟨h1, h2, h3, h4, h5⟩ := h
  have w1 := w.1
  refine ⟨_, clear_eq hF hr M, ?_, ?_, fun i hi => ?_, fun v hv => ?_, fun v l hv hl => ?_⟩
  · rw [mf_a (by omega)]; exact h1
  · rw [mf_a (by omega)]; exact h2
  · rw [mf_a (by omega), mf_a (by omega), mf_a (by omega)]; exact h3 i hi
  · rw [mf_a (by omega)]; exact h4 v hv
  · have hv : v < sN s := hv
    have hl : l < sN s := hl
    rw [mf_in (by omega)]
theorem drop_loop {F r : Nat} {M : Mem} {k : Nat} {i0 : Nat} (hk : M r 1 = k) (hk2 : k ≤ 16) : ∀ (d i fu : Nat), i0 ≤ i → i + 1 + d = k → d < fu → f_X6_drop_2 F r fu i (mfill (mfill (mfill M (r + 1) i0 i (fun j => M (r + 1) (j + 1))) (r + 2) i0 i (fun j => M (r + 2) (j + 1))) (r + 3) i0 i (fun j => M (r + 3) (j + 1))) = some (mset (mfill (mfill (mfill M (r + 1) i0 (k - 1) (fun j => M (r + 1) (j + 1))) (r + 2) i0 (k - 1) (fun j => M (r + 2) (j + 1))) (r + 3) i0 (k - 1) (fun j => M (r + 3) (j + 1))) r 1 (k - 1)) := by
  intro d
  induction d with
  | zero =>
    intro i fu h0 h1 h2
    obtain ⟨fu, rfl⟩ := fuel_s h2
    have e : (mfill (mfill (mfill M (r + 1) i0 i (fun j => M (r + 1) (j + 1))) (r + 2) i0 i (fun j => M (r + 2) (j + 1))) (r + 3) i0 i (fun j => M (r + 3) (j + 1))) r 1 = k := by
      rw [mf_a (by omega), mf_a (by omega), mf_a (by omega)]; exact hk
    rw [f_X6_drop_2, chk_t (by omega), e, if_pos (by omega), chk_t (by omega), show (i : Int) = k - 1 by omega]
  | succ d ih =>
    intro i fu h0 h1 h2
    obtain ⟨fu, rfl⟩ := fuel_s h2
    have e : (mfill (mfill (mfill M (r + 1) i0 i (fun j => M (r + 1) (j + 1))) (r + 2) i0 i (fun j => M (r + 2) (j + 1))) (r + 3) i0 i (fun j => M (r + 3) (j + 1))) r 1 = k := by
      rw [mf_a (by omega), mf_a (by omega), mf_a (by omega)]; exact hk
    rw [f_X6_drop_2, chk_t (by omega), e, if_neg (by omega), chk_t (by omega), chk_t (by omega)]
    refine Eq.trans ?_ (ih (i + 1) fu (by omega) (by omega) (by omega))
    congr 1
    have a1 : (mfill (mfill (mfill M (r + 1) i0 i (fun j => M (r + 1) (j + 1))) (r + 2) i0 i (fun j => M (r + 2) (j + 1))) (r + 3) i0 i (fun j => M (r + 3) (j + 1))) (r + 1) (i + 1) = M (r + 1) (i + 1) := by
      rw [mf_a (by omega), mf_a (by omega), mf_o (by omega)]
    have a2 : (mfill (mfill (mfill M (r + 1) i0 i (fun j => M (r + 1) (j + 1))) (r + 2) i0 i (fun j => M (r + 2) (j + 1))) (r + 3) i0 i (fun j => M (r + 3) (j + 1))) (r + 2) (i + 1) = M (r + 2) (i + 1) := by
      rw [mf_a (by omega), mf_o (by omega), mf_a (by omega)]
    have a3 : (mfill (mfill (mfill M (r + 1) i0 i (fun j => M (r + 1) (j + 1))) (r + 2) i0 i (fun j => M (r + 2) (j + 1))) (r + 3) i0 i (fun j => M (r + 3) (j + 1))) (r + 3) (i + 1) = M (r + 3) (i + 1) := by
      rw [mf_o (by omega), mf_a (by omega), mf_a (by omega)]
    rw [ms_a (b := r + 2) (by omega), ms_a (b := r + 3) (by omega), ms_a (b := r + 3) (by omega), a1, a2, a3]
    funext b j
    unfold mset mfill
    by_cases c1 : b = r + 1
    · subst c1
      by_cases c2 : j = i
      · subst c2
        rw [if_neg (by omega), if_neg (by omega), if_pos (by omega), if_neg (by omega), if_neg (by omega), if_pos (by omega)]
      · by_cases c3 : (i0 : Int) ≤ j ∧ j < i
        · rw [if_neg (by omega), if_neg (by omega), if_neg (by omega), if_neg (by omega), if_neg (by omega), if_pos (by omega), if_neg (by omega), if_neg (by omega), if_pos (by omega)]
        · rw [if_neg (by omega), if_neg (by omega), if_neg (by omega), if_neg (by omega), if_neg (by omega), if_neg (by omega), if_neg (by omega), if_neg (by omega), if_neg (by omega)]
    · by_cases c4 : b = r + 2
      · subst c4
        by_cases c2 : j = i
        · subst c2
          rw [if_neg (by omega), if_pos (by omega), if_neg (by omega), if_pos (by omega)]
        · by_cases c3 : (i0 : Int) ≤ j ∧ j < i
          · rw [if_neg (by omega), if_neg (by omega), if_neg (by omega), if_neg (by omega), if_pos (by omega), if_neg (by omega), if_pos (by omega)]
          · rw [if_neg (by omega), if_neg (by omega), if_neg (by omega), if_neg (by omega), if_neg (by omega), if_neg (by omega), if_neg (by omega), if_neg (by omega), if_neg (by omega)]
      · by_cases c5 : b = r + 3
        · subst c5
          by_cases c2 : j = i
          · subst c2
            rw [if_pos (by omega), if_pos (by omega)]
          · by_cases c3 : (i0 : Int) ≤ j ∧ j < i
            · rw [if_neg (by omega), if_neg (by omega), if_neg (by omega), if_pos (by omega), if_pos (by omega)]
            · rw [if_neg (by omega), if_neg (by omega), if_neg (by omega), if_neg (by omega), if_neg (by omega), if_neg (by omega), if_neg (by omega), if_neg (by omega), if_neg (by omega)]
        · rw [if_neg (by omega), if_neg (by omega), if_neg (by omega), if_neg (by omega), if_neg (by omega), if_neg (by omega), if_neg (by omega), if_neg (by omega), if_neg (by omega)]
theorem cif {p : Prop} [Decidable p] {a b : Nat} : ((if p then a else b : Nat) : Int) = if p then (a : Int) else b := by split <;> rfl
theorem drop_ok {F r : Nat} (hF : 100000 ≤ F) {M : Mem} {s : Sg} (h : SC r M s) (w : WN s) {i : Nat} (hi : i < sK s) : ∃ M', f_X6_drop F r i M = some M' ∧ SC r M' (sDrop s i) := by
  obtain ⟨h1, h2, h3, h4, h5⟩ := h
  have w1 := w.1
  have w2 := w.2.1
  refine ⟨mset (mfill (mfill (mfill M (r + 1) i (sK s - 1) (fun j => M (r + 1) (j + 1))) (r + 2) i (sK s - 1) (fun j => M (r + 2) (j + 1))) (r + 3) i (sK s - 1) (fun j => M (r + 3) (j + 1))) r 1 (sK s - 1), ?_, ?_, ?_, fun j hj => ?_, fun v hv => ?_, fun v l hv hl => ?_⟩
  · refine Eq.trans ?_ (drop_loop (F := F) (r := r) (i0 := i) h2 w2 (sK s - 1 - i) i F (by omega) (by omega) (by omega))
    rw [mfill_0, mfill_0, mfill_0]; rfl
  · rw [ms_i (by decide), mf_a (by omega), mf_a (by omega), mf_a (by omega)]; exact h1
  · rw [ms_eq]; show (sK s : Int) - 1 = ((sK s - 1 : Nat) : Int); omega
  · have hj : j < sK s - 1 := hj
    show _ = ((if j < i then sF s j else sF s (j + 1) : Nat) : Int) ∧ _ = ((if j < i then sS s j else sS s (j + 1) : Nat) : Int) ∧ _ = ((if j < i then sL s j else sL s (j + 1) : Nat) : Int)
    obtain ⟨a1, a2, a3⟩ := h3 j (by omega)
    obtain ⟨b1, b2, b3⟩ := h3 (j + 1) (by omega)
    by_cases c : j < i
    · rw [if_pos c, if_pos c, if_pos c]
      refine ⟨?_, ?_, ?_⟩
      · rw [ms_a (by omega), mf_a (by omega), mf_a (by omega), mf_o (by omega)]; exact a1
      · rw [ms_a (by omega), mf_a (by omega), mf_o (by omega), mf_a (by omega)]; exact a2
      · rw [ms_a (by omega), mf_o (by omega), mf_a (by omega), mf_a (by omega)]; exact a3
    · rw [if_neg c, if_neg c, if_neg c]
      refine ⟨?_, ?_, ?_⟩
      · rw [ms_a (by omega), mf_a (by omega), mf_a (by omega), mf_in (by omega)]; exact b1
      · rw [ms_a (by omega), mf_a (by omega), mf_in (by omega)]; exact b2
      · rw [ms_a (by omega), mf_in (by omega)]; exact b3
  · rw [ms_a (by omega), mf_a (by omega), mf_a (by omega), mf_a (by omega)]; exact h4 v hv
  · rw [ms_a (by omega), mf_a (by omega), mf_a (by omega), mf_a (by omega)]; exact h5 v l hv hl
theorem len_ok {r : Nat} {M : Mem} {s : Sg} (h : SC r M s) {i x : Nat} : SC r (mset M (r + 3) i x) (sLen s i x) := by
  obtain ⟨h1, h2, h3, h4, h5⟩ := h
  refine ⟨?_, ?_, fun j hj => ⟨?_, ?_, ?_⟩, fun v hv => ?_, fun v l hv hl => ?_⟩
  · rw [ms_a (by omega)]; exact h1
  · rw [ms_a (by omega)]; exact h2
  · rw [ms_a (by omega)]; exact (h3 j hj).1
  · rw [ms_a (by omega)]; exact (h3 j hj).2.1
  · show _ = ((if j = i then x else sL s j : Nat) : Int)
    by_cases c : j = i
    · subst c; rw [ms_eq, if_pos rfl]
    · rw [ms_i (by omega), if_neg c]; exact (h3 j hj).2.2
  · rw [ms_a (by omega)]; exact h4 v hv
  · rw [ms_a (by omega)]; exact h5 v l hv hl
