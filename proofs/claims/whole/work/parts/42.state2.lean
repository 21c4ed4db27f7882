/-! the class's State: what its methods do to the abstract state -/
theorem lowest_loop {F r : Nat} {M : Mem} {s : Sg} (h : SC r M s) (w : WN s) {x : Int} (hx : inR x) {v : Nat} (hv : v < 100) : ∀ (d i fu : Nat), i + d = sK s → d < fu → f_X6_lowestLinkBut_2 F r fu x v i M = some (if ffr (fun j => !decide ((j : Int) = x) && tch s j v) i d < sK s then (ffr (fun j => !decide ((j : Int) = x) && tch s j v) i d : Int) else -1) := by
  have w2 := w.2.1
  have h11 := h.2.1
  intro d
  induction d with
  | zero =>
    intro i fu h1 h2
    obtain ⟨fu, rfl⟩ := fuel_s h2
    rw [f_X6_lowestLinkBut_2, chk_t (by omega), if_pos (by omega)]
    unfold ffr
    rw [if_neg (by omega)]
  | succ d ih =>
    intro i fu h1 h2
    obtain ⟨fu, rfl⟩ := fuel_s h2
    have hi : i < sK s := by omega
    have ih := ih (i + 1) fu (by omega) (by omega)
    rw [f_X6_lowestLinkBut_2, chk_t (by omega), if_neg (by omega)]
    unfold ffr
    by_cases e : (i : Int) = x
    · rw [if_pos e]
      have e2 : (!decide ((i : Int) = x) && tch s i v) = false := by simp [e]
      simp only [e2, Bool.false_eq_true, if_false]
      exact ih
    · rw [if_neg e, tch_eq h w hi hv, ob_s, chk_t (bi_R _)]
      cases ht : tch s i v with
      | false =>
        rw [if_pos (bi_0.mpr rfl)]
        simp only [Bool.and_false, Bool.false_eq_true, if_false]
        exact ih
      | true =>
        rw [if_neg (by decide)]
        have e2 : (!decide ((i : Int) = x) && true) = true := by simp [e]
        simp only [e2, if_true]
        rw [if_pos hi]
theorem lowest_eq {F r : Nat} {M : Mem} {s : Sg} (hF : 100000 ≤ F) (h : SC r M s) (w : WN s) {x : Int} (hx : inR x) {v : Nat} (hv : v < 100) : f_X6_lowestLinkBut F r x v M = some (if ffr (fun j => !decide ((j : Int) = x) && tch s j v) 0 (sK s) < sK s then (ffr (fun j => !decide ((j : Int) = x) && tch s j v) 0 (sK s) : Int) else -1) := by
  have := w.2.1
  exact lowest_loop h w hx hv (sK s) 0 F (by omega) (by omega)
theorem holder_loop {F r : Nat} {M : Mem} {s : Sg} (h : SC r M s) (w : WN s) {l : Nat} (hl : l < 100) : ∀ (d i fu : Nat), i + d = sN s → d < fu → f_X6_holder_2 F r fu l i M = some (if ffr (fun j => decide (sB s j = l)) i d < sN s then (ffr (fun j => decide (sB s j = l)) i d : Int) else -1) := by
  have w1 := w.1
  have h11 := h.1
  intro d
  induction d with
  | zero =>
    intro i fu h1 h2
    obtain ⟨fu, rfl⟩ := fuel_s h2
    rw [f_X6_holder_2, chk_t (by omega), if_pos (by omega)]
    unfold ffr
    rw [if_neg (by omega)]
  | succ d ih =>
    intro i fu h1 h2
    obtain ⟨fu, rfl⟩ := fuel_s h2
    have hi : i < sN s := by omega
    have ih := ih (i + 1) fu (by omega) (by omega)
    have hb := h.2.2.2.1 i hi
    rw [f_X6_holder_2, chk_t (by omega), if_neg (by omega), chk_t (by omega), hb]
    unfold ffr
    by_cases e : sB s i = l
    · rw [if_pos (by omega)]
      simp only [e, decide_true, if_true]
      rw [if_pos hi]
    · rw [if_neg (by omega)]
      simp only [e, decide_false, Bool.false_eq_true, if_false]
      exact ih
theorem holder_eq {F r : Nat} {M : Mem} {s : Sg} (hF : 100000 ≤ F) (h : SC r M s) (w : WN s) {l : Nat} (hl : l < 100) : f_X6_holder F r l M = some (if ffr (fun j => decide (sB s j = l)) 0 (sN s) < sN s then (ffr (fun j => decide (sB s j = l)) 0 (sN s) : Int) else -1) := by
  have := w.1
  exact holder_loop h w hl (sN s) 0 F (by omega) (by omega)
/-! arrays filled -/
theorem fill_loop {F a n : Nat} {x : Int} (hx : inR x) (hn : alen a = n) (hn2 : n < 10000) : ∀ (d i fu : Nat) (M : Mem), i + d = n → d < fu → f_J7_fill_53178_5 F a fu x i n M = some (mfill M a i n (fun _ => x)) := by
  intro d
  induction d with
  | zero =>
    intro i fu M h1 h2
    obtain ⟨fu, rfl⟩ := fuel_s h2
    rw [f_J7_fill_53178_5, chk_t (by omega), if_pos (by omega), show (i : Int) = n by omega, mfill_0]
  | succ d ih =>
    intro i fu M h1 h2
    obtain ⟨fu, rfl⟩ := fuel_s h2
    rw [f_J7_fill_53178_5, chk_t (by omega), if_neg (by omega), chk_t (by omega)]
    have := ih (i + 1) fu (mset M a i x) (by omega) (by omega)
    refine Eq.trans this ?_
    congr 1
    funext b j
    unfold mfill mset
    by_cases c1 : b = a ∧ ((i + 1 : Nat) : Int) ≤ j ∧ j < n
    · rw [if_pos c1, if_pos (by omega)]
    · rw [if_neg c1]
      by_cases c2 : b = a ∧ j = i
      · rw [if_pos c2, if_pos (by omega)]
      · rw [if_neg c2, if_neg (by omega)]
theorem fill_eq {F a n : Nat} {x : Int} (hF : 100000 ≤ F) (hx : inR x) (hn : alen a = n) (hn2 : n < 10000) (M : Mem) : f_J7_fill_53178 F a x M = some (mfill M a 0 n (fun _ => x)) := by
  unfold f_J7_fill_53178
  rw [hn]
  exact fill_loop hx hn hn2 n 0 F M (by omega) (by omega)
theorem alen_ent {r : Nat} (h : shT[r]? = some (.inl 6)) : alen (r + 5) = 81 := by
  unfold alen; rw [so_6_6 h]
theorem clear_eq {F r : Nat} (hF : 100000 ≤ F) (hr : shT[r]? = some (.inl 6)) (M : Mem) : f_X6_clearEntries F r M = some (mfill M (r + 5) 0 81 (fun _ => -1)) := by
  unfold f_X6_clearEntries
  rw [fill_eq (n := 81) hF (by decide) (alen_ent hr) (by decide), ob_s]
  rfl
theorem reset_loop {F r n : Nat} (hn2 : n ≤ 9) : ∀ (d i fu : Nat) (M : Mem), M r 0 = n → i + d = n → d < fu → f_X6_resetLabels_2 F r fu i M = some (mfill M (r + 4) i n (fun j => j)) := by
  intro d
  induction d with
  | zero =>
    intro i fu M h0 h1 h2
    obtain ⟨fu, rfl⟩ := fuel_s h2
    rw [f_X6_resetLabels_2, chk_t (by omega), if_pos (by omega), show (i : Int) = n by omega, mfill_0]
  | succ d ih =>
    intro i fu M h0 h1 h2
    obtain ⟨fu, rfl⟩ := fuel_s h2
    rw [f_X6_resetLabels_2, chk_t (by omega), if_neg (by omega), chk_t (by omega)]
    have := ih (i + 1) fu (mset M (r + 4) i i) (by rw [ms_a (by omega)]; exact h0) (by omega) (by omega)
    refine Eq.trans this ?_
    congr 1
    funext b j
    unfold mfill mset
    by_cases c1 : b = r + 4 ∧ ((i + 1 : Nat) : Int) ≤ j ∧ j < n
    · rw [if_pos c1, if_pos (by omega)]
    · rw [if_neg c1]
      by_cases c2 : b = r + 4 ∧ j = i
      · rw [if_pos c2, if_pos (by omega)]; exact c2.2.symm
      · rw [if_neg c2, if_neg (by omega)]
theorem reset_eq {F r n : Nat} (hF : 100000 ≤ F) (hn2 : n ≤ 9) {M : Mem} (h0 : M r 0 = n) : f_X6_resetLabels F r M = some (mfill M (r + 4) 0 n (fun j => j)) := by
  exact reset_loop hn2 n 0 F M h0 (by omega) (by omega)
/-- the network of n nodes without links -/
abbrev s0 (n : Nat) : Sg := (n, 0, fun _ => 0, fun _ => 0, fun _ => 0, fun v => v, fun _ _ => -1)
theorem start_ok {F r n : Nat} (hF : 100000 ≤ F) (hr : shT[r]? = some (.inl 6)) (hn : n ≤ 9) (M : Mem) : ∃ M', f_X6_start F r n M = some M' ∧ SC r M' (s0 n) := by
  have h0 : mset (mset M r 0 n) r 1 0 r 0 = n := by rw [ms_i (by decide), ms_eq]
  refine ⟨mfill (mfill (mset (mset M r 0 n) r 1 0) (r + 4) 0 n (fun j => j)) (r + 5) 0 81 (fun _ => -1), ?_, ?_⟩
  · unfold f_X6_start
    rw [chk_t (by omega), reset_eq hF hn h0, ob_s, clear_eq hF hr, ob_s]
  · refine ⟨?_, ?_, fun i hi => absurd hi (Nat.not_lt_zero i), fun v hv => ?_, fun v l hv hl => ?_⟩
    · rw [mf_a (by omega), mf_a (by omega)]; exact h0
    · rw [mf_a (by omega), mf_a (by omega), ms_eq]; rfl
    · have hv : v < n := hv
      rw [mf_a (by omega), mf_in (by omega)]
    · have hv : v < n := hv
      have hl : l < n := hl
      rw [mf_in (by omega)]
/-- a link more -/
abbrev sJoin (s : Sg) (u v x : Nat) : Sg := (sN s, sK s + 1, fun i => if i = sK s then u else sF s i, fun i => if i = sK s then v else sS s i, fun i => if i = sK s then x else sL s i, sB s, sE s)
theorem join_ok {r : Nat} {M : Mem} {s : Sg} (h : SC r M s) (w : WN s) (hk : sK s < 16) {u v x : Nat} (hu : u < 100) (hv : v < 100) (hx : x < 100) : ∃ M', f_X6_join r u v x M = some M' ∧ SC r M' (sJoin s u v x) := by
  obtain ⟨h1, h2, h3, h4, h5⟩ := h
  have e1 : mset M (r + 1) (M r 1) u r 1 = sK s := by rw [ms_a (by omega)]; exact h2
  have e2 : mset (mset M (r + 1) (M r 1) u) (r + 2) (mset M (r + 1) (M r 1) u r 1) v r 1 = sK s := by rw [ms_a (by omega)]; exact e1
  have e3 : mset (mset (mset M (r + 1) (sK s) u) (r + 2) (sK s) v) (r + 3) (sK s) x r 1 = sK s := by rw [ms_a (by omega), ms_a (by omega), ms_a (by omega)]; exact h2
  refine ⟨mset (mset (mset (mset M (r + 1) (sK s) u) (r + 2) (sK s) v) (r + 3) (sK s) x) r 1 (sK s + 1), ?_, ?_⟩
  · unfold f_X6_join
    rw [chk_t (by omega), chk_t (by omega), chk_t (by omega), chk_t (by omega)]
    rw [e2, e1, h2, e3, chk_t (by omega)]
  · refine ⟨?_, ?_, fun i hi => ?_, fun v' hv' => ?_, fun v' l hv' hl => ?_⟩
    · rw [ms_i (by decide), ms_a (by omega), ms_a (by omega), ms_a (by omega)]; exact h1
    · rw [ms_eq]; rfl
    · have hi : i < sK s + 1 := hi
      by_cases e : i = sK s
      · subst e
        refine ⟨?_, ?_, ?_⟩
        · rw [ms_a (by omega), ms_a (by omega), ms_a (by omega), ms_eq]; exact congrArg Int.ofNat (if_pos rfl).symm
        · rw [ms_a (by omega), ms_a (by omega), ms_eq]; exact congrArg Int.ofNat (if_pos rfl).symm
        · rw [ms_a (by omega), ms_eq]; exact congrArg Int.ofNat (if_pos rfl).symm
      · obtain ⟨a1, a2, a3⟩ := h3 i (by omega)
        refine ⟨?_, ?_, ?_⟩
        · rw [ms_a (by omega), ms_a (by omega), ms_a (by omega), ms_i (by omega), a1]; exact congrArg Int.ofNat (if_neg e).symm
        · rw [ms_a (by omega), ms_a (by omega), ms_i (by omega), ms_a (by omega), a2]; exact congrArg Int.ofNat (if_neg e).symm
        · rw [ms_a (by omega), ms_i (by omega), ms_a (by omega), ms_a (by omega), a3]; exact congrArg Int.ofNat (if_neg e).symm
    · rw [ms_a (by omega), ms_a (by omega), ms_a (by omega), ms_a (by omega)]; exact h4 v' hv'
    · rw [ms_a (by omega), ms_a (by omega), ms_a (by omega), ms_a (by omega)]; exact h5 v' l hv' hl
