/-! the model: saving and going back; its leaves -/
theorem msave_loop {F : Nat} {M : Mem} {c : Nat} (hc : c < 4) (h2 : M 64 2 = c) : ∀ (d i fu : Nat), i + d = 140 → d < fu → f_X10_saves_51 F fu i (mfill M 66 (140 * c) (140 * c + i) (fun j => M 65 (j - 140 * c))) = some (mset (mfill M 66 (140 * c) (140 * c + 140) (fun j => M 65 (j - 140 * c))) 64 2 (c + 1)) := by
  intro d
  induction d with
  | zero =>
    intro i fu h1 h3
    obtain ⟨fu, rfl⟩ := fuel_s h3
    obtain rfl : i = 140 := by omega
    have e : mfill M 66 (140 * c) (140 * c + (140 : Nat)) (fun j => M 65 (j - 140 * c)) 64 2 = c := by rw [mf_a (by decide)]; exact h2
    rw [f_X10_saves_51, chk_t (by omega), if_pos (by omega), e, chk_t (by omega)]
    rfl
  | succ d ih =>
    intro i fu h1 h3
    obtain ⟨fu, rfl⟩ := fuel_s h3
    have e : mfill M 66 (140 * c) (140 * c + i) (fun j => M 65 (j - 140 * c)) 64 2 = c := by rw [mf_a (by decide)]; exact h2
    have e2 : mfill M 66 (140 * c) (140 * c + i) (fun j => M 65 (j - 140 * c)) 65 i = M 65 ((140 * c + i) - 140 * c) := by
      rw [mf_a (by decide)]; congr 1; omega
    rw [f_X10_saves_51, chk_t (by omega), if_neg (by omega), chk_t (by omega), e, chk_t (by omega), e2]
    have := ih (i + 1) fu (by omega) (by omega)
    refine Eq.trans ?_ this
    congr 1
    exact mfill_s M 66 (by omega) (fun j => M 65 (j - 140 * c))
theorem mshift_loop {F : Nat} {M : Mem} (h2 : M 64 2 = 4) : ∀ (d i fu : Nat), i + d = 420 → d < fu → f_X10_saves_10 F fu i (mfill M 66 0 i (fun j => M 66 (j + 140))) = f_X10_saves_51 F F 0 (mset (mfill M 66 0 420 (fun j => M 66 (j + 140))) 64 2 3) := by
  intro d
  induction d with
  | zero =>
    intro i fu h1 h3
    obtain ⟨fu, rfl⟩ := fuel_s h3
    obtain rfl : i = 420 := by omega
    have e : mfill M 66 0 (420 : Nat) (fun j => M 66 (j + 140)) 64 2 = 4 := by rw [mf_a (by decide)]; exact h2
    rw [f_X10_saves_10, chk_t (by omega), if_pos (by omega), e, chk_t (by omega)]
    rfl
  | succ d ih =>
    intro i fu h1 h3
    obtain ⟨fu, rfl⟩ := fuel_s h3
    have e2 : mfill M 66 0 i (fun j => M 66 (j + 140)) 66 (i + 140) = M 66 (i + 140) := by rw [mf_o (by omega)]
    rw [f_X10_saves_10, chk_t (by omega), if_neg (by omega), chk_t (by omega), chk_t (by omega), e2]
    have := ih (i + 1) fu (by omega) (by omega)
    refine Eq.trans ?_ this
    congr 1
    exact mfill_s M 66 (by omega) (fun j => M 66 (j + 140))
theorem msaveAt {F : Nat} (hF : 100000 ≤ F) {M : Mem} {c : Nat} {hs : Nat → Sg} {s : Sg} (hc : c < 4) (h : HM M c hs) (hS : SM 65 0 M s) (w : WN s) (wh : ∀ i, i < c → WN (hs i)) : ∃ M', f_X10_saves_51 F F 0 M = some M' ∧ SM 65 0 M' s ∧ HM M' (c + 1) (fun i => if i = c then s else hs i) := by
  obtain ⟨h1, h2, h3⟩ := h
  refine ⟨mset (mfill M 66 (140 * c) (140 * c + 140) (fun j => M 65 (j - 140 * c))) 64 2 (c + 1), ?_, ?_, by omega, ?_, fun i hi => ?_⟩
  · have := msave_loop (F := F) hc h2 140 0 F rfl (by omega)
    refine Eq.trans ?_ this
    show _ = f_X10_saves_51 F F 0 (mfill M 66 (140 * c) (140 * c + 0) _)
    rw [Int.add_zero, mfill_0]
  · exact hS.fr (fun i _ _ => by rw [ms_a (by decide), mf_a (by decide)]) w
  · rw [ms_eq]; rfl
  · show SM 66 _ _ (if i = c then s else hs i)
    by_cases e : i = c
    · subst e
      rw [if_pos rfl]
      refine hS.mv w (fun j q1 q2 => ?_)
      rw [ms_a (by decide), mf_in (by omega)]
      congr 1; omega
    · rw [if_neg e]
      refine (h3 i (by omega)).fr (fun j q1 q2 => ?_) (wh i (by omega))
      rw [ms_a (by decide), mf_o (by omega)]
theorem msave_ok {F : Nat} (hF : 100000 ≤ F) {M : Mem} {c : Nat} {hs : Nat → Sg} {s : Sg} (h : HM M c hs) (hS : SM 65 0 M s) (w : WN s) (wh : ∀ i, i < c → WN (hs i)) : ∃ M', f_X10_saves F M = some M' ∧ SM 65 0 M' s ∧ HM M' (pushC c) (pushH c hs s) := by
  have hc := h.1
  have h2 := h.2.1
  by_cases e : c = 4
  · subst e
    have d1 := mshift_loop (F := F) h2 420 0 F rfl (by omega)
    have hH : HM (mset (mfill M 66 0 420 (fun j => M 66 (j + 140))) 64 2 3) 3 (fun i => hs (i + 1)) := by
      refine ⟨by omega, ms_eq _ _ _ _, fun i hi => ?_⟩
      refine (h.2.2 (i + 1) (by omega)).mv (wh (i + 1) (by omega)) (fun j q1 q2 => ?_)
      rw [ms_a (by decide), mf_in (by omega)]
      congr 1; omega
    have hS1 : SM 65 0 (mset (mfill M 66 0 420 (fun j => M 66 (j + 140))) 64 2 3) s := hS.fr (fun i _ _ => by rw [ms_a (by decide), mf_a (by decide)]) w
    obtain ⟨M', b1, b2, b3⟩ := msaveAt hF (by omega) hH hS1 w (fun i hi => wh (i + 1) (by omega))
    refine ⟨M', ?_, b2, ?_⟩
    · unfold f_X10_saves
      rw [if_pos (by omega), ← b1]
      refine Eq.trans ?_ d1
      show _ = f_X10_saves_10 F F 0 (mfill M 66 0 0 _)
      rw [mfill_0]
    · have : pushH 4 hs s = fun i => if i = 3 then s else hs (i + 1) := by unfold pushH; rw [if_pos rfl]
      rw [this]; exact b3
  · obtain ⟨M', b1, b2, b3⟩ := msaveAt hF (by omega) h hS w wh
    refine ⟨M', ?_, b2, ?_⟩
    · unfold f_X10_saves
      rw [if_neg (by omega), b1]
    · have e1 : pushC c = c + 1 := if_neg e
      have e2 : pushH c hs s = fun i => if i = c then s else hs i := if_neg e
      rw [e1, e2]; exact b3
theorem mundo_loop {F : Nat} {M : Mem} {c : Nat} (hc : c < 4) (h2 : M 64 2 = c) : ∀ (d i fu : Nat), i + d = 140 → d < fu → f_X10_undo_33 F fu i (mfill M 65 0 i (fun j => M 66 (140 * c + j))) = some ((c : Int), mfill M 65 0 140 (fun j => M 66 (140 * c + j))) := by
  intro d
  induction d with
  | zero =>
    intro i fu h1 h3
    obtain ⟨fu, rfl⟩ := fuel_s h3
    obtain rfl : i = 140 := by omega
    have e : mfill M 65 0 (140 : Nat) (fun j => M 66 (140 * c + j)) 64 2 = c := by rw [mf_a (by decide)]; exact h2
    rw [f_X10_undo_33, chk_t (by omega), if_pos (by omega), e]
    rfl
  | succ d ih =>
    intro i fu h1 h3
    obtain ⟨fu, rfl⟩ := fuel_s h3
    have e : mfill M 65 0 i (fun j => M 66 (140 * c + j)) 64 2 = c := by rw [mf_a (by decide)]; exact h2
    have e2 : mfill M 65 0 i (fun j => M 66 (140 * c + j)) 66 (140 * c + i) = M 66 (140 * c + i) := mf_a (by decide)
    rw [f_X10_undo_33, chk_t (by omega), if_neg (by omega), e, chk_t (by omega), chk_t (by omega), e2]
    have := ih (i + 1) fu (by omega) (by omega)
    refine Eq.trans ?_ this
    congr 1
    exact mfill_s M 65 (by omega) (fun j => M 66 (140 * c + j))
theorem mref_0 (M : Mem) : f_X10_refused 0 M = some (0, mset M 64 3 0) := by
  unfold f_X10_refused
  rw [chk_t (by decide), if_pos (by decide)]
theorem mref_p {x : Int} (h : 0 < x) (h2 : x < 10) (M : Mem) : f_X10_refused x M = some (1, mset M 64 3 x) := by
  unfold f_X10_refused
  rw [chk_t (by omega), if_neg (by omega)]
theorem mwithin {x a b : Int} (h : inR x) (h1 : inR a) (h2 : inR b) (M : Mem) : f_X10_within x a b M = some (bi (decide (a ≤ x ∧ x ≤ b))) := by
  unfold f_X10_within
  rw [chk_t (by omega)]
  by_cases c1 : x < a
  · rw [if_pos c1, decide_eq_false (by omega)]; rfl
  · rw [if_neg c1]
    by_cases c2 : b < x
    · rw [if_pos c2, decide_eq_false (by omega)]; rfl
    · rw [if_neg c2, decide_eq_true (by omega)]; rfl
theorem bi_bit (b : Bool) : bit01 (bi b) := by cases b <;> decide
theorem misNode {M : Mem} {s : Sg} (h : SM 65 0 M s) (w : WN s) {x : Int} (hx : inR x) : f_X10_isNode x M = some (bi (decide (0 ≤ x ∧ x < sN s))) := by
  have h1 := h.1
  have w1 := w.1
  unfold f_X10_isNode
  rw [mwithin hx (by decide) (by omega), ob_s, chk_t (bi_bit _)]
  congr 2
  exact decide_eq_decide.mpr (by omega)
theorem misLink {M : Mem} {s : Sg} (h : SM 65 0 M s) (w : WN s) {x : Int} (hx : inR x) : f_X10_isLink x M = some (bi (decide (0 ≤ x ∧ x < sK s))) := by
  have h1 : M 65 1 = sK s := h.2.1
  have w1 := w.2.1
  unfold f_X10_isLink
  rw [mwithin hx (by decide) (by omega), ob_s, chk_t (bi_bit _)]
  congr 2
  exact decide_eq_decide.mpr (by omega)
theorem mpart0 {M : Mem} {s : Sg} (h : SM 65 0 M s) (w : WN s) {i : Nat} (hi : i < sK s) : f_X10_part i 0 M = some (sF s i : Int) := by
  have w1 := w.2.1
  have := (h.2.2.1 i hi).1
  unfold f_X10_part
  rw [chk_t (by omega), ← this]
  congr 2; omega
theorem mpart1 {M : Mem} {s : Sg} (h : SM 65 0 M s) (w : WN s) {i : Nat} (hi : i < sK s) : f_X10_part i 1 M = some (sS s i : Int) := by
  have w1 := w.2.1
  have := (h.2.2.1 i hi).2.1
  unfold f_X10_part
  rw [chk_t (by omega), ← this]
  congr 2; omega
theorem mpart2 {M : Mem} {s : Sg} (h : SM 65 0 M s) (w : WN s) {i : Nat} (hi : i < sK s) : f_X10_part i 2 M = some (sL s i : Int) := by
  have w1 := w.2.1
  have := (h.2.2.1 i hi).2.2
  unfold f_X10_part
  rw [chk_t (by omega), ← this]
  congr 2; omega
theorem misOf {M : Mem} {s : Sg} (h : SM 65 0 M s) (w : WN s) {i v : Nat} (hi : i < sK s) (hv : v < 100) : f_X10_isOf i v M = some (bi (tch s i v)) := by
  have hh := w.2.2.1 i hi
  have w1 := w.1
  unfold f_X10_isOf
  rw [chk_t (by omega), mpart0 h w hi, ob_s, chk_t (by omega)]
  unfold tch
  by_cases c1 : sF s i = v
  · rw [if_pos (by omega)]; simp [c1, bi]
  · rw [if_neg (by omega), mpart1 h w hi, ob_s, chk_t (by omega)]
    by_cases c2 : sS s i = v
    · rw [if_pos (by omega)]; simp [c2, bi]
    · rw [if_neg (by omega)]; simp [c1, c2, bi]
theorem moth {M : Mem} {s : Sg} (h : SM 65 0 M s) (w : WN s) {i v : Nat} (hi : i < sK s) (hv : v < 100) : f_X10_otherEnd i v M = some (oth s i v : Int) := by
  have hh := w.2.2.1 i hi
  have w1 := w.1
  unfold f_X10_otherEnd oth
  rw [chk_t (by omega), mpart0 h w hi, ob_s, chk_t (by omega)]
  by_cases c1 : sF s i = v
  · rw [if_pos (by omega), mpart1 h w hi, ob_s, if_pos c1]
  · rw [if_neg (by omega), ob_s, if_neg c1]
theorem mentry {M : Mem} {s : Sg} (h : SM 65 0 M s) (w : WN s) {v l : Nat} (hv : v < sN s) (hl : l < sN s) : f_X10_entryAt v l M = some (sE s v l) := by
  have w1 := w.1
  have := h.2.2.2.2 v l hv hl
  rw [Int.zero_add] at this
  unfold f_X10_entryAt
  rw [chk_t (by omega), this]
  congr 1; omega
theorem mlabel {M : Mem} {s : Sg} (h : SM 65 0 M s) {v : Nat} (hv : v < sN s) : M 65 (50 + v) = sB s v := by
  have := h.2.2.2.1 v hv
  rw [Int.zero_add] at this
  exact this
