/-! calls that change the network -/
theorem WB_id {n : Nat} {s : Sg} (h : sN s = n) (hb : ∀ v, v < n → sB s v = v) : WB s := by
  subst h
  exact ⟨fun v hv => by rw [hb v hv]; exact hv, fun v w hv hw => by rw [hb v hv, hb w (by omega)]; omega⟩
theorem WF_clr {s : Sg} (w : WN s) (b : WB s) : WF (sClr s) := ⟨w, b, fun _ _ _ _ => ⟨Or.inl rfl, fun _ => rfl⟩⟩
theorem WN_s0 {n : Nat} (h : n ≤ 9) : WN (s0 n) := ⟨h, Nat.zero_le _, fun i hi => absurd hi (Nat.not_lt_zero i), fun i j hi => absurd hi (Nat.not_lt_zero i)⟩
theorem WF_s0 {n : Nat} (h : n ≤ 9) : WF (s0 n) := WF_clr (s := s0 n) (WN_s0 h) (WB_id (n := n) rfl (fun _ _ => rfl))
theorem jnd_no {s : Sg} {u v : Nat} (h : jnd s u v = false) {i : Nat} (hi : i < sK s) : ¬ (tch s i u = true ∧ oth s i u = v) := by
  intro ⟨h1, h2⟩
  unfold jnd at h
  rw [decide_eq_false_iff_not] at h
  have := ffr_no (jnb s u v) 0 (sK s) i (Nat.zero_le _) (by omega)
  unfold jnb at this
  rw [h1, h2] at this
  simp at this
theorem WN_join {s : Sg} (w : WN s) (hk : sK s < 16) {u v x : Nat} (hu : u < sN s) (hv : v < sN s) (hne : u ≠ v) (h1 : 1 ≤ x) (h9 : x ≤ 9) (hj : jnd s u v = false) : WN (sJoin s u v x) := by
  obtain ⟨a1, a2, a3, a4⟩ := w
  refine ⟨a1, by show sK s + 1 ≤ 16; omega, fun i hi => ?_, fun i j hi hj2 => ?_⟩
  · have hi : i < sK s + 1 := hi
    show (if i = sK s then u else sF s i) < sN s ∧ (if i = sK s then v else sS s i) < sN s ∧ (if i = sK s then u else sF s i) ≠ (if i = sK s then v else sS s i) ∧ 1 ≤ (if i = sK s then x else sL s i) ∧ (if i = sK s then x else sL s i) ≤ 9
    by_cases e : i = sK s
    · rw [if_pos e, if_pos e, if_pos e]; exact ⟨hu, hv, hne, h1, h9⟩
    · rw [if_neg e, if_neg e, if_neg e]; exact a3 i (by omega)
  · have hi : i < sK s + 1 := hi
    have e2 : ¬ j = sK s := by omega
    show ¬ ((if i = sK s then u else sF s i) = (if j = sK s then u else sF s j) ∧ (if i = sK s then v else sS s i) = (if j = sK s then v else sS s j)) ∧ ¬ ((if i = sK s then u else sF s i) = (if j = sK s then v else sS s j) ∧ (if i = sK s then v else sS s i) = (if j = sK s then u else sF s j))
    rw [if_neg e2, if_neg e2]
    by_cases e : i = sK s
    · rw [if_pos e, if_pos e]
      have hn := jnd_no hj (show j < sK s by omega)
      have h3 := a3 j (by omega)
      constructor
      · intro ⟨q1, q2⟩
        apply hn
        refine ⟨tch_iff.mpr (Or.inl q1.symm), ?_⟩
        unfold oth; rw [if_pos q1.symm]; exact q2.symm
      · intro ⟨q1, q2⟩
        apply hn
        refine ⟨tch_iff.mpr (Or.inr q1.symm), ?_⟩
        unfold oth; rw [if_neg (by omega)]; exact q2.symm
    · rw [if_neg e, if_neg e]; exact a4 i j (by omega) hj2
theorem WN_drop {s : Sg} (w : WN s) {i : Nat} (hi : i < sK s) : WN (sDrop s i) := by
  obtain ⟨a1, a2, a3, a4⟩ := w
  refine ⟨a1, by show sK s - 1 ≤ 16; omega, fun j hj => ?_, fun j k hj hk => ?_⟩
  · have hj : j < sK s - 1 := hj
    show (if j < i then sF s j else sF s (j + 1)) < sN s ∧ (if j < i then sS s j else sS s (j + 1)) < sN s ∧ (if j < i then sF s j else sF s (j + 1)) ≠ (if j < i then sS s j else sS s (j + 1)) ∧ 1 ≤ (if j < i then sL s j else sL s (j + 1)) ∧ (if j < i then sL s j else sL s (j + 1)) ≤ 9
    by_cases c : j < i
    · rw [if_pos c, if_pos c, if_pos c]; exact a3 j (by omega)
    · rw [if_neg c, if_neg c, if_neg c]; exact a3 (j + 1) (by omega)
  · have hj : j < sK s - 1 := hj
    show ¬ ((if j < i then sF s j else sF s (j + 1)) = (if k < i then sF s k else sF s (k + 1)) ∧ (if j < i then sS s j else sS s (j + 1)) = (if k < i then sS s k else sS s (k + 1))) ∧ ¬ ((if j < i then sF s j else sF s (j + 1)) = (if k < i then sS s k else sS s (k + 1)) ∧ (if j < i then sS s j else sS s (j + 1)) = (if k < i then sF s k else sF s (k + 1)))
    by_cases c : j < i
    · rw [if_pos c, if_pos c, if_pos (show k < i by omega), if_pos (show k < i by omega)]; exact a4 j k (by omega) hk
    · rw [if_neg c, if_neg c]
      by_cases c2 : k < i
      · rw [if_pos c2, if_pos c2]; exact a4 (j + 1) k (by omega) (by omega)
      · rw [if_neg c2, if_neg c2]; exact a4 (j + 1) (k + 1) (by omega) (by omega)
theorem WN_len {s : Sg} (w : WN s) {i x : Nat} (h1 : 1 ≤ x) (h9 : x ≤ 9) : WN (sLen s i x) := by
  obtain ⟨a1, a2, a3, a4⟩ := w
  refine ⟨a1, a2, fun j hj => ?_, a4⟩
  have := a3 j hj
  refine ⟨this.1, this.2.1, this.2.2.1, ?_⟩
  show 1 ≤ (if j = i then x else sL s j) ∧ (if j = i then x else sL s j) ≤ 9
  split
  · exact ⟨h1, h9⟩
  · exact this.2.2.2
theorem push_ok {c : Nat} {hs : Nat → Sg} {s : Sg} (hc : c ≤ 4) (h : ∀ i, i < c → WF (hs i)) (f : WF s) : ∀ i, i < pushC c → WF (pushH c hs s i) := by
  intro i hi
  unfold pushC at hi
  unfold pushH
  by_cases e : c = 4
  · rw [if_pos e] at hi ⊢
    show WF (if i = 3 then s else hs (i + 1))
    by_cases e2 : i = 3
    · rw [if_pos e2]; exact f
    · rw [if_neg e2]; exact h (i + 1) (by omega)
  · rw [if_neg e] at hi ⊢
    show WF (if i = c then s else hs i)
    by_cases e2 : i = c
    · rw [if_pos e2]; exact f
    · rw [if_neg e2]; exact h i (by omega)
abbrev pushA (A : Ab) (s' : Sg) : Ab := (s', pushC A.2.1, pushH A.2.1 A.2.2.1 A.1, A.2.2.2.1, A.2.2.2.2)
theorem WA_push {A : Ab} {c : Nat} (hc : A.2.1 ≤ 4) (w : WA A) {s' : Sg} (f : WF s') : WA (pushA A s') := ⟨f, push_ok hc w.2.1 w.1, w.2.2.1, w.2.2.2⟩
section Net
variable {F : Nat} {M : Mem} {A : Ab} {x y z : Int}
/-- behind the save of the class -/
def JS (M : Mem) (A : Ab) : Prop := SC 1 M A.1 ∧ HC M (pushC A.2.1) (pushH A.2.1 A.2.2.1 A.1) ∧ (M 62 0 = A.2.2.2.1 ∧ ∀ i : Nat, i < A.2.2.2.1 → M 63 i = A.2.2.2.2 i) ∧ WY M A.1 ∧ SR M A.1
theorem csave (hF : 100000 ≤ F) (w : WA A) (h : JC M A) : ∃ M', f_X0_save F M = some M' ∧ JS M' A ∧ ∀ a i, 39 ≤ a → M' a i = M a i := by
  obtain ⟨h1, h2, ⟨h3, h4⟩, h5, h6⟩ := h
  obtain ⟨M', a1, a2, a3⟩ := save_ok hF h2 h1 w.1.1
  have fr : ∀ a i, 39 ≤ a → M' a i = M a i := fun a i q => cg_X0_save a1 a i (by omega)
  exact ⟨M', a1, ⟨a2, a3, ⟨by rw [fr 62 0 (by omega)]; exact h3, fun i hi => by rw [fr 63 i (by omega)]; exact h4 i hi⟩, h5.fr (fun a i q1 q2 => fr a i (by omega)), h6.fr (fun a i q => fr a i (by omega))⟩, fr⟩
theorem cnet (hF : 100000 ≤ F) {M1 : Mem} (h : JS M1 A) {s' : Sg} (w' : WN s') (hS : SC 1 M s') (fr : ∀ a i, 7 ≤ a → M a i = M1 a i) : ∃ M', f_X9_networkChanged F M = some M' ∧ JC M' (pushA A (sClr s')) ∧ ∀ a i, 52 ≤ a → M' a i = M1 a i := by
  obtain ⟨h1, h2, ⟨h3, h4⟩, h5, h6⟩ := h
  obtain ⟨M2, a1, a2⟩ := clear_ok hF (r := 1) rfl hS w'
  have f2 : ∀ a i, a ≠ 6 → M2 a i = M a i := fun a i q => cg_X6_clearEntries a1 a i (by omega)
  obtain ⟨M3, b1, b2, b3⟩ := meas_ok hF (s := sClr s') w' M2 a2
  have e : f_X9_networkChanged F M = some (mset M3 51 2 0) := by
    unfold f_X9_networkChanged f_X9_measureNetwork f_X5_forget
    rw [a1, ob_s, b1, ob_s, ob_s, ob_s]
  have f3 : ∀ a i, (7 ≤ a ∧ a < 40 ∨ 44 ≤ a) → (a ≠ 51 ∨ i ≠ 2) → mset M3 51 2 0 a i = M1 a i := by
    intro a i q1 q2
    have : mset M3 51 2 0 a i = M3 a i := by unfold mset; rw [if_neg (by omega)]
    rw [this, b3 a i (by omega) (by omega) (by omega) (by omega), f2 a i (by omega)]; exact fr a i (by omega)
  refine ⟨_, e, ⟨?_, ?_, ⟨?_, fun i hi => ?_⟩, ?_, Or.inl (ms_eq _ _ _ _)⟩, fun a i q => f3 a i (by omega) (by omega)⟩
  · refine a2.fr (fun a i q1 q2 => ?_)
    rw [ms_a (by omega)]; exact b3 a i (by omega) (by omega) (by omega) (by omega)
  · exact h2.fr (fun a i q1 q2 => f3 a i (by omega) (by omega))
  · rw [f3 62 0 (by omega) (by omega)]; exact h3
  · rw [f3 63 i (by omega) (by omega)]; exact h4 i hi
  · exact b2.fr (fun a i q1 q2 => ms_a (by omega))
/-- behind the save of the model -/
def KS (M : Mem) (A : Ab) : Prop := SM 65 0 M A.1 ∧ HM M (pushC A.2.1) (pushH A.2.1 A.2.2.1 A.1) ∧ M 64 5 = A.2.2.2.1 ∧ ∀ i : Nat, i < A.2.2.2.1 → M 67 i = A.2.2.2.2 i
theorem msave (hF : 100000 ≤ F) (w : WA A) (h : JM M A) : ∃ M', f_X10_saves F M = some M' ∧ KS M' A ∧ ∀ a i, (a ≠ 64 ∨ i ≠ 2) → a ≠ 66 → M' a i = M a i := by
  obtain ⟨h1, h2, h3, h4⟩ := h
  obtain ⟨M', a1, a2, a3⟩ := msave_ok hF h2 h1 w.1.1 (fun i hi => (w.2.1 i hi).1)
  have fr : ∀ a i, (a ≠ 64 ∨ i ≠ 2) → a ≠ 66 → M' a i = M a i := fun a i q1 q2 => cg_X10_saves a1 a i (by omega)
  exact ⟨M', a1, ⟨a2, a3, by rw [fr 64 5 (by omega) (by omega)]; exact h3, fun i hi => by rw [fr 67 i (by omega) (by omega)]; exact h4 i hi⟩, fr⟩
theorem KS.jm {M1 : Mem} (hc : A.2.1 ≤ 4) (w : WA A) (h : KS M1 A) {s' : Sg} (hS : SM 65 0 M s') (fr : ∀ a i, (a = 64 ∧ (i = 2 ∨ i = 5)) ∨ a = 66 ∨ a = 67 → M a i = M1 a i) : JM M (pushA A s') := by
  obtain ⟨h1, h2, h3, h4⟩ := h
  exact ⟨hS, h2.fr (fun i hi => (push_ok hc w.2.1 w.1 i hi).1) (fr 64 2 (by omega)) (fun i => fr 66 i (by omega)), by rw [fr 64 5 (by omega)]; exact h3, fun i hi => by rw [fr 67 i (by omega)]; exact h4 i hi⟩
theorem mempt (hF : 100000 ≤ F) {s : Sg} (w : WN s) (M : Mem) (h : SM 65 0 M s) : ∃ M', f_X10_empties F M = some M' ∧ SM 65 0 M' (sClr s) ∧ ∀ a i, (a ≠ 65 ∨ i < 59) → M' a i = M a i := by
  have w1 := w.1
  have w2 := w.2.1
  refine lpe (f := fun fu (y : Int × Mem) => f_X10_empties_3 F fu y.1 y.2) (I := fun i y => y.1 = 59 + (i : Int) ∧ (∀ j : Int, 59 ≤ j → j < 59 + (i : Int) → y.2 65 j = 0) ∧ ∀ a i, (a ≠ 65 ∨ i < 59) → y.2 a i = M a i) (Q := fun r => ∃ M', r = some M' ∧ SM 65 0 M' (sClr s) ∧ ∀ a i, (a ≠ 65 ∨ i < 59) → M' a i = M a i) 81 ?_ ?_ 81 0 F (59, M) (by omega) (by omega) ⟨rfl, fun j h1 h2 => by omega, fun _ _ _ => rfl⟩
  · rintro i fu ⟨y1, N⟩ hi ⟨q1, q2, q3⟩
    dsimp only at q1 q2 q3 ⊢
    subst q1
    right
    refine ⟨(59 + (i : Int) + 1, mset N 65 (59 + (i : Int)) 0), ?_, ?_, fun j h1 h2 => ?_, fun a j ha => ?_⟩
    · rw [f_X10_empties_3, chk_t (by omega), if_neg (by omega), chk_t (by omega)]
    · show _ = _; omega
    · dsimp only
      by_cases e : j = 59 + (i : Int)
      · subst e; rw [ms_eq]
      · rw [ms_i (by omega)]; exact q2 j h1 (by omega)
    · dsimp only
      have : mset N 65 (59 + (i : Int)) 0 a j = N a j := by unfold mset; rw [if_neg (by omega)]
      rw [this]; exact q3 a j ha
  · rintro fu ⟨y1, N⟩ ⟨q1, q2, q3⟩
    dsimp only at q1 q2 q3 ⊢
    subst q1
    obtain ⟨h1, h2, h3, h4, h5⟩ := h
    refine ⟨N, by rw [f_X10_empties_3, chk_t (by omega), if_pos (by omega)], ⟨?_, ?_, fun i hi => ?_, fun v hv => ?_, fun v l hv hl => ?_⟩, q3⟩
    · rw [q3 65 _ (by omega)]; exact h1
    · rw [q3 65 _ (by omega)]; exact h2
    · have hi : i < sK s := hi
      rw [q3 65 (0 + (2 + 3 * (i : Int))) (by omega), q3 65 (0 + (3 + 3 * (i : Int))) (by omega), q3 65 (0 + (4 + 3 * (i : Int))) (by omega)]; exact h3 i hi
    · have hv : v < sN s := hv
      rw [q3 65 _ (by omega)]; exact h4 v hv
    · have hv : v < sN s := hv
      have hl : l < sN s := hl
      rw [q2 _ (by omega) (by omega)]; rfl
theorem mbegins_ok (hF : 100000 ≤ F) {n : Nat} (hn : n ≤ 9) (M : Mem) : ∃ M', f_X10_begins F n M = some M' ∧ SM 65 0 M' (s0 n) ∧ ∀ a i, a ≠ 65 → M' a i = M a i := by
  unfold f_X10_begins
  rw [chk_t (by omega)]
  refine lpe (f := fun fu (y : Int × Mem) => f_X10_begins_16 F fu y.1 y.2) (I := fun i y => y.1 = i ∧ y.2 65 0 = n ∧ y.2 65 1 = 0 ∧ (∀ v : Nat, v < i → y.2 65 (50 + (v : Int)) = v) ∧ ∀ a i, a ≠ 65 → y.2 a i = M a i) (Q := fun r => ∃ M', r = some M' ∧ SM 65 0 M' (s0 n) ∧ ∀ a i, a ≠ 65 → M' a i = M a i) 9 ?_ ?_ 9 0 F (0, mset (mset M 65 0 n) 65 1 0) (by omega) (by omega) ⟨rfl, ?_, ?_, fun v hv => absurd hv (Nat.not_lt_zero v), fun a i ha => ?_⟩
  · rintro i fu ⟨y1, N⟩ hi ⟨q1, q2, q3, q4, q5⟩
    dsimp only at q1 q2 q3 q4 q5 ⊢
    subst q1
    right
    refine ⟨((i : Int) + 1, mset N 65 (50 + (i : Int)) i), ?_, rfl, ?_, ?_, fun v hv => ?_, fun a j ha => ?_⟩
    · rw [f_X10_begins_16, chk_t (by omega), if_neg (by omega), chk_t (by omega)]
    · dsimp only; rw [ms_i (by omega)]; exact q2
    · dsimp only; rw [ms_i (by omega)]; exact q3
    · dsimp only
      by_cases e : v = i
      · subst e; rw [ms_eq]
      · rw [ms_i (by omega)]; exact q4 v (by omega)
    · dsimp only; rw [ms_a ha]; exact q5 a j ha
  · rintro fu ⟨y1, N⟩ ⟨q1, q2, q3, q4, q5⟩
    dsimp only at q1 q2 q3 q4 q5 ⊢
    subst q1
    -- the entries don't matter: they are emptied
    obtain ⟨M', a1, a2, a3⟩ := mempt hF (s := (n, 0, fun _ => 0, fun _ => 0, fun _ => 0, fun v => v, fun v l => N 65 (59 + 9 * (v : Int) + l) - 1)) ⟨hn, Nat.zero_le _, fun i hi => absurd hi (Nat.not_lt_zero i), fun i j hi => absurd hi (Nat.not_lt_zero i)⟩ N ⟨q2, q3, fun i hi => absurd hi (Nat.not_lt_zero i), fun v hv => by have hv : v < n := hv; rw [Int.zero_add]; exact q4 v (by omega), fun v l hv hl => by rw [Int.zero_add]; show _ = N 65 (59 + 9 * (v : Int) + l) - 1 + 1; omega⟩
    refine ⟨M', ?_, a2, fun a i ha => (a3 a i (Or.inl ha)).trans (q5 a i ha)⟩
    rw [f_X10_begins_16, chk_t (by omega), if_pos (by omega), a1, ob_s]
  · dsimp only; rw [ms_i (by decide), ms_eq]
  · dsimp only; rw [ms_eq]
  · dsimp only; rw [ms_a ha, ms_a ha]
theorem op_begin (hF : 100000 ≤ F) (w : WA A) (hC : JC M A) (hM : JM M A) (hx : inR x) : OpK (f_L_begin F x M) (f_X10_begin F x) := by
  have hc : A.2.1 ≤ 4 := hC.2.1.1
  have e1 : M 1 1 = sK A.1 := hC.1.2.1
  have w2 := w.1.1.2.1
  by_cases c : 0 ≤ x ∧ x ≤ 9
  · obtain ⟨n, rfl⟩ : ∃ v : Nat, x = v := ⟨x.toNat, by omega⟩
    have hn : n ≤ 9 := by omega
    refine OpK.mk (k := 0) (r := sK A.1) (B := pushA A (s0 n)) w (WA_push (c := 0) hc w (WF_s0 hn)) (by decide) (fun _ => by omega) hM ?_ (fun N h => ?_)
    · obtain ⟨M1, a1, a2, a3⟩ := csave hF w hC
      obtain ⟨M2, b1, b2⟩ := start_ok hF (r := 1) rfl hn M1
      obtain ⟨M3, c1, c2, c3⟩ := cnet hF a2 (WN_s0 hn) b2 (fun a i q => cg_X6_start b1 a i (by omega))
      refine ⟨mset M3 1079 0 (sK A.1), ?_, c2.fr (fun a i q => ms_a (by omega)), fun a i q1 q2 => ?_, fun _ => ms_eq _ _ _ _⟩
      · unfold f_L_begin f_X9_begin
        rw [nR_t hx (by decide) (by decide) c, ob_s, ox_inr, a1, ob_s, b1, ob_s, c1, ob_s, ob_s]
        dsimp only
        rw [ox_inr, e1, chk_t (by omega)]
      · rw [ms_a (by omega), c3 a i (by omega)]; exact a3 a i (by omega)
    · obtain ⟨M1, a1, a2, a3⟩ := msave hF w (h.r3 w 0)
      obtain ⟨M2, b1, b2, b3⟩ := mbegins_ok hF hn M1
      have e : f_X10_begin F n N = some ((sK A.1 : Int), M2) := by
        have k1 : M1 65 1 = sK A.1 := a2.1.2.1
        unfold f_X10_begin
        rw [mW_t hx (by decide) (by decide) c, rf_0]
        dsimp only
        rw [a1, ob_s, b1, ob_s, k1]
      refine ⟨_, M2, e, a2.jm hc w b2 (fun a i q => b3 a i (by omega)), ?_, fun a i q => cg_X10_begin e a i (by omega), fun _ => rfl⟩
      rw [b3 64 3 (by decide), a3 64 3 (by omega) (by decide), ms_eq]
  · refine OpK.no (k := 1) w hC hM (by decide) (by decide) ?_ (fun M1 h => ?_)
    · unfold f_L_begin f_X9_begin
      rw [nR_f hx (by decide) (by decide) c, ob_s, ox_inl, ob_s, ox_inl, if_pos rfl]
    · unfold f_X10_begin
      rw [mW_f hx (by decide) (by decide) c, rf_p (by decide) (by decide) (fun q => ob (f_X10_saves F q.2) fun q7 => ob (f_X10_begins F x q7) fun q8 => some (q7 65 1, q8))]
end Net
