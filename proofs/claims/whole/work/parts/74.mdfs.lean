/-! the depth-first labeling of the model -/
def TRl (M : Mem) : List Nat → Prop
  | [] => True
  | v :: st => M 69 (st.length : Nat) = v ∧ TRl M st
theorem TRl.fr {M M' : Mem} : ∀ {st : List Nat}, TRl M st → (∀ j : Nat, j < st.length → M' 69 j = M 69 j) → TRl M' st
  | [], _, _ => trivial
  | v :: st, h, f => ⟨by rw [f st.length (by rw [List.length_cons]; omega)]; exact h.1, TRl.fr h.2 (fun j hj => f j (by rw [List.length_cons]; omega))⟩
/-- the labels in the model -/
def ML (M : Mem) (n : Nat) (lb : Nat → Int) : Prop := ∀ v : Nat, v < n → lb v ≠ -1 → M 65 (50 + (v : Int)) = lb v
def VB (n : Nat) (x : Int) (lb : Nat → Int) : Prop := ∀ v : Nat, v < n → btI x v = !decide (lb v = -1)
section Mdfs
variable {F : Nat} {M : Mem} {s : Sg}
/-- the links and sizes in the model's row -/
def NM (M : Mem) (s : Sg) : Prop := M 65 0 = sN s ∧ M 65 1 = sK s ∧ ∀ i : Nat, i < sK s → M 65 (2 + 3 * (i : Int)) = sF s i ∧ M 65 (3 + 3 * (i : Int)) = sS s i ∧ M 65 (4 + 3 * (i : Int)) = sL s i
theorem NM.of (h : SM 65 0 M s) : NM M s := by
  obtain ⟨h1, h2, h3, -, -⟩ := h
  refine ⟨h1, h2, fun i hi => ?_⟩
  have := h3 i hi
  rw [Int.zero_add, Int.zero_add, Int.zero_add] at this
  exact this
theorem NM.fr {M' : Mem} (w : WN s) (h : NM M s) (f : ∀ i, i < 50 → M' 65 i = M 65 i) : NM M' s := by
  have w2 := w.2.1
  obtain ⟨h1, h2, h3⟩ := h
  exact ⟨by rw [f 0 (by decide)]; exact h1, by rw [f 1 (by decide)]; exact h2, fun i hi => by rw [f _ (by omega), f _ (by omega), f _ (by omega)]; exact h3 i hi⟩
theorem nOf (w : WN s) (h : NM M s) {i v : Nat} (hi : i < sK s) (hv : v < 100) : f_X10_isOf i v M = some (bi (tch s i v)) := by
  have hh := w.2.2.1 i hi
  have w1 := w.1
  have w2 := w.2.1
  obtain ⟨a1, a2, a3⟩ := h.2.2 i hi
  have p0 : f_X10_part i 0 M = some (sF s i : Int) := by unfold f_X10_part; rw [chk_t (by omega), ← a1, Int.add_zero]
  have p1 : f_X10_part i 1 M = some (sS s i : Int) := by unfold f_X10_part; rw [chk_t (by omega), ← a2, show 2 + 3 * (i : Int) + 1 = 3 + 3 * (i : Int) by omega]
  unfold f_X10_isOf
  rw [chk_t (by omega), p0, ob_s, chk_t (by omega)]
  unfold tch
  by_cases c1 : sF s i = v
  · rw [if_pos (by omega)]; simp [c1, bi]
  · rw [if_neg (by omega), p1, ob_s, chk_t (by omega)]
    by_cases c2 : sS s i = v
    · rw [if_pos (by omega)]; simp [c2, bi]
    · rw [if_neg (by omega)]; simp [c1, c2, bi]
theorem nOth (w : WN s) (h : NM M s) {i v : Nat} (hi : i < sK s) (hv : v < 100) : f_X10_otherEnd i v M = some (oth s i v : Int) := by
  have hh := w.2.2.1 i hi
  have w1 := w.1
  have w2 := w.2.1
  obtain ⟨a1, a2, a3⟩ := h.2.2 i hi
  have p0 : f_X10_part i 0 M = some (sF s i : Int) := by unfold f_X10_part; rw [chk_t (by omega), ← a1, Int.add_zero]
  have p1 : f_X10_part i 1 M = some (sS s i : Int) := by unfold f_X10_part; rw [chk_t (by omega), ← a2, show 2 + 3 * (i : Int) + 1 = 3 + 3 * (i : Int) by omega]
  unfold f_X10_otherEnd oth
  rw [chk_t (by omega), p0, ob_s, chk_t (by omega)]
  by_cases c1 : sF s i = v
  · rw [if_pos (by omega), p1, ob_s, if_pos c1]
  · rw [if_neg (by omega), ob_s, if_neg c1]
theorem mscan (hF : 100000 ≤ F) (w : WN s) (h : NM M s) {vis : Int} {lb : Nat → Int} (hV : VB (sN s) vis lb) {v : Nat} (hv : v < sN s) {g deep : Nat} (hg : g ≤ 9) (k26 : Int → Int → Int → Mem → Option Mem) : f_X10_visits_55 F k26 F vis g deep v (-1) ((sK s : Int) - 1) M = (if fuf s lb v < sK s then chk (0 ≤ 50 + (oth s (fuf s lb v) v : Int) ∧ 50 + (oth s (fuf s lb v) v : Int) < 140) (chk (0 ≤ (deep : Int) ∧ (deep : Int) < 9) (k26 (bor vis (bshl 1 (oth s (fuf s lb v) v))) ((g : Int) + 1) ((deep : Int) + 1) (mset (mset M 65 (50 + (oth s (fuf s lb v) v : Int)) g) 69 deep (oth s (fuf s lb v) v)))) else k26 vis g ((deep : Int) + (-1)) M) := by
  have w1 := w.1
  have w2 := w.2.1
  refine lpe (f := fun fu (y : Int × Int) => f_X10_visits_55 F k26 fu vis g deep v y.1 y.2 M) (I := fun i y => y.2 = (sK s : Int) - 1 - i ∧ y.1 = (if ffr (ful s lb v) (sK s - i) i < sK s then (oth s (ffr (ful s lb v) (sK s - i) i) v : Int) else -1)) (Q := fun r => r = (if fuf s lb v < sK s then chk (0 ≤ 50 + (oth s (fuf s lb v) v : Int) ∧ 50 + (oth s (fuf s lb v) v : Int) < 140) (chk (0 ≤ (deep : Int) ∧ (deep : Int) < 9) (k26 (bor vis (bshl 1 (oth s (fuf s lb v) v))) ((g : Int) + 1) ((deep : Int) + 1) (mset (mset M 65 (50 + (oth s (fuf s lb v) v : Int)) g) 69 deep (oth s (fuf s lb v) v)))) else k26 vis g ((deep : Int) + (-1)) M)) (sK s) ?_ ?_ (sK s) 0 F (-1, (sK s : Int) - 1) (by omega) (by omega) ⟨by show _ = _; omega, ?_⟩
  · rintro i fu ⟨y1, y2⟩ hi ⟨q1, q2⟩
    dsimp only at q1 q2 ⊢
    right
    have hj : sK s - 1 - i < sK s := by omega
    have ef : ffr (ful s lb v) (sK s - (i + 1)) (i + 1) = if ful s lb v (sK s - 1 - i) then sK s - 1 - i else ffr (ful s lb v) (sK s - i) i := by
      rw [ffr, show sK s - (i + 1) = sK s - 1 - i by omega, show sK s - 1 - i + 1 = sK s - i by omega]
    have hy : inR y1 := by
      rw [q2]
      split
      · rename_i hh
        have := oth_lt w hh v
        omega
      · decide
    have hO := nOf w h hj (show v < 100 by omega)
    have hE := nOth w h hj (show v < 100 by omega)
    rw [show ((sK s - 1 - i : Nat) : Int) = y2 by omega] at hO hE
    have ho := oth_lt w hj v
    rw [f_X10_visits_55, chk_t (by omega), if_neg (by omega), hO, ob_s, chk_t (bi_R _)]
    cases ht : tch s (sK s - 1 - i) v with
    | false =>
      have hfu : ful s lb v (sK s - 1 - i) = false := by unfold ful; rw [ht]; rfl
      rw [if_pos (by decide)]
      refine ⟨(y1, y2 + (-1)), rfl, by show y2 + (-1) = _; omega, ?_⟩
      rw [ef, hfu]; exact q2
    | true =>
      rw [if_neg (by decide), hE, ob_s, mhas (by omega), ob_s, chk_t (bi_R _), hV _ ho]
      by_cases c : lb (oth s (sK s - 1 - i) v) = -1
      · have hfu : ful s lb v (sK s - 1 - i) = true := by unfold ful; rw [ht, decide_eq_true c]; rfl
        rw [decide_eq_true c, if_pos (by decide), ob_s]
        refine ⟨((oth s (sK s - 1 - i) v : Int), y2 + (-1)), rfl, by show y2 + (-1) = _; omega, ?_⟩
        rw [ef, if_pos hfu, if_pos hj]
      · have hfu : ful s lb v (sK s - 1 - i) = false := by unfold ful; rw [decide_eq_false c, Bool.and_false]
        rw [decide_eq_false c, if_neg (by decide)]
        refine ⟨(y1, y2 + (-1)), rfl, by show y2 + (-1) = _; omega, ?_⟩
        rw [ef, hfu]; exact q2
  · rintro fu ⟨y1, y2⟩ ⟨q1, q2⟩
    dsimp only at q1 q2 ⊢
    rw [Nat.sub_self] at q2
    have q2 : y1 = (if fuf s lb v < sK s then (oth s (fuf s lb v) v : Int) else -1) := q2
    by_cases c : fuf s lb v < sK s
    · have := oth_lt w c v
      rw [if_pos c] at q2 ⊢
      subst q2
      rw [f_X10_visits_55, chk_t (by omega), if_pos (by omega), if_neg (by omega)]
    · rw [if_neg c] at q2 ⊢
      subst q2
      rw [f_X10_visits_55, chk_t (by omega), if_pos (by omega), if_pos rfl]
  · show (-1 : Int) = _
    rw [if_neg]
    unfold ffr; omega
theorem dfs_model (hF : 100000 ≤ F) (w : WN s) : ∀ (f : Nat) (lb : Nat → Int) (g : Nat) (st : List Nat) (vis : Int) (M : Mem) (fu : Nat), 2 * (sN s - g) + st.length ≤ f → f < fu → LI (sN s) lb g → st.length ≤ g → (∀ v, v ∈ st → v < sN s) → TRl M st → VB (sN s) vis lb → NM M s → ML M (sN s) lb → ∃ M' vis', f_X10_visits_26 F fu vis g st.length M = f_X10_visits_158 F F vis' (dfs s f lb g st).2 0 M' ∧ VB (sN s) vis' (dfs s f lb g st).1 ∧ ML M' (sN s) (dfs s f lb g st).1 ∧ ∀ a j, (a ≠ 65 ∨ j < 50 ∨ 59 ≤ j) → a ≠ 69 → M' a j = M a j := by
  have w1 := w.1
  have w2 := w.2.1
  intro f
  induction f with
  | zero =>
    intro lb g st vis M fu h1 h3 hL hlen hst hT hV hN hM
    obtain ⟨fu, rfl⟩ := fuel_s h3
    have hg := hL.le
    have : st = [] := List.length_eq_zero_iff.mp (by omega)
    subst this
    refine ⟨M, vis, ?_, hV, hM, fun _ _ _ _ => rfl⟩
    rw [f_X10_visits_26, chk_t (by decide), if_pos (by decide)]; rfl
  | succ f ih =>
    intro lb g st vis M fu h1 h3 hL hlen hst hT hV hN hM
    obtain ⟨fu, rfl⟩ := fuel_s h3
    have hg := hL.le
    cases st with
    | nil =>
      refine ⟨M, vis, ?_, hV, hM, fun _ _ _ _ => rfl⟩
      rw [f_X10_visits_26, chk_t (by decide), if_pos (by decide)]; rfl
    | cons v st =>
      have hv := hst v List.mem_cons_self
      rw [List.length_cons] at h1 hlen ⊢
      have et : M 69 (((st.length + 1 : Nat) : Int) - 1) = v := by rw [← hT.1]; congr 1; omega
      have hsc := mscan hF w hN hV hv (g := g) (deep := st.length + 1) (by omega) (f_X10_visits_26 F fu)
      have head : f_X10_visits_26 F (fu + 1) vis g ((st.length + 1 : Nat) : Int) M = f_X10_visits_55 F (f_X10_visits_26 F fu) F vis g ((st.length + 1 : Nat) : Int) v (-1) ((sK s : Int) - 1) M := by
        rw [f_X10_visits_26, chk_t (by omega), if_neg (by omega), chk_t (by omega), et, hN.2.1]
      rw [head, hsc]
      by_cases c : fuf s lb v < sK s
      · obtain ⟨ht, hun⟩ := ful_yes c
        have ho := oth_lt w c v
        have hg2 := hL.lt ho hun
        have ed : dfs s (f + 1) lb g (v :: st) = dfs s f (up1 lb (oth s (fuf s lb v) v) g) (g + 1) (oth s (fuf s lb v) v :: v :: st) := by rw [dfs, if_pos c]
        obtain ⟨M', vis', b1, b2, b3, b4⟩ := ih (up1 lb (oth s (fuf s lb v) v) g) (g + 1) (oth s (fuf s lb v) v :: v :: st) (bor vis (bshl 1 (oth s (fuf s lb v) v))) (mset (mset M 65 (50 + (oth s (fuf s lb v) v : Int)) g) 69 ((st.length + 1 : Nat) : Int) (oth s (fuf s lb v) v)) fu (by rw [List.length_cons, List.length_cons]; omega) (by omega) (hL.set ho hun) (by rw [List.length_cons, List.length_cons]; omega) (fun u hu => by
            rcases List.mem_cons.mp hu with q | q
            · subst q; exact ho
            · exact hst u q) ⟨by rw [List.length_cons]; exact ms_eq _ _ _ _, TRl.fr hT (fun j hj => by rw [List.length_cons] at hj; rw [ms_i (by omega), ms_a (by decide)])⟩ (fun u hu => by
            rw [btI_or, hV u hu, btI_shl _ (by omega) u (by omega)]
            by_cases e : u = oth s (fuf s lb v) v
            · subst e; rw [up1_eq, decide_eq_false (show ¬ (g : Int) = -1 by omega), decide_eq_true (rfl : oth s (fuf s lb v) v = oth s (fuf s lb v) v), Bool.or_true]; rfl
            · rw [up1_ne e, decide_eq_false e, Bool.or_false]) (hN.fr w (fun i hi => by rw [ms_a (by decide), ms_i (by omega)])) (fun u hu hne => by
            by_cases e : u = oth s (fuf s lb v) v
            · subst e; rw [ms_a (by decide), ms_eq, up1_eq]
            · rw [up1_ne e] at hne ⊢
              rw [ms_a (by decide), ms_i (by omega)]; exact hM u hu hne)
        rw [ed, if_pos c, chk_t (by omega), chk_t (by omega)]
        refine ⟨M', vis', ?_, b2, b3, fun a j k1 k2 => ?_⟩
        · rw [List.length_cons, List.length_cons] at b1
          exact b1
        · rw [b4 a j k1 k2, ms_a k2]
          unfold mset; rw [if_neg (by omega)]
      · have ed : dfs s (f + 1) lb g (v :: st) = dfs s f lb g st := by rw [dfs, if_neg c]
        obtain ⟨M', vis', b1, b2, b3, b4⟩ := ih lb g st vis M fu (by omega) (by omega) hL (by omega) (fun u hu => hst u (List.mem_cons_of_mem v hu)) hT.2 hV hN hM
        rw [ed, if_neg c]
        refine ⟨M', vis', ?_, b2, b3, b4⟩
        rw [show ((st.length + 1 : Nat) : Int) + -1 = (st.length : Int) by omega]
        exact b1
theorem mrest (hF : 100000 ≤ F) (w1 : sN s ≤ 9) {lb : Nat → Int} {g : Nat} (hL : LI (sN s) lb g) {vis : Int} (hV : VB (sN s) vis lb) (M0 : Mem) (h0 : M0 65 0 = sN s) (hM : ML M0 (sN s) lb) : ∃ M', f_X10_visits_158 F F vis g 0 M0 = some M' ∧ ML M' (sN s) (rlb lb g (sN s)).1 ∧ ∀ a j, (a ≠ 65 ∨ j < 50 ∨ 59 ≤ j) → M' a j = M0 a j := by
  refine lpe (f := fun fu (y : Int × Int × Mem) => f_X10_visits_158 F fu vis y.1 y.2.1 y.2.2) (I := fun k y => y.1 = (rlb lb g k).2 ∧ y.2.1 = k ∧ ML y.2.2 (sN s) (rlb lb g k).1 ∧ ∀ a j, (a ≠ 65 ∨ j < 50 ∨ 59 ≤ j) → y.2.2 a j = M0 a j) (Q := fun r => ∃ M', r = some M' ∧ ML M' (sN s) (rlb lb g (sN s)).1 ∧ ∀ a j, (a ≠ 65 ∨ j < 50 ∨ 59 ≤ j) → M' a j = M0 a j) (sN s) ?_ ?_ (sN s) 0 F (g, 0, M0) (by omega) (by omega) ⟨rfl, rfl, hM, fun _ _ _ => rfl⟩
  · rintro k fu ⟨y1, y2, N⟩ hk ⟨q1, q2, q3, q4⟩
    dsimp only at q1 q2 q3 q4 ⊢
    subst q1 q2
    right
    have e0 : N 65 0 = sN s := by rw [q4 65 0 (by omega)]; exact h0
    obtain ⟨r1, r2, r3⟩ := rlb_ok hL k (by omega)
    have hle := r1.le
    have hk3 := r3 k (Nat.le_refl _)
    rw [f_X10_visits_158, chk_t (by omega), if_neg (by omega), mhas (by omega), ob_s, chk_t (bi_R _), hV k hk]
    by_cases c : (rlb lb g k).1 k = -1
    · have e : rlb lb g (k + 1) = (up1 (rlb lb g k).1 k (rlb lb g k).2, (rlb lb g k).2 + 1) := by rw [rlb, if_pos c]
      rw [decide_eq_true (by rw [← hk3]; exact c), if_pos (by decide), chk_t (by omega)]
      refine ⟨(((rlb lb g k).2 : Int) + 1, (k : Int) + 1, mset N 65 (50 + (k : Int)) ((rlb lb g k).2 : Int)), rfl, by rw [e]; rfl, rfl, ?_, fun a j ha => ?_⟩
      · rw [e]
        intro u hu hne
        have hne : up1 (rlb lb g k).1 k (rlb lb g k).2 u ≠ -1 := hne
        show mset N 65 _ _ 65 _ = up1 (rlb lb g k).1 k (rlb lb g k).2 u
        by_cases q : u = k
        · subst q; rw [ms_eq, up1_eq]
        · rw [up1_ne q] at hne ⊢
          rw [ms_i (by omega)]; exact q3 u hu hne
      · dsimp only
        have : mset N 65 (50 + (k : Int)) ((rlb lb g k).2 : Int) a j = N a j := by unfold mset; rw [if_neg (by omega)]
        rw [this]; exact q4 a j ha
    · have e : rlb lb g (k + 1) = rlb lb g k := by rw [rlb, if_neg c]
      rw [decide_eq_false (by rw [← hk3]; exact c), if_neg (by decide)]
      exact ⟨(((rlb lb g k).2 : Int), (k : Int) + 1, N), rfl, by rw [e], rfl, by rw [e]; exact q3, q4⟩
  · rintro fu ⟨y1, y2, N⟩ ⟨q1, q2, q3, q4⟩
    dsimp only at q1 q2 q3 q4 ⊢
    subst q1 q2
    have e0 : N 65 0 = sN s := by rw [q4 65 0 (by omega)]; exact h0
    have hle := (rlb_ok hL (sN s) (Nat.le_refl _)).1.le
    exact ⟨N, by rw [f_X10_visits_158, chk_t (by omega), if_pos (by omega)], q3, q4⟩
theorem visits_ok (hF : 100000 ≤ F) (w : WN s) {r : Nat} (hr : r < sN s) (hL : LI (sN s) (dfr s r).1 (dfr s r).2) (M0 : Mem) (hS : SM 65 0 M0 s) : ∃ M', f_X10_visits F r M0 = some M' ∧ LB M' (sN s) (dfl s r) ∧ ∀ a j, (a ≠ 65 ∨ j < 50 ∨ 59 ≤ j) → a ≠ 69 → M' a j = M0 a j := by
  have w1 := w.1
  obtain ⟨M1, vis', b1, b2, b3, b4⟩ := dfs_model hF w (2 * sN s - 1) (up1 (fun _ => -1) r 0) 1 [r] (bshl 1 r) (mset (mset M0 69 0 r) 65 (50 + (r : Int)) 0) F (by rw [List.length_singleton]; omega) (by omega) (LI_0 hr) (Nat.le_refl _) (fun u hu => by rw [List.mem_singleton] at hu; rw [hu]; exact hr) ⟨by rw [ms_a (by decide)]; exact ms_eq _ _ _ _, trivial⟩ (fun u hu => by
      rw [btI_shl r (by omega) u (by omega)]
      by_cases e : u = r
      · subst e; rw [up1_eq, decide_eq_true (rfl : u = u)]; rfl
      · rw [up1_ne e, decide_eq_false e]; rfl) ((NM.of hS).fr w (fun i hi => by rw [ms_i (by omega), ms_a (by decide)])) (fun u hu hne => by
      by_cases e : u = r
      · subst e; rw [ms_eq, up1_eq]
      · rw [up1_ne e] at hne; exact absurd rfl hne)
  have e0 : M1 65 0 = sN s := by rw [b4 65 0 (by omega) (by decide), ms_i (by omega), ms_a (by decide)]; exact hS.1
  obtain ⟨M2, c1, c2, c3⟩ := mrest hF w1 hL b2 M1 e0 b3
  obtain ⟨r1, r2, r3⟩ := rlb_ok hL (sN s) (Nat.le_refl _)
  refine ⟨M2, ?_, fun v hv => ?_, fun a j k1 k2 => ?_⟩
  · unfold f_X10_visits
    rw [chk_t (by omega), chk_t (by omega)]
    have b1 : f_X10_visits_26 F F (bshl 1 r) 1 1 (mset (mset M0 69 0 r) 65 (50 + (r : Int)) 0) = f_X10_visits_158 F F vis' (dfr s r).2 0 M1 := b1
    rw [b1, c1]
  · have hne := r2 v hv
    have hnn := r1.1 v hv
    rw [c2 v hv hne]
    show _ = (((rlb (dfr s r).1 (dfr s r).2 (sN s)).1 v).toNat : Int)
    omega
  · rw [c3 a j k1, b4 a j k1 k2]
    have : mset (mset M0 69 0 r) 65 (50 + (r : Int)) 0 a j = mset M0 69 0 r a j := by unfold mset; rw [if_neg (by omega)]
    rw [this, ms_a k2]
end Mdfs
