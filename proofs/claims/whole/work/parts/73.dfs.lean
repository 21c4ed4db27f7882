/-! the depth-first labeling -/
def up1 (lb : Nat → Int) (v : Nat) (x : Int) : Nat → Int := fun u => if u = v then x else lb u
theorem up1_eq (lb : Nat → Int) (v : Nat) (x : Int) : up1 lb v x v = x := if_pos rfl
theorem up1_ne {lb : Nat → Int} {v u : Nat} {x : Int} (h : u ≠ v) : up1 lb v x u = lb u := if_neg h
/-- labels given so far: g of them, all different -/
def LI (n : Nat) (lb : Nat → Int) (g : Nat) : Prop := (∀ v, v < n → lb v = -1 ∨ (0 ≤ lb v ∧ lb v < g)) ∧ (∀ v w, v < n → w < n → v ≠ w → lb v ≠ -1 → lb v ≠ lb w) ∧ ct (fun v => !decide (lb v = -1)) n = g
theorem LI.le {n : Nat} {lb : Nat → Int} {g : Nat} (h : LI n lb g) : g ≤ n := by rw [← h.2.2]; exact ct_le _ _
theorem LI.lt {n : Nat} {lb : Nat → Int} {g : Nat} (h : LI n lb g) {v : Nat} (hv : v < n) (hu : lb v = -1) : g < n := by
  have := ct_gap (q := fun v => !decide (lb v = -1)) (v := v) (by rw [decide_eq_true hu]; rfl) n hv
  rw [h.2.2] at this
  omega
theorem LI.set {n : Nat} {lb : Nat → Int} {g : Nat} (h : LI n lb g) {v : Nat} (hv : v < n) (hu : lb v = -1) : LI n (up1 lb v g) (g + 1) := by
  obtain ⟨h1, h2, h3⟩ := h
  refine ⟨fun u hu2 => ?_, fun u w hu2 hw hne hl => ?_, ?_⟩
  · by_cases e : u = v
    · subst e; rw [up1_eq]; right; omega
    · rw [up1_ne e]; have := h1 u hu2; omega
  · by_cases e : u = v
    · subst e
      have := h1 w hw
      rw [up1_eq, up1_ne (fun q => hne q.symm)]; omega
    · rw [up1_ne e] at hl ⊢
      by_cases e2 : w = v
      · subst e2
        have := h1 u hu2
        rw [up1_eq]; omega
      · rw [up1_ne e2]; exact h2 u w hu2 hw hne hl
  · rw [ct_upd (q := fun u => !decide (lb u = -1)) (q' := fun u => !decide (up1 lb v g u = -1)) (x0 := v) (fun u => ?_) (by rw [decide_eq_true hu]; rfl), h3, if_pos hv]
    by_cases e : u = v
    · subst e
      rw [up1_eq, decide_eq_false (show ¬ (g : Int) = -1 by omega), decide_eq_true (show u = u from rfl)]; simp
    · rw [up1_ne e, decide_eq_false (show ¬ v = u from fun q => e q.symm), Bool.or_false]
/-- the first link to a node without a label -/
def ful (s : Sg) (lb : Nat → Int) (v i : Nat) : Bool := tch s i v && decide (lb (oth s i v) = -1)
def fuf (s : Sg) (lb : Nat → Int) (v : Nat) : Nat := ffr (ful s lb v) 0 (sK s)
def dfs (s : Sg) : Nat → (Nat → Int) → Nat → List Nat → (Nat → Int) × Nat
  | 0, lb, g, _ => (lb, g)
  | _ + 1, lb, g, [] => (lb, g)
  | f + 1, lb, g, v :: st => if fuf s lb v < sK s then dfs s f (up1 lb (oth s (fuf s lb v) v) g) (g + 1) (oth s (fuf s lb v) v :: v :: st) else dfs s f lb g st
def topI : List Nat → Int
  | [] => -1
  | v :: _ => v
def PCh (M : Mem) : List Nat → Prop
  | [] => True
  | v :: st => M 61 v = topI st ∧ PCh M st
theorem PCh.fr {M M' : Mem} : ∀ {st : List Nat}, PCh M st → (∀ v, v ∈ st → M' 61 (v : Nat) = M 61 (v : Nat)) → PCh M' st
  | [], _, _ => trivial
  | v :: st, h, f => ⟨by rw [f v (List.mem_cons_self)]; exact h.1, PCh.fr h.2 (fun u hu => f u (List.mem_cons_of_mem v hu))⟩
section Dfs
variable {F : Nat} {M : Mem} {s : Sg}
theorem ful_yes {lb : Nat → Int} {v : Nat} (h : fuf s lb v < sK s) : tch s (fuf s lb v) v = true ∧ lb (oth s (fuf s lb v) v) = -1 := by
  have := ffr_yes (ful s lb v) 0 (sK s) (by unfold fuf at h; omega)
  unfold ful at this
  rw [Bool.and_eq_true, decide_eq_true_eq] at this
  exact this
theorem dfs_class (hF : 100000 ≤ F) (w : WN s) : ∀ (f : Nat) (lb : Nat → Int) (g : Nat) (st : List Nat) (M : Mem) (i fu : Nat), 2 * (sN s - g) + st.length ≤ f → i + f < 18 → f < fu → LI (sN s) lb g → (∀ v, v ∈ st → v < sN s ∧ lb v ≠ -1) → PCh M st → (M 1 0 = sN s ∧ M 1 1 = sK s ∧ (∀ i : Nat, i < sK s → M 2 i = sF s i ∧ M 3 i = sS s i ∧ M 4 i = sL s i)) → (∀ v : Nat, v < sN s → M 5 v = lb v) → ∃ M', f_X1_depthFirst_45 F fu g (topI st) i M = (ob (f_X1_labelTheRest F (dfs s f lb g st).2 M') fun q => some q) ∧ (∀ v : Nat, v < sN s → M' 5 v = (dfs s f lb g st).1 v) ∧ LI (sN s) (dfs s f lb g st).1 (dfs s f lb g st).2 ∧ ∀ a j, a ≠ 5 → a ≠ 61 → M' a j = M a j := by
  have w1 := w.1
  have w2 := w.2.1
  intro f
  induction f with
  | zero =>
    intro lb g st M i fu h1 h2 h3 hL hst hP hN hl
    obtain ⟨fu, rfl⟩ := fuel_s h3
    have hg := hL.le
    have : st = [] := List.length_eq_zero_iff.mp (by omega)
    subst this
    refine ⟨M, ?_, hl, hL, fun _ _ _ _ => rfl⟩
    show f_X1_depthFirst_45 F (fu + 1) g (-1) i M = _
    rw [f_X1_depthFirst_45, chk_t (by omega), if_neg (by omega), if_pos rfl]; rfl
  | succ f ih =>
    intro lb g st M i fu h1 h2 h3 hL hst hP hN hl
    obtain ⟨fu, rfl⟩ := fuel_s h3
    have hg := hL.le
    cases st with
    | nil =>
      refine ⟨M, ?_, hl, hL, fun _ _ _ _ => rfl⟩
      show f_X1_depthFirst_45 F (fu + 1) g (-1) i M = _
      rw [f_X1_depthFirst_45, chk_t (by omega), if_neg (by omega), if_pos rfl]; rfl
    | cons v st =>
      obtain ⟨hv, hlv⟩ := hst v List.mem_cons_self
      rw [List.length_cons] at h1
      -- a state around for the links
      have hU : f_X1_firstUnlabeled F v M = some (if fuf s lb v < sK s then (oth s (fuf s lb v) v : Int) else -1) := by
        have e1 : M 1 1 = sK s := hN.2.1
        have hT : ∀ i, i < sK s → f_X6_touches 1 i v M = some (bi (tch s i v)) := by
          intro i hi
          obtain ⟨a1, a2, a3⟩ := hN.2.2 i hi
          unfold f_X6_touches tch
          rw [chk_t (by omega), chk_t (by omega)]
          show (if M 2 i = (v : Int) then some 1 else if M 3 i = (v : Int) then some 1 else some 0) = _
          rw [a1, a2]
          by_cases c1 : sF s i = v
          · rw [if_pos (by omega), decide_eq_true c1]; rfl
          · rw [if_neg (by omega), decide_eq_false c1]
            by_cases c2 : sS s i = v
            · rw [if_pos (by omega), decide_eq_true c2]; rfl
            · rw [if_neg (by omega), decide_eq_false c2]; rfl
        have hO : ∀ i, i < sK s → f_X6_otherEnd 1 i v M = some (oth s i v : Int) := by
          intro i hi
          obtain ⟨a1, a2, a3⟩ := hN.2.2 i hi
          unfold f_X6_otherEnd oth
          rw [chk_t (by omega), chk_t (by omega)]
          show (if M 2 i = (v : Int) then some (M 3 i) else some (M 2 i)) = _
          rw [a1, a2]
          by_cases c1 : sF s i = v
          · rw [if_pos (by omega), if_pos c1]
          · rw [if_neg (by omega), if_neg c1]
        refine lpe (f := fun fu (y : Int) => f_X1_firstUnlabeled_2 F fu v y M) (I := fun i y => y = i ∧ ∀ j, j < i → ful s lb v j = false) (Q := fun r => r = some (if fuf s lb v < sK s then (oth s (fuf s lb v) v : Int) else -1)) (sK s) ?_ ?_ (sK s) 0 F 0 (by omega) (by omega) ⟨rfl, fun j hj => absurd hj (Nat.not_lt_zero j)⟩
        · rintro i fu y hi ⟨q1, q2⟩
          subst q1
          have no : ful s lb v i = false → ∀ j, j < i + 1 → ful s lb v j = false := by
            intro hh j hj
            by_cases e : j = i
            · rw [e]; exact hh
            · exact q2 j (by omega)
          rw [f_X1_firstUnlabeled_2, chk_t (by omega), if_neg (by omega), hT i hi, ob_s, chk_t (bi_R _)]
          cases ht : tch s i v with
          | false =>
            right
            rw [if_pos (by decide)]
            exact ⟨(i : Int) + 1, rfl, rfl, no (by unfold ful; rw [ht]; rfl)⟩
          | true =>
            have ho := oth_lt w hi v
            rw [if_neg (by decide), hO i hi, ob_s, chk_t (by omega), hl _ ho]
            by_cases c : lb (oth s i v) = -1
            · left
              have ef : fuf s lb v = i := ffr_at hi (by unfold ful; rw [ht, decide_eq_true c]; rfl) q2
              rw [if_pos c, ob_s, ef, if_pos hi]
            · right
              rw [if_neg c]
              exact ⟨(i : Int) + 1, rfl, rfl, no (by unfold ful; rw [decide_eq_false c, Bool.and_false])⟩
        · rintro fu y ⟨q1, q2⟩
          subst q1
          have : ¬ fuf s lb v < sK s := by
            intro hh
            have := ffr_yes (ful s lb v) 0 (sK s) (by unfold fuf at hh; omega)
            have h9 := q2 _ hh; unfold fuf at h9; rw [h9] at this; cases this
          rw [f_X1_firstUnlabeled_2, chk_t (by omega), if_pos (by omega), if_neg this]
      by_cases c : fuf s lb v < sK s
      · obtain ⟨ht, hun⟩ := ful_yes c
        have ho := oth_lt w c v
        have hg2 := hL.lt ho hun
        have ed : dfs s (f + 1) lb g (v :: st) = dfs s f (up1 lb (oth s (fuf s lb v) v) g) (g + 1) (oth s (fuf s lb v) v :: v :: st) := by rw [dfs, if_pos c]
        have hne : ∀ u, u ∈ v :: st → u ≠ oth s (fuf s lb v) v := fun u hu q => (hst u hu).2 (by rw [q]; exact hun)
        obtain ⟨M', b1, b2, b3, b4⟩ := ih (up1 lb (oth s (fuf s lb v) v) g) (g + 1) (oth s (fuf s lb v) v :: v :: st) (mset (mset M 61 (oth s (fuf s lb v) v) v) 5 (oth s (fuf s lb v) v) g) (i + 1) fu (by rw [List.length_cons, List.length_cons]; omega) (by omega) (by omega) (hL.set ho hun) (fun u hu => by
            rcases List.mem_cons.mp hu with q | q
            · subst q; exact ⟨ho, by rw [up1_eq]; omega⟩
            · exact ⟨(hst u q).1, by rw [up1_ne (hne u q)]; exact (hst u q).2⟩) ⟨by rw [ms_a (by decide), ms_eq]; rfl, PCh.fr hP (fun u hu => by have := hne u hu; rw [ms_a (by decide), ms_i (by omega)])⟩ ⟨by rw [ms_a (by decide), ms_a (by decide)]; exact hN.1, by rw [ms_a (by decide), ms_a (by decide)]; exact hN.2.1, fun j hj => by rw [ms_a (by decide), ms_a (by decide), ms_a (by decide), ms_a (by decide), ms_a (by decide), ms_a (by decide)]; exact hN.2.2 j hj⟩ (fun u hu => by
            by_cases e : u = oth s (fuf s lb v) v
            · subst e; rw [ms_eq, up1_eq]
            · rw [ms_i (by omega), ms_a (by decide), up1_ne e]; exact hl u hu)
        rw [ed]
        refine ⟨M', ?_, b2, b3, fun a j k1 k2 => by rw [b4 a j k1 k2, ms_a k1, ms_a k2]⟩
        show f_X1_depthFirst_45 F (fu + 1) g (v : Int) i M = _
        rw [if_pos c] at hU
        rw [f_X1_depthFirst_45, chk_t (by omega), if_neg (by omega), if_neg (by omega), hU, ob_s, chk_t (by omega), if_neg (by omega), chk_t (by omega)]
        exact b1
      · have ed : dfs s (f + 1) lb g (v :: st) = dfs s f lb g st := by rw [dfs, if_neg c]
        obtain ⟨M', b1, b2, b3, b4⟩ := ih lb g st M (i + 1) fu (by omega) (by omega) (by omega) hL (fun u hu => hst u (List.mem_cons_of_mem v hu)) hP.2 hN hl
        rw [ed]
        refine ⟨M', ?_, b2, b3, b4⟩
        show f_X1_depthFirst_45 F (fu + 1) g (v : Int) i M = _
        rw [if_neg c] at hU
        rw [f_X1_depthFirst_45, chk_t (by omega), if_neg (by omega), if_neg (by omega), hU, ob_s, chk_t (by decide), if_pos rfl, chk_t (by omega), hP.1]
        exact b1
/-- the rest in ascending order -/
def rlb (lb : Nat → Int) (g : Nat) : Nat → (Nat → Int) × Nat
  | 0 => (lb, g)
  | v + 1 => if (rlb lb g v).1 v = -1 then (up1 (rlb lb g v).1 v (rlb lb g v).2, (rlb lb g v).2 + 1) else rlb lb g v
theorem rlb_ok {n : Nat} {lb : Nat → Int} {g : Nat} (h : LI n lb g) : ∀ k, k ≤ n → LI n (rlb lb g k).1 (rlb lb g k).2 ∧ (∀ v, v < k → (rlb lb g k).1 v ≠ -1) ∧ (∀ v, k ≤ v → (rlb lb g k).1 v = lb v)
  | 0, _ => ⟨h, fun v hv => absurd hv (Nat.not_lt_zero v), fun _ _ => rfl⟩
  | k + 1, hk => by
    obtain ⟨h1, h2, h3⟩ := rlb_ok h k (by omega)
    by_cases c : (rlb lb g k).1 k = -1
    · have e : rlb lb g (k + 1) = (up1 (rlb lb g k).1 k (rlb lb g k).2, (rlb lb g k).2 + 1) := by rw [rlb, if_pos c]
      rw [e]
      refine ⟨h1.set (by omega) c, fun v hv => ?_, fun v hv => ?_⟩
      · show up1 (rlb lb g k).1 k (rlb lb g k).2 v ≠ -1
        by_cases q : v = k
        · subst q; rw [up1_eq]; omega
        · rw [up1_ne q]; exact h2 v (by omega)
      · show up1 (rlb lb g k).1 k (rlb lb g k).2 v = _
        rw [up1_ne (by omega)]; exact h3 v (by omega)
    · have e : rlb lb g (k + 1) = rlb lb g k := by rw [rlb, if_neg c]
      rw [e]
      refine ⟨h1, fun v hv => ?_, fun v hv => h3 v (by omega)⟩
      by_cases q : v = k
      · subst q; exact c
      · exact h2 v (by omega)
theorem rest_class (hF : 100000 ≤ F) (w1 : sN s ≤ 9) {lb : Nat → Int} {g : Nat} (hL : LI (sN s) lb g) (M0 : Mem) (h0 : M0 1 0 = sN s) (hl : ∀ v : Nat, v < sN s → M0 5 v = lb v) : ∃ M', f_X1_labelTheRest F g M0 = some M' ∧ (∀ v : Nat, v < sN s → M' 5 v = (rlb lb g (sN s)).1 v) ∧ ∀ a j, a ≠ 5 → M' a j = M0 a j := by
  refine lpe (f := fun fu (y : Int × Int × Mem) => f_X1_labelTheRest_4 F fu y.1 y.2.1 y.2.2) (I := fun k y => y.1 = (rlb lb g k).2 ∧ y.2.1 = k ∧ (∀ v : Nat, v < sN s → y.2.2 5 v = (rlb lb g k).1 v) ∧ ∀ a j, a ≠ 5 → y.2.2 a j = M0 a j) (Q := fun r => ∃ M', r = some M' ∧ (∀ v : Nat, v < sN s → M' 5 v = (rlb lb g (sN s)).1 v) ∧ ∀ a j, a ≠ 5 → M' a j = M0 a j) (sN s) ?_ ?_ (sN s) 0 F (g, 0, M0) (by omega) (by omega) ⟨rfl, rfl, hl, fun _ _ _ => rfl⟩
  · rintro k fu ⟨y1, y2, N⟩ hk ⟨q1, q2, q3, q4⟩
    dsimp only at q1 q2 q3 q4 ⊢
    subst q1 q2
    right
    have e0 : N 1 0 = sN s := by rw [q4 1 0 (by decide)]; exact h0
    have hle := (rlb_ok hL k (by omega)).1.le
    rw [f_X1_labelTheRest_4, chk_t (by omega), if_neg (by omega), chk_t (by omega), q3 k hk]
    by_cases c : (rlb lb g k).1 k = -1
    · have e : rlb lb g (k + 1) = (up1 (rlb lb g k).1 k (rlb lb g k).2, (rlb lb g k).2 + 1) := by rw [rlb, if_pos c]
      rw [if_pos c]
      refine ⟨(((rlb lb g k).2 : Int) + 1, (k : Int) + 1, mset N 5 k ((rlb lb g k).2 : Int)), rfl, by rw [e]; rfl, rfl, fun v hv => ?_, fun a j ha => by dsimp only; rw [ms_a ha]; exact q4 a j ha⟩
      rw [e]
      show mset N 5 k _ 5 v = up1 (rlb lb g k).1 k (rlb lb g k).2 v
      by_cases q : v = k
      · subst q; rw [ms_eq, up1_eq]
      · rw [ms_i (by omega), up1_ne q]; exact q3 v hv
    · have e : rlb lb g (k + 1) = rlb lb g k := by rw [rlb, if_neg c]
      rw [if_neg c]
      exact ⟨(((rlb lb g k).2 : Int), (k : Int) + 1, N), rfl, by rw [e], rfl, by rw [e]; exact q3, q4⟩
  · rintro fu ⟨y1, y2, N⟩ ⟨q1, q2, q3, q4⟩
    dsimp only at q1 q2 q3 q4 ⊢
    subst q1 q2
    have e0 : N 1 0 = sN s := by rw [q4 1 0 (by decide)]; exact h0
    have hle := (rlb_ok hL (sN s) (Nat.le_refl _)).1.le
    exact ⟨N, by rw [f_X1_labelTheRest_4, chk_t (by omega), if_pos (by omega)], q3, q4⟩
/-- what the depth-first labeling gives -/
def dfr (s : Sg) (r : Nat) : (Nat → Int) × Nat := dfs s (2 * sN s - 1) (up1 (fun _ => -1) r 0) 1 [r]
def dfl (s : Sg) (r : Nat) : Nat → Nat := fun v => ((rlb (dfr s r).1 (dfr s r).2 (sN s)).1 v).toNat
theorem LI_0 {n r : Nat} (hr : r < n) : LI n (up1 (fun _ => -1) r 0) 1 := by
  have h : LI n (fun _ => -1) 0 := ⟨fun _ _ => Or.inl rfl, fun _ _ _ _ _ q => absurd rfl q, ct_none (fun _ _ => rfl)⟩
  exact h.set hr rfl
theorem depth_ok (hF : 100000 ≤ F) (w : WN s) {r : Nat} (hr : r < sN s) (M0 : Mem) (hS : SC 1 M0 s) : ∃ M', f_X1_depthFirst F r M0 = some M' ∧ PB (sN s) (dfl s r) ∧ (∀ v : Nat, v < sN s → M' 5 v = dfl s r v) ∧ LI (sN s) (dfr s r).1 (dfr s r).2 ∧ ∀ a j, a ≠ 5 → a ≠ 61 → M' a j = M0 a j := by
  have w1 := w.1
  have w2 := w.2.1
  refine lpe (f := fun fu (y : Int × Mem) => f_X1_depthFirst_2 F fu r y.1 y.2) (I := fun k y => y.1 = k ∧ (∀ v : Nat, v < k → y.2 5 v = -1) ∧ ∀ a j, a ≠ 5 → y.2 a j = M0 a j) (Q := fun q => ∃ M', q = some M' ∧ PB (sN s) (dfl s r) ∧ (∀ v : Nat, v < sN s → M' 5 v = dfl s r v) ∧ LI (sN s) (dfr s r).1 (dfr s r).2 ∧ ∀ a j, a ≠ 5 → a ≠ 61 → M' a j = M0 a j) (sN s) ?_ ?_ (sN s) 0 F (0, M0) (by omega) (by omega) ⟨rfl, fun v hv => absurd hv (Nat.not_lt_zero v), fun _ _ _ => rfl⟩
  · rintro k fu ⟨y1, N⟩ hk ⟨q1, q2, q3⟩
    dsimp only at q1 q2 q3 ⊢
    subst q1
    right
    have e0 : N 1 0 = sN s := by rw [q3 1 0 (by decide)]; exact hS.1
    refine ⟨((k : Int) + 1, mset N 5 k (-1)), ?_, rfl, fun v hv => ?_, fun a j ha => ?_⟩
    · rw [f_X1_depthFirst_2, chk_t (by omega), if_neg (by omega), chk_t (by omega)]
    · dsimp only
      by_cases q : v = k
      · subst q; rw [ms_eq]
      · rw [ms_i (by omega)]; exact q2 v (by omega)
    · dsimp only; rw [ms_a ha]; exact q3 a j ha
  · rintro fu ⟨y1, N⟩ ⟨q1, q2, q3⟩
    dsimp only at q1 q2 q3 ⊢
    subst q1
    have e0 : N 1 0 = sN s := by rw [q3 1 0 (by decide)]; exact hS.1
    obtain ⟨M1, a1, a2, a3, a4⟩ := dfs_class hF w (2 * sN s - 1) (up1 (fun _ => -1) r 0) 1 [r] (mset (mset N 5 r 0) 61 r (-1)) 0 F (by rw [List.length_singleton]; omega) (by omega) (by omega) (LI_0 hr) (fun u hu => by
        rw [List.mem_singleton] at hu
        subst hu
        exact ⟨hr, by rw [up1_eq]; decide⟩) ⟨ms_eq _ _ _ _, trivial⟩ ⟨by rw [ms_a (by decide), ms_a (by decide)]; exact e0, by rw [ms_a (by decide), ms_a (by decide), q3 1 1 (by decide)]; exact hS.2.1, fun j hj => by rw [ms_a (by decide), ms_a (by decide), ms_a (by decide), ms_a (by decide), ms_a (by decide), ms_a (by decide), q3 2 j (by decide), q3 3 j (by decide), q3 4 j (by decide)]; exact hS.2.2.1 j hj⟩ (fun u hu => by
        rw [ms_a (by decide)]
        by_cases e : u = r
        · subst e; rw [ms_eq, up1_eq]
        · rw [ms_i (by omega), up1_ne e]; exact q2 u hu)
    have a3 : LI (sN s) (dfr s r).1 (dfr s r).2 := a3
    have e10 : M1 1 0 = sN s := by rw [a4 1 0 (by decide) (by decide), ms_a (by decide), ms_a (by decide)]; exact e0
    obtain ⟨M2, b1, b2, b3⟩ := rest_class hF w1 a3 M1 e10 a2
    obtain ⟨r1, r2, r3⟩ := rlb_ok a3 (sN s) (Nat.le_refl _)
    have hnn : ∀ v, v < sN s → 0 ≤ (rlb (dfr s r).1 (dfr s r).2 (sN s)).1 v ∧ (rlb (dfr s r).1 (dfr s r).2 (sN s)).1 v < (rlb (dfr s r).1 (dfr s r).2 (sN s)).2 := by
      intro v hv
      rcases r1.1 v hv with q | q
      · exact absurd q (r2 v hv)
      · exact q
    have hle := r1.le
    refine ⟨M2, ?_, PB.of (fun v hv => ?_) (fun v u hv hu hne => ?_), fun v hv => ?_, a3, fun a j k1 k2 => ?_⟩
    · rw [f_X1_depthFirst_2, chk_t (by omega), if_pos (by omega), chk_t (by omega)]
      have a1 : f_X1_depthFirst_45 F F 1 r 0 (mset (mset N 5 r 0) 61 r (-1)) = (ob (f_X1_labelTheRest F (dfr s r).2 M1) fun q => some q) := a1
      rw [a1, b1, ob_s]
    · have := hnn v hv
      unfold dfl; omega
    · have h1 := hnn v hv
      have h2 := hnn u hu
      have h3 := r1.2.1 v u hv hu hne (r2 v hv)
      unfold dfl; omega
    · have h1 := hnn v hv
      rw [b2 v hv]
      unfold dfl; omega
    · rw [b3 a j k1, a4 a j k1 k2, ms_a k2, ms_a k1]; exact q3 a j k1
end Dfs
