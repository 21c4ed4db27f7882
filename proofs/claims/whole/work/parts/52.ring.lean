/-! good links in the model -/
theorem gdb_self {s : Sg} (w : WN s) {v i : Nat} (hv : v < sN s) (hi : i < sK s) : gdb s v v i = false := by
  have hl := w.2.2.1 i hi
  have h0 := isDist_0 (dis_D w) hv
  unfold gdb
  rw [decide_eq_false (by omega), Bool.and_false]
theorem gdb_far {s : Sg} (w : WN s) {v x i : Nat} (hv : v < sN s) (hx : x < sN s) (hi : i < sK s) (h : dis s v x = 1000) : gdb s v x i = false := by
  have hl := w.2.2.1 i hi
  unfold gdb
  cases ht : tch s i v with
  | false => rfl
  | true =>
    have h1 := isDist_link w (dis_D w) hx hv hi ht
    have ho := oth_lt w hi v
    have h2 := dis_le w ho hx
    have h3 := dist_le w (dis_D w) ho hx
    rw [decide_eq_false (by omega), Bool.and_false]
theorem mfar {M : Mem} {s : Sg} (w : WN s) (h : FM M (sN s) (dis s)) {u v : Nat} (hu : u < sN s) (hv : v < sN s) : f_X10_farFrom u v M = some (dis s u v : Int) := by
  have w1 := w.1
  unfold f_X10_farFrom
  rw [chk_t (by omega), h u v hu hv]
theorem mgood {F : Nat} (hF : 100000 ≤ F) {s : Sg} (w : WN s) {M : Mem} (hS : SM 65 0 M s) (h : FM M (sN s) (dis s)) {v x : Nat} (hv : v < sN s) (hx : x < sN s) : f_X10_good F v x M = some (bts (gdb s v x) (sK s)) := by
  have w1 := w.1
  have w2 := w.2.1
  have e1 : M 65 1 = sK s := hS.2.1
  have dv := dis_le w hv hx
  refine lpe (f := fun fu (y : Int × Int) => f_X10_good_5 F fu v x y.1 y.2 M) (I := fun i y => y.1 = bts (gdb s v x) i ∧ y.2 = i) (Q := fun r => r = some (bts (gdb s v x) (sK s))) (sK s) ?_ ?_ (sK s) 0 F (0, 0) (by omega) (by omega) ⟨rfl, rfl⟩
  · rintro i fu ⟨y1, y2⟩ hi ⟨h1, h2⟩
    dsimp only at h1 h2 ⊢
    subst h1 h2
    rw [f_X10_good_5, chk_t (by omega), if_neg (by omega)]
    by_cases c1 : v = x
    · left
      subst c1
      rw [if_pos rfl, bts_none (fun j hj => gdb_self w hv (by omega)), bts_none (fun j hj => gdb_self w hv hj)]
    · rw [if_neg (by omega), mfar w h hv hx, ob_s, chk_t (by omega)]
      by_cases c2 : dis s v x = 1000
      · left
        rw [if_pos (by omega), bts_none (fun j hj => gdb_far w hv hx (by omega) c2), bts_none (fun j hj => gdb_far w hv hx hj c2)]
      · right
        rw [if_neg (by omega), misOf hS w hi (by omega), ob_s, chk_t (bi_R _)]
        cases ht : tch s i v with
        | false =>
          have hg : gdb s v x i = false := by unfold gdb; rw [ht]; rfl
          rw [if_pos (bi_0.mpr rfl), bor_0 (bts_R _ _)]
          exact ⟨(_, (i : Int) + 1), rfl, by show _ = bts _ (i + 1); rw [bts, hg]; rfl, rfl⟩
        | true =>
          have hl := w.2.2.1 i hi
          have ho := oth_lt w hi v
          have d2 := dis_le w ho hx
          rw [if_neg (by decide), mpart2 hS w hi, ob_s, moth hS w hi (by omega), ob_s, mfar w h ho hx, ob_s, ob_s, chk_t (by omega), chk_t (by omega)]
          by_cases c : sL s i + dis s (oth s i v) x = dis s v x
          · have hg : gdb s v x i = true := by unfold gdb; rw [ht, decide_eq_true c]; rfl
            rw [if_pos (by omega)]
            exact ⟨(bor (bts (gdb s v x) i) (bshl 1 i), (i : Int) + 1), rfl, by show _ = bts _ (i + 1); rw [bts, if_pos hg], rfl⟩
          · have hg : gdb s v x i = false := by unfold gdb; rw [ht, decide_eq_false c]; rfl
            rw [if_neg (by omega), bor_0 (bts_R _ _)]
            exact ⟨(_, (i : Int) + 1), rfl, by show _ = bts _ (i + 1); rw [bts, hg]; rfl, rfl⟩
  · rintro fu ⟨y1, y2⟩ ⟨h1, h2⟩
    dsimp only at h1 h2 ⊢
    subst h1 h2
    rw [f_X10_good_5, chk_t (by omega), if_pos (by omega)]
/-- what the tables need of a state -/
def WR (s : Sg) : Prop := ∀ v l, v < sN s → l < sN s → (sE s v l = -1 ∨ ∃ i : Nat, i < sK s ∧ sE s v l = i ∧ (sF s i = v ∨ sS s i = v)) ∧ True
def WG (s : Sg) : Prop := WN s ∧ WB s ∧ WR s
theorem WF.g {s : Sg} (f : WF s) : WG s := ⟨f.1, f.2.1, fun v l hv hl => ⟨(f.2.2 v l hv hl).1, trivial⟩⟩
/-! the circle of a node -/
def lab (own k : Nat) : Nat := if k < own then k else k + 1
theorem labAt {p o : Nat} (hp : p < 100) (ho : o < 100) (M : Mem) : f_X4_labelAt p o M = some (lab o p : Int) := by
  unfold f_X4_labelAt lab
  rw [chk_t (by omega)]
  by_cases c : p < o
  · rw [if_neg (by omega), if_pos c]
  · rw [if_pos (by omega), if_neg c]; rfl
/-- the class's ring at t -/
def RC (t : Nat) (M : Mem) (m : Nat) (e : Nat → Int) : Prop := M t 0 = m ∧ ∀ p, p < m → M (t + 1) p = e p
/-- the entries of the node v around the circle -/
def rgE (s : Sg) (v : Nat) : Nat → Int := fun p => sE s v (lab (sB s v) p)
theorem lab_lt {s : Sg} {p o n : Nat} (hp : p < n - 1) : lab o p < n := by unfold lab; split <;> omega
theorem rgE_ok {s : Sg} (f : WG s) {v : Nat} (hv : v < sN s) {p : Nat} (hp : p < sN s - 1) : rgE s v p = -1 ∨ (0 ≤ rgE s v p ∧ rgE s v p < sK s) := by
  have hl : lab (sB s v) p < sN s := by unfold lab; split <;> omega
  rcases (f.2.2 v _ hv hl).1 with h | ⟨i, hi, h, -⟩
  · exact Or.inl h
  · right; unfold rgE; rw [h]; omega
theorem read_ok {F : Nat} (hF : 100000 ≤ F) {s : Sg} (f : WG s) {v : Nat} (hv : v < sN s) (M0 : Mem) (hS : SC 1 M0 s) : ∃ M', f_X4_read F 44 v M0 = some M' ∧ RC 44 M' (sN s - 1) (rgE s v) ∧ ∀ a i, a ≠ 44 → a ≠ 45 → M' a i = M0 a i := by
  have w1 := f.1.1
  have w2 := f.1.2.1
  have e0 := hS.1
  have hb := f.2.1.1 v hv
  unfold f_X4_read
  rw [chk_t (by omega)]
  refine lpe (f := fun fu (y : Int × Mem) => f_X4_read_12 F 44 fu v y.1 y.2) (I := fun p y => y.1 = p ∧ y.2 44 0 = ((sN s - 1 : Nat) : Int) ∧ (∀ j, j < p → y.2 45 j = rgE s v j) ∧ ∀ a i, a ≠ 44 → a ≠ 45 → y.2 a i = M0 a i) (Q := fun r => ∃ M', r = some M' ∧ RC 44 M' (sN s - 1) (rgE s v) ∧ ∀ a i, a ≠ 44 → a ≠ 45 → M' a i = M0 a i) (sN s - 1) ?_ ?_ (sN s - 1) 0 F (0, mset M0 44 0 (M0 1 0 - 1)) (by omega) (by omega) ⟨rfl, ?_, fun j h => absurd h (Nat.not_lt_zero j), fun a i h _ => (show mset M0 44 0 (M0 1 0 - 1) a i = M0 a i from ms_a h)⟩
  · rintro p fu ⟨y1, M⟩ hp ⟨h1, hm, hE, hf⟩
    dsimp only at h1 hm hE hf ⊢
    subst h1
    right
    have hS2 : SC 1 M s := hS.fr (fun a i q1 q2 => hf a i (by omega) (by omega))
    have e5 : M 5 v = sB s v := hS2.2.2.2.1 v hv
    have hl : lab (sB s v) p < sN s := by unfold lab; split <;> omega
    have e6 : f_X6_entryAt 1 v (lab (sB s v) p : Int) M = some (rgE s v p) := by
      unfold f_X6_entryAt; rw [chk_t (by omega)]; exact congrArg some (hS2.2.2.2.2 v _ hv hl)
    have hr := rgE_ok f hv hp
    refine ⟨((p : Int) + 1, mset M 45 p (rgE s v p)), ?_, rfl, ?_, fun j hj => ?_, fun a i q1 q2 => ?_⟩
    · rw [f_X4_read_12, chk_t (by omega), if_neg (by omega), chk_t (by omega), e5, labAt (by omega) (by omega), ob_s, e6, ob_s, chk_t (by omega), chk_t (by omega)]
    · dsimp only; rw [ms_a (by decide)]; exact hm
    · dsimp only
      by_cases e : j = p
      · subst e; rw [ms_eq]
      · rw [ms_i (by omega)]; exact hE j (by omega)
    · dsimp only; rw [ms_a q2]; exact hf a i q1 q2
  · rintro fu ⟨y1, M⟩ ⟨h1, hm, hE, hf⟩
    dsimp only at h1 hm hE hf ⊢
    subst h1
    exact ⟨M, by rw [f_X4_read_12, chk_t (by omega), if_pos (by omega)], ⟨hm, hE⟩, hf⟩
  · dsimp only
    rw [ms_eq]; omega
def alleq (m : Nat) (e : Nat → Int) : Bool := decide (∀ p, p < m → e p = e 0)
def rb (m : Nat) (e : Nat → Int) (p : Nat) : Bool := !decide (e p = -1) && (!decide (e (if p = 0 then m - 1 else p - 1) = e p) || (decide (p = 0) && alleq m e))
def rof (m : Nat) (e : Nat → Int) (l : Int) : Nat := ct (fun p => decide (e p = l) && rb m e p) m
def mxr (g : Nat → Nat) : Nat → Nat
  | 0 => 0
  | n + 1 => max (mxr g n) (g n)
section Rings
variable {F t m : Nat} {M : Mem} {e : Nat → Int}
theorem alleq_eq (hF : 100000 ≤ F) (hm : m ≤ 9) (h1 : 1 ≤ m) (h : RC t M m e) : f_X4_allEqual F t M = some (bi (alleq m e)) := by
  obtain ⟨h0, hE⟩ := h
  refine lpe (f := fun fu (y : Int) => f_X4_allEqual_2 F t fu y M) (I := fun p y => y = p ∧ 1 ≤ p ∧ ∀ j, j < p → e j = e 0) (Q := fun r => r = some (bi (alleq m e))) m ?_ ?_ (m - 1) 1 F 1 (by omega) (by omega) ⟨rfl, by omega, fun j hj => by rw [show j = 0 by omega]⟩
  · rintro p fu y hp ⟨h1, h2, h3⟩
    subst h1
    have e0 : M (t + 1) 0 = e 0 := hE 0 (by omega)
    rw [f_X4_allEqual_2, chk_t (by omega), if_neg (by omega), chk_t (by omega), hE p hp, e0]
    by_cases c : e p = e 0
    · right
      rw [if_pos c]
      refine ⟨(p : Int) + 1, rfl, rfl, by omega, fun j hj => ?_⟩
      by_cases q : j = p
      · rw [q]; exact c
      · exact h3 j (by omega)
    · left
      rw [if_neg c]
      have : alleq m e = false := decide_eq_false (fun q => c (q p hp))
      rw [this]; rfl
  · rintro fu y ⟨h1, h2, h3⟩
    subst h1
    rw [f_X4_allEqual_2, chk_t (by omega), if_pos (by omega)]
    have : alleq m e = true := decide_eq_true h3
    rw [this]; rfl
theorem rbeg_eq (hF : 100000 ≤ F) (hm : m ≤ 9) (h : RC t M m e) {p : Nat} (hp : p < m) : f_X4_runBeginsAt F t p M = some (bi (rb m e p)) := by
  have hA := alleq_eq hF hm (by omega) h
  obtain ⟨h0, hE⟩ := h
  unfold f_X4_runBeginsAt rb
  rw [chk_t (by omega), chk_t (by omega), hE p hp]
  by_cases c1 : e p = -1
  · rw [if_pos c1, decide_eq_true c1]; rfl
  · rw [if_neg c1, decide_eq_false c1]
    by_cases c2 : p = 0
    · subst c2
      have ep : M (t + 1) (M t 0 - 1) = e (m - 1) := by rw [h0, ← hE (m - 1) (by omega)]; congr 1; omega
      rw [if_pos (by rfl), chk_t (by omega), ep]
      simp only [if_true, decide_true, Bool.true_and, Bool.not_false]
      by_cases c3 : e (m - 1) = e 0
      · rw [if_pos c3, if_pos (by rfl), hA, ob_s, chk_t (bi_R _), decide_eq_true c3]
        cases alleq m e <;> rfl
      · rw [if_neg c3, decide_eq_false c3]; rfl
    · have ep : M (t + 1) ((p : Int) - 1) = e (p - 1) := by rw [← hE (p - 1) (by omega)]; congr 1; omega
      rw [if_neg (by omega), chk_t (by omega), ep, if_neg c2, decide_eq_false c2]
      by_cases c3 : e (p - 1) = e p
      · rw [if_pos c3, if_neg (by omega), decide_eq_true c3]; rfl
      · rw [if_neg c3, decide_eq_false c3]; rfl
theorem runsOf_eq (hF : 100000 ≤ F) (hm : m ≤ 9) (h : RC t M m e) {l : Int} (hl : inR l) : f_X4_runsOf F t l M = some (rof m e l : Int) := by
  have h0 := h.1
  refine lpe (f := fun fu (y : Int × Int) => f_X4_runsOf_4 F t fu l y.1 y.2 M) (I := fun p y => y.1 = ct (fun p => decide (e p = l) && rb m e p) p ∧ y.2 = p) (Q := fun r => r = some (rof m e l : Int)) m ?_ ?_ m 0 F (0, 0) (by omega) (by omega) ⟨rfl, rfl⟩
  · rintro p fu ⟨y1, y2⟩ hp ⟨h1, h2⟩
    dsimp only at h1 h2 ⊢
    subst h1 h2
    right
    rw [f_X4_runsOf_4, chk_t (by omega), if_neg (by omega), chk_t (by omega), h.2 p hp]
    by_cases c : e p = l
    · rw [if_pos c, rbeg_eq hF hm h hp, ob_s, chk_t (bi_R _)]
      cases hb : rb m e p with
      | false =>
        rw [if_pos (bi_0.mpr rfl)]
        exact ⟨(_, (p : Int) + 1), rfl, by show _ = ((ct _ (p + 1) : Nat) : Int); rw [ct_f (by rw [hb, Bool.and_false])], rfl⟩
      | true =>
        rw [if_neg (by decide)]
        exact ⟨(_, (p : Int) + 1), rfl, by show _ = ((ct _ (p + 1) : Nat) : Int); rw [ct_t (by rw [hb, decide_eq_true c]; rfl)]; rfl, rfl⟩
    · rw [if_neg c]
      exact ⟨(_, (p : Int) + 1), rfl, by show _ = ((ct _ (p + 1) : Nat) : Int); rw [ct_f (by rw [decide_eq_false c]; rfl)], rfl⟩
  · rintro fu ⟨y1, y2⟩ ⟨h1, h2⟩
    dsimp only at h1 h2 ⊢
    subst h1 h2
    rw [f_X4_runsOf_4, chk_t (by omega), if_pos (by omega)]; rfl
theorem allRuns_eq (hF : 100000 ≤ F) (hm : m ≤ 9) (h : RC t M m e) : f_X4_allRuns F t M = some (ct (rb m e) m : Int) := by
  have h0 := h.1
  refine lpe (f := fun fu (y : Int × Int) => f_X4_allRuns_4 F t fu y.1 y.2 M) (I := fun p y => y.1 = ct (rb m e) p ∧ y.2 = p) (Q := fun r => r = some (ct (rb m e) m : Int)) m ?_ ?_ m 0 F (0, 0) (by omega) (by omega) ⟨rfl, rfl⟩
  · rintro p fu ⟨y1, y2⟩ hp ⟨h1, h2⟩
    dsimp only at h1 h2 ⊢
    subst h1 h2
    right
    rw [f_X4_allRuns_4, chk_t (by omega), if_neg (by omega), rbeg_eq hF hm h hp, ob_s, chk_t (bi_R _)]
    cases hb : rb m e p with
    | false =>
      rw [if_pos (bi_0.mpr rfl)]
      exact ⟨(_, (p : Int) + 1), rfl, by show _ = ((ct _ (p + 1) : Nat) : Int); rw [ct_f hb], rfl⟩
    | true =>
      rw [if_neg (by decide)]
      exact ⟨(_, (p : Int) + 1), rfl, by show _ = ((ct _ (p + 1) : Nat) : Int); rw [ct_t hb]; rfl, rfl⟩
  · rintro fu ⟨y1, y2⟩ ⟨h1, h2⟩
    dsimp only at h1 h2 ⊢
    subst h1 h2
    rw [f_X4_allRuns_4, chk_t (by omega), if_pos (by omega)]
theorem mxr_le {g : Nat → Nat} {c : Nat} : ∀ {n : Nat}, (∀ i, i < n → g i ≤ c) → mxr g n ≤ c
  | 0, _ => Nat.zero_le _
  | n + 1, h => by
    have a := mxr_le (g := g) (c := c) (n := n) (fun i hi => h i (by omega))
    have b := h n (by omega)
    unfold mxr; omega
theorem le_mxr {g : Nat → Nat} : ∀ {n i : Nat}, i < n → g i ≤ mxr g n
  | 0, i, h => absurd h (Nat.not_lt_zero i)
  | n + 1, i, h => by
    unfold mxr
    by_cases e : i = n
    · subst e; omega
    · have := le_mxr (g := g) (n := n) (i := i) (by omega)
      omega
theorem mxr_congr {g k : Nat → Nat} : ∀ {n : Nat}, (∀ i, i < n → g i = k i) → mxr g n = mxr k n
  | 0, _ => rfl
  | n + 1, h => by rw [mxr, mxr, mxr_congr (fun i hi => h i (by omega)), h n (by omega)]
theorem imax_n (a b : Nat) : imax (a : Int) (b : Int) = ((max a b : Nat) : Int) := by
  unfold imax; split <;> omega
theorem rof_le (m : Nat) (e : Nat → Int) (l : Int) : rof m e l ≤ m := ct_le _ _
theorem mostRuns_eq (hF : 100000 ≤ F) (hm : m ≤ 9) (h : RC t M m e) (hr : ∀ p, p < m → inR (e p)) : f_X4_mostRuns F t M = some (mxr (fun p => rof m e (e p)) m : Int) := by
  have h0 := h.1
  refine lpe (f := fun fu (y : Int × Int) => f_X4_mostRuns_4 F t fu y.1 y.2 M) (I := fun p y => y.1 = mxr (fun p => rof m e (e p)) p ∧ y.2 = p) (Q := fun r => r = some (mxr (fun p => rof m e (e p)) m : Int)) m ?_ ?_ m 0 F (0, 0) (by omega) (by omega) ⟨rfl, rfl⟩
  · rintro p fu ⟨y1, y2⟩ hp ⟨h1, h2⟩
    dsimp only at h1 h2 ⊢
    subst h1 h2
    right
    have b1 := rof_le m e (e p)
    have b2 := mxr_le (g := fun p => rof m e (e p)) (c := m) (n := p) (fun i _ => rof_le m e (e i))
    rw [f_X4_mostRuns_4, chk_t (by omega), if_neg (by omega), chk_t (by omega), h.2 p hp, runsOf_eq hF hm h (hr p hp), ob_s, chk_t (by omega), imax_n]
    exact ⟨(_, (p : Int) + 1), rfl, rfl, rfl⟩
  · rintro fu ⟨y1, y2⟩ ⟨h1, h2⟩
    dsimp only at h1 h2 ⊢
    subst h1 h2
    have b2 := mxr_le (g := fun p => rof m e (e p)) (c := m) (n := m) (fun i _ => rof_le m e (e i))
    rw [f_X4_mostRuns_4, chk_t (by omega), if_pos (by omega)]
end Rings
