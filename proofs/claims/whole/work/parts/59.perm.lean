/-! labelings one after the other -/
def sw (b : Nat → Nat) (i j : Nat) : Nat → Nat := fun k => if k = j then b i else if k = i then b j else b k
/-- one more than the place to the left, 0 if there is none -/
def pv (b : Nat → Nat) : Nat → Nat
  | 0 => 0
  | j + 1 => if b (j + 1) < b j then pv b j else j + 1
/-- the place to the right -/
def rt (b : Nat → Nat) (l : Nat) : Nat → Nat
  | 0 => 0
  | j + 1 => if b (j + 1) < b l then rt b l j else j + 1
def rvs : Nat → Nat → Nat → (Nat → Nat) → Nat → Nat
  | 0, _, _, b => b
  | f + 1, lo, hi, b => if hi ≤ lo then b else rvs f (lo + 1) (hi - 1) (sw b lo hi)
def lf (l : List Nat) : Nat → Nat := fun v => l.getD v 0
def nxb (n : Nat) (b : Nat → Nat) : Nat → Nat := rvs n (pv b (n - 1)) (n - 1) (sw b (pv b (n - 1) - 1) (rt b (pv b (n - 1) - 1) (n - 1)))
def nxL (n : Nat) (l : List Nat) : List Nat := (List.range n).map (nxb n (lf l))
/-- from l on the labelings end within f steps -/
def tmL : Nat → Nat → List Nat → Bool
  | 0, _, _ => false
  | f + 1, n, l => if pv (lf l) (n - 1) = 0 then true else tmL f n (nxL n l)
theorem tm_720 : ∀ n, n ≤ 6 → tmL 720 n (List.range n) = true := by decide +kernel
def PB (n : Nat) (b : Nat → Nat) : Prop := (∀ v, v < n → b v < n) ∧ ∀ v w, v < n → w < v → b v ≠ b w
theorem PB.ne {n : Nat} {b : Nat → Nat} (h : PB n b) {v w : Nat} (hv : v < n) (hw : w < n) (hne : v ≠ w) : b v ≠ b w := by
  rcases Nat.lt_or_ge w v with q | q
  · exact h.2 v w hv q
  · exact fun e => h.2 w v hw (by omega) e.symm
theorem PB.of {n : Nat} {b : Nat → Nat} (h1 : ∀ v, v < n → b v < n) (h2 : ∀ v w, v < n → w < n → v ≠ w → b v ≠ b w) : PB n b := ⟨h1, fun v w hv hw => h2 v w hv (by omega) (by omega)⟩
theorem PB.swp {n : Nat} {b : Nat → Nat} (h : PB n b) {i j : Nat} (hi : i < n) (hj : j < n) : PB n (sw b i j) := by
  refine PB.of (fun v hv => ?_) (fun v w hv hw hne => ?_)
  · unfold sw
    have := h.1 i hi
    have := h.1 j hj
    have := h.1 v hv
    split
    · assumption
    · split <;> assumption
  · unfold sw
    by_cases a1 : v = j
    · rw [if_pos a1]
      by_cases a3 : w = i
      · rw [if_neg (by omega), if_pos a3]
        exact h.ne hi hj (by omega)
      · rw [if_neg (by omega), if_neg a3]
        exact h.ne hi hw (by omega)
    · rw [if_neg a1]
      by_cases a2 : v = i
      · rw [if_pos a2]
        by_cases a3 : w = j
        · rw [if_pos a3]; exact h.ne hj hi (by omega)
        · rw [if_neg a3, if_neg (by omega)]; exact h.ne hj hw (by omega)
      · rw [if_neg a2]
        by_cases a3 : w = j
        · rw [if_pos a3]; exact h.ne hv hi (by omega)
        · rw [if_neg a3]
          by_cases a4 : w = i
          · rw [if_pos a4]; exact h.ne hv hj (by omega)
          · rw [if_neg a4]; exact h.ne hv hw hne
theorem PB.rvp {n : Nat} : ∀ (f lo hi : Nat) {b : Nat → Nat}, PB n b → hi < n → PB n (rvs f lo hi b)
  | 0, _, _, _, h, _ => h
  | f + 1, lo, hi, b, h, hh => by
    unfold rvs
    split
    · exact h
    · exact PB.rvp f (lo + 1) (hi - 1) (h.swp (by omega) hh) (by omega)
theorem pv_le (b : Nat → Nat) : ∀ j, pv b j ≤ j
  | 0 => Nat.le_refl _
  | j + 1 => by
    have := pv_le b j
    unfold pv; split <;> omega
theorem pv_ok (b : Nat → Nat) : ∀ j, 0 < pv b j → ¬ b (pv b j) < b (pv b j - 1)
  | 0, h => absurd h (Nat.lt_irrefl 0)
  | j + 1, h => by
    by_cases c : b (j + 1) < b j
    · have e : pv b (j + 1) = pv b j := by rw [pv, if_pos c]
      rw [e] at h ⊢
      exact pv_ok b j h
    · have e : pv b (j + 1) = j + 1 := by rw [pv, if_neg c]
      rw [e]; exact c
theorem rt_ok (b : Nat → Nat) (l : Nat) : ∀ j, l < j → ¬ b (l + 1) < b l → l < rt b l j ∧ rt b l j ≤ j
  | 0, h, _ => absurd h (Nat.not_lt_zero l)
  | j + 1, h, h2 => by
    by_cases c : b (j + 1) < b l
    · have e : rt b l (j + 1) = rt b l j := by rw [rt, if_pos c]
      have hlj : l < j := by
        rcases Nat.lt_or_ge l j with q | q
        · exact q
        · exfalso; rw [show j = l by omega] at c; exact h2 c
      have := rt_ok b l j hlj h2
      rw [e]; omega
    · have e : rt b l (j + 1) = j + 1 := by rw [rt, if_neg c]
      rw [e]; omega
theorem nx_facts {n : Nat} {b : Nat → Nat} (hp : pv b (n - 1) ≠ 0) : pv b (n - 1) < n ∧ pv b (n - 1) - 1 < rt b (pv b (n - 1) - 1) (n - 1) ∧ rt b (pv b (n - 1) - 1) (n - 1) < n := by
  have h1 := pv_le b (n - 1)
  have h2 := pv_ok b (n - 1) (by omega)
  have h3 := rt_ok b (pv b (n - 1) - 1) (n - 1) (by omega) (by rw [show pv b (n - 1) - 1 + 1 = pv b (n - 1) by omega]; exact h2)
  omega
theorem PB.nx {n : Nat} {b : Nat → Nat} (h : PB n b) (hp : pv b (n - 1) ≠ 0) : PB n (nxb n b) := by
  have := nx_facts hp
  exact PB.rvp n _ _ (h.swp (by omega) (by omega)) (by omega)
theorem lf_map {n : Nat} (g : Nat → Nat) {v : Nat} (hv : v < n) : lf ((List.range n).map g) v = g v := by
  unfold lf
  simp [List.getD, hv]
theorem lf_nx {n : Nat} {l : List Nat} {v : Nat} (hv : v < n) : lf (nxL n l) v = nxb n (lf l) v := lf_map _ hv
theorem PB.congr {n : Nat} {b c : Nat → Nat} (h : PB n b) (e : ∀ v, v < n → c v = b v) : PB n c := ⟨fun v hv => by rw [e v hv]; exact h.1 v hv, fun v w hv hw => by rw [e v hv, e w (by omega)]; exact h.2 v w hv hw⟩
theorem PB.nxM {n : Nat} {l : List Nat} (h : PB n (lf l)) (hp : pv (lf l) (n - 1) ≠ 0) : PB n (lf (nxL n l)) := (h.nx hp).congr (fun v hv => lf_nx hv)
theorem lf_range {n v : Nat} (hv : v < n) : lf (List.range n) v = v := by
  unfold lf; simp [List.getD, hv]
theorem PB.id (n : Nat) : PB n (fun v => v) := ⟨fun _ h => h, fun v w _ h e => by have e : v = w := e; omega⟩
theorem PB.range (n : Nat) : PB n (lf (List.range n)) := (PB.id n).congr (fun v hv => lf_range hv)
/-! the class goes to the next trial -/
def TR (M : Mem) (n : Nat) (b : Nat → Nat) : Prop := ∀ v, v < n → M 52 v = b v
theorem exch_ok {M : Mem} {n : Nat} {b : Nat → Nat} (hn : n ≤ 6) (h : TR M n b) {i j : Nat} (hi : i < n) (hj : j < n) : ∃ M', f_X5_exchange i j M = some M' ∧ TR M' n (sw b i j) ∧ ∀ a k, a ≠ 52 → M' a k = M a k := by
  refine ⟨mset (mset M 52 i (M 52 j)) 52 j (M 52 i), ?_, fun v hv => ?_, fun a k ha => by rw [ms_a ha, ms_a ha]⟩
  · unfold f_X5_exchange
    rw [chk_t (by omega), chk_t (by omega)]
  · unfold sw
    by_cases c1 : v = j
    · rw [if_pos c1, c1, ms_eq]; exact h i hi
    · rw [if_neg c1, ms_i (by omega)]
      by_cases c2 : v = i
      · rw [if_pos c2, c2, ms_eq]; exact h j hj
      · rw [if_neg c2, ms_i (by omega)]; exact h v hv
theorem rev_ok {F : Nat} {n : Nat} (hn : n ≤ 6) : ∀ (d lo hi fu : Nat) (b : Nat → Nat) (M : Mem), TR M n b → hi < n → lo ≤ n → n ≤ lo + d → d < fu → ∃ M', f_X5_nextTrial_103 F fu lo hi M = some (1, M') ∧ TR M' n (rvs d lo hi b) ∧ ∀ a k, a ≠ 52 → M' a k = M a k := by
  intro d
  induction d with
  | zero =>
    intro lo hi fu b M h h1 h2 h3 h4
    obtain ⟨fu, rfl⟩ := fuel_s h4
    exact ⟨M, by rw [f_X5_nextTrial_103, chk_t (by omega), if_pos (by omega)], h, fun _ _ _ => rfl⟩
  | succ d ih =>
    intro lo hi fu b M h h1 h2 h3 h4
    obtain ⟨fu, rfl⟩ := fuel_s h4
    by_cases c : hi ≤ lo
    · refine ⟨M, by rw [f_X5_nextTrial_103, chk_t (by omega), if_pos (by omega)], ?_, fun _ _ _ => rfl⟩
      rw [rvs, if_pos c]; exact h
    · obtain ⟨M1, a1, a2, a3⟩ := exch_ok hn h (i := lo) (j := hi) (by omega) h1
      obtain ⟨M2, b1, b2, b3⟩ := ih (lo + 1) (hi - 1) fu (sw b lo hi) M1 a2 (by omega) (by omega) (by omega) (by omega)
      refine ⟨M2, ?_, ?_, fun a k ha => (b3 a k ha).trans (a3 a k ha)⟩
      · rw [f_X5_nextTrial_103, chk_t (by omega), if_neg (by omega), a1, ob_s]
        rw [show ((hi - 1 : Nat) : Int) = (hi : Int) + (-1) by omega] at b1
        exact b1
      · rw [rvs, if_neg c]; exact b2
theorem right_ok {F : Nat} (hF : 100000 ≤ F) {n : Nat} (hn : n ≤ 6) {b : Nat → Nat} (hb : PB n b) {l : Nat} (hl : l + 1 < n) (hlt : ¬ b (l + 1) < b l) (M : Mem) (h : TR M n b) : ∃ M', f_X5_nextTrial_56 F F n l ((l : Int) + 1) ((l : Int) + 2) M = some (1, M') ∧ TR M' n (rvs n (l + 1) (n - 1) (sw b l (rt b l (n - 1)))) ∧ ∀ a k, a ≠ 52 → M' a k = M a k := by
  refine lpe (f := fun fu (y : Int × Int) => f_X5_nextTrial_56 F fu n l y.1 y.2 M) (I := fun i y => l + 2 ≤ i ∧ y.1 = rt b l (i - 1) ∧ y.2 = i) (Q := fun r => ∃ M', r = some (1, M') ∧ TR M' n (rvs n (l + 1) (n - 1) (sw b l (rt b l (n - 1)))) ∧ ∀ a k, a ≠ 52 → M' a k = M a k) n ?_ ?_ (n - (l + 2)) (l + 2) F (((l : Int) + 1), ((l : Int) + 2)) (by omega) (by omega) ⟨by omega, ?_, rfl⟩
  · rintro i fu ⟨y1, y2⟩ hi ⟨q0, q1, q2⟩
    dsimp only at q1 q2 ⊢
    subst q1 q2
    right
    have e1 := h i hi
    have e2 := h l (by omega)
    have hne := hb.ne hi (show l < n by omega) (by omega)
    have er : rt b l i = if b i < b l then rt b l (i - 1) else i := by
      obtain ⟨j, rfl⟩ : ∃ j, i = j + 1 := ⟨i - 1, by omega⟩
      rw [rt]; rfl
    rw [f_X5_nextTrial_56, chk_t (by omega), if_neg (by omega), chk_t (by omega), chk_t (by omega), e1, e2]
    by_cases c : b i < b l
    · rw [if_pos (by omega)]
      refine ⟨((rt b l (i - 1) : Int), (i : Int) + 1), rfl, by omega, ?_, rfl⟩
      rw [show i + 1 - 1 = i by omega, er, if_pos c]
    · rw [if_neg (by omega)]
      refine ⟨((i : Int), (i : Int) + 1), rfl, by omega, ?_, rfl⟩
      rw [show i + 1 - 1 = i by omega, er, if_neg c]
  · rintro fu ⟨y1, y2⟩ ⟨q0, q1, q2⟩
    dsimp only at q1 q2 ⊢
    subst q1 q2
    have hr := rt_ok b l (n - 1) (by omega) hlt
    obtain ⟨M1, a1, a2, a3⟩ := exch_ok hn h (i := l) (j := rt b l (n - 1)) (by omega) (by omega)
    obtain ⟨M2, b1, b2, b3⟩ := rev_ok (F := F) hn n (l + 1) (n - 1) F (sw b l (rt b l (n - 1))) M1 a2 (by omega) (by omega) (by omega) (by omega)
    refine ⟨M2, ?_, b2, fun a k ha => (b3 a k ha).trans (a3 a k ha)⟩
    rw [f_X5_nextTrial_56, chk_t (by omega), if_pos (by omega), a1, ob_s]
    rw [show ((n - 1 : Nat) : Int) = (n : Int) - 1 by omega] at b1
    exact b1
  · show (l : Int) + 1 = ((rt b l (l + 2 - 1) : Nat) : Int)
    rw [show l + 2 - 1 = l + 1 by omega, rt, if_neg hlt]; rfl
theorem next_ok {F : Nat} (hF : 100000 ≤ F) {n : Nat} (hn : n ≤ 6) {b : Nat → Nat} (hb : PB n b) (M : Mem) (h : TR M n b) : ∃ M', f_X5_nextTrial F n M = some ((if pv b (n - 1) = 0 then 0 else 1), M') ∧ (pv b (n - 1) ≠ 0 → TR M' n (nxb n b)) ∧ ∀ a k, a ≠ 52 → M' a k = M a k := by
  unfold f_X5_nextTrial
  by_cases h0 : n = 0
  · subst h0
    obtain ⟨fu, e⟩ : ∃ g, F = g + 1 := ⟨F - 1, by omega⟩
    have : f_X5_nextTrial_6 F (fu + 1) ((0 : Nat) : Int) (((0 : Nat) : Int) - 2) 0 M = some (0, M) := by rw [f_X5_nextTrial_6, chk_t (by decide), if_pos (by decide), if_neg (by decide)]
    rw [← e] at this
    exact ⟨M, this, fun q => absurd rfl q, fun _ _ _ => rfl⟩
  · refine lpe (f := fun fu (y : Int × Int) => f_X5_nextTrial_6 F fu n y.1 y.2 M) (I := fun i y => y.1 = (n : Int) - 2 - i ∧ y.2 = i ∧ pv b (n - 1) = pv b (n - 1 - i)) (Q := fun r => ∃ M', r = some ((if pv b (n - 1) = 0 then 0 else 1), M') ∧ (pv b (n - 1) ≠ 0 → TR M' n (nxb n b)) ∧ ∀ a k, a ≠ 52 → M' a k = M a k) (n - 1) ?_ ?_ (n - 1) 0 F ((n : Int) - 2, 0) (by omega) (by omega) ⟨by show _ = _; omega, rfl, rfl⟩
    · rintro i fu ⟨y1, y2⟩ hi ⟨q1, q2, q3⟩
      dsimp only at q1 q2 q3 ⊢
      subst q2
      have e1 : M 52 y1 = b (n - 2 - i) := by rw [← h (n - 2 - i) (by omega), q1]; congr 1; omega
      have e2 : M 52 (y1 + 1) = b (n - 2 - i + 1) := by rw [← h (n - 2 - i + 1) (by omega), q1]; congr 1; omega
      have ep : pv b (n - 1 - i) = if b (n - 2 - i + 1) < b (n - 2 - i) then pv b (n - 2 - i) else n - 2 - i + 1 := by
        rw [show n - 1 - i = (n - 2 - i) + 1 by omega, pv]
      rw [f_X5_nextTrial_6, chk_t (by omega), if_neg (by omega), if_neg (by omega), chk_t (by omega), chk_t (by omega), e1, e2]
      by_cases c : b (n - 2 - i + 1) < b (n - 2 - i)
      · right
        rw [if_neg (by omega)]
        refine ⟨(y1 + (-1), (i : Int) + 1), rfl, ?_, rfl, ?_⟩
        · show _ = _; rw [q1]; omega
        · rw [q3, ep, if_pos c, show n - 1 - (i + 1) = n - 2 - i by omega]
      · left
        have epv : pv b (n - 1) = n - 2 - i + 1 := by rw [q3, ep, if_neg c]
        rw [if_pos (by omega), if_pos (by omega), epv, if_neg (by omega)]
        obtain ⟨M', a1, a2, a3⟩ := right_ok hF hn hb (l := n - 2 - i) (by omega) c M h
        rw [show ((n - 2 - i : Nat) : Int) = y1 by omega] at a1
        refine ⟨M', a1, fun _ => ?_, a3⟩
        unfold nxb
        rw [epv, show n - 2 - i + 1 - 1 = n - 2 - i by omega]; exact a2
    · rintro fu ⟨y1, y2⟩ ⟨q1, q2, q3⟩
      dsimp only at q1 q2 q3 ⊢
      subst q2
      have e : pv b (n - 1) = 0 := by rw [q3, Nat.sub_self]; rfl
      rw [f_X5_nextTrial_6, chk_t (by omega), if_neg (by omega), if_pos (by omega), if_neg (by omega), e]
      exact ⟨M, rfl, fun q => absurd rfl q, fun _ _ _ => rfl⟩
