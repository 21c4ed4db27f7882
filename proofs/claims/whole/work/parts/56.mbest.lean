/-! best tables: the model -/
/-- the labels below k -/
def hl (b : Nat → Nat) : Nat → Nat → Bool
  | 0, _ => false
  | k + 1, x => hl b k x || decide (b k = x)
theorem hl_ex {b : Nat → Nat} {x : Nat} : ∀ {k : Nat}, hl b k x = true → ∃ i, i < k ∧ b i = x
  | 0, h => by simp [hl] at h
  | k + 1, h => by
    unfold hl at h
    rw [Bool.or_eq_true, decide_eq_true_eq] at h
    rcases h with h | h
    · obtain ⟨i, hi, q⟩ := hl_ex h; exact ⟨i, by omega, q⟩
    · exact ⟨k, by omega, h⟩
/-- labels that are below n and differ hit all below n -/
theorem perm_hit {b : Nat → Nat} {n : Nat} (h1 : ∀ v, v < n → b v < n) (h2 : ∀ v w, v < n → w < v → b v ≠ b w) {l : Nat} (hl0 : l < n) : ∃ v, v < n ∧ b v = l := by
  have key : ∀ k, k ≤ n → ct (hl b k) n = k := by
    intro k
    induction k with
    | zero => intro _; exact ct_none (fun _ _ => rfl)
    | succ k ih =>
      intro hk
      have h0 : hl b k (b k) = false := by
        cases hb : hl b k (b k) with
        | false => rfl
        | true =>
          obtain ⟨i, hi, q⟩ := hl_ex hb
          exact absurd q.symm (h2 k i (by omega) hi)
      rw [ct_upd (q := hl b k) (q' := hl b (k + 1)) (x0 := b k) (fun x => rfl) h0, ih (by omega), if_pos (h1 k (by omega))]
  cases hb : hl b n l with
  | true => obtain ⟨i, hi, q⟩ := hl_ex hb; exact ⟨i, hi, q⟩
  | false =>
    have := ct_gap hb n hl0
    rw [key n (Nat.le_refl _)] at this
    omega
/-- the node with a label -/
def nd (s : Sg) (l : Nat) : Nat := ffr (fun j => decide (sB s j = l)) 0 (sN s)
theorem nd_ok {s : Sg} (h : WB s) {l : Nat} (hl0 : l < sN s) : nd s l < sN s ∧ sB s (nd s l) = l := by
  obtain ⟨v, hv, e⟩ := perm_hit h.1 h.2 hl0
  have h1 : nd s l < sN s := by
    rcases Nat.lt_or_ge (nd s l) (sN s) with q | q
    · exact q
    · have := ffr_no (fun j => decide (sB s j = l)) 0 (sN s) v (Nat.zero_le _) (by unfold nd at q; omega)
      rw [decide_eq_false_iff_not] at this
      exact absurd e this
  refine ⟨h1, ?_⟩
  have := ffr_yes (fun j => decide (sB s j = l)) 0 (sN s) (by unfold nd at h1; omega)
  exact of_decide_eq_true this
theorem nd_of {s : Sg} (h : WB s) {v : Nat} (hv : v < sN s) : nd s (sB s v) = v := by
  obtain ⟨h1, h2⟩ := nd_ok h (h.1 v hv)
  rcases Nat.lt_trichotomy (nd s (sB s v)) v with q | q | q
  · exact absurd h2.symm (h.2 v _ hv q)
  · exact q
  · exact absurd h2 (h.2 _ v h1 q)
theorem mnode {F : Nat} (hF : 100000 ≤ F) {s : Sg} (f : WG s) {M : Mem} (hS : SM 65 0 M s) {l : Nat} (hl0 : l < sN s) : f_X10_nodeOf F l M = some (nd s l : Int) := by
  have w1 := f.1.1
  obtain ⟨n1, n2⟩ := nd_ok f.2.1 hl0
  refine lpe (f := fun fu (y : Int) => f_X10_nodeOf_2 F fu l y M) (I := fun i y => y = i ∧ ∀ j, j < i → sB s j ≠ l) (Q := fun r => r = some (nd s l : Int)) (sN s) ?_ ?_ (sN s) 0 F 0 (by omega) (by omega) ⟨rfl, fun j hj => absurd hj (Nat.not_lt_zero j)⟩
  · rintro i fu y hi ⟨q1, q2⟩
    subst q1
    have e := mlabel hS hi
    rw [f_X10_nodeOf_2, chk_t (by omega), chk_t (by omega), e]
    by_cases c : sB s i = l
    · left
      rw [if_pos (by omega), ← c, nd_of f.2.1 hi]
    · right
      rw [if_neg (by omega)]
      refine ⟨(i : Int) + 1, rfl, rfl, fun j hj => ?_⟩
      by_cases e : j = i
      · rw [e]; exact c
      · exact q2 j (by omega)
  · rintro fu y ⟨q1, q2⟩
    exact absurd n2 (q2 _ n1)
theorem mhas {x : Int} {k : Nat} (hk : k < 32) (M : Mem) : f_X10_has x k M = some (bi (btI x k)) := by
  unfold f_X10_has
  rw [has_bt x hk]
  cases btI x k <;> rfl
theorem mcost {b x : Nat} (hb : b < 17) (hx : x < 17) (M : Mem) : f_X10_cost b x M = some (cst b x : Int) := by
  unfold f_X10_cost cst
  rw [chk_t (by omega)]
  by_cases c : x = 16
  · rw [if_pos (by omega), if_pos c]; rfl
  · rw [if_neg (by omega), if_neg c]
    by_cases c2 : x = b
    · rw [if_pos (by omega), if_pos c2]; rfl
    · rw [if_neg (by omega), if_neg c2]; rfl
def MY (M : Mem) (m : Nat) (C : Nat → Nat → Bool) : Prop := ∀ k, k < m → ∀ x, x < 17 → btI (M 72 k) x = C k x
def RE (M : Mem) (m : Nat) (C : Nat → Nat → Bool) (f : Nat) (T : Nat → Nat → Prop) : Prop := ∀ k b, T k b → k ≤ m → b < 17 → M 73 (17 * (k : Int) + b) = rst C m f (m - k) b
theorem rest_in {F : Nat} (hF : 100000 ≤ F) {m : Nat} {C : Nat → Nat → Bool} (hm : m ≤ 8) {f k b : Nat} (hk : k < m) (hb : b < 17) (k46 : Int → Int → Mem → Option Mem) (M : Mem) (h : MY M m C) {T : Nat → Nat → Prop} (hR : RE M m C f T) (hT : ∀ x, T (k + 1) x) : f_X10_laysRest_60 F k46 F k b 1000 0 M = k46 k ((b : Int) + 1) (mset M 73 (17 * (k : Int) + b) (rst C m f (m - k) b)) := by
  have e : rst C m f (m - k) b = mnr (C k) (fun x => cst b x + rst C m f (m - 1 - k) x) 17 := by
    rw [show m - k = (m - 1 - k) + 1 by omega, rst, show m - (m - 1 - k + 1) = k by omega]
  rw [e]
  refine lpe (f := fun fu (y : Int × Int) => f_X10_laysRest_60 F k46 fu k b y.1 y.2 M) (I := fun x y => y.1 = mnr (C k) (fun x => cst b x + rst C m f (m - 1 - k) x) x ∧ y.2 = x) (Q := fun r => r = k46 k ((b : Int) + 1) (mset M 73 (17 * (k : Int) + b) (mnr (C k) (fun x => cst b x + rst C m f (m - 1 - k) x) 17))) 17 ?_ ?_ 17 0 F (1000, 0) (by omega) (by omega) ⟨rfl, rfl⟩
  · rintro x fu ⟨y1, y2⟩ hx ⟨q1, q2⟩
    dsimp only at q1 q2 ⊢
    subst q1 q2
    right
    have b1 := mnr_1000 (C k) (fun x => cst b x + rst C m f (m - 1 - k) x) x
    have b3 := cst_le b x
    have b4 := rst_1000 C m f (m - 1 - k) x
    have er := hR (k + 1) x (hT x) (by omega) hx
    rw [show 17 * ((k + 1 : Nat) : Int) + (x : Int) = 17 * ((k : Int) + 1) + x by omega, show m - (k + 1) = m - 1 - k by omega] at er
    rw [f_X10_laysRest_60, chk_t (by omega), if_neg (by omega), chk_t (by omega), mhas (by omega), ob_s, chk_t (bi_R _), h k hk x hx]
    cases hc : C k x with
    | false =>
      rw [if_pos (by decide), if_pos (by omega)]
      exact ⟨((mnr (C k) (fun x => cst b x + rst C m f (m - 1 - k) x) x : Int), (x : Int) + 1), rfl, by dsimp only; rw [mnr_f hc], rfl⟩
    | true =>
      rw [if_neg (by decide), mcost hb hx, ob_s, chk_t (by omega), er, chk_t (by omega)]
      by_cases c : mnr (C k) (fun x => cst b x + rst C m f (m - 1 - k) x) x ≤ cst b x + rst C m f (m - 1 - k) x
      · rw [if_pos (by omega)]
        exact ⟨((mnr (C k) (fun x => cst b x + rst C m f (m - 1 - k) x) x : Int), (x : Int) + 1), rfl, by dsimp only; rw [mnr_t hc, Nat.min_eq_left c], rfl⟩
      · rw [if_neg (by omega)]
        exact ⟨((cst b x : Int) + (rst C m f (m - 1 - k) x : Int), (x : Int) + 1), rfl, by dsimp only; rw [mnr_t hc, Nat.min_eq_right (by omega)]; rfl, rfl⟩
  · rintro fu ⟨y1, y2⟩ ⟨q1, q2⟩
    dsimp only at q1 q2 ⊢
    subst q1 q2
    have b1 := mnr_1000 (C k) (fun x => cst b x + rst C m f (m - 1 - k) x) 17
    rw [f_X10_laysRest_60, chk_t (by omega), if_pos (by omega), chk_t (by omega)]
theorem RE.set {M : Mem} {m : Nat} {C : Nat → Nat → Bool} {f k b : Nat} {T T' : Nat → Nat → Prop} (hb : b < 17) (h : RE M m C f T) (hT : ∀ a c, T' a c → T a c ∨ (a = k ∧ c = b)) : RE (mset M 73 (17 * (k : Int) + b) (rst C m f (m - k) b)) m C f T' := by
  intro a c hac ha hc
  by_cases e : a = k ∧ c = b
  · obtain ⟨rfl, rfl⟩ := e; rw [ms_eq]
  · rw [ms_i (by omega)]
    rcases hT a c hac with q | q
    · exact h a c q ha hc
    · exact absurd q e
theorem rest_k {F : Nat} (hF : 100000 ≤ F) {m : Nat} {C : Nat → Nat → Bool} (hm : m ≤ 8) {f k : Nat} (hk : k < m) (k40 : Int → Mem → Option Mem) (M0 : Mem) (h : MY M0 m C) (hR : RE M0 m C f (fun a _ => k < a)) : ∃ M', f_X10_laysRest_46 F k40 F k 0 M0 = k40 ((k : Int) + (-1)) M' ∧ RE M' m C f (fun a _ => k ≤ a) ∧ ∀ a i, a ≠ 73 → M' a i = M0 a i := by
  refine lpe (f := fun fu (y : Int × Mem) => f_X10_laysRest_46 F k40 fu k y.1 y.2) (I := fun b y => y.1 = b ∧ RE y.2 m C f (fun a c => k < a ∨ (a = k ∧ c < b)) ∧ ∀ a i, a ≠ 73 → y.2 a i = M0 a i) (Q := fun r => ∃ M', r = k40 ((k : Int) + (-1)) M' ∧ RE M' m C f (fun a _ => k ≤ a) ∧ ∀ a i, a ≠ 73 → M' a i = M0 a i) 17 ?_ ?_ 17 0 F (0, M0) (by omega) (by omega) ⟨rfl, fun a c hac => hR a c (by omega), fun _ _ _ => rfl⟩
  · rintro b fu ⟨y1, M⟩ hb ⟨q1, q2, q3⟩
    dsimp only at q1 q2 q3 ⊢
    subst q1
    right
    have hM : MY M m C := fun j hj x hx => by rw [q3 72 _ (by decide)]; exact h j hj x hx
    have hin := rest_in hF hm (f := f) hk hb (f_X10_laysRest_46 F k40 fu) M hM q2 (fun x => Or.inl (by omega))
    refine ⟨((b : Int) + 1, mset M 73 (17 * (k : Int) + b) (rst C m f (m - k) b)), ?_, rfl, RE.set hb q2 (fun a c hac => by omega), fun a i ha => ?_⟩
    · rw [f_X10_laysRest_46, chk_t (by omega), if_neg (by omega), hin]
    · dsimp only; rw [ms_a ha]; exact q3 a i ha
  · rintro fu ⟨y1, M⟩ ⟨q1, q2, q3⟩
    dsimp only at q1 q2 q3 ⊢
    subst q1
    exact ⟨M, by rw [f_X10_laysRest_46, chk_t (by omega), if_pos (by omega)], fun a c hac ha hc => q2 a c (by omega) ha hc, q3⟩
theorem rest_ok {F : Nat} (hF : 100000 ≤ F) {m : Nat} {C : Nat → Nat → Bool} (hm : m ≤ 8) (h0 : 0 < m) {f : Nat} (hf17 : f < 17) (M0 : Mem) (hm0 : M0 64 10 = m) (h : MY M0 m C) : ∃ M', f_X10_laysRest F f M0 = some M' ∧ RE M' m C f (fun a _ => 1 ≤ a) ∧ ∀ a i, a ≠ 73 → M' a i = M0 a i := by
  refine lpe (f := fun fu (y : Int × Mem) => f_X10_laysRest_2 F fu f y.1 y.2) (I := fun b y => y.1 = b ∧ RE y.2 m C f (fun a c => a = m ∧ c < b) ∧ ∀ a i, a ≠ 73 → y.2 a i = M0 a i) (Q := fun r => ∃ M', r = some M' ∧ RE M' m C f (fun a _ => 1 ≤ a) ∧ ∀ a i, a ≠ 73 → M' a i = M0 a i) 17 ?_ ?_ 17 0 F (0, M0) (by omega) (by omega) ⟨rfl, fun a c hac => by omega, fun _ _ _ => rfl⟩
  · rintro b fu ⟨y1, M⟩ hb ⟨q1, q2, q3⟩
    dsimp only at q1 q2 q3 ⊢
    subst q1
    right
    have e0 : M 64 10 = m := by rw [q3 64 10 (by decide)]; exact hm0
    have b5 := cst_le b f
    have er : rst C m f (m - m) b = cst b f := by rw [Nat.sub_self]; rfl
    refine ⟨((b : Int) + 1, mset M 73 (17 * (m : Int) + b) (rst C m f (m - m) b)), ?_, rfl, RE.set hb q2 (fun a c hac => by omega), fun a i ha => ?_⟩
    · rw [f_X10_laysRest_2, chk_t (by omega), if_neg (by omega), mcost hb hf17, ob_s, e0, chk_t (by omega), chk_t (by omega), er]
    · dsimp only; rw [ms_a ha]; exact q3 a i ha
  · rintro fu ⟨y1, M⟩ ⟨q1, q2, q3⟩
    dsimp only at q1 q2 q3 ⊢
    subst q1
    have e0 : M 64 10 = m := by rw [q3 64 10 (by decide)]; exact hm0
    rw [f_X10_laysRest_2, chk_t (by omega), if_pos (by omega), e0]
    refine lpe (f := fun fu (y : Int × Mem) => f_X10_laysRest_40 F fu y.1 y.2) (I := fun j y => y.1 = (m : Int) - 1 - j ∧ RE y.2 m C f (fun a _ => m ≤ a + j) ∧ ∀ a i, a ≠ 73 → y.2 a i = M0 a i) (Q := fun r => ∃ M', r = some M' ∧ RE M' m C f (fun a _ => 1 ≤ a) ∧ ∀ a i, a ≠ 73 → M' a i = M0 a i) (m - 1) ?_ ?_ (m - 1) 0 F ((m : Int) - 1, M) (by omega) (by omega) ⟨by show _ = _; omega, fun a c hac ha hc => q2 a c (by omega) ha hc, q3⟩
    · rintro j fu ⟨y1, M⟩ hj ⟨q1, q2, q3⟩
      dsimp only at q1 q2 q3 ⊢
      subst q1
      right
      have hM : MY M m C := fun j hj x hx => by rw [q3 72 _ (by decide)]; exact h j hj x hx
      obtain ⟨M', e, p1, p2⟩ := rest_k hF hm (f := f) (k := m - 1 - j) (by omega) (f_X10_laysRest_40 F fu) M hM (fun a c hac => q2 a c (by omega))
      rw [show ((m - 1 - j : Nat) : Int) = (m : Int) - 1 - j by omega] at e
      refine ⟨((m : Int) - 1 - j + (-1), M'), ?_, ?_, fun a c hac => p1 a c (by omega), fun a i ha => (p2 a i ha).trans (q3 a i ha)⟩
      · rw [f_X10_laysRest_40, chk_t (by omega), if_neg (by omega), e]
      · show _ = _; omega
    · rintro fu ⟨y1, M⟩ ⟨q1, q2, q3⟩
      dsimp only at q1 q2 q3 ⊢
      subst q1
      exact ⟨M, by rw [f_X10_laysRest_40, chk_t (by omega), if_pos (by omega)], fun a c hac => q2 a c (by omega), q3⟩
theorem mb_seek {F : Nat} (hF : 100000 ≤ F) {m : Nat} {C : Nat → Nat → Bool} (hne : neC C m) (hm : m ≤ 8) {f k : Nat} (hk : k + 1 < m) {b : Nat} (hb : b < 17) (k174 : Int → Mem → Option Mem) (M : Mem) (h : MY M m C) (hR : RE M m C f (fun a _ => 1 ≤ a)) (hb2 : M 70 k = b) {x0 : Nat} (hx0 : x0 = ffr (fun x => C (k + 1) x && decide (cst b x + rst C m f (m - 1 - (k + 1)) x = rst C m f (m - (k + 1)) b)) 0 17) : f_X10_laysBest_186 F k174 F ((k + 1 : Nat) : Int) 0 M = k174 ((k + 1 : Nat) + 1 : Int) (mset M 70 ((k + 1 : Nat) : Int) x0) := by
  have eb : M 70 (((k + 1 : Nat) : Int) - 1) = b := by rw [← hb2]; congr 1; omega
  refine lpe (f := fun fu (y : Int) => f_X10_laysBest_186 F k174 fu ((k + 1 : Nat) : Int) y M) (I := fun x y => y = x ∧ ∀ z, z < x → (C (k + 1) z && decide (cst b z + rst C m f (m - 1 - (k + 1)) z = rst C m f (m - (k + 1)) b)) = false) (Q := fun r => r = k174 ((k + 1 : Nat) + 1 : Int) (mset M 70 ((k + 1 : Nat) : Int) x0)) 17 ?_ ?_ 17 0 F 0 (by omega) (by omega) ⟨rfl, fun z hz => absurd hz (Nat.not_lt_zero z)⟩
  · rintro x fu y hx ⟨q1, q2⟩
    subst q1
    have b3 := cst_le b x
    have b4 := rst_1000 C m f (m - 1 - (k + 1)) x
    have e1 := hR (k + 1 + 1) x (by omega) (by omega) hx
    have e2 := hR (k + 1) b (by omega) (by omega) hb
    rw [show 17 * ((k + 1 + 1 : Nat) : Int) + (x : Int) = 17 * (((k + 1 : Nat) : Int) + 1) + x by omega, show m - (k + 1 + 1) = m - 1 - (k + 1) by omega] at e1
    have no : (C (k + 1) x && decide (cst b x + rst C m f (m - 1 - (k + 1)) x = rst C m f (m - (k + 1)) b)) = false → ∀ z, z < x + 1 → (C (k + 1) z && decide (cst b z + rst C m f (m - 1 - (k + 1)) z = rst C m f (m - (k + 1)) b)) = false := by
      intro hh z hz
      by_cases e : z = x
      · rw [e]; exact hh
      · exact q2 z (by omega)
    rw [f_X10_laysBest_186, chk_t (by omega), chk_t (by omega), mhas (by omega), ob_s, chk_t (bi_R _), h (k + 1) hk x hx]
    cases hc : C (k + 1) x with
    | false =>
      right
      rw [if_pos (by decide)]
      exact ⟨(x : Int) + 1, rfl, rfl, no (by rw [hc, Bool.false_and])⟩
    | true =>
      rw [if_neg (by decide), chk_t (by omega), eb, mcost hb hx, ob_s, chk_t (by omega), chk_t (by omega), e1, e2, chk_t (by omega)]
      by_cases c : cst b x + rst C m f (m - 1 - (k + 1)) x = rst C m f (m - (k + 1)) b
      · left
        have ex : x0 = x := by
          rw [hx0]
          exact ffr_at (p := fun x => C (k + 1) x && decide (cst b x + rst C m f (m - 1 - (k + 1)) x = rst C m f (m - (k + 1)) b)) hx (by simp only [hc, c, decide_true, Bool.and_self]) q2
        rw [if_pos (by omega), ex]
      · right
        rw [if_neg (by omega)]
        exact ⟨(x : Int) + 1, rfl, rfl, no (by rw [decide_eq_false c, Bool.and_false])⟩
  · rintro fu y ⟨q1, q2⟩
    exfalso
    obtain ⟨x, r1, r2, r3⟩ := tb_ex hne hm f b k hk
    have := q2 x r1
    simp only [r2, r3, decide_true, Bool.and_self] at this
    cases this
theorem mb_end {F : Nat} (hF : 100000 ≤ F) {m : Nat} (hm : m ≤ 8) {g : Nat → Nat} (hg : ∀ k, k < m → g k < 17) (M0 : Mem) (hm0 : M0 64 10 = m) (hr : ∀ k, k < m → M0 70 k = g k) : ∃ M', f_X10_laysBest_278 F F 0 M0 = some M' ∧ (∀ k, k < m → M' 70 k = dec (g k)) ∧ ∀ a i, a ≠ 70 → M' a i = M0 a i := by
  refine lpe (f := fun fu (y : Int × Mem) => f_X10_laysBest_278 F fu y.1 y.2) (I := fun k y => y.1 = k ∧ (∀ j, j < m → y.2 70 j = if j < k then dec (g j) else g j) ∧ ∀ a i, a ≠ 70 → y.2 a i = M0 a i) (Q := fun r => ∃ M', r = some M' ∧ (∀ k, k < m → M' 70 k = dec (g k)) ∧ ∀ a i, a ≠ 70 → M' a i = M0 a i) m ?_ ?_ m 0 F (0, M0) (by omega) (by omega) ⟨rfl, fun j hj => by rw [if_neg (Nat.not_lt_zero j)]; exact hr j hj, fun _ _ _ => rfl⟩
  · rintro k fu ⟨y1, M⟩ hk ⟨q1, q2, q3⟩
    dsimp only at q1 q2 q3 ⊢
    subst q1
    right
    have e0 : M 64 10 = m := by rw [q3 64 10 (by decide)]; exact hm0
    have e1 := q2 k hk
    rw [if_neg (Nat.lt_irrefl k)] at e1
    have fin : ∀ z : Int, z = dec (g k) → (∀ j, j < m → mset M 70 k z 70 j = if j < k + 1 then dec (g j) else g j) ∧ ∀ a i, a ≠ 70 → mset M 70 k z a i = M0 a i := by
      intro z hz
      refine ⟨fun j hj => ?_, fun a i ha => by rw [ms_a ha]; exact q3 a i ha⟩
      by_cases e : j = k
      · subst e; rw [ms_eq, if_pos (by omega), hz]
      · rw [ms_i (by omega), q2 j hj]
        by_cases c : j < k
        · rw [if_pos c, if_pos (by omega)]
        · rw [if_neg c, if_neg (by omega)]
    rw [f_X10_laysBest_278, chk_t (by omega), if_neg (by omega), chk_t (by omega), e1]
    by_cases c : g k = 16
    · rw [if_pos (by omega)]
      exact ⟨((k : Int) + 1, mset M 70 k (-1)), rfl, rfl, fin (-1) (by unfold dec; rw [if_pos c])⟩
    · rw [if_neg (by omega)]
      exact ⟨((k : Int) + 1, mset M 70 k (g k)), rfl, rfl, fin (g k) (by unfold dec; rw [if_neg c])⟩
  · rintro fu ⟨y1, M⟩ ⟨q1, q2, q3⟩
    dsimp only at q1 q2 q3 ⊢
    subst q1
    have e0 : M 64 10 = m := by rw [q3 64 10 (by decide)]; exact hm0
    exact ⟨M, by rw [f_X10_laysBest_278, chk_t (by omega), if_pos (by omega)], fun k hk => by rw [q2 k hk, if_pos hk], q3⟩
theorem mb_tab {F : Nat} (hF : 100000 ≤ F) {m : Nat} {C : Nat → Nat → Bool} (hne : neC C m) (hm : m ≤ 8) {f : Nat} (hf : 0 < m → f < 17 ∧ C 0 f = true) (M0 : Mem) (hm0 : M0 64 10 = m) (h : MY M0 m C) (hR : 0 < m → RE M0 m C f (fun a _ => 1 ≤ a)) (hr0 : 0 < m → M0 70 0 = f) : ∃ M', f_X10_laysBest_174 F F 1 M0 = some M' ∧ (∀ k, k < m → M' 70 k = dec (tb C m f k)) ∧ ∀ a i, a ≠ 70 → M' a i = M0 a i := by
  by_cases hz : m = 0
  · subst hz
    obtain ⟨fu, e⟩ : ∃ g, F = g + 1 := ⟨F - 1, by omega⟩
    obtain ⟨M', a1, a2, a3⟩ := mb_end hF hm (g := fun _ => 0) (fun k hk => absurd hk (Nat.not_lt_zero k)) M0 hm0 (fun k hk => absurd hk (Nat.not_lt_zero k))
    refine ⟨M', ?_, fun k hk => absurd hk (Nat.not_lt_zero k), a3⟩
    have : f_X10_laysBest_174 F (fu + 1) 1 M0 = some M' := by rw [f_X10_laysBest_174, chk_t (by decide), if_pos (by omega), a1]
    rw [← e] at this; exact this
  · have h0 : 0 < m := by omega
    have hR := hR h0
    obtain ⟨hf17, hfc⟩ := hf h0
    refine lpe (f := fun fu (y : Int × Mem) => f_X10_laysBest_174 F fu y.1 y.2) (I := fun k y => 1 ≤ k ∧ y.1 = k ∧ (∀ j, j < k → y.2 70 j = tb C m f j) ∧ ∀ a i, a ≠ 70 → y.2 a i = M0 a i) (Q := fun r => ∃ M', r = some M' ∧ (∀ k, k < m → M' 70 k = dec (tb C m f k)) ∧ ∀ a i, a ≠ 70 → M' a i = M0 a i) m ?_ ?_ (m - 1) 1 F (1, M0) (by omega) (by omega) ⟨by omega, rfl, fun j hj => by rw [show j = 0 by omega]; exact hr0 h0, fun _ _ _ => rfl⟩
    · rintro k fu ⟨y1, M⟩ hk ⟨q0, q1, q2, q3⟩
      dsimp only at q1 q2 q3 ⊢
      subst q1
      right
      obtain ⟨k, rfl⟩ : ∃ j, k = j + 1 := ⟨k - 1, by omega⟩
      have e0 : M 64 10 = m := by rw [q3 64 10 (by decide)]; exact hm0
      have hM : MY M m C := fun j hj x hx => by rw [q3 72 _ (by decide)]; exact h j hj x hx
      have hR2 : RE M m C f (fun a _ => 1 ≤ a) := fun a c hac ha hc => by rw [q3 73 _ (by decide)]; exact hR a c hac ha hc
      have hb := (tb_C hne hm hf17 hfc k (by omega)).1
      have hs := mb_seek hF hne hm hk hb (f_X10_laysBest_174 F fu) M hM hR2 (q2 k (by omega)) (x0 := tb C m f (k + 1)) rfl
      refine ⟨(((k + 1 : Nat) : Int) + 1, mset M 70 ((k + 1 : Nat) : Int) (tb C m f (k + 1))), ?_, by omega, rfl, fun j hj => ?_, fun a i ha => ?_⟩
      · rw [f_X10_laysBest_174, chk_t (by omega), if_neg (by omega), hs]
      · dsimp only
        by_cases e : j = k + 1
        · subst e; rw [ms_eq]
        · rw [ms_i (by omega)]; exact q2 j (by omega)
      · dsimp only; rw [ms_a ha]; exact q3 a i ha
    · rintro fu ⟨y1, M⟩ ⟨q0, q1, q2, q3⟩
      dsimp only at q1 q2 q3 ⊢
      subst q1
      have e0 : M 64 10 = m := by rw [q3 64 10 (by decide)]; exact hm0
      obtain ⟨M', a1, a2, a3⟩ := mb_end hF hm (g := tb C m f) (fun k hk => (tb_C hne hm hf17 hfc k hk).1) M e0 q2
      exact ⟨M', by rw [f_X10_laysBest_174, chk_t (by omega), if_pos (by omega), a1], a2, fun a i ha => (a3 a i ha).trans (q3 a i ha)⟩
