/-! counting, searching, and the class's State -/
def ct (p : Nat → Bool) : Nat → Nat
  | 0 => 0
  | n + 1 => ct p n + (if p n then 1 else 0)
theorem ct_le (p : Nat → Bool) : ∀ n, ct p n ≤ n
  | 0 => Nat.le_refl 0
  | n + 1 => by have := ct_le p n; unfold ct; split <;> omega
theorem ct_congr {p q : Nat → Bool} : ∀ {n : Nat}, (∀ i, i < n → p i = q i) → ct p n = ct q n
  | 0, _ => rfl
  | n + 1, h => by rw [ct, ct, ct_congr (fun i hi => h i (by omega)), h n (by omega)]
/-- the first place from i on, within d steps, at which p holds; behind them if there is none -/
def ffr (p : Nat → Bool) : Nat → Nat → Nat
  | i, 0 => i
  | i, d + 1 => if p i then i else ffr p (i + 1) d
theorem ffr_le (p : Nat → Bool) : ∀ i d, ffr p i d ≤ i + d
  | i, 0 => by simp [ffr]
  | i, d + 1 => by
    have := ffr_le p (i + 1) d
    unfold ffr; split <;> omega
theorem ffr_ge (p : Nat → Bool) : ∀ i d, i ≤ ffr p i d
  | i, 0 => by simp [ffr]
  | i, d + 1 => by
    have := ffr_ge p (i + 1) d
    unfold ffr; split <;> omega
theorem ffr_yes (p : Nat → Bool) : ∀ i d, ffr p i d < i + d → p (ffr p i d) = true
  | i, 0, h => by simp [ffr] at h
  | i, d + 1, h => by
    unfold ffr at h ⊢
    split
    · assumption
    · rename_i hc
      rw [if_neg hc] at h
      exact ffr_yes p (i + 1) d (by omega)
theorem ffr_no (p : Nat → Bool) : ∀ i d j, i ≤ j → j < ffr p i d → p j = false
  | i, 0, j, h1, h2 => by simp [ffr] at h2; omega
  | i, d + 1, j, h1, h2 => by
    unfold ffr at h2
    by_cases hc : p i = true
    · rw [if_pos hc] at h2; omega
    · rw [if_neg hc] at h2
      by_cases e : j = i
      · subst e; simpa using hc
      · exact ffr_no p (i + 1) d j (by omega) h2
theorem ffr_congr {p q : Nat → Bool} : ∀ (i d : Nat), (∀ j, i ≤ j → j < i + d → p j = q j) → ffr p i d = ffr q i d
  | i, 0, _ => rfl
  | i, d + 1, h => by
    unfold ffr
    rw [h i (by omega) (by omega), ffr_congr (i + 1) d (fun j h1 h2 => h j (by omega) (by omega))]
def bi (b : Bool) : Int := if b then 1 else 0
theorem bi_R (b : Bool) : inR (bi b) := by cases b <;> decide
theorem bi_0 {b : Bool} : bi b = 0 ↔ b = false := by cases b <;> simp [bi]
theorem bi_1 {b : Bool} : bi b = 1 ↔ b = true := by cases b <;> simp [bi]
theorem fuel_s {n fu : Nat} (h : n < fu) : ∃ f, fu = f + 1 := ⟨fu - 1, by omega⟩
/-- the link i is one of the node v; its other end -/
def tch (s : Sg) (i v : Nat) : Bool := decide (sF s i = v) || decide (sS s i = v)
def oth (s : Sg) (i v : Nat) : Nat := if sF s i = v then sS s i else sF s i
theorem tch_eq {r : Nat} {M : Mem} {s : Sg} (h : SC r M s) (w : WN s) {i v : Nat} (hi : i < sK s) (hv : v < 100) : f_X6_touches r i v M = some (bi (tch s i v)) := by
  rw [touches_eq h w hi hv]
  unfold b2i bi tch
  by_cases c1 : sF s i = v <;> by_cases c2 : sS s i = v <;> simp [c1, c2]
theorem oth_eq {r : Nat} {M : Mem} {s : Sg} (h : SC r M s) (w : WN s) {i v : Nat} (hi : i < sK s) (hv : v < 100) : f_X6_otherEnd r i v M = some (oth s i v : Int) := by
  rw [otherEnd_eq h w hi hv]; rfl
theorem oth_lt {s : Sg} (w : WN s) {i : Nat} (hi : i < sK s) (v : Nat) : oth s i v < sN s := by
  have := w.2.2.1 i hi
  unfold oth; split <;> omega
/-- a link joins u and v -/
def jnb (s : Sg) (u v i : Nat) : Bool := tch s i u && decide (oth s i u = v)
def jnd (s : Sg) (u v : Nat) : Bool := decide (ffr (jnb s u v) 0 (sK s) < sK s)
theorem joined_loop {F r : Nat} {M : Mem} {s : Sg} (h : SC r M s) (w : WN s) {u v : Nat} (hu : u < 100) (hv : v < 100) : ∀ (d i fu : Nat), i + d = sK s → d < fu → f_X6_joined_2 F r fu u v i M = some (bi (decide (ffr (jnb s u v) i d < sK s))) := by
  have w2 := w.2.1
  intro d
  induction d with
  | zero =>
    intro i fu h1 h2
    obtain ⟨fu, rfl⟩ := fuel_s h2
    have := h.2.1
    rw [f_X6_joined_2, chk_t (by omega), if_pos (by omega)]
    have hn : ¬ i < sK s := by omega
    simp [ffr, bi, hn]
  | succ d ih =>
    intro i fu h1 h2
    obtain ⟨fu, rfl⟩ := fuel_s h2
    have := h.2.1
    have hi : i < sK s := by omega
    rw [f_X6_joined_2, chk_t (by omega), if_neg (by omega), tch_eq h w hi hu, ob_s, chk_t (bi_R _)]
    unfold ffr jnb
    cases ht : tch s i u with
    | false =>
      rw [if_pos (bi_0.mpr rfl)]
      simp only [Bool.false_and, Bool.false_eq_true, if_false]
      exact ih (i + 1) fu (by omega) (by omega)
    | true =>
      have ho := oth_lt w hi u
      rw [if_neg (by decide), oth_eq h w hi hu, ob_s, chk_t (by have := w.1; omega)]
      by_cases e : oth s i u = v
      · rw [if_pos (by omega)]
        simp [e, bi, hi]
      · rw [if_neg (by omega)]
        simp only [e, decide_false, Bool.and_false, Bool.false_eq_true, if_false]
        exact ih (i + 1) fu (by omega) (by omega)
theorem joined_eq {F r : Nat} {M : Mem} {s : Sg} (hF : 100000 ≤ F) (h : SC r M s) (w : WN s) {u v : Nat} (hu : u < 100) (hv : v < 100) : f_X6_joined F r u v M = some (bi (jnd s u v)) := by
  have := w.2.1
  exact joined_loop h w hu hv (sK s) 0 F (by omega) (by omega)
theorem degree_loop {F r : Nat} {M : Mem} {s : Sg} (h : SC r M s) (w : WN s) {v : Nat} (hv : v < 100) : ∀ (d i fu : Nat), i + d = sK s → d < fu → f_X6_degree_4 F r fu v (ct (fun j => tch s j v) i) i M = some (ct (fun j => tch s j v) (sK s) : Int) := by
  have w2 := w.2.1
  have h11 := h.2.1
  intro d
  induction d with
  | zero =>
    intro i fu h1 h2
    obtain ⟨fu, rfl⟩ := fuel_s h2
    rw [f_X6_degree_4, chk_t (by omega), if_pos (by omega)]
    rw [show i = sK s by omega]
  | succ d ih =>
    intro i fu h1 h2
    obtain ⟨fu, rfl⟩ := fuel_s h2
    have hi : i < sK s := by omega
    rw [f_X6_degree_4, chk_t (by omega), if_neg (by omega), tch_eq h w hi hv, ob_s, chk_t (bi_R _)]
    have ih := ih (i + 1) fu (by omega) (by omega)
    rw [ct] at ih
    cases ht : tch s i v with
    | false =>
      rw [if_pos (bi_0.mpr rfl)]
      simp only [ht, Bool.false_eq_true, if_false, Nat.add_zero] at ih
      exact ih
    | true =>
      rw [if_neg (by decide)]
      simp only [ht, if_true] at ih
      exact ih
theorem degree_eq {F r : Nat} {M : Mem} {s : Sg} (hF : 100000 ≤ F) (h : SC r M s) (w : WN s) {v : Nat} (hv : v < 100) : f_X6_degree F r v M = some (ct (fun j => tch s j v) (sK s) : Int) := by
  have := w.2.1
  exact degree_loop h w hv (sK s) 0 F (by omega) (by omega)
