/-! distances -/
/-- a way of some steps from u to v of the length d -/
def Wk (s : Sg) : Nat → Nat → Nat → Nat → Prop
  | 0, u, v, d => u = v ∧ d = 0
  | m + 1, u, v, d => ∃ i, i < sK s ∧ tch s i u = true ∧ sL s i ≤ d ∧ Wk s m (oth s i u) v (d - sL s i)
def Way (s : Sg) (u v d : Nat) : Prop := ∃ m, Wk s m u v d
def isDist (s : Sg) (D : Nat → Nat → Nat) : Prop := ∀ u v, u < sN s → v < sN s → D u v ≤ 1000 ∧ (∀ d, Way s u v d → D u v ≤ d) ∧ (D u v < 1000 → Way s u v (D u v))
theorem isDist_one {s : Sg} {D E : Nat → Nat → Nat} (hD : isDist s D) (hE : isDist s E) {u v : Nat} (hu : u < sN s) (hv : v < sN s) : D u v = E u v := by
  obtain ⟨a1, a2, a3⟩ := hD u v hu hv
  obtain ⟨b1, b2, b3⟩ := hE u v hu hv
  rcases Nat.lt_trichotomy (D u v) (E u v) with h | h | h
  · have := b2 _ (a3 (by omega)); omega
  · exact h
  · have := a2 _ (b3 (by omega)); omega
theorem oth_oth {s : Sg} (w : WN s) {i u : Nat} (hi : i < sK s) (ht : tch s i u = true) : tch s i (oth s i u) = true ∧ oth s i (oth s i u) = u := by
  have h3 := (w.2.2.1 i hi).2.2.1
  unfold tch at ht ⊢
  unfold oth
  simp only [Bool.or_eq_true, decide_eq_true_eq] at ht ⊢
  rcases ht with h | h
  · rw [if_pos h]
    refine ⟨Or.inr rfl, ?_⟩
    rw [if_neg (by omega)]; exact h
  · rw [if_neg (by omega)]
    refine ⟨Or.inl rfl, ?_⟩
    rw [if_pos rfl]; exact h
theorem Wk_app {s : Sg} : ∀ (m : Nat) {k u x v d e : Nat}, Wk s m u x d → Wk s k x v e → Wk s (m + k) u v (d + e)
  | 0, k, u, x, v, d, e, h1, h2 => by
    obtain ⟨rfl, rfl⟩ := h1
    rw [Nat.zero_add, Nat.zero_add]; exact h2
  | m + 1, k, u, x, v, d, e, h1, h2 => by
    obtain ⟨i, hi, ht, hl, hw⟩ := h1
    rw [show m + 1 + k = (m + k) + 1 by omega]
    refine ⟨i, hi, ht, by omega, ?_⟩
    have := Wk_app m hw h2
    rw [show d + e - sL s i = d - sL s i + e by omega]; exact this
theorem Way.app {s : Sg} {u x v d e : Nat} (h1 : Way s u x d) (h2 : Way s x v e) : Way s u v (d + e) := by
  obtain ⟨m, h1⟩ := h1
  obtain ⟨k, h2⟩ := h2
  exact ⟨m + k, Wk_app m h1 h2⟩
theorem Way.nil {s : Sg} (u : Nat) : Way s u u 0 := ⟨0, rfl, rfl⟩
theorem Way.link {s : Sg} {i u : Nat} (hi : i < sK s) (ht : tch s i u = true) : Way s u (oth s i u) (sL s i) := ⟨1, i, hi, ht, Nat.le_refl _, rfl, by omega⟩
/-- what closes a matrix: no link shortens it -/
theorem dist_of {s : Sg} (w : WN s) {D : Nat → Nat → Nat} (h0 : ∀ u, u < sN s → D u u = 0) (h1 : ∀ u v, u < sN s → v < sN s → D u v ≤ 1000) (h2 : ∀ u v, u < sN s → v < sN s → D u v < 1000 → Way s u v (D u v)) (h3 : ∀ u x i, u < sN s → x < sN s → i < sK s → tch s i x = true → D u (oth s i x) ≤ D u x + sL s i) : isDist s D := by
  have key : ∀ (m u x v d : Nat), u < sN s → x < sN s → Wk s m x v d → D u v ≤ D u x + d := by
    intro m
    induction m with
    | zero =>
      intro u x v d hu hx hw
      obtain ⟨rfl, rfl⟩ := hw
      omega
    | succ m ih =>
      intro u x v d hu hx hw
      obtain ⟨i, hi, ht, hl, hw⟩ := hw
      have a1 := ih u (oth s i x) v _ hu (oth_lt w hi x) hw
      have a2 := h3 u x i hu hx hi ht
      omega
  intro u v hu hv
  refine ⟨h1 u v hu hv, fun d hd => ?_, h2 u v hu hv⟩
  obtain ⟨m, hm⟩ := hd
  have := key m u u v d hu hu hm
  rw [h0 u hu] at this
  omega
theorem isDist_0 {s : Sg} {D : Nat → Nat → Nat} (hD : isDist s D) {u : Nat} (hu : u < sN s) : D u u = 0 := by
  have := (hD u u hu hu).2.1 0 (Way.nil u)
  omega
theorem isDist_link {s : Sg} (w : WN s) {D : Nat → Nat → Nat} (hD : isDist s D) {u x i : Nat} (hu : u < sN s) (hx : x < sN s) (hi : i < sK s) (ht : tch s i x = true) : D x u ≤ sL s i + D (oth s i x) u := by
  rcases Nat.lt_or_ge (D (oth s i x) u) 1000 with h | h
  · exact (hD x u hx hu).2.1 _ ((Way.link hi ht).app ((hD _ u (oth_lt w hi x) hu).2.2 h))
  · have := (hD x u hx hu).1
    omega
/-- a way's first step -/
theorem isDist_step {s : Sg} (w : WN s) {D : Nat → Nat → Nat} (hD : isDist s D) {v u : Nat} (hv : v < sN s) (hu : u < sN s) (hne : v ≠ u) (hlt : D v u < 1000) : ∃ i, i < sK s ∧ tch s i v = true ∧ sL s i + D (oth s i v) u = D v u := by
  obtain ⟨m, hm⟩ := (hD v u hv hu).2.2 hlt
  cases m with
  | zero => exact absurd hm.1 hne
  | succ m =>
    obtain ⟨i, hi, ht, hl, hw⟩ := hm
    refine ⟨i, hi, ht, ?_⟩
    have a1 := (hD _ u (oth_lt w hi v) hu).2.1 _ ⟨m, hw⟩
    have a2 := isDist_link w hD hu hv hi ht
    omega
/-- a distance that is one is at most 9 times the number of nodes that are nearer -/
theorem dist_count {s : Sg} (w : WN s) {D : Nat → Nat → Nat} (hD : isDist s D) {u : Nat} (hu : u < sN s) : ∀ (t v : Nat), D v u = t → t < 1000 → v < sN s → t ≤ 9 * ct (fun x => decide (D x u < t)) (sN s) := by
  intro t
  induction t using Nat.strongRecOn with
  | ind t ih =>
    intro v hv ht hvn
    by_cases hne : v = u
    · subst hne
      rw [isDist_0 hD hu] at hv
      omega
    · obtain ⟨i, hi, hti, he⟩ := isDist_step w hD hvn hu hne (by omega)
      have hl := w.2.2.1 i hi
      have hx := oth_lt w hi v
      have h1 := ih (D (oth s i v) u) (by omega) (oth s i v) rfl (by omega) hx
      have h2 : ct (fun x => decide (D x u < D (oth s i v) u)) (sN s) + 1 ≤ ct (fun x => decide (D x u < t)) (sN s) := by
        have key : ∀ n, oth s i v < n → ct (fun x => decide (D x u < D (oth s i v) u)) n + 1 ≤ ct (fun x => decide (D x u < t)) n := by
          have mono : ∀ n, ct (fun x => decide (D x u < D (oth s i v) u)) n ≤ ct (fun x => decide (D x u < t)) n := by
            intro n
            induction n with
            | zero => exact Nat.le_refl _
            | succ n ihn =>
              rw [ct, ct]
              by_cases c : D n u < D (oth s i v) u
              · have c2 : D n u < t := by omega
                simp only [c, c2, decide_true, if_true]; omega
              · simp only [c, decide_false, Bool.false_eq_true, if_false]; omega
          intro n
          induction n with
          | zero => intro h; omega
          | succ n ihn =>
            intro h
            rw [ct, ct]
            by_cases e : oth s i v = n
            · have c1 : ¬ D n u < D (oth s i v) u := by rw [e]; omega
              have c2 : D n u < t := by rw [← e]; omega
              have := mono n
              simp only [c1, c2, decide_true, decide_false, Bool.false_eq_true, if_true, if_false]; omega
            · have h9 := ihn (by omega)
              by_cases c : D n u < D (oth s i v) u
              · have c2 : D n u < t := by omega
                simp only [c, c2, decide_true, if_true]; omega
              · simp only [c, decide_false, Bool.false_eq_true, if_false]; omega
        exact key (sN s) hx
      omega
theorem dist_le {s : Sg} (w : WN s) {D : Nat → Nat → Nat} (hD : isDist s D) {v u : Nat} (hv : v < sN s) (hu : u < sN s) (h : D v u < 1000) : D v u ≤ 81 := by
  have h1 := dist_count w hD hu (D v u) v rfl h hv
  have h2 := ct_le (fun x => decide (D x u < D v u)) (sN s)
  have := w.1
  omega
/-! the steps over a middle node -/
def fws (m : Nat) (D : Nat → Nat → Nat) : Nat → Nat → Nat := fun u v => if D u m + D m v < D u v then D u m + D m v else D u v
/-- all middles below m -/
def fwa (D : Nat → Nat → Nat) : Nat → Nat → Nat → Nat
  | 0 => D
  | m + 1 => fws m (fwa D m)
def fwI (s : Sg) (m : Nat) (D : Nat → Nat → Nat) : Prop := (∀ u, u < sN s → D u u = 0) ∧ (∀ u v, u < sN s → v < sN s → D u v ≤ 1000) ∧ (∀ u v, u < sN s → v < sN s → D u v < 1000 → Way s u v (D u v)) ∧ (∀ x i, x < sN s → i < sK s → tch s i x = true → D x (oth s i x) ≤ sL s i) ∧ ∀ k u v, k < m → u < sN s → v < sN s → D u v ≤ D u k + D k v
theorem fwI_s {s : Sg} (w : WN s) {m : Nat} (hm : m < sN s) {D : Nat → Nat → Nat} (h : fwI s m D) : fwI s (m + 1) (fws m D) := by
  obtain ⟨h0, h1, h2, h3, h4⟩ := h
  refine ⟨fun u hu => ?_, fun u v hu hv => ?_, fun u v hu hv hlt => ?_, fun x i hx hi ht => ?_, fun k u v hk hu hv => ?_⟩
  · unfold fws; have := h0 u hu; split <;> omega
  · unfold fws; have := h1 u v hu hv; split <;> omega
  · unfold fws at hlt ⊢
    split
    · rename_i c
      rw [if_pos c] at hlt
      exact (h2 u m hu hm (by omega)).app (h2 m v hm hv (by omega))
    · rename_i c
      rw [if_neg c] at hlt
      exact h2 u v hu hv hlt
  · have := h3 x i hx hi ht
    unfold fws; split <;> omega
  · have hmm := h0 m hm
    by_cases e : k = m
    · subst e
      unfold fws
      simp only [hmm, Nat.add_zero, Nat.zero_add, Nat.lt_irrefl, if_false]
      split <;> omega
    · have hk2 : k < m := by omega
      have hkn : k < sN s := by omega
      have a1 := h4 k u v hk2 hu hv
      have a2 := h4 k m v hk2 hm hv
      have a3 := h4 k u m hk2 hu hm
      unfold fws
      split <;> split <;> split <;> omega
theorem fwI_a {s : Sg} (w : WN s) {D : Nat → Nat → Nat} (h : fwI s 0 D) : ∀ m, m ≤ sN s → fwI s m (fwa D m)
  | 0, _ => h
  | m + 1, hm => fwI_s w (by omega) (fwI_a w h m (by omega))
theorem fwI_dist {s : Sg} (w : WN s) {D : Nat → Nat → Nat} (h : fwI s (sN s) D) : isDist s D := by
  obtain ⟨h0, h1, h2, h3, h4⟩ := h
  refine dist_of w h0 h1 h2 (fun u x i hu hx hi ht => ?_)
  have a1 := h4 x u (oth s i x) hx hu (oth_lt w hi x)
  have a2 := h3 x i hx hi ht
  omega
