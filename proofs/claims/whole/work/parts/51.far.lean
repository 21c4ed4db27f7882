/-! the model's distances -/
def su (f : Nat → Nat) : Nat → Nat
  | 0 => 0
  | n + 1 => su f n + f n
theorem su_le {f g : Nat → Nat} : ∀ {n : Nat}, (∀ i, i < n → f i ≤ g i) → su f n ≤ su g n
  | 0, _ => Nat.le_refl _
  | n + 1, h => by
    have a := su_le (f := f) (g := g) (n := n) (fun i hi => h i (by omega))
    have b := h n (by omega)
    unfold su; omega
theorem su_lt {f g : Nat → Nat} : ∀ {n : Nat}, (∀ i, i < n → f i ≤ g i) → ∀ x, x < n → f x < g x → su f n < su g n
  | 0, _, x, hx, _ => absurd hx (Nat.not_lt_zero x)
  | n + 1, h, x, hx, hl => by
    have b := h n (by omega)
    by_cases e : x = n
    · subst e
      have a := su_le (f := f) (g := g) (n := x) (fun i hi => h i (by omega))
      unfold su; omega
    · have a := su_lt (f := f) (g := g) (n := n) (fun i hi => h i (by omega)) x (by omega) hl
      unfold su; omega
theorem su_bd {f : Nat → Nat} {c : Nat} : ∀ {n : Nat}, (∀ i, i < n → f i ≤ c) → su f n ≤ n * c
  | 0, _ => Nat.zero_le _
  | n + 1, h => by
    have a := su_bd (f := f) (c := c) (n := n) (fun i hi => h i (by omega))
    have b := h n (by omega)
    unfold su; rw [Nat.succ_mul]; omega
def su2 (D : Nat → Nat → Nat) (n : Nat) : Nat := su (fun u => su (D u) n) n
theorem su2_le {D E : Nat → Nat → Nat} {n : Nat} (h : ∀ u v, u < n → v < n → D u v ≤ E u v) : su2 D n ≤ su2 E n := su_le (fun u hu => su_le (fun v hv => h u v hu hv))
theorem su2_lt {D E : Nat → Nat → Nat} {n : Nat} (h : ∀ u v, u < n → v < n → D u v ≤ E u v) {u v : Nat} (hu : u < n) (hv : v < n) (hl : D u v < E u v) : su2 D n < su2 E n := su_lt (fun u hu => su_le (fun v hv => h u v hu hv)) u hu (su_lt (fun y hy => h u y hu hy) v hv hl)
def FM (M : Mem) (n : Nat) (D : Nat → Nat → Nat) : Prop := ∀ u v, u < n → v < n → M 68 (9 * (u : Int) + v) = D u v
def FI (s : Sg) (D : Nat → Nat → Nat) : Prop := (∀ u, u < sN s → D u u = 0) ∧ (∀ u v, u < sN s → v < sN s → D u v ≤ 1000) ∧ ∀ u v, u < sN s → v < sN s → D u v < 1000 → Way s u v (D u v)
/-- one step of easing, over the link i from x to its other end -/
def rel (D : Nat → Nat → Nat) (u x y l : Nat) : Nat → Nat → Nat := if D u x + l < D u y then fun a b => if a = u ∧ b = y then D u x + l else D a b else D
theorem rel_le (D : Nat → Nat → Nat) (u x y l a b : Nat) : rel D u x y l a b ≤ D a b := by
  unfold rel
  by_cases c : D u x + l < D u y
  · rw [if_pos c]
    show (if a = u ∧ b = y then D u x + l else D a b) ≤ _
    by_cases e : a = u ∧ b = y
    · rw [if_pos e, e.1, e.2]; omega
    · rw [if_neg e]; exact Nat.le_refl _
  · rw [if_neg c]; exact Nat.le_refl _
theorem rel_lt {D : Nat → Nat → Nat} {u x y l : Nat} (c : D u x + l < D u y) : rel D u x y l u y < D u y := by
  unfold rel
  rw [if_pos c]
  show (if u = u ∧ y = y then D u x + l else D u y) < _
  rw [if_pos ⟨rfl, rfl⟩]; exact c
theorem rel_I {s : Sg} (w : WN s) {D : Nat → Nat → Nat} (h : FI s D) {u x i : Nat} (hu : u < sN s) (hx : x < sN s) (hi : i < sK s) (ht : tch s i x = true) : FI s (rel D u x (oth s i x) (sL s i)) := by
  obtain ⟨h0, h1, h2⟩ := h
  have hl := w.2.2.1 i hi
  unfold rel
  by_cases c : D u x + sL s i < D u (oth s i x)
  · rw [if_pos c]
    have hy := oth_lt w hi x
    refine ⟨fun a ha => ?_, fun a b ha hb => ?_, fun a b ha hb hlt => ?_⟩
    · show (if a = u ∧ a = oth s i x then D u x + sL s i else D a a) = 0
      by_cases e : a = u ∧ a = oth s i x
      · have := h0 a ha
        rw [← e.1, ← e.2] at c; omega
      · rw [if_neg e]; exact h0 a ha
    · show (if a = u ∧ b = oth s i x then D u x + sL s i else D a b) ≤ 1000
      have := h1 u (oth s i x) hu hy
      have := h1 a b ha hb
      split <;> omega
    · have hlt : (if a = u ∧ b = oth s i x then D u x + sL s i else D a b) < 1000 := hlt
      show Way s a b (if a = u ∧ b = oth s i x then D u x + sL s i else D a b)
      have := h1 u (oth s i x) hu hy
      by_cases e : a = u ∧ b = oth s i x
      · rw [if_pos e]
        obtain ⟨rfl, rfl⟩ := e
        exact (h2 a x hu hx (by omega)).app (Way.link hi ht)
      · rw [if_neg e] at hlt ⊢; exact h2 a b ha hb hlt
  · rw [if_neg c]; exact ⟨h0, h1, h2⟩
theorem ease_ok {M : Mem} {n : Nat} {D : Nat → Nat → Nat} (hn : n ≤ 9) (hM : FM M n D) (hD : ∀ u v, u < n → v < n → D u v ≤ 1000) {u x y l : Nat} (hu : u < n) (hx : x < n) (hy : y < n) (hl : l ≤ 9) : ∃ M', f_X10_eases (9 * (u : Int) + x) (9 * (u : Int) + y) l M = some (bi (decide (D u x + l < D u y)), M') ∧ FM M' n (rel D u x y l) ∧ ∀ a i, a ≠ 68 → M' a i = M a i := by
  have e1 := hM u x hu hx
  have e2 := hM u y hu hy
  have d1 := hD u x hu hx
  have d2 := hD u y hu hy
  unfold f_X10_eases
  rw [chk_t (by omega), chk_t (by omega), e1, e2, chk_t (by omega)]
  by_cases c : D u x + l < D u y
  · rw [if_neg (by omega), decide_eq_true c]
    refine ⟨_, rfl, fun a b ha hb => ?_, fun a i h => ms_a h⟩
    unfold rel
    rw [if_pos c]
    show _ = ((if a = u ∧ b = y then D u x + l else D a b : Nat) : Int)
    by_cases e : a = u ∧ b = y
    · rw [if_pos e, e.1, e.2, ms_eq]; omega
    · rw [if_neg e, ms_i (by omega)]; exact hM a b ha hb
  · rw [if_pos (by omega), decide_eq_false c]
    refine ⟨_, rfl, fun a b ha hb => ?_, fun a i h => ms_a h⟩
    unfold rel
    rw [if_neg c]
    by_cases e : a = u ∧ b = y
    · rw [e.1, e.2, ms_eq]
    · rw [ms_i (by omega)]; exact hM a b ha hb
/-- no link shortens from u -/
def clo (s : Sg) (D : Nat → Nat → Nat) (j u : Nat) : Prop := D u (sS s j) ≤ D u (sF s j) + sL s j ∧ D u (sF s j) ≤ D u (sS s j) + sL s j
/-- within a pass that began with E -/
def PS (M : Mem) (s : Sg) (E : Nat → Nat → Nat) (mo : Int) (T : Nat → Nat → Prop) : Prop := ∃ D, FM M (sN s) D ∧ FI s D ∧ (∀ a b, a < sN s → b < sN s → D a b ≤ E a b) ∧ ((mo = 0 ∧ ∀ j u, T j u → clo s D j u) ∨ (mo = 1 ∧ su2 D (sN s) < su2 E (sN s)))
theorem far_in {F : Nat} (hF : 100000 ≤ F) {s : Sg} (w : WN s) {E : Nat → Nat → Nat} {i : Nat} (hi : i < sK s) (k48 : Int → Int → Mem → Option Mem) (M0 : Mem) (hS : SM 65 0 M0 s) (mo : Int) (hP : PS M0 s E mo (fun j u => j < i ∧ u < sN s)) : ∃ M' mo', f_X10_laysFar_60 F k48 F mo i 0 M0 = k48 mo' ((i : Int) + 1) M' ∧ PS M' s E mo' (fun j u => j < i + 1 ∧ u < sN s) ∧ ∀ a i, a ≠ 68 → M' a i = M0 a i := by
  have w1 := w.1
  have w2 := w.2.1
  have hl := w.2.2.1 i hi
  refine lpe (f := fun fu (y : Int × Int × Mem) => f_X10_laysFar_60 F k48 fu y.1 i y.2.1 y.2.2) (I := fun x y => y.2.1 = x ∧ PS y.2.2 s E y.1 (fun j u => (j < i ∧ u < sN s) ∨ (j = i ∧ u < x)) ∧ ∀ a i, a ≠ 68 → y.2.2 a i = M0 a i) (Q := fun r => ∃ M' mo', r = k48 mo' ((i : Int) + 1) M' ∧ PS M' s E mo' (fun j u => j < i + 1 ∧ u < sN s) ∧ ∀ a i, a ≠ 68 → M' a i = M0 a i) (sN s) ?_ ?_ (sN s) 0 F (mo, 0, M0) (by omega) (by omega) ⟨rfl, ?_, fun _ _ _ => rfl⟩
  · rintro u fu ⟨mo, y1, M⟩ hu ⟨h1, hP, hf⟩
    dsimp only at h1 hP hf ⊢
    subst h1
    right
    have hS2 : SM 65 0 M s := hS.fr (fun j _ _ => hf 65 j (by decide)) w
    have e0 : M 65 0 = sN s := hS2.1
    obtain ⟨D, hM, hI, hle, hm⟩ := hP
    have tF : tch s i (sF s i) = true := tch_iff.mpr (Or.inl rfl)
    have tS : tch s i (sS s i) = true := tch_iff.mpr (Or.inr rfl)
    have oF : oth s i (sF s i) = sS s i := by unfold oth; rw [if_pos rfl]
    have oS : oth s i (sS s i) = sF s i := by unfold oth; rw [if_neg (by omega)]
    obtain ⟨M1, a1, a2, a3⟩ := ease_ok w1 hM hI.2.1 hu hl.1 hl.2.1 hl.2.2.2.2
    have hI1 : FI s (rel D u (sF s i) (sS s i) (sL s i)) := by have := rel_I w hI hu hl.1 hi tF; rw [oF] at this; exact this
    obtain ⟨M2, b1, b2, b3⟩ := ease_ok w1 a2 hI1.2.1 hu hl.2.1 hl.1 hl.2.2.2.2
    have hI2 : FI s (rel (rel D u (sF s i) (sS s i) (sL s i)) u (sS s i) (sF s i) (sL s i)) := by have := rel_I w hI1 hu hl.2.1 hi tS; rw [oS] at this; exact this
    have hS3 : SM 65 0 M1 s := hS2.fr (fun j _ _ => a3 65 j (by decide)) w
    have hle2 : ∀ a b, a < sN s → b < sN s → rel (rel D u (sF s i) (sS s i) (sL s i)) u (sS s i) (sF s i) (sL s i) a b ≤ E a b := fun a b ha hb => Nat.le_trans (rel_le _ _ _ _ _ _ _) (Nat.le_trans (rel_le _ _ _ _ _ _ _) (hle a b ha hb))
    have hf2 : ∀ a i, a ≠ 68 → M2 a i = M0 a i := fun a i h => by rw [b3 a i h, a3 a i h]; exact hf a i h
    have hmo : inR mo := by rcases hm with ⟨rfl, _⟩ | ⟨rfl, _⟩ <;> decide
    -- the step's strictness
    have s1 : D u (sF s i) + sL s i < D u (sS s i) → su2 (rel (rel D u (sF s i) (sS s i) (sL s i)) u (sS s i) (sF s i) (sL s i)) (sN s) < su2 E (sN s) := by
      intro c
      have := rel_lt c
      have k1 := rel_le (rel D u (sF s i) (sS s i) (sL s i)) u (sS s i) (sF s i) (sL s i) u (sS s i)
      have k2 := hle u (sS s i) hu hl.2.1
      exact su2_lt hle2 hu hl.2.1 (by omega)
    have s2 : rel D u (sF s i) (sS s i) (sL s i) u (sS s i) + sL s i < rel D u (sF s i) (sS s i) (sL s i) u (sF s i) → su2 (rel (rel D u (sF s i) (sS s i) (sL s i)) u (sS s i) (sF s i) (sL s i)) (sN s) < su2 E (sN s) := by
      intro c
      have := rel_lt c
      have k1 := rel_le D u (sF s i) (sS s i) (sL s i) u (sF s i)
      have k2 := hle u (sF s i) hu hl.1
      exact su2_lt hle2 hu hl.1 (by omega)
    have s3 : mo = 1 → su2 (rel (rel D u (sF s i) (sS s i) (sL s i)) u (sS s i) (sF s i) (sL s i)) (sN s) < su2 E (sN s) := by
      intro c
      rcases hm with ⟨h, _⟩ | ⟨_, h⟩
      · omega
      · exact Nat.lt_of_le_of_lt (su2_le (fun a b _ _ => Nat.le_trans (rel_le _ _ _ _ _ _ _) (rel_le _ _ _ _ _ _ _))) h
    -- the second half
    have second : ∀ t0 : Int, (t0 = 0 ∨ t0 = 1) → f_X10_laysFar_114 F (f_X10_laysFar_60 F k48 fu) i u t0 M1 = f_X10_laysFar_60 F k48 fu (if rel D u (sF s i) (sS s i) (sL s i) u (sS s i) + sL s i < rel D u (sF s i) (sS s i) (sL s i) u (sF s i) then 1 else t0) i ((u : Int) + 1) M2 := by
      intro t0 ht
      unfold f_X10_laysFar_114
      rw [chk_t (by omega), mpart1 hS3 w hi, ob_s, mpart0 hS3 w hi, ob_s, mpart2 hS3 w hi, ob_s, b1, ob_s]
      dsimp only
      rw [chk_t (bi_R _)]
      by_cases c : rel D u (sF s i) (sS s i) (sL s i) u (sS s i) + sL s i < rel D u (sF s i) (sS s i) (sL s i) u (sF s i)
      · rw [decide_eq_true c, if_neg (by decide), if_pos c]
      · rw [decide_eq_false c, if_pos (by decide), if_neg c]
        rcases ht with rfl | rfl
        · rw [if_pos rfl]
        · rw [if_neg (by decide)]
    rw [f_X10_laysFar_60, chk_t (by omega), if_neg (by omega), mpart0 hS2 w hi, ob_s, mpart1 hS2 w hi, ob_s, mpart2 hS2 w hi, ob_s, a1, ob_s]
    dsimp only
    rw [chk_t (bi_R _)]
    by_cases c1 : D u (sF s i) + sL s i < D u (sS s i)
    · rw [decide_eq_true c1, if_neg (by decide), second 1 (Or.inr rfl), ite_self]
      exact ⟨(1, (u : Int) + 1, M2), rfl, rfl, ⟨_, b2, hI2, hle2, Or.inr ⟨rfl, s1 c1⟩⟩, hf2⟩
    · rw [decide_eq_false c1, if_pos (by decide)]
      rcases hm with ⟨h0, hcl⟩ | ⟨h0, hsu⟩
      · rw [if_pos h0, second 0 (Or.inl rfl)]
        by_cases c2 : rel D u (sF s i) (sS s i) (sL s i) u (sS s i) + sL s i < rel D u (sF s i) (sS s i) (sL s i) u (sF s i)
        · rw [if_pos c2]
          exact ⟨(1, (u : Int) + 1, M2), rfl, rfl, ⟨_, b2, hI2, hle2, Or.inr ⟨rfl, s2 c2⟩⟩, hf2⟩
        · rw [if_neg c2]
          refine ⟨(0, (u : Int) + 1, M2), rfl, rfl, ⟨_, b2, hI2, hle2, Or.inl ⟨rfl, ?_⟩⟩, hf2⟩
          have r1 : rel D u (sF s i) (sS s i) (sL s i) = D := by unfold rel; rw [if_neg c1]
          rw [r1] at c2 ⊢
          have r2 : rel D u (sS s i) (sF s i) (sL s i) = D := by unfold rel; rw [if_neg c2]
          rw [r2]
          intro j a hj
          by_cases e : j = i ∧ a = u
          · obtain ⟨rfl, rfl⟩ := e
            unfold clo; omega
          · exact hcl j a (by omega)
      · rw [if_neg (by omega), second 1 (Or.inr rfl), ite_self]
        exact ⟨(1, (u : Int) + 1, M2), rfl, rfl, ⟨_, b2, hI2, hle2, Or.inr ⟨rfl, s3 h0⟩⟩, hf2⟩
  · rintro fu ⟨mo, y1, M⟩ ⟨h1, hP, hf⟩
    dsimp only at h1 hP hf ⊢
    subst h1
    have e0 : M 65 0 = sN s := by rw [hf 65 0 (by decide)]; exact hS.1
    obtain ⟨D, hM, hI, hle, hm⟩ := hP
    have hmo : inR mo := by rcases hm with ⟨rfl, _⟩ | ⟨rfl, _⟩ <;> decide
    refine ⟨M, mo, ?_, ⟨D, hM, hI, hle, ?_⟩, hf⟩
    · rw [f_X10_laysFar_60, chk_t (by omega), if_pos (by omega)]
    · rcases hm with ⟨h0, hcl⟩ | h
      · exact Or.inl ⟨h0, fun j u hj => hcl j u (by omega)⟩
      · exact Or.inr h
  · obtain ⟨D, hM, hI, hle, hm⟩ := hP
    refine ⟨D, hM, hI, hle, ?_⟩
    rcases hm with ⟨h0, hcl⟩ | h
    · exact Or.inl ⟨h0, fun j u hj => hcl j u (by omega)⟩
    · exact Or.inr h
theorem far_pass {F : Nat} (hF : 100000 ≤ F) {s : Sg} (w : WN s) {E : Nat → Nat → Nat} (k40 : Int → Mem → Option Mem) (M0 : Mem) (hS : SM 65 0 M0 s) (hM : FM M0 (sN s) E) (hI : FI s E) : ∃ M' mo', f_X10_laysFar_48 F k40 F 0 0 M0 = k40 mo' M' ∧ PS M' s E mo' (fun j u => j < sK s ∧ u < sN s) ∧ ∀ a i, a ≠ 68 → M' a i = M0 a i := by
  have w1 := w.1
  have w2 := w.2.1
  refine lpe (f := fun fu (y : Int × Int × Mem) => f_X10_laysFar_48 F k40 fu y.1 y.2.1 y.2.2) (I := fun x y => y.2.1 = x ∧ PS y.2.2 s E y.1 (fun j u => j < x ∧ u < sN s) ∧ ∀ a i, a ≠ 68 → y.2.2 a i = M0 a i) (Q := fun r => ∃ M' mo', r = k40 mo' M' ∧ PS M' s E mo' (fun j u => j < sK s ∧ u < sN s) ∧ ∀ a i, a ≠ 68 → M' a i = M0 a i) (sK s) ?_ ?_ (sK s) 0 F (0, 0, M0) (by omega) (by omega) ⟨rfl, ⟨E, hM, hI, fun _ _ _ _ => Nat.le_refl _, Or.inl ⟨rfl, fun j u h => absurd h.1 (Nat.not_lt_zero j)⟩⟩, fun _ _ _ => rfl⟩
  · rintro i fu ⟨mo, y1, M⟩ hi ⟨h1, hP, hf⟩
    dsimp only at h1 hP hf ⊢
    subst h1
    right
    have hS2 : SM 65 0 M s := hS.fr (fun j _ _ => hf 65 j (by decide)) w
    have e0 : M 65 1 = sK s := hS2.2.1
    obtain ⟨M', mo', e, q1, q2⟩ := far_in hF w hi (f_X10_laysFar_48 F k40 fu) M hS2 mo hP
    refine ⟨(mo', (i : Int) + 1, M'), ?_, rfl, q1, fun a j h => ?_⟩
    · rw [f_X10_laysFar_48, chk_t (by omega), if_neg (by omega), e]
    · exact (q2 a j h).trans (hf a j h)
  · rintro fu ⟨mo, y1, M⟩ ⟨h1, hP, hf⟩
    dsimp only at h1 hP hf ⊢
    subst h1
    have e0 : M 65 1 = sK s := by rw [hf 65 1 (by decide)]; exact hS.2.1
    exact ⟨M, mo, by rw [f_X10_laysFar_48, chk_t (by omega), if_pos (by omega)], hP, hf⟩
theorem far_while {F : Nat} (hF : 100000 ≤ F) {s : Sg} (w : WN s) : ∀ (m fu : Nat) (M : Mem) (D : Nat → Nat → Nat), su2 D (sN s) ≤ m → m + 2 ≤ fu → SM 65 0 M s → FM M (sN s) D → FI s D → ∃ M', f_X10_laysFar_40 F fu 1 M = some M' ∧ FM M' (sN s) (dis s) ∧ ∀ a i, a ≠ 68 → M' a i = M a i := by
  intro m
  induction m with
  | zero =>
    intro fu M D h1 h2 hS hM hI
    obtain ⟨fu, rfl⟩ : ∃ f, fu = f + 2 := ⟨fu - 2, by omega⟩
    obtain ⟨M', mo', e, ⟨D', q1, q2, q3, q4⟩, q5⟩ := far_pass hF w (f_X10_laysFar_40 F (fu + 1)) M hS hM hI
    rcases q4 with ⟨rfl, hcl⟩ | ⟨_, h⟩
    · refine ⟨M', ?_, fun u v hu hv => ?_, q5⟩
      · rw [f_X10_laysFar_40, chk_t (by decide), if_neg (by decide), e, f_X10_laysFar_40, chk_t (by decide), if_pos rfl]
      · rw [q1 u v hu hv]
        have hd : isDist s D' := dist_of w q2.1 q2.2.1 q2.2.2 (fun a x i ha hx hi ht => by
          have c := hcl i a ⟨hi, ha⟩
          unfold clo at c
          rcases ends_of w hi ht with ⟨k1, k2⟩ | ⟨k1, k2⟩
          · rw [k2, k1]; exact c.1
          · rw [k2, k1]; exact c.2)
        rw [isDist_one hd (dis_D w) hu hv]
    · omega
  | succ m ih =>
    intro fu M D h1 h2 hS hM hI
    obtain ⟨fu, rfl⟩ : ∃ f, fu = f + 2 := ⟨fu - 2, by omega⟩
    obtain ⟨M', mo', e, ⟨D', q1, q2, q3, q4⟩, q5⟩ := far_pass hF w (f_X10_laysFar_40 F (fu + 1)) M hS hM hI
    rcases q4 with ⟨rfl, hcl⟩ | ⟨rfl, h⟩
    · refine ⟨M', ?_, fun u v hu hv => ?_, q5⟩
      · rw [f_X10_laysFar_40, chk_t (by decide), if_neg (by decide), e, f_X10_laysFar_40, chk_t (by decide), if_pos rfl]
      · rw [q1 u v hu hv]
        have hd : isDist s D' := dist_of w q2.1 q2.2.1 q2.2.2 (fun a x i ha hx hi ht => by
          have c := hcl i a ⟨hi, ha⟩
          unfold clo at c
          rcases ends_of w hi ht with ⟨k1, k2⟩ | ⟨k1, k2⟩
          · rw [k2, k1]; exact c.1
          · rw [k2, k1]; exact c.2)
        rw [isDist_one hd (dis_D w) hu hv]
    · obtain ⟨M'', e2, k1, k2⟩ := ih (fu + 1) M' D' (by omega) (by omega) (hS.fr (fun j _ _ => q5 65 j (by decide)) w) q1 q2
      refine ⟨M'', ?_, k1, fun a i h => ?_⟩
      · rw [f_X10_laysFar_40, chk_t (by decide), if_neg (by decide), e, e2]
      · exact (k2 a i h).trans (q5 a i h)
theorem far_ok {F : Nat} (hF : 100000 ≤ F) {s : Sg} (w : WN s) (M0 : Mem) (hS : SM 65 0 M0 s) : ∃ M', f_X10_laysFar F M0 = some M' ∧ FM M' (sN s) (dis s) ∧ ∀ a i, a ≠ 68 → M' a i = M0 a i := by
  have w1 := w.1
  refine lpe (f := fun fu (y : Int × Mem) => f_X10_laysFar_2 F fu y.1 y.2) (I := fun k y => y.1 = k ∧ (∀ j : Nat, j < k → y.2 68 j = if j / 9 = j % 9 then 0 else 1000) ∧ ∀ a i, a ≠ 68 → y.2 a i = M0 a i) (Q := fun r => ∃ M', r = some M' ∧ FM M' (sN s) (dis s) ∧ ∀ a i, a ≠ 68 → M' a i = M0 a i) 81 ?_ ?_ 81 0 F (0, M0) (by omega) (by omega) ⟨rfl, fun j h => absurd h (Nat.not_lt_zero j), fun _ _ _ => rfl⟩
  · rintro k fu ⟨y1, M⟩ hk ⟨h1, hM, hf⟩
    dsimp only at h1 hM hf ⊢
    subst h1
    right
    have step : ∀ z : Int, z = (if k / 9 = k % 9 then 0 else 1000) → (∀ j : Nat, j < k + 1 → mset M 68 k z 68 j = if j / 9 = j % 9 then 0 else 1000) ∧ ∀ a i, a ≠ 68 → mset M 68 k z a i = M0 a i := by
      intro z hz
      refine ⟨fun j hj => ?_, fun a i h => by rw [ms_a h]; exact hf a i h⟩
      by_cases e : j = k
      · subst e; rw [ms_eq, hz]
      · rw [ms_i (by omega)]; exact hM j (by omega)
    rw [f_X10_laysFar_2, chk_t (by omega), if_neg (by omega), chk_t (by omega), chk_t (by omega), chk_t (by omega)]
    by_cases c : k / 9 = k % 9
    · rw [if_pos (by omega), chk_t (by omega)]
      exact ⟨((k : Int) + 1, mset M 68 k 0), rfl, rfl, step 0 (by rw [if_pos c])⟩
    · rw [if_neg (by omega), chk_t (by omega)]
      exact ⟨((k : Int) + 1, mset M 68 k 1000), rfl, rfl, step 1000 (by rw [if_neg c])⟩
  · rintro fu ⟨y1, M⟩ ⟨h1, hM, hf⟩
    dsimp only at h1 hM hf ⊢
    subst h1
    have hS2 : SM 65 0 M s := hS.fr (fun j _ _ => hf 65 j (by decide)) w
    have hM2 : FM M (sN s) (fun u v => if u = v then 0 else 1000) := by
      intro u v hu hv
      have := hM (9 * u + v) (by omega)
      rw [show ((9 * u + v : Nat) : Int) = 9 * (u : Int) + v by omega] at this
      rw [this]
      by_cases c : u = v
      · rw [if_pos (by omega)]; show (0 : Int) = ((if u = v then 0 else 1000 : Nat) : Int); rw [if_pos c]; rfl
      · rw [if_neg (by omega)]; show (1000 : Int) = ((if u = v then 0 else 1000 : Nat) : Int); rw [if_neg c]; rfl
    have hI2 : FI s (fun u v => if u = v then 0 else 1000) := by
      refine ⟨fun u _ => if_pos rfl, fun u v _ _ => ?_, fun u v _ _ h => ?_⟩
      · show (if u = v then 0 else 1000) ≤ 1000
        split <;> omega
      · have h : (if u = v then 0 else 1000) < 1000 := h
        show Way s u v (if u = v then 0 else 1000)
        by_cases c : u = v
        · subst c; rw [if_pos rfl]; exact Way.nil u
        · rw [if_neg c] at h; omega
    have hs : su2 (fun u v => if u = v then 0 else 1000) (sN s) ≤ 81000 := by
      have h1 : ∀ u, u < sN s → su (fun v => if u = v then 0 else 1000) (sN s) ≤ sN s * 1000 := fun u _ => su_bd (fun v _ => by split <;> omega)
      have h2 := su_bd h1
      have h3 : sN s * (sN s * 1000) ≤ 9 * (9 * 1000) := Nat.mul_le_mul w1 (Nat.mul_le_mul w1 (Nat.le_refl _))
      exact Nat.le_trans h2 h3
    obtain ⟨M', e, q1, q2⟩ := far_while hF w 81000 F M _ hs (by omega) hS2 hM2 hI2
    refine ⟨M', ?_, q1, fun a i h => by exact (q2 a i h).trans (hf a i h)⟩
    rw [f_X10_laysFar_2, chk_t (by omega), if_pos (by omega), e]
