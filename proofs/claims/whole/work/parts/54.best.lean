/-! best tables: what they are -/
theorem lpc {α σ : Type} (f : Nat → σ → Option α) (p : Nat → Bool) (I : Nat → σ → Prop) (Q : Option α → Prop) (n : Nat) (hs : ∀ i fu x, i < n → p i = true → I i x → Q (f (fu + 1) x) ∨ ∃ y, f (fu + 1) x = f fu y ∧ I (i + 1) y) (hk : ∀ i x, i < n → p i = false → I i x → I (i + 1) x) (he : ∀ fu x, I n x → Q (f (fu + 1) x)) : ∀ (d i fu : Nat) (x : σ), i + d = n → d < fu → I i x → Q (f fu x) := by
  intro d
  induction d with
  | zero =>
    intro i fu x h1 h2 hI
    obtain ⟨fu, rfl⟩ := fuel_s h2
    obtain rfl : i = n := by omega
    exact he fu x hI
  | succ d ih =>
    intro i fu x h1 h2 hI
    cases hp : p i with
    | false => exact ih (i + 1) fu x (by omega) (by omega) (hk i x (by omega) hp hI)
    | true =>
      obtain ⟨fu, rfl⟩ := fuel_s h2
      rcases hs i fu x (by omega) hp hI with h | ⟨y, h, hy⟩
      · exact h
      · rw [h]; exact ih (i + 1) fu y (by omega) (by omega) hy
def cst (b x : Nat) : Nat := if x = 16 then 0 else if x = b then 0 else 1
theorem cst_le (b x : Nat) : cst b x ≤ 1 := by unfold cst; split; omega; split <;> omega
def mnr (P : Nat → Bool) (g : Nat → Nat) : Nat → Nat
  | 0 => 1000
  | x + 1 => if P x then min (mnr P g x) (g x) else mnr P g x
theorem mnr_t {P : Nat → Bool} {g : Nat → Nat} {x : Nat} (h : P x = true) : mnr P g (x + 1) = min (mnr P g x) (g x) := by rw [mnr, if_pos h]
theorem mnr_f {P : Nat → Bool} {g : Nat → Nat} {x : Nat} (h : P x = false) : mnr P g (x + 1) = mnr P g x := by rw [mnr, h]; rfl
theorem mnr_1000 (P : Nat → Bool) (g : Nat → Nat) : ∀ n, mnr P g n ≤ 1000
  | 0 => Nat.le_refl _
  | n + 1 => by
    have := mnr_1000 P g n
    unfold mnr; split <;> omega
theorem mnr_le {P : Nat → Bool} {g : Nat → Nat} : ∀ {n x : Nat}, x < n → P x = true → mnr P g n ≤ g x
  | 0, x, h, _ => absurd h (Nat.not_lt_zero x)
  | n + 1, x, h, hp => by
    by_cases e : x = n
    · subst e; rw [mnr_t hp]; omega
    · have := mnr_le (P := P) (g := g) (n := n) (x := x) (by omega) hp
      unfold mnr; split <;> omega
theorem mnr_at {P : Nat → Bool} {g : Nat → Nat} : ∀ {n : Nat}, mnr P g n < 1000 → ∃ x, x < n ∧ P x = true ∧ g x = mnr P g n
  | 0, h => by unfold mnr at h; omega
  | n + 1, h => by
    cases hp : P n with
    | false =>
      rw [mnr_f hp] at h ⊢
      obtain ⟨x, h1, h2, h3⟩ := mnr_at h
      exact ⟨x, by omega, h2, h3⟩
    | true =>
      rw [mnr_t hp] at h ⊢
      by_cases c : g n < mnr P g n
      · exact ⟨n, by omega, hp, by omega⟩
      · obtain ⟨x, h1, h2, h3⟩ := mnr_at (P := P) (g := g) (n := n) (by omega)
        exact ⟨x, by omega, h2, by omega⟩
/-- the fewest runs behind: d places before the end, b the entry before, f the first one -/
def rst (C : Nat → Nat → Bool) (m f : Nat) : Nat → Nat → Nat
  | 0, b => cst b f
  | d + 1, b => mnr (C (m - (d + 1))) (fun x => cst b x + rst C m f d x) 17
theorem rst_1000 (C : Nat → Nat → Bool) (m f d b : Nat) : rst C m f d b ≤ 1000 := by
  cases d with
  | zero => unfold rst; have := cst_le b f; omega
  | succ d => unfold rst; exact mnr_1000 _ _ _
/-- each place has a choice -/
def neC (C : Nat → Nat → Bool) (m : Nat) : Prop := ∀ k, k < m → ∃ x, x < 17 ∧ C k x = true
theorem rst_sm {C : Nat → Nat → Bool} {m : Nat} (h : neC C m) (f : Nat) : ∀ d, d ≤ m → ∀ b, rst C m f d b ≤ d + 1 := by
  intro d
  induction d with
  | zero => intro _ b; unfold rst; have := cst_le b f; omega
  | succ d ih =>
    intro hd b
    obtain ⟨x, hx, hc⟩ := h (m - (d + 1)) (by omega)
    have h1 : rst C m f (d + 1) b ≤ cst b x + rst C m f d x := mnr_le (g := fun x => cst b x + rst C m f d x) hx hc
    have h2 := ih (by omega) x
    have h3 := cst_le b x
    omega
/-- the first entry and its price, of those below x -/
def bf (C : Nat → Nat → Bool) (m : Nat) : Nat → Nat × Nat
  | 0 => (17, 1000)
  | x + 1 => if C 0 x = true ∧ rst C m x (m - 1) x < (bf C m x).2 then (x, rst C m x (m - 1) x) else bf C m x
/-- the table with the first entry f -/
def tb (C : Nat → Nat → Bool) (m f : Nat) : Nat → Nat
  | 0 => f
  | k + 1 => ffr (fun x => C (k + 1) x && decide (cst (tb C m f k) x + rst C m f (m - 1 - (k + 1)) x = rst C m f (m - (k + 1)) (tb C m f k))) 0 17
def bst (C : Nat → Nat → Bool) (m : Nat) : Nat → Nat := tb C m (bf C m 17).1
theorem ffr_at {p : Nat → Bool} {n x : Nat} (hx : x < n) (hp : p x = true) (hn : ∀ j, j < x → p j = false) : ffr p 0 n = x := by
  have h1 := ffr_le p 0 n
  rcases Nat.lt_trichotomy (ffr p 0 n) x with h | h | h
  · have := ffr_yes p 0 n (by omega)
    rw [hn _ h] at this; cases this
  · exact h
  · have := ffr_no p 0 n x (by omega) h
    rw [this] at hp; cases hp
theorem tb_ex {C : Nat → Nat → Bool} {m : Nat} (h : neC C m) (hm : m ≤ 8) (f b k : Nat) (hk : k + 1 < m) : ∃ x, x < 17 ∧ C (k + 1) x = true ∧ cst b x + rst C m f (m - 1 - (k + 1)) x = rst C m f (m - (k + 1)) b := by
  have h1 := rst_sm h f (m - (k + 1)) (by omega) b
  have e : m - (k + 1) = (m - 1 - (k + 1)) + 1 := by omega
  rw [e] at h1 ⊢
  have h2 : mnr (C (k + 1)) (fun x => cst b x + rst C m f (m - 1 - (k + 1)) x) 17 = rst C m f (m - 1 - (k + 1) + 1) b := by
    show _ = mnr (C (m - (m - 1 - (k + 1) + 1))) _ 17
    rw [show m - (m - 1 - (k + 1) + 1) = k + 1 by omega]
  obtain ⟨x, q1, q2, q3⟩ := mnr_at (P := C (k + 1)) (g := fun x => cst b x + rst C m f (m - 1 - (k + 1)) x) (n := 17) (by omega)
  exact ⟨x, q1, q2, by rw [← h2]; exact q3⟩
theorem bf_ok {C : Nat → Nat → Bool} {m : Nat} (h : neC C m) (hm : m ≤ 8) (h0 : 0 < m) : ∀ n, ((∃ x, x < n ∧ C 0 x = true) → (bf C m n).1 < n ∧ C 0 (bf C m n).1 = true) ∧ (bf C m n).2 ≤ 1000
  | 0 => ⟨fun ⟨x, hx, _⟩ => absurd hx (Nat.not_lt_zero x), Nat.le_refl _⟩
  | n + 1 => by
    obtain ⟨ih, ih2⟩ := bf_ok h hm h0 n
    have hr := rst_sm h n (m - 1) (by omega) n
    unfold bf
    by_cases c : C 0 n = true ∧ rst C m n (m - 1) n < (bf C m n).2
    · rw [if_pos c]
      exact ⟨fun _ => ⟨Nat.lt_succ_self n, c.1⟩, by show rst C m n (m - 1) n ≤ 1000; omega⟩
    · rw [if_neg c]
      refine ⟨fun ⟨x, hx, hc⟩ => ?_, ih2⟩
      have key : ∃ x, x < n ∧ C 0 x = true := by
        by_cases e : x = n
        · subst e
          have hge : ¬ rst C m x (m - 1) x < (bf C m x).2 := fun q => c ⟨hc, q⟩
          have : (bf C m x).2 ≠ 1000 := by omega
          have k2 : ∀ n, (bf C m n).2 ≠ 1000 → ∃ x, x < n ∧ C 0 x = true := by
            intro n
            induction n with
            | zero => intro q; exact absurd rfl q
            | succ n ihn =>
              intro q
              unfold bf at q
              by_cases c2 : C 0 n = true ∧ rst C m n (m - 1) n < (bf C m n).2
              · exact ⟨n, by omega, c2.1⟩
              · rw [if_neg c2] at q
                obtain ⟨y, q1, q2⟩ := ihn q
                exact ⟨y, by omega, q2⟩
          exact k2 x this
        · exact ⟨x, by omega, hc⟩
      have := ih key
      exact ⟨by omega, this.2⟩
theorem bst_C {C : Nat → Nat → Bool} {m : Nat} (h : neC C m) (hm : m ≤ 8) : ∀ k, k < m → bst C m k < 17 ∧ C k (bst C m k) = true
  | 0, hk => ((bf_ok h hm hk 17).1 (h 0 hk))
  | k + 1, hk => by
    obtain ⟨x, q1, q2, q3⟩ := tb_ex h hm (bf C m 17).1 (bst C m k) k hk
    have e : bst C m (k + 1) = ffr (fun x => C (k + 1) x && decide (cst (bst C m k) x + rst C m (bf C m 17).1 (m - 1 - (k + 1)) x = rst C m (bf C m 17).1 (m - (k + 1)) (bst C m k))) 0 17 := rfl
    have hl : bst C m (k + 1) < 17 := by
      rw [e]
      rcases Nat.lt_or_ge (ffr (fun x => C (k + 1) x && decide (cst (bst C m k) x + rst C m (bf C m 17).1 (m - 1 - (k + 1)) x = rst C m (bf C m 17).1 (m - (k + 1)) (bst C m k))) 0 17) 17 with hh | hh
      · exact hh
      · have := ffr_no (fun x => C (k + 1) x && decide (cst (bst C m k) x + rst C m (bf C m 17).1 (m - 1 - (k + 1)) x = rst C m (bf C m 17).1 (m - (k + 1)) (bst C m k))) 0 17 x (by omega) (by omega)
        simp only [q2, q3, decide_true, Bool.and_self] at this
        cases this
    refine ⟨hl, ?_⟩
    have := ffr_yes (fun x => C (k + 1) x && decide (cst (bst C m k) x + rst C m (bf C m 17).1 (m - 1 - (k + 1)) x = rst C m (bf C m 17).1 (m - (k + 1)) (bst C m k))) 0 17 (by rw [e] at hl; omega)
    rw [Bool.and_eq_true] at this
    exact this.1
/-! best tables: the class -/
theorem dec_R {x : Nat} (h : x < 17) : -1 ≤ dec x ∧ dec x < 17 := by unfold dec; split <;> omega
theorem dec_eq {x y : Nat} (hx : x < 17) (hy : y < 17) : dec x = dec y ↔ x = y := by
  unfold dec; split <;> split <;> omega
theorem step_eq {b x : Nat} (hb : b < 17) (hx : x < 17) (M : Mem) : f_X7_step (dec b) (dec x) M = some (cst b x : Int) := by
  have r1 := dec_R hb
  have r2 := dec_R hx
  unfold f_X7_step cst
  rw [chk_t (by omega)]
  by_cases c : x = 16
  · rw [if_pos (by subst c; rfl), if_pos c]; rfl
  · rw [if_neg (by unfold dec; rw [if_neg c]; omega), if_neg c]
    by_cases c2 : x = b
    · rw [if_pos ((dec_eq hx hb).mpr c2), if_pos c2]; rfl
    · rw [if_neg (fun q => c2 ((dec_eq hx hb).mp q)), if_neg c2]; rfl
/-- the choices as the class lays them -/
def CH (M : Mem) (m : Nat) (C : Nat → Nat → Bool) : Prop := ∀ k, k < m → M 48 k = ct (C k) 17 ∧ 1 ≤ ct (C k) 17 ∧ ct (C k) 17 ≤ 8 ∧ ∀ x, x < 17 → C k x = true → M 49 ((k : Int) * 8 + ct (C k) x) = dec x
def PR (M : Mem) (m : Nat) (C : Nat → Nat → Bool) (f : Nat) (T : Nat → Nat → Prop) : Prop := ∀ k x, T k x → k < m → x < 17 → C k x = true → M 50 ((k : Int) * 8 + ct (C k) x) = rst C m f (m - 1 - k) x
theorem CH.fr {M M' : Mem} {m : Nat} {C : Nat → Nat → Bool} (h : CH M m C) (f : ∀ a i, a = 48 ∨ a = 49 → M' a i = M a i) : CH M' m C := by
  intro k hk
  obtain ⟨h1, h2, h3, h4⟩ := h k hk
  exact ⟨by rw [f 48 _ (Or.inl rfl)]; exact h1, h2, h3, fun x hx hc => by rw [f 49 _ (Or.inr rfl)]; exact h4 x hx hc⟩
theorem CH.ne {M : Mem} {m : Nat} {C : Nat → Nat → Bool} (h : CH M m C) : neC C m := by
  intro k hk
  obtain ⟨h1, h2, h3, h4⟩ := h k hk
  by_cases c : ∃ x, x < 17 ∧ C k x = true
  · exact c
  · have : ct (C k) 17 = 0 := ct_none (fun i hi => by
      cases hc : C k i with
      | false => rfl
      | true => exact absurd ⟨i, hi, hc⟩ c)
    omega
theorem imin_n (a b : Nat) : imin (a : Int) (b : Int) = ((min a b : Nat) : Int) := by
  unfold imin; split <;> omega
theorem cheap_eq {F : Nat} (hF : 100000 ≤ F) {M : Mem} {m : Nat} {C : Nat → Nat → Bool} (hm : m ≤ 8) (h : CH M m C) {f k b : Nat} (hk : k < m) (hb : b < 17) {T : Nat → Nat → Prop} (hP : PR M m C f T) (hT : ∀ x, x < 17 → T k x) : f_X7_cheapestAt F k (dec b) M = some (rst C m f (m - k) b : Int) := by
  obtain ⟨h1, h2, h3, h4⟩ := h k hk
  have e : rst C m f (m - k) b = mnr (C k) (fun x => cst b x + rst C m f (m - 1 - k) x) 17 := by
    rw [show m - k = (m - 1 - k) + 1 by omega, rst, show m - (m - 1 - k + 1) = k by omega]
  rw [e]
  refine lpc (f := fun fu (y : Int × Int) => f_X7_cheapestAt_7 F fu k (dec b) y.1 y.2 M) (p := C k) (I := fun x y => y.1 = mnr (C k) (fun x => cst b x + rst C m f (m - 1 - k) x) x ∧ y.2 = ct (C k) x) (Q := fun r => r = some (mnr (C k) (fun x => cst b x + rst C m f (m - 1 - k) x) 17 : Int)) 17 ?_ ?_ ?_ 17 0 F (1000, 0) (by omega) (by omega) ⟨rfl, rfl⟩
  · rintro x fu ⟨y1, y2⟩ hx hc ⟨q1, q2⟩
    dsimp only at q1 q2 ⊢
    subst q1 q2
    right
    have b1 := mnr_1000 (C k) (fun x => cst b x + rst C m f (m - 1 - k) x) x
    have b2 := ct_lt hx hc
    have b3 := cst_le b x
    have b4 := rst_1000 C m f (m - 1 - k) x
    rw [f_X7_cheapestAt_7, chk_t (by omega), chk_t (by omega), if_neg (by omega), chk_t (by omega), h4 x hx hc, step_eq hb hx, ob_s, hP k x (hT x hx) hk hx hc, chk_t (by omega)]
    refine ⟨(_, (ct (C k) x : Int) + 1), rfl, ?_, ?_⟩
    · show _ = ((mnr _ _ (x + 1) : Nat) : Int)
      rw [mnr_t hc, ← imin_n]; rfl
    · show _ = ((ct _ (x + 1) : Nat) : Int); rw [ct_t hc]; rfl
  · rintro x ⟨y1, y2⟩ hx hc ⟨q1, q2⟩
    exact ⟨by rw [mnr_f hc]; exact q1, by rw [ct_f hc]; exact q2⟩
  · rintro fu ⟨y1, y2⟩ ⟨q1, q2⟩
    dsimp only at q1 q2 ⊢
    subst q1 q2
    have b1 := mnr_1000 (C k) (fun x => cst b x + rst C m f (m - 1 - k) x) 17
    rw [f_X7_cheapestAt_7, chk_t (by omega), chk_t (by omega), if_pos (by omega)]
theorem PR.set {M : Mem} {m : Nat} {C : Nat → Nat → Bool} (h : CH M m C) {f k x : Nat} (hk : k < m) (hx : x < 17) (hc : C k x = true) {T T' : Nat → Nat → Prop} (hP : PR M m C f T) (hT : ∀ a b, T' a b → T a b ∨ (a = k ∧ b = x)) : PR (mset M 50 ((k : Int) * 8 + ct (C k) x) (rst C m f (m - 1 - k) x)) m C f T' := by
  intro a b hab ha hb hcab
  have b1 := ct_lt hx hc
  have b2 := ct_lt hb hcab
  have b3 := (h k hk).2.2.1
  have b4 := (h a ha).2.2.1
  by_cases e : a = k ∧ b = x
  · obtain ⟨rfl, rfl⟩ := e
    rw [ms_eq]
  · have hne : (a : Int) * 8 + ct (C a) b ≠ (k : Int) * 8 + ct (C k) x := by
      intro q
      have hak : a = k := by omega
      subst hak
      have hct : ct (C a) b = ct (C a) x := by omega
      rcases Nat.lt_trichotomy b x with h | h | h
      · have := ct_lt h hcab; omega
      · exact e ⟨rfl, h⟩
      · have := ct_lt h hc; omega
    rw [ms_i hne]
    rcases hT a b hab with q | q
    · exact hP a b q ha hb hcab
    · exact absurd q e
theorem price_in {F : Nat} (hF : 100000 ≤ F) {m : Nat} {C : Nat → Nat → Bool} (hm : m ≤ 8) {f k : Nat} (hf17 : f < 17) (hk : k < m) (k4 : Int → Int → Int → Mem → Option Mem) (M0 : Mem) (h : CH M0 m C) (hP : PR M0 m C f (fun a _ => k < a)) : ∃ M', f_X7_priceBeginningWith_11 F k4 F (dec f) m k 0 M0 = k4 (dec f) m ((k : Int) + (-1)) M' ∧ PR M' m C f (fun a _ => k ≤ a) ∧ ∀ a i, a ≠ 50 → M' a i = M0 a i := by
  refine lpc (f := fun fu (y : Int × Mem) => f_X7_priceBeginningWith_11 F k4 fu (dec f) m k y.1 y.2) (p := C k) (I := fun x y => y.1 = ct (C k) x ∧ PR y.2 m C f (fun a b => k < a ∨ (a = k ∧ b < x)) ∧ ∀ a i, a ≠ 50 → y.2 a i = M0 a i) (Q := fun r => ∃ M', r = k4 (dec f) m ((k : Int) + (-1)) M' ∧ PR M' m C f (fun a _ => k ≤ a) ∧ ∀ a i, a ≠ 50 → M' a i = M0 a i) 17 ?_ ?_ ?_ 17 0 F (0, M0) (by omega) (by omega) ⟨rfl, fun a b hab => hP a b (by omega), fun _ _ _ => rfl⟩
  · rintro x fu ⟨y1, M⟩ hx hc ⟨q1, q2, q3⟩
    dsimp only at q1 q2 q3 ⊢
    subst q1
    right
    have hC : CH M m C := h.fr (fun a i q => q3 a i (by omega))
    obtain ⟨h1, h2, h3, h4⟩ := hC k hk
    have b2 := ct_lt hx hc
    have b4 := rst_1000 C m f (m - 1 - k) x
    have fin : ∀ z : Int, z = rst C m f (m - 1 - k) x → ∃ y : Int × Mem, f_X7_priceBeginningWith_11 F k4 fu (dec f) m k ((ct (C k) x : Int) + 1) (mset M 50 ((k : Int) * 8 + ct (C k) x) z) = f_X7_priceBeginningWith_11 F k4 fu (dec f) m k y.1 y.2 ∧ y.1 = ct (C k) (x + 1) ∧ PR y.2 m C f (fun a b => k < a ∨ (a = k ∧ b < x + 1)) ∧ ∀ a i, a ≠ 50 → y.2 a i = M0 a i := by
      intro z hz
      subst hz
      refine ⟨((ct (C k) x : Int) + 1, mset M 50 ((k : Int) * 8 + ct (C k) x) (rst C m f (m - 1 - k) x)), rfl, ?_, ?_, fun a i ha => ?_⟩
      · show _ = ((ct _ (x + 1) : Nat) : Int); rw [ct_t hc]; rfl
      · exact PR.set hC hk hx hc q2 (fun a b hab => by omega)
      · dsimp only; rw [ms_a ha]; exact q3 a i ha
    rw [f_X7_priceBeginningWith_11, chk_t (by omega), chk_t (by omega), if_neg (by omega), chk_t (by omega)]
    by_cases c : k = m - 1
    · have e0 : rst C m f (m - 1 - k) x = cst x f := by rw [show m - 1 - k = 0 by omega]; rfl
      have b5 := cst_le x f
      rw [if_pos (by omega), chk_t (by omega), h4 x hx hc, step_eq hx hf17, ob_s, chk_t (by omega)]
      exact fin _ (by rw [e0])
    · have hch := cheap_eq hF hm hC (f := f) (k := k + 1) (b := x) (by omega) hx q2 (fun z _ => Or.inl (by omega))
      rw [show m - (k + 1) = m - 1 - k by omega, show ((k + 1 : Nat) : Int) = (k : Int) + 1 by omega] at hch
      rw [if_neg (by omega), chk_t (by omega), h4 x hx hc, hch, ob_s, chk_t (by omega)]
      exact fin _ rfl
  · rintro x ⟨y1, M⟩ hx hc ⟨q1, q2, q3⟩
    refine ⟨by rw [ct_f hc]; exact q1, fun a b hab ha hb hcab => ?_, q3⟩
    by_cases e : a = k ∧ b = x
    · obtain ⟨rfl, rfl⟩ := e
      rw [hc] at hcab; cases hcab
    · exact q2 a b (by omega) ha hb hcab
  · rintro fu ⟨y1, M⟩ ⟨q1, q2, q3⟩
    dsimp only at q1 q2 q3 ⊢
    subst q1
    have hC : CH M m C := h.fr (fun a i q => q3 a i (by omega))
    obtain ⟨h1, h2, h3, h4⟩ := hC k hk
    exact ⟨M, by rw [f_X7_priceBeginningWith_11, chk_t (by omega), chk_t (by omega), if_pos (by omega)], fun a b hab ha hb hcab => q2 a b (by omega) ha hb hcab, q3⟩
theorem price_ok {F : Nat} (hF : 100000 ≤ F) {m : Nat} {C : Nat → Nat → Bool} (hm : m ≤ 8) {f : Nat} (hf17 : f < 17) (M0 : Mem) (h : CH M0 m C) : ∃ M', f_X7_priceBeginningWith F (dec f) m M0 = some M' ∧ PR M' m C f (fun _ _ => True) ∧ ∀ a i, a ≠ 50 → M' a i = M0 a i := by
  refine lpe (f := fun fu (y : Int × Mem) => f_X7_priceBeginningWith_4 F fu (dec f) m y.1 y.2) (I := fun j y => y.1 = (m : Int) - 1 - j ∧ PR y.2 m C f (fun a _ => m ≤ a + j) ∧ ∀ a i, a ≠ 50 → y.2 a i = M0 a i) (Q := fun r => ∃ M', r = some M' ∧ PR M' m C f (fun _ _ => True) ∧ ∀ a i, a ≠ 50 → M' a i = M0 a i) m ?_ ?_ m 0 F ((m : Int) - 1, M0) (by omega) (by omega) ⟨by show _ = _; omega, fun a b hab ha => by omega, fun _ _ _ => rfl⟩
  · rintro j fu ⟨y1, M⟩ hj ⟨q1, q2, q3⟩
    dsimp only at q1 q2 q3 ⊢
    subst q1
    right
    have hC : CH M m C := h.fr (fun a i q => q3 a i (by omega))
    obtain ⟨M', e, p1, p2⟩ := price_in hF hm hf17 (k := m - 1 - j) (by omega) (f_X7_priceBeginningWith_4 F fu) M hC (fun a b hab => q2 a b (by omega))
    rw [show ((m - 1 - j : Nat) : Int) = (m : Int) - 1 - j by omega] at e
    refine ⟨((m : Int) - 1 - j + (-1), M'), ?_, ?_, fun a b hab => p1 a b (by omega), fun a i ha => by exact (p2 a i ha).trans (q3 a i ha)⟩
    · rw [f_X7_priceBeginningWith_4, chk_t (by omega), if_neg (by omega), e]
    · show _ = _; omega
  · rintro fu ⟨y1, M⟩ ⟨q1, q2, q3⟩
    dsimp only at q1 q2 q3 ⊢
    subst q1
    exact ⟨M, by rw [f_X7_priceBeginningWith_4, chk_t (by omega), if_pos (by omega)], fun a b _ => q2 a b (by omega), q3⟩
