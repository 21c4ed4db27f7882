/-! a loop: what holds at each turn gives what holds of its answer -/
theorem lpe {α σ : Type} (f : Nat → σ → Option α) (I : Nat → σ → Prop) (Q : Option α → Prop) (n : Nat) (hs : ∀ i fu x, i < n → I i x → Q (f (fu + 1) x) ∨ ∃ y, f (fu + 1) x = f fu y ∧ I (i + 1) y) (he : ∀ fu x, I n x → Q (f (fu + 1) x)) : ∀ (d i fu : Nat) (x : σ), i + d = n → d < fu → I i x → Q (f fu x) := by
  intro d
  induction d with
  | zero =>
    intro i fu x h1 h2 hI
    obtain ⟨fu, rfl⟩ := fuel_s h2
    obtain rfl : i = n := by omega
    exact he fu x hI
  | succ d ih =>
    intro i fu x h1 h2 hI
    obtain ⟨fu, rfl⟩ := fuel_s h2
    rcases hs i fu x (by omega) hI with h | ⟨y, h, hy⟩
    · exact h
    · rw [h]; exact ih (i + 1) fu y (by omega) (by omega) hy
/-! bits -/
def btI (x : Int) (k : Nat) : Bool := (iI x).toBitVec.getLsbD k
theorem btI_or (a b : Int) (k : Nat) : btI (bor a b) k = (btI a k || btI b k) := by
  unfold btI bor
  rw [iI_of, Int32.toBitVec_or, BitVec.getLsbD_or]
theorem btI_shl : ∀ k : Nat, k < 32 → ∀ j : Nat, j < 32 → btI (bshl 1 k) j = decide (j = k) := by decide +kernel
theorem btI_0 (k : Nat) : btI 0 k = false := by
  unfold btI
  rw [iI_0]
  exact BitVec.getLsbD_zero
theorem btI_16 : ∀ k : Nat, k < 32 → btI 65536 k = decide (k = 16) := by decide +kernel
theorem sh_l : ∀ n : Nat, n < 32 → ((iI (n : Int) &&& 31).toBitVec.smod 32).toNat = n := by decide +kernel
theorem has_bt (x : Int) {k : Nat} (hk : k < 32) : band (bshr x k) 1 = bi (btI x k) := by
  have e0 : (iI x >>> (iI (k : Int) &&& 31)).toBitVec.getLsbD 0 = btI x k := by
    unfold btI
    rw [Int32.toBitVec_shiftRight]
    show ((iI x).toBitVec.sshiftRight ((iI (k : Int) &&& 31).toBitVec.smod 32).toNat).getLsbD 0 = _
    rw [sh_l k hk, BitVec.getLsbD_sshiftRight]
    simp [hk]
  have e : (iI x >>> (iI (k : Int) &&& 31)) &&& iI 1 = if btI x k then 1 else 0 := by
    apply Int32.toBitVec_inj.mp
    rw [Int32.toBitVec_and]
    show (iI x >>> (iI (k : Int) &&& 31)).toBitVec &&& 1#32 = _
    rw [BitVec.and_one_eq_setWidth_ofBool_getLsbD, e0]
    cases btI x k <;> decide
  unfold band bshr
  rw [iI_of, e]
  cases btI x k <;> decide
theorem bor_0 {x : Int} (h : inR x) : bor x 0 = x := by
  unfold bor
  rw [iI_0, Int32.or_zero, iI_toInt h]
/-- a set of numbers as a word -/
def bts (p : Nat → Bool) : Nat → Int
  | 0 => 0
  | n + 1 => if p n then bor (bts p n) (bshl 1 n) else bts p n
theorem bts_R (p : Nat → Bool) : ∀ n, inR (bts p n)
  | 0 => by unfold bts; decide
  | n + 1 => by
    unfold bts
    split
    · exact bor_R _ _
    · exact bts_R p n
theorem bts_bt (p : Nat → Bool) : ∀ (n : Nat), n ≤ 32 → ∀ k, k < 32 → btI (bts p n) k = (decide (k < n) && p k)
  | 0, _, k, _ => by unfold bts; rw [btI_0]; simp
  | n + 1, hn, k, hk => by
    unfold bts
    have ih := bts_bt p n (by omega) k hk
    by_cases hp : p n = true
    · rw [if_pos hp, btI_or, ih, btI_shl n (by omega) k hk]
      by_cases e : k = n
      · subst e; simp [hp]
      · have e1 : (decide (k < n + 1)) = decide (k < n) := decide_eq_decide.mpr (by omega)
        rw [e1, decide_eq_false e, Bool.or_false]
    · rw [if_neg hp, ih]
      by_cases e : k = n
      · subst e
        have : p k = false := by simpa using hp
        simp [this]
      · have e1 : (decide (k < n + 1)) = decide (k < n) := decide_eq_decide.mpr (by omega)
        rw [e1]
theorem bts_congr {p q : Nat → Bool} : ∀ {n : Nat}, (∀ i, i < n → p i = q i) → bts p n = bts q n
  | 0, _ => rfl
  | n + 1, h => by rw [bts, bts, bts_congr (fun i hi => h i (by omega)), h n (by omega)]
theorem bts_none {p : Nat → Bool} : ∀ {n : Nat}, (∀ i, i < n → p i = false) → bts p n = 0
  | 0, _ => rfl
  | n + 1, h => by
    rw [bts, h n (by omega)]
    exact bts_none (fun i hi => h i (by omega))
theorem bts_some {p : Nat → Bool} {n i : Nat} (hn : n ≤ 32) (hi : i < n) (hp : p i = true) : bts p n ≠ 0 := by
  intro h
  have := bts_bt p n hn i (by omega)
  rw [h, btI_0, hp] at this
  simp [hi] at this
