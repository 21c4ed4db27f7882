/-! numbers and the pure memory -/
def iI (z : Int) : Int32 := Int32.ofInt z
def lI (z : Int) : Int64 := Int64.ofInt z
abbrev inR (z : Int) : Prop := -2147483648 ≤ z ∧ z ≤ 2147483647
abbrev inL (z : Int) : Prop := -9223372036854775808 ≤ z ∧ z ≤ 9223372036854775807
abbrev bit01 (z : Int) : Prop := z = 0 ∨ z = 1
theorem iI_toInt {z : Int} (h : inR z) : (iI z).toInt = z := Int32.toInt_ofInt_of_le (by have := h.1; omega) (by have := h.2; omega)
theorem lI_toInt {z : Int} (h : inL z) : (lI z).toInt = z := Int64.toInt_ofInt_of_le (by have := h.1; omega) (by have := h.2; omega)
theorem iI_of (x : Int32) : iI x.toInt = x := Int32.ofInt_toInt x
theorem iI_inR (x : Int32) : inR x.toInt := by
  have h1 := Int32.le_toInt x
  have h2 := Int32.toInt_lt x
  constructor <;> omega
theorem iI_eq {a b : Int} (ha : inR a) (hb : inR b) : iI a = iI b ↔ a = b := by
  rw [← Int32.toInt_inj, iI_toInt ha, iI_toInt hb]
theorem iI_lt {a b : Int} (ha : inR a) (hb : inR b) : iI a < iI b ↔ a < b := by
  rw [Int32.lt_iff_toInt_lt, iI_toInt ha, iI_toInt hb]
theorem iI_le {a b : Int} (ha : inR a) (hb : inR b) : iI a ≤ iI b ↔ a ≤ b := by
  rw [Int32.le_iff_toInt_le, iI_toInt ha, iI_toInt hb]
theorem iI_0 : iI 0 = 0 := by decide +kernel
theorem inR0 : inR 0 := by decide
theorem iI_add (a b : Int) : iI a + iI b = iI (a + b) := (Int32.ofInt_add a b).symm
theorem iI_sub (a b : Int) : iI a - iI b = iI (a - b) := (Int32.ofInt_sub a b).symm
theorem iI_mul (a b : Int) : iI a * iI b = iI (a * b) := (Int32.ofInt_mul a b).symm
theorem lI_add (a b : Int) : lI a + lI b = lI (a + b) := (Int64.ofInt_add a b).symm
theorem lI_sub (a b : Int) : lI a - lI b = lI (a - b) := (Int64.ofInt_sub a b).symm
theorem lI_mul (a b : Int) : lI a * lI b = lI (a * b) := (Int64.ofInt_mul a b).symm
theorem iI_div {a b : Int} (ha : inR a) (hb : inR b) (h0 : 0 ≤ a) (h1 : 0 < b) : iI a / iI b = iI (a / b) := by
  have hle : a / b ≤ a := Int.ediv_le_self b h0
  have hge : 0 ≤ a / b := Int.ediv_nonneg h0 (by omega)
  apply Int32.toInt_inj.mp
  rw [Int32.toInt_div, iI_toInt ha, iI_toInt hb, Int.tdiv_eq_ediv_of_nonneg h0, iI_toInt ⟨by omega, by have := ha.2; omega⟩]
  apply Int.bmod_eq_of_le <;> (have := ha.2; omega)
theorem lI_div {a b : Int} (ha : inL a) (hb : inL b) (h0 : 0 ≤ a) (h1 : 0 < b) : lI a / lI b = lI (a / b) := by
  have hle : a / b ≤ a := Int.ediv_le_self b h0
  have hge : 0 ≤ a / b := Int.ediv_nonneg h0 (by omega)
  apply Int64.toInt_inj.mp
  rw [Int64.toInt_div, lI_toInt ha, lI_toInt hb, Int.tdiv_eq_ediv_of_nonneg h0, lI_toInt ⟨by omega, by have := ha.2; omega⟩]
  apply Int.bmod_eq_of_le <;> (have := ha.2; omega)
theorem iI_rem {a b : Int} (ha : inR a) (hb : inR b) (h0 : 0 ≤ a) (h1 : 0 < b) : iI a - iI a / iI b * iI b = iI (a % b) := by
  rw [iI_div ha hb h0 h1, iI_mul, iI_sub, Int.emod_def, Int.mul_comm]
theorem lI_rem {a b : Int} (ha : inL a) (hb : inL b) (h0 : 0 ≤ a) (h1 : 0 < b) : lI a - lI a / lI b * lI b = lI (a % b) := by
  rw [lI_div ha hb h0 h1, lI_mul, lI_sub, Int.emod_def, Int.mul_comm]
theorem iI_ne0 {b : Int} (hb : inR b) (h1 : 0 < b) : ¬ iI b = 0 := by
  rw [← iI_0, iI_eq hb inR0]; omega
theorem lI_ne0 {b : Int} (hb : inL b) (h1 : 0 < b) : ¬ lI b = 0 := by
  intro h
  have h2 := congrArg Int64.toInt h
  rw [lI_toInt hb] at h2
  have h3 : (0 : Int64).toInt = 0 := by decide
  omega
theorem iI_l {a : Int} (ha : inR a) : (iI a).toInt64 = lI a := by
  apply Int64.toInt_inj.mp
  rw [Int32.toInt_toInt64, iI_toInt ha, lI_toInt ⟨by have := ha.1; omega, by have := ha.2; omega⟩]
theorem lI_i (a : Int) : (lI a).toInt32 = iI a := Int64.toInt32_ofInt
/-! bits: through the machine's own words -/
def bor (a b : Int) : Int := (iI a ||| iI b).toInt
def band (a b : Int) : Int := (iI a &&& iI b).toInt
def bshl (a b : Int) : Int := (iI a <<< (iI b &&& 31)).toInt
def bshr (a b : Int) : Int := (iI a >>> (iI b &&& 31)).toInt
theorem iI_or (a b : Int) : iI a ||| iI b = iI (bor a b) := (iI_of _).symm
theorem iI_and (a b : Int) : iI a &&& iI b = iI (band a b) := (iI_of _).symm
theorem iI_shl (a b : Int) : iI a <<< (iI b &&& 31) = iI (bshl a b) := (iI_of _).symm
theorem iI_shr (a b : Int) : iI a >>> (iI b &&& 31) = iI (bshr a b) := (iI_of _).symm
theorem bor_R (a b : Int) : inR (bor a b) := iI_inR _
theorem band_R (a b : Int) : inR (band a b) := iI_inR _
theorem bshl_R (a b : Int) : inR (bshl a b) := iI_inR _
theorem bshr_R (a b : Int) : inR (bshr a b) := iI_inR _
/-! the memory: address, index; a long's cell lies at its address + 1000 -/
abbrev Mem : Type := Nat → Int → Int
def mset (M : Mem) (a : Nat) (i x : Int) : Mem := fun b j => if b = a ∧ j = i then x else M b j
def mcpy (M : Mem) (a : Nat) (sp : Int) (b : Nat) (dp n : Int) : Mem := fun c j => if c = b ∧ dp ≤ j ∧ j < dp + n then M a (sp + (j - dp)) else M c j
def Bd (M : Mem) : Prop := ∀ (a : Nat) (i : Int), a < 1000 → inR (M a i)
theorem Bd.set {M : Mem} (h : Bd M) (a : Nat) (i : Int) {x : Int} (hx : inR x) : Bd (mset M a i x) := by
  intro b j hb
  unfold mset
  split
  · exact hx
  · exact h b j hb
theorem Bd.setL {M : Mem} (h : Bd M) (a : Nat) (i x : Int) : Bd (mset M (a + 1000) i x) := by
  intro b j hb
  unfold mset
  rw [if_neg (by omega)]
  exact h b j hb
theorem Bd.cpy {M : Mem} (h : Bd M) (a : Nat) (ha : a < 1000) (sp : Int) (b : Nat) (dp n : Int) : Bd (mcpy M a sp b dp n) := by
  intro c j hc
  unfold mcpy
  split
  · exact h a _ ha
  · exact h c j hc
/-! the steps of a pure run -/
def chk {α : Type} (c : Prop) [Decidable c] (x : Option α) : Option α := if c then x else none
theorem chk_some {α : Type} {c : Prop} [Decidable c] {x : Option α} {r : α} (h : chk c x = some r) : c ∧ x = some r := by
  unfold chk at h
  by_cases hc : c
  · rw [if_pos hc] at h; exact ⟨hc, h⟩
  · rw [if_neg hc] at h; cases h
theorem chk_t {α : Type} {c : Prop} [Decidable c] {x : Option α} (h : c) : chk c x = x := if_pos h
theorem ite_t {α : Type} {c : Prop} [Decidable c] {x y : Option α} {r : α} (hc : c) (h : (if c then x else y) = some r) : x = some r := by rw [if_pos hc] at h; exact h
theorem ite_f {α : Type} {c : Prop} [Decidable c] {x y : Option α} {r : α} (hc : ¬ c) (h : (if c then x else y) = some r) : y = some r := by rw [if_neg hc] at h; exact h
def ox {α β : Type} (q : Nat ⊕ β) (f : Nat → Option α) (g : β → Option α) : Option α := match q with
  | .inl e => f e
  | .inr b => g b
theorem ox_l {α β : Type} {q : Nat ⊕ β} {f : Nat → Option α} {g : β → Option α} {r : α} {e : Nat} (hq : q = .inl e) (h : ox q f g = some r) : f e = some r := by subst hq; exact h
theorem ox_r {α β : Type} {q : Nat ⊕ β} {f : Nat → Option α} {g : β → Option α} {r : α} {b : β} (hq : q = .inr b) (h : ox q f g = some r) : g b = some r := by subst hq; exact h
def ob {α β : Type} (x : Option α) (f : α → Option β) : Option β := match x with
  | none => none
  | some a => f a
theorem ob_some {α β : Type} {x : Option α} {f : α → Option β} {r : β} (h : ob x f = some r) : ∃ a, x = some a ∧ f a = some r := by
  cases x with
  | none => cases h
  | some a => exact ⟨a, rfl, h⟩
abbrev notNaN (r : UInt64) : Prop := r &&& 0x7fffffffffffffff ≤ 0x7ff0000000000000
