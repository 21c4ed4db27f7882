/-! tools for the pure runs -/
theorem ob_s {α β : Type} (a : α) (f : α → Option β) : ob (some a) f = f a := rfl
theorem ox_inl {α β : Type} (e : Nat) (f : Nat → Option α) (g : β → Option α) : ox (.inl e) f g = f e := rfl
theorem ox_inr {α β : Type} (b : β) (f : Nat → Option α) (g : β → Option α) : ox (.inr b) f g = g b := rfl
theorem ite_p {α : Type} {c : Prop} [Decidable c] {x y : α} (h : c) : (if c then x else y) = x := if_pos h
theorem ite_n {α : Type} {c : Prop} [Decidable c] {x y : α} (h : ¬ c) : (if c then x else y) = y := if_neg h
theorem ms_eq (M : Mem) (a : Nat) (i x : Int) : mset M a i x a i = x := by simp [mset]
theorem ms_a {M : Mem} {a b : Nat} {i j x : Int} (h : b ≠ a) : mset M a i x b j = M b j := by simp [mset, h]
theorem ms_i {M : Mem} {a b : Nat} {i j x : Int} (h : j ≠ i) : mset M a i x b j = M b j := by simp [mset, h]
/-- a stretch of an array written -/
def mfill (M : Mem) (a : Nat) (lo hi : Int) (f : Int → Int) : Mem := fun b j => if b = a ∧ lo ≤ j ∧ j < hi then f j else M b j
theorem mfill_0 (M : Mem) (a : Nat) (lo : Int) (f : Int → Int) : mfill M a lo lo f = M := by
  funext b j; unfold mfill; rw [if_neg (by omega)]
theorem mfill_s (M : Mem) (a : Nat) {lo i : Int} (h : lo ≤ i) (f : Int → Int) : mset (mfill M a lo i f) a i (f i) = mfill M a lo (i + 1) f := by
  funext b j
  unfold mset mfill
  by_cases h1 : b = a ∧ j = i
  · rw [if_pos h1, if_pos (by omega), h1.2]
  · rw [if_neg h1]
    by_cases h2 : b = a ∧ lo ≤ j ∧ j < i
    · rw [if_pos h2, if_pos (by omega)]
    · rw [if_neg h2, if_neg (by omega)]
theorem mf_in {M : Mem} {a : Nat} {lo hi j : Int} {f : Int → Int} (h : lo ≤ j ∧ j < hi) : mfill M a lo hi f a j = f j := by
  unfold mfill; rw [if_pos ⟨rfl, h⟩]
theorem mf_a {M : Mem} {a b : Nat} {lo hi j : Int} {f : Int → Int} (h : b ≠ a) : mfill M a lo hi f b j = M b j := by
  unfold mfill; rw [if_neg (fun q => h q.1)]
theorem mf_o {M : Mem} {a b : Nat} {lo hi j : Int} {f : Int → Int} (h : j < lo ∨ hi ≤ j) : mfill M a lo hi f b j = M b j := by
  unfold mfill; rw [if_neg (by omega)]
theorem mc_in {M : Mem} {a b : Nat} {sp dp n j : Int} (h : dp ≤ j ∧ j < dp + n) : mcpy M a sp b dp n b j = M a (sp + (j - dp)) := by
  unfold mcpy; rw [if_pos ⟨rfl, h⟩]
theorem mc_a {M : Mem} {a b c : Nat} {sp dp n j : Int} (h : c ≠ b) : mcpy M a sp b dp n c j = M c j := by
  unfold mcpy; rw [if_neg (fun q => h q.1)]
theorem mc_o {M : Mem} {a b c : Nat} {sp dp n j : Int} (h : j < dp ∨ dp + n ≤ j) : mcpy M a sp b dp n c j = M c j := by
  unfold mcpy; rw [if_neg (by omega)]
theorem Bd.fill {M : Mem} (h : Bd M) (a : Nat) (lo hi : Int) {f : Int → Int} (hf : ∀ j, lo ≤ j → j < hi → inR (f j)) : Bd (mfill M a lo hi f) := by
  intro b j hb
  unfold mfill
  split
  · rename_i hc; exact hf j hc.2.1 hc.2.2
  · exact h b j hb
def b2i (p : Prop) [Decidable p] : Int := if p then 1 else 0
/-! the abstract state: nodes, links, their first ends, second ends, lengths; labels; entries -/
abbrev Sg : Type := Nat × Nat × (Nat → Nat) × (Nat → Nat) × (Nat → Nat) × (Nat → Nat) × (Nat → Nat → Int)
abbrev sN (s : Sg) : Nat := s.1
abbrev sK (s : Sg) : Nat := s.2.1
abbrev sF (s : Sg) : Nat → Nat := s.2.2.1
abbrev sS (s : Sg) : Nat → Nat := s.2.2.2.1
abbrev sL (s : Sg) : Nat → Nat := s.2.2.2.2.1
abbrev sB (s : Sg) : Nat → Nat := s.2.2.2.2.2.1
abbrev sE (s : Sg) : Nat → Nat → Int := s.2.2.2.2.2.2
/-- the class's State at r holds s -/
def SC (r : Nat) (M : Mem) (s : Sg) : Prop := M r 0 = sN s ∧ M r 1 = sK s ∧ (∀ i, i < sK s → M (r + 1) i = sF s i ∧ M (r + 2) i = sS s i ∧ M (r + 3) i = sL s i) ∧ (∀ v, v < sN s → M (r + 4) v = sB s v) ∧ ∀ v l, v < sN s → l < sN s → M (r + 5) (v * 9 + l) = sE s v l
/-- the model's row at a from o on holds s -/
def SM (a : Nat) (o : Int) (M : Mem) (s : Sg) : Prop := M a o = sN s ∧ M a (o + 1) = sK s ∧ (∀ i, i < sK s → M a (o + (2 + 3 * i)) = sF s i ∧ M a (o + (3 + 3 * i)) = sS s i ∧ M a (o + (4 + 3 * i)) = sL s i) ∧ (∀ v, v < sN s → M a (o + (50 + v)) = sB s v) ∧ ∀ v l, v < sN s → l < sN s → M a (o + (59 + 9 * v + l)) = sE s v l + 1
/-- the network is one: at most 9 nodes and 16 links, ends, lengths, no two links alike -/
def WN (s : Sg) : Prop := sN s ≤ 9 ∧ sK s ≤ 16 ∧ (∀ i, i < sK s → sF s i < sN s ∧ sS s i < sN s ∧ sF s i ≠ sS s i ∧ 1 ≤ sL s i ∧ sL s i ≤ 9) ∧ ∀ i j, i < sK s → j < i → ¬ (sF s i = sF s j ∧ sS s i = sS s j) ∧ ¬ (sF s i = sS s j ∧ sS s i = sF s j)
def WB (s : Sg) : Prop := (∀ v, v < sN s → sB s v < sN s) ∧ ∀ v w, v < sN s → w < v → sB s v ≠ sB s w
def WE (s : Sg) : Prop := ∀ v l, v < sN s → l < sN s → (sE s v l = -1 ∨ ∃ i : Nat, i < sK s ∧ sE s v l = i ∧ (sF s i = v ∨ sS s i = v)) ∧ (sB s v = l → sE s v l = -1)
def WF (s : Sg) : Prop := WN s ∧ WB s ∧ WE s
/-! leaves of the class -/
theorem touches_eq {r : Nat} {M : Mem} {s : Sg} (h : SC r M s) (w : WN s) {i v : Nat} (hi : i < sK s) (hv : v < 100) : f_X6_touches r i v M = some (b2i (sF s i = v ∨ sS s i = v)) := by
  obtain ⟨h1, h2, h3, -, -⟩ := h
  obtain ⟨w1, w2, -, -⟩ := w
  obtain ⟨a1, a2, a3⟩ := h3 i hi
  unfold f_X6_touches b2i
  rw [chk_t (by omega), chk_t (by omega), a1, a2]
  by_cases c1 : sF s i = v
  · rw [if_pos (by omega), if_pos (Or.inl c1)]
  · rw [if_neg (by omega)]
    by_cases c2 : sS s i = v
    · rw [if_pos (by omega), if_pos (Or.inr c2)]
    · rw [if_neg (by omega), if_neg (by omega)]
theorem otherEnd_eq {r : Nat} {M : Mem} {s : Sg} (h : SC r M s) (w : WN s) {i v : Nat} (hi : i < sK s) (hv : v < 100) : f_X6_otherEnd r i v M = some ((if sF s i = v then sS s i else sF s i : Nat) : Int) := by
  obtain ⟨h1, h2, h3, -, -⟩ := h
  obtain ⟨w1, w2, -, -⟩ := w
  obtain ⟨a1, a2, a3⟩ := h3 i hi
  unfold f_X6_otherEnd
  rw [chk_t (by omega), chk_t (by omega), a1, a2]
  by_cases c1 : sF s i = v
  · rw [if_pos (by omega), if_pos c1]
  · rw [if_neg (by omega), if_neg c1]
