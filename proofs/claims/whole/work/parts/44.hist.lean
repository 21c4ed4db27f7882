/-! frames, and what is saved -/
theorem SC.fr {r : Nat} {M M' : Mem} {s : Sg} (h : SC r M s) (f : ∀ a i, r ≤ a → a < r + 6 → M' a i = M a i) : SC r M' s := by
  obtain ⟨h1, h2, h3, h4, h5⟩ := h
  refine ⟨?_, ?_, fun i hi => ?_, fun v hv => ?_, fun v l hv hl => ?_⟩
  · rw [f r 0 (by omega) (by omega)]; exact h1
  · rw [f r 1 (by omega) (by omega)]; exact h2
  · rw [f (r + 1) i (by omega) (by omega), f (r + 2) i (by omega) (by omega), f (r + 3) i (by omega) (by omega)]; exact h3 i hi
  · rw [f (r + 4) v (by omega) (by omega)]; exact h4 v hv
  · rw [f (r + 5) _ (by omega) (by omega)]; exact h5 v l hv hl
theorem SM.fr {a : Nat} {o : Int} {M M' : Mem} {s : Sg} (h : SM a o M s) (f : ∀ i, o ≤ i → i < o + 140 → M' a i = M a i) (w : WN s) : SM a o M' s := by
  obtain ⟨h1, h2, h3, h4, h5⟩ := h
  have w1 := w.1
  have w2 := w.2.1
  refine ⟨?_, ?_, fun i hi => ?_, fun v hv => ?_, fun v l hv hl => ?_⟩
  · rw [f o (by omega) (by omega)]; exact h1
  · rw [f _ (by omega) (by omega)]; exact h2
  · rw [f (o + (2 + 3 * i)) (by omega) (by omega), f (o + (3 + 3 * i)) (by omega) (by omega), f (o + (4 + 3 * i)) (by omega) (by omega)]; exact h3 i hi
  · rw [f _ (by omega) (by omega)]; exact h4 v hv
  · rw [f _ (by omega) (by omega)]; exact h5 v l hv hl
/-- a row of 140 moved -/
theorem SM.mv {a b : Nat} {o p : Int} {M M' : Mem} {s : Sg} (h : SM a o M s) (w : WN s) (f : ∀ i, 0 ≤ i → i < 140 → M' b (p + i) = M a (o + i)) : SM b p M' s := by
  obtain ⟨h1, h2, h3, h4, h5⟩ := h
  have w1 := w.1
  have w2 := w.2.1
  refine ⟨?_, ?_, fun i hi => ?_, fun v hv => ?_, fun v l hv hl => ?_⟩
  · have := f 0 (by omega) (by omega)
    rw [Int.add_zero, Int.add_zero] at this
    rw [this]; exact h1
  · rw [f 1 (by omega) (by omega)]; exact h2
  · rw [f _ (by omega) (by omega), f _ (by omega) (by omega), f _ (by omega) (by omega)]; exact h3 i hi
  · rw [f _ (by omega) (by omega)]; exact h4 v hv
  · rw [f _ (by omega) (by omega)]; exact h5 v l hv hl
theorem copy_ok {r o : Nat} {M : Mem} {s : Sg} (h : SC o M s) (w : WN s) (hd : r + 5 < o ∨ o + 5 < r) : ∃ M', f_X6_copyFrom r o M = some M' ∧ SC r M' s := by
  obtain ⟨h1, h2, h3, h4, h5⟩ := h
  have w1 := w.1
  have w2 := w.2.1
  refine ⟨mcpy (mcpy (mcpy (mcpy (mcpy (mset (mset M r 0 (M o 0)) r 1 ((mset M r 0 (M o 0)) o 1)) (o + 1) 0 (r + 1) 0 16) (o + 2) 0 (r + 2) 0 16) (o + 3) 0 (r + 3) 0 16) (o + 4) 0 (r + 4) 0 9) (o + 5) 0 (r + 5) 0 81, rfl, ?_, ?_, fun i hi => ⟨?_, ?_, ?_⟩, fun v hv => ?_, fun v l hv hl => ?_⟩
  · rw [mc_a (by omega), mc_a (by omega), mc_a (by omega), mc_a (by omega), mc_a (by omega), ms_i (by decide), ms_eq]; exact h1
  · rw [mc_a (by omega), mc_a (by omega), mc_a (by omega), mc_a (by omega), mc_a (by omega), ms_eq, ms_a (by omega)]; exact h2
  · rw [mc_a (by omega), mc_a (by omega), mc_a (by omega), mc_a (by omega), mc_in (by omega), ms_a (by omega), ms_a (by omega), show (0 : Int) + (i - 0) = i by omega]; exact (h3 i hi).1
  · rw [mc_a (by omega), mc_a (by omega), mc_a (by omega), mc_in (by omega), mc_a (by omega), ms_a (by omega), ms_a (by omega), show (0 : Int) + (i - 0) = i by omega]; exact (h3 i hi).2.1
  · rw [mc_a (by omega), mc_a (by omega), mc_in (by omega), mc_a (by omega), mc_a (by omega), ms_a (by omega), ms_a (by omega), show (0 : Int) + (i - 0) = i by omega]; exact (h3 i hi).2.2
  · rw [mc_a (by omega), mc_in (by omega), mc_a (by omega), mc_a (by omega), mc_a (by omega), ms_a (by omega), ms_a (by omega), show (0 : Int) + (v - 0) = v by omega]; exact h4 v hv
  · rw [mc_in (by omega), mc_a (by omega), mc_a (by omega), mc_a (by omega), mc_a (by omega), ms_a (by omega), ms_a (by omega), show (0 : Int) + (((v : Int) * 9 + l) - 0) = v * 9 + l by omega]; exact h5 v l hv hl
/-- the history of the class -/
def HC (M : Mem) (c : Nat) (hs : Nat → Sg) : Prop := c ≤ 4 ∧ M 13 0 = c ∧ ∃ ad : Nat → Nat, (∀ i, i < 4 → (ad i = 15 ∨ ad i = 21 ∨ ad i = 27 ∨ ad i = 33) ∧ M 14 i = ad i) ∧ (∀ i j, i < 4 → j < 4 → ad i = ad j → i = j) ∧ ∀ i, i < c → SC (ad i) M (hs i)
/-- the history of the model -/
def HM (M : Mem) (c : Nat) (hs : Nat → Sg) : Prop := c ≤ 4 ∧ M 64 2 = c ∧ ∀ i, i < c → SM 66 (140 * i) M (hs i)
def pushC (c : Nat) : Nat := if c = 4 then 4 else c + 1
def pushH (c : Nat) (hs : Nat → Sg) (s : Sg) : Nat → Sg := if c = 4 then fun i => if i = 3 then s else hs (i + 1) else fun i => if i = c then s else hs i
theorem HC.fr {M M' : Mem} {c : Nat} {hs : Nat → Sg} (h : HC M c hs) (f : ∀ a i, 13 ≤ a → a < 39 → M' a i = M a i) : HC M' c hs := by
  obtain ⟨h1, h2, ad, h3, h4, h5⟩ := h
  refine ⟨h1, by rw [f 13 0 (by omega) (by omega)]; exact h2, ad, fun i hi => ⟨(h3 i hi).1, by rw [f 14 i (by omega) (by omega)]; exact (h3 i hi).2⟩, h4, fun i hi => ?_⟩
  have := (h3 i (by omega)).1
  exact (h5 i hi).fr (fun a j q1 q2 => f a j (by omega) (by omega))
theorem HM.fr {M M' : Mem} {c : Nat} {hs : Nat → Sg} (h : HM M c hs) (w : ∀ i, i < c → WN (hs i)) (f0 : M' 64 2 = M 64 2) (f : ∀ i, M' 66 i = M 66 i) : HM M' c hs := by
  obtain ⟨h1, h2, h3⟩ := h
  exact ⟨h1, by rw [f0]; exact h2, fun i hi => (h3 i hi).fr (fun j _ _ => f j) (w i hi)⟩
theorem isSt {a : Nat} (h : a = 15 ∨ a = 21 ∨ a = 27 ∨ a = 33) : shT[a]? = some (.inl 6) := by
  rcases h with rfl | rfl | rfl | rfl <;> rfl
