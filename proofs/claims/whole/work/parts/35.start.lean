def M0 : Mem := fun a i => if a = 6 ∨ a = 12 ∨ a = 20 ∨ a = 26 ∨ a = 32 ∨ a = 38 then -1 else if a = 14 then (if i = 0 then 15 else if i = 1 then 21 else if i = 2 then 27 else 33) else 0
theorem M0_B : Bd M0 := by
  intro a i _
  unfold M0
  split
  · decide
  · split
    · split
      · decide
      · split
        · decide
        · split <;> decide
    · decide
abbrev esR (G : gC) : List va_E := [.inr (9, [.ref (G.2.2 + 1), .ref (G.2.2 + 7), .ref (G.2.2 + 13), .ref (G.2.2 + 39), .ref (G.2.2 + 44), .ref (G.2.2 + 46), .ref (G.2.2 + 51), .ref (G.2.2 + 57), .ref (G.2.2 + 60), .ref (G.2.2 + 62)]), .inr (6, [.int 0, .int 0, .ref (G.2.2 + 2), .ref (G.2.2 + 3), .ref (G.2.2 + 4), .ref (G.2.2 + 5), .ref (G.2.2 + 6)]), .inl (G.2.1 0, 16, .inl (fun _ => 0)), .inl (G.2.1 0, 16, .inl (fun _ => 0)), .inl (G.2.1 0, 16, .inl (fun _ => 0)), .inl (G.2.1 0, 9, .inl (fun _ => 0)), fA G 81 (-1), .inr (6, [.int 0, .int 0, .ref (G.2.2 + 8), .ref (G.2.2 + 9), .ref (G.2.2 + 10), .ref (G.2.2 + 11), .ref (G.2.2 + 12)]), .inl (G.2.1 0, 16, .inl (fun _ => 0)), .inl (G.2.1 0, 16, .inl (fun _ => 0)), .inl (G.2.1 0, 16, .inl (fun _ => 0)), .inl (G.2.1 0, 9, .inl (fun _ => 0)), fA G 81 (-1), .inr (0, [.int 0, .ref (G.2.2 + 14)]), .inl (G.2.1 2, 4, .inr (.inr (.inr (.inr (va_up (va_up (va_up (va_up (fun _ => none) 0 (some (G.2.2 + 15))) 1 (some (G.2.2 + 21))) 2 (some (G.2.2 + 27))) 3 (some (G.2.2 + 33))))))), .inr (6, [.int 0, .int 0, .ref (G.2.2 + 16), .ref (G.2.2 + 17), .ref (G.2.2 + 18), .ref (G.2.2 + 19), .ref (G.2.2 + 20)]), .inl (G.2.1 0, 16, .inl (fun _ => 0)), .inl (G.2.1 0, 16, .inl (fun _ => 0)), .inl (G.2.1 0, 16, .inl (fun _ => 0)), .inl (G.2.1 0, 9, .inl (fun _ => 0)), fA G 81 (-1), .inr (6, [.int 0, .int 0, .ref (G.2.2 + 22), .ref (G.2.2 + 23), .ref (G.2.2 + 24), .ref (G.2.2 + 25), .ref (G.2.2 + 26)]), .inl (G.2.1 0, 16, .inl (fun _ => 0)), .inl (G.2.1 0, 16, .inl (fun _ => 0)), .inl (G.2.1 0, 16, .inl (fun _ => 0)), .inl (G.2.1 0, 9, .inl (fun _ => 0)), fA G 81 (-1), .inr (6, [.int 0, .int 0, .ref (G.2.2 + 28), .ref (G.2.2 + 29), .ref (G.2.2 + 30), .ref (G.2.2 + 31), .ref (G.2.2 + 32)]), .inl (G.2.1 0, 16, .inl (fun _ => 0)), .inl (G.2.1 0, 16, .inl (fun _ => 0)), .inl (G.2.1 0, 16, .inl (fun _ => 0)), .inl (G.2.1 0, 9, .inl (fun _ => 0)), fA G 81 (-1), .inr (6, [.int 0, .int 0, .ref (G.2.2 + 34), .ref (G.2.2 + 35), .ref (G.2.2 + 36), .ref (G.2.2 + 37), .ref (G.2.2 + 38)]), .inl (G.2.1 0, 16, .inl (fun _ => 0)), .inl (G.2.1 0, 16, .inl (fun _ => 0)), .inl (G.2.1 0, 16, .inl (fun _ => 0)), .inl (G.2.1 0, 9, .inl (fun _ => 0)), fA G 81 (-1), .inr (8, [.ref (G.2.2 + 40), .ref (G.2.2 + 41), .ref (G.2.2 + 42), .ref (G.2.2 + 43)]), .inl (G.2.1 0, 81, .inl (fun _ => 0)), .inl (G.2.1 0, 81, .inl (fun _ => 0)), .inl (G.2.1 0, 648, .inl (fun _ => 0)), .inl (G.2.1 0, 81, .inl (fun _ => 0)), .inr (4, [.int 0, .ref (G.2.2 + 45)]), .inl (G.2.1 0, 9, .inl (fun _ => 0)), .inr (7, [.int 0, .ref (G.2.2 + 47), .ref (G.2.2 + 48), .ref (G.2.2 + 49), .ref (G.2.2 + 50)]), .inl (G.2.1 0, 9, .inl (fun _ => 0)), .inl (G.2.1 0, 9, .inl (fun _ => 0)), .inl (G.2.1 0, 72, .inl (fun _ => 0)), .inl (G.2.1 0, 72, .inl (fun _ => 0)), .inr (5, [.int 0, .int 0, .int 0, .int 0, .int 0, .ref (G.2.2 + 52), .ref (G.2.2 + 53), .ref (G.2.2 + 54), .ref (G.2.2 + 55)]), .inl (G.2.1 0, 6, .inl (fun _ => 0)), .inl (G.2.1 0, 6, .inl (fun _ => 0)), .inl (G.2.1 0, 10, .inl (fun _ => 0)), .inr (4, [.int 0, .ref (G.2.2 + 56)]), .inl (G.2.1 0, 9, .inl (fun _ => 0)), .inr (2, [.int 0, .int 0, .int 0, .ref (G.2.2 + 58), .ref (G.2.2 + 59)]), .inl (G.2.1 0, 10, .inl (fun _ => 0)), .inl (G.2.1 0, 9, .inl (fun _ => 0)), .inr (1, [.ref (G.2.2 + 61)]), .inl (G.2.1 0, 9, .inl (fun _ => 0)), .inr (3, [.int 0, .ref (G.2.2 + 63)]), .inl (G.2.1 0, 100, .inl (fun _ => 0))]
abbrev esM (G : gC) : List va_E := [.inr (10, [.ref ((G.2.2 + 64) + 1), .ref ((G.2.2 + 64) + 2), .int 0, .int 0, .ref ((G.2.2 + 64) + 3), .int 0, .ref ((G.2.2 + 64) + 4), .ref ((G.2.2 + 64) + 5), .ref ((G.2.2 + 64) + 6), .ref ((G.2.2 + 64) + 7), .int 0, .ref ((G.2.2 + 64) + 8), .ref ((G.2.2 + 64) + 9), .ref ((G.2.2 + 64) + 10), .int 0, .int 0, .int 0, .ref ((G.2.2 + 64) + 11), .ref ((G.2.2 + 64) + 12), .ref ((G.2.2 + 64) + 13), .int 0, .ref ((G.2.2 + 64) + 14), .long 0]), .inl (G.2.1 0, 140, .inl (fun _ => 0)), .inl (G.2.1 0, 560, .inl (fun _ => 0)), .inl (G.2.1 0, 100, .inl (fun _ => 0)), .inl (G.2.1 0, 81, .inl (fun _ => 0)), .inl (G.2.1 0, 9, .inl (fun _ => 0)), .inl (G.2.1 0, 8, .inl (fun _ => 0)), .inl (G.2.1 0, 8, .inl (fun _ => 0)), .inl (G.2.1 0, 8, .inl (fun _ => 0)), .inl (G.2.1 0, 153, .inl (fun _ => 0)), .inl (G.2.1 0, 10, .inl (fun _ => 0)), .inl (G.2.1 0, 9, .inl (fun _ => 0)), .inl (G.2.1 0, 9, .inl (fun _ => 0)), .inl (G.2.1 0, 10, .inl (fun _ => 0)), .inl (G.2.1 0, 140, .inl (fun _ => 0))]
abbrev esO (G : gC) : va_E := .inl (G.2.1 1, 1, .inr (.inl (fun _ => 0)))
theorem at_cong_i {D : va_G} {a n : Nat} {cA : ClassId} {f g : Nat → Int32} {H : Heap} (h : ∀ j, j < n → f j = g j) (hf : va_at D vwCl (a, .inl (cA, n, .inl f)) H) : va_at D vwCl (a, .inl (cA, n, .inl g)) H := by
  have e : arrV cA n (fun j => Value.int (f j)) = arrV cA n (fun j => Value.int (g j)) := by
    unfold arrV
    congr 1
    apply Array.ext
    · simp
    · intro j h1 h2
      simp only [Array.getElem_ofFn]
      rw [h j (by simpa using h1)]
  show H[a]? = some (arrV cA n (fun j => Value.int (g j)))
  rw [← e]; exact hf
theorem at_cong_q {D : va_G} {a n : Nat} {cA : ClassId} {f g : Nat → Option Nat} {H : Heap} (h : ∀ j, j < n → f j = g j) (hf : va_at D vwCl (a, .inl (cA, n, .inr (.inr (.inr (.inr f))))) H) : va_at D vwCl (a, .inl (cA, n, .inr (.inr (.inr (.inr g))))) H := by
  have e : arrV cA n (fun j => va_rf (f j)) = arrV cA n (fun j => va_rf (g j)) := by
    unfold arrV
    congr 1
    apply Array.ext
    · simp
    · intro j h1 h2
      simp only [Array.getElem_ofFn]
      rw [h j (by simpa using h1)]
  show H[a]? = some (arrV cA n (fun j => va_rf (g j)))
  rw [← e]; exact hf
theorem cv_0 (G : gC) {H : Heap} (h : va_at G.1 vwCl (G.2.2 + 0, .inr (9, [.ref (G.2.2 + 1), .ref (G.2.2 + 7), .ref (G.2.2 + 13), .ref (G.2.2 + 39), .ref (G.2.2 + 44), .ref (G.2.2 + 46), .ref (G.2.2 + 51), .ref (G.2.2 + 57), .ref (G.2.2 + 60), .ref (G.2.2 + 62)])) H) : va_at G.1 vwCl (G.2.2 + 0, ent G M0 0) H := h
theorem cv_1 (G : gC) {H : Heap} (h : va_at G.1 vwCl (G.2.2 + 1, .inr (6, [.int 0, .int 0, .ref (G.2.2 + 2), .ref (G.2.2 + 3), .ref (G.2.2 + 4), .ref (G.2.2 + 5), .ref (G.2.2 + 6)])) H) : va_at G.1 vwCl (G.2.2 + 1, ent G M0 1) H := h
theorem cv_2 (G : gC) {H : Heap} (h : va_at G.1 vwCl (G.2.2 + 2, .inl (G.2.1 0, 16, .inl (fun _ => 0))) H) : va_at G.1 vwCl (G.2.2 + 2, ent G M0 2) H := h
theorem cv_3 (G : gC) {H : Heap} (h : va_at G.1 vwCl (G.2.2 + 3, .inl (G.2.1 0, 16, .inl (fun _ => 0))) H) : va_at G.1 vwCl (G.2.2 + 3, ent G M0 3) H := h
theorem cv_4 (G : gC) {H : Heap} (h : va_at G.1 vwCl (G.2.2 + 4, .inl (G.2.1 0, 16, .inl (fun _ => 0))) H) : va_at G.1 vwCl (G.2.2 + 4, ent G M0 4) H := h
theorem cv_5 (G : gC) {H : Heap} (h : va_at G.1 vwCl (G.2.2 + 5, .inl (G.2.1 0, 9, .inl (fun _ => 0))) H) : va_at G.1 vwCl (G.2.2 + 5, ent G M0 5) H := h
theorem cv_6 (G : gC) {H : Heap} (h : va_at G.1 vwCl (G.2.2 + 6, fA G 81 (-1)) H) : va_at G.1 vwCl (G.2.2 + 6, ent G M0 6) H := by
  rw [ent_i sh_6]
  refine at_cong_i (fun j hj => ?_) h
  rw [if_pos hj]; rfl
theorem cv_7 (G : gC) {H : Heap} (h : va_at G.1 vwCl (G.2.2 + 7, .inr (6, [.int 0, .int 0, .ref (G.2.2 + 8), .ref (G.2.2 + 9), .ref (G.2.2 + 10), .ref (G.2.2 + 11), .ref (G.2.2 + 12)])) H) : va_at G.1 vwCl (G.2.2 + 7, ent G M0 7) H := h
theorem cv_8 (G : gC) {H : Heap} (h : va_at G.1 vwCl (G.2.2 + 8, .inl (G.2.1 0, 16, .inl (fun _ => 0))) H) : va_at G.1 vwCl (G.2.2 + 8, ent G M0 8) H := h
theorem cv_9 (G : gC) {H : Heap} (h : va_at G.1 vwCl (G.2.2 + 9, .inl (G.2.1 0, 16, .inl (fun _ => 0))) H) : va_at G.1 vwCl (G.2.2 + 9, ent G M0 9) H := h
theorem cv_10 (G : gC) {H : Heap} (h : va_at G.1 vwCl (G.2.2 + 10, .inl (G.2.1 0, 16, .inl (fun _ => 0))) H) : va_at G.1 vwCl (G.2.2 + 10, ent G M0 10) H := h
theorem cv_11 (G : gC) {H : Heap} (h : va_at G.1 vwCl (G.2.2 + 11, .inl (G.2.1 0, 9, .inl (fun _ => 0))) H) : va_at G.1 vwCl (G.2.2 + 11, ent G M0 11) H := h
theorem cv_12 (G : gC) {H : Heap} (h : va_at G.1 vwCl (G.2.2 + 12, fA G 81 (-1)) H) : va_at G.1 vwCl (G.2.2 + 12, ent G M0 12) H := by
  rw [ent_i sh_12]
  refine at_cong_i (fun j hj => ?_) h
  rw [if_pos hj]; rfl
theorem cv_13 (G : gC) {H : Heap} (h : va_at G.1 vwCl (G.2.2 + 13, .inr (0, [.int 0, .ref (G.2.2 + 14)])) H) : va_at G.1 vwCl (G.2.2 + 13, ent G M0 13) H := h
theorem cv_14 (G : gC) {H : Heap} (h : va_at G.1 vwCl (G.2.2 + 14, .inl (G.2.1 2, 4, .inr (.inr (.inr (.inr (va_up (va_up (va_up (va_up (fun _ => none) 0 (some (G.2.2 + 15))) 1 (some (G.2.2 + 21))) 2 (some (G.2.2 + 27))) 3 (some (G.2.2 + 33)))))))) H) : va_at G.1 vwCl (G.2.2 + 14, ent G M0 14) H := by
  rw [ent_q sh_14]
  refine at_cong_q (fun j hj => ?_) h
  match j, hj with
  | 0, _ => rfl
  | 1, _ => rfl
  | 2, _ => rfl
  | 3, _ => rfl
  | j + 4, hj => exact absurd hj (by omega)
theorem cv_15 (G : gC) {H : Heap} (h : va_at G.1 vwCl (G.2.2 + 15, .inr (6, [.int 0, .int 0, .ref (G.2.2 + 16), .ref (G.2.2 + 17), .ref (G.2.2 + 18), .ref (G.2.2 + 19), .ref (G.2.2 + 20)])) H) : va_at G.1 vwCl (G.2.2 + 15, ent G M0 15) H := h
theorem cv_16 (G : gC) {H : Heap} (h : va_at G.1 vwCl (G.2.2 + 16, .inl (G.2.1 0, 16, .inl (fun _ => 0))) H) : va_at G.1 vwCl (G.2.2 + 16, ent G M0 16) H := h
theorem cv_17 (G : gC) {H : Heap} (h : va_at G.1 vwCl (G.2.2 + 17, .inl (G.2.1 0, 16, .inl (fun _ => 0))) H) : va_at G.1 vwCl (G.2.2 + 17, ent G M0 17) H := h
theorem cv_18 (G : gC) {H : Heap} (h : va_at G.1 vwCl (G.2.2 + 18, .inl (G.2.1 0, 16, .inl (fun _ => 0))) H) : va_at G.1 vwCl (G.2.2 + 18, ent G M0 18) H := h
theorem cv_19 (G : gC) {H : Heap} (h : va_at G.1 vwCl (G.2.2 + 19, .inl (G.2.1 0, 9, .inl (fun _ => 0))) H) : va_at G.1 vwCl (G.2.2 + 19, ent G M0 19) H := h
theorem cv_20 (G : gC) {H : Heap} (h : va_at G.1 vwCl (G.2.2 + 20, fA G 81 (-1)) H) : va_at G.1 vwCl (G.2.2 + 20, ent G M0 20) H := by
  rw [ent_i sh_20]
  refine at_cong_i (fun j hj => ?_) h
  rw [if_pos hj]; rfl
theorem cv_21 (G : gC) {H : Heap} (h : va_at G.1 vwCl (G.2.2 + 21, .inr (6, [.int 0, .int 0, .ref (G.2.2 + 22), .ref (G.2.2 + 23), .ref (G.2.2 + 24), .ref (G.2.2 + 25), .ref (G.2.2 + 26)])) H) : va_at G.1 vwCl (G.2.2 + 21, ent G M0 21) H := h
theorem cv_22 (G : gC) {H : Heap} (h : va_at G.1 vwCl (G.2.2 + 22, .inl (G.2.1 0, 16, .inl (fun _ => 0))) H) : va_at G.1 vwCl (G.2.2 + 22, ent G M0 22) H := h
theorem cv_23 (G : gC) {H : Heap} (h : va_at G.1 vwCl (G.2.2 + 23, .inl (G.2.1 0, 16, .inl (fun _ => 0))) H) : va_at G.1 vwCl (G.2.2 + 23, ent G M0 23) H := h
theorem cv_24 (G : gC) {H : Heap} (h : va_at G.1 vwCl (G.2.2 + 24, .inl (G.2.1 0, 16, .inl (fun _ => 0))) H) : va_at G.1 vwCl (G.2.2 + 24, ent G M0 24) H := h
theorem cv_25 (G : gC) {H : Heap} (h : va_at G.1 vwCl (G.2.2 + 25, .inl (G.2.1 0, 9, .inl (fun _ => 0))) H) : va_at G.1 vwCl (G.2.2 + 25, ent G M0 25) H := h
theorem cv_26 (G : gC) {H : Heap} (h : va_at G.1 vwCl (G.2.2 + 26, fA G 81 (-1)) H) : va_at G.1 vwCl (G.2.2 + 26, ent G M0 26) H := by
  rw [ent_i sh_26]
  refine at_cong_i (fun j hj => ?_) h
  rw [if_pos hj]; rfl
theorem cv_27 (G : gC) {H : Heap} (h : va_at G.1 vwCl (G.2.2 + 27, .inr (6, [.int 0, .int 0, .ref (G.2.2 + 28), .ref (G.2.2 + 29), .ref (G.2.2 + 30), .ref (G.2.2 + 31), .ref (G.2.2 + 32)])) H) : va_at G.1 vwCl (G.2.2 + 27, ent G M0 27) H := h
theorem cv_28 (G : gC) {H : Heap} (h : va_at G.1 vwCl (G.2.2 + 28, .inl (G.2.1 0, 16, .inl (fun _ => 0))) H) : va_at G.1 vwCl (G.2.2 + 28, ent G M0 28) H := h
theorem cv_29 (G : gC) {H : Heap} (h : va_at G.1 vwCl (G.2.2 + 29, .inl (G.2.1 0, 16, .inl (fun _ => 0))) H) : va_at G.1 vwCl (G.2.2 + 29, ent G M0 29) H := h
theorem cv_30 (G : gC) {H : Heap} (h : va_at G.1 vwCl (G.2.2 + 30, .inl (G.2.1 0, 16, .inl (fun _ => 0))) H) : va_at G.1 vwCl (G.2.2 + 30, ent G M0 30) H := h
theorem cv_31 (G : gC) {H : Heap} (h : va_at G.1 vwCl (G.2.2 + 31, .inl (G.2.1 0, 9, .inl (fun _ => 0))) H) : va_at G.1 vwCl (G.2.2 + 31, ent G M0 31) H := h
theorem cv_32 (G : gC) {H : Heap} (h : va_at G.1 vwCl (G.2.2 + 32, fA G 81 (-1)) H) : va_at G.1 vwCl (G.2.2 + 32, ent G M0 32) H := by
  rw [ent_i sh_32]
  refine at_cong_i (fun j hj => ?_) h
  rw [if_pos hj]; rfl
theorem cv_33 (G : gC) {H : Heap} (h : va_at G.1 vwCl (G.2.2 + 33, .inr (6, [.int 0, .int 0, .ref (G.2.2 + 34), .ref (G.2.2 + 35), .ref (G.2.2 + 36), .ref (G.2.2 + 37), .ref (G.2.2 + 38)])) H) : va_at G.1 vwCl (G.2.2 + 33, ent G M0 33) H := h
theorem cv_34 (G : gC) {H : Heap} (h : va_at G.1 vwCl (G.2.2 + 34, .inl (G.2.1 0, 16, .inl (fun _ => 0))) H) : va_at G.1 vwCl (G.2.2 + 34, ent G M0 34) H := h
theorem cv_35 (G : gC) {H : Heap} (h : va_at G.1 vwCl (G.2.2 + 35, .inl (G.2.1 0, 16, .inl (fun _ => 0))) H) : va_at G.1 vwCl (G.2.2 + 35, ent G M0 35) H := h
theorem cv_36 (G : gC) {H : Heap} (h : va_at G.1 vwCl (G.2.2 + 36, .inl (G.2.1 0, 16, .inl (fun _ => 0))) H) : va_at G.1 vwCl (G.2.2 + 36, ent G M0 36) H := h
theorem cv_37 (G : gC) {H : Heap} (h : va_at G.1 vwCl (G.2.2 + 37, .inl (G.2.1 0, 9, .inl (fun _ => 0))) H) : va_at G.1 vwCl (G.2.2 + 37, ent G M0 37) H := h
theorem cv_38 (G : gC) {H : Heap} (h : va_at G.1 vwCl (G.2.2 + 38, fA G 81 (-1)) H) : va_at G.1 vwCl (G.2.2 + 38, ent G M0 38) H := by
  rw [ent_i sh_38]
  refine at_cong_i (fun j hj => ?_) h
  rw [if_pos hj]; rfl
theorem cv_39 (G : gC) {H : Heap} (h : va_at G.1 vwCl (G.2.2 + 39, .inr (8, [.ref (G.2.2 + 40), .ref (G.2.2 + 41), .ref (G.2.2 + 42), .ref (G.2.2 + 43)])) H) : va_at G.1 vwCl (G.2.2 + 39, ent G M0 39) H := h
theorem cv_40 (G : gC) {H : Heap} (h : va_at G.1 vwCl (G.2.2 + 40, .inl (G.2.1 0, 81, .inl (fun _ => 0))) H) : va_at G.1 vwCl (G.2.2 + 40, ent G M0 40) H := h
theorem cv_41 (G : gC) {H : Heap} (h : va_at G.1 vwCl (G.2.2 + 41, .inl (G.2.1 0, 81, .inl (fun _ => 0))) H) : va_at G.1 vwCl (G.2.2 + 41, ent G M0 41) H := h
theorem cv_42 (G : gC) {H : Heap} (h : va_at G.1 vwCl (G.2.2 + 42, .inl (G.2.1 0, 648, .inl (fun _ => 0))) H) : va_at G.1 vwCl (G.2.2 + 42, ent G M0 42) H := h
theorem cv_43 (G : gC) {H : Heap} (h : va_at G.1 vwCl (G.2.2 + 43, .inl (G.2.1 0, 81, .inl (fun _ => 0))) H) : va_at G.1 vwCl (G.2.2 + 43, ent G M0 43) H := h
theorem cv_44 (G : gC) {H : Heap} (h : va_at G.1 vwCl (G.2.2 + 44, .inr (4, [.int 0, .ref (G.2.2 + 45)])) H) : va_at G.1 vwCl (G.2.2 + 44, ent G M0 44) H := h
theorem cv_45 (G : gC) {H : Heap} (h : va_at G.1 vwCl (G.2.2 + 45, .inl (G.2.1 0, 9, .inl (fun _ => 0))) H) : va_at G.1 vwCl (G.2.2 + 45, ent G M0 45) H := h
theorem cv_46 (G : gC) {H : Heap} (h : va_at G.1 vwCl (G.2.2 + 46, .inr (7, [.int 0, .ref (G.2.2 + 47), .ref (G.2.2 + 48), .ref (G.2.2 + 49), .ref (G.2.2 + 50)])) H) : va_at G.1 vwCl (G.2.2 + 46, ent G M0 46) H := h
theorem cv_47 (G : gC) {H : Heap} (h : va_at G.1 vwCl (G.2.2 + 47, .inl (G.2.1 0, 9, .inl (fun _ => 0))) H) : va_at G.1 vwCl (G.2.2 + 47, ent G M0 47) H := h
theorem cv_48 (G : gC) {H : Heap} (h : va_at G.1 vwCl (G.2.2 + 48, .inl (G.2.1 0, 9, .inl (fun _ => 0))) H) : va_at G.1 vwCl (G.2.2 + 48, ent G M0 48) H := h
theorem cv_49 (G : gC) {H : Heap} (h : va_at G.1 vwCl (G.2.2 + 49, .inl (G.2.1 0, 72, .inl (fun _ => 0))) H) : va_at G.1 vwCl (G.2.2 + 49, ent G M0 49) H := h
theorem cv_50 (G : gC) {H : Heap} (h : va_at G.1 vwCl (G.2.2 + 50, .inl (G.2.1 0, 72, .inl (fun _ => 0))) H) : va_at G.1 vwCl (G.2.2 + 50, ent G M0 50) H := h
theorem cv_51 (G : gC) {H : Heap} (h : va_at G.1 vwCl (G.2.2 + 51, .inr (5, [.int 0, .int 0, .int 0, .int 0, .int 0, .ref (G.2.2 + 52), .ref (G.2.2 + 53), .ref (G.2.2 + 54), .ref (G.2.2 + 55)])) H) : va_at G.1 vwCl (G.2.2 + 51, ent G M0 51) H := h
theorem cv_52 (G : gC) {H : Heap} (h : va_at G.1 vwCl (G.2.2 + 52, .inl (G.2.1 0, 6, .inl (fun _ => 0))) H) : va_at G.1 vwCl (G.2.2 + 52, ent G M0 52) H := h
theorem cv_53 (G : gC) {H : Heap} (h : va_at G.1 vwCl (G.2.2 + 53, .inl (G.2.1 0, 6, .inl (fun _ => 0))) H) : va_at G.1 vwCl (G.2.2 + 53, ent G M0 53) H := h
theorem cv_54 (G : gC) {H : Heap} (h : va_at G.1 vwCl (G.2.2 + 54, .inl (G.2.1 0, 10, .inl (fun _ => 0))) H) : va_at G.1 vwCl (G.2.2 + 54, ent G M0 54) H := h
theorem cv_55 (G : gC) {H : Heap} (h : va_at G.1 vwCl (G.2.2 + 55, .inr (4, [.int 0, .ref (G.2.2 + 56)])) H) : va_at G.1 vwCl (G.2.2 + 55, ent G M0 55) H := h
theorem cv_56 (G : gC) {H : Heap} (h : va_at G.1 vwCl (G.2.2 + 56, .inl (G.2.1 0, 9, .inl (fun _ => 0))) H) : va_at G.1 vwCl (G.2.2 + 56, ent G M0 56) H := h
theorem cv_57 (G : gC) {H : Heap} (h : va_at G.1 vwCl (G.2.2 + 57, .inr (2, [.int 0, .int 0, .int 0, .ref (G.2.2 + 58), .ref (G.2.2 + 59)])) H) : va_at G.1 vwCl (G.2.2 + 57, ent G M0 57) H := h
theorem cv_58 (G : gC) {H : Heap} (h : va_at G.1 vwCl (G.2.2 + 58, .inl (G.2.1 0, 10, .inl (fun _ => 0))) H) : va_at G.1 vwCl (G.2.2 + 58, ent G M0 58) H := h
theorem cv_59 (G : gC) {H : Heap} (h : va_at G.1 vwCl (G.2.2 + 59, .inl (G.2.1 0, 9, .inl (fun _ => 0))) H) : va_at G.1 vwCl (G.2.2 + 59, ent G M0 59) H := h
theorem cv_60 (G : gC) {H : Heap} (h : va_at G.1 vwCl (G.2.2 + 60, .inr (1, [.ref (G.2.2 + 61)])) H) : va_at G.1 vwCl (G.2.2 + 60, ent G M0 60) H := h
theorem cv_61 (G : gC) {H : Heap} (h : va_at G.1 vwCl (G.2.2 + 61, .inl (G.2.1 0, 9, .inl (fun _ => 0))) H) : va_at G.1 vwCl (G.2.2 + 61, ent G M0 61) H := h
theorem cv_62 (G : gC) {H : Heap} (h : va_at G.1 vwCl (G.2.2 + 62, .inr (3, [.int 0, .ref (G.2.2 + 63)])) H) : va_at G.1 vwCl (G.2.2 + 62, ent G M0 62) H := h
theorem cv_63 (G : gC) {H : Heap} (h : va_at G.1 vwCl (G.2.2 + 63, .inl (G.2.1 0, 100, .inl (fun _ => 0))) H) : va_at G.1 vwCl (G.2.2 + 63, ent G M0 63) H := h
theorem cv_64 (G : gC) {H : Heap} (h : va_at G.1 vwCl (G.2.2 + 64, .inr (10, [.ref ((G.2.2 + 64) + 1), .ref ((G.2.2 + 64) + 2), .int 0, .int 0, .ref ((G.2.2 + 64) + 3), .int 0, .ref ((G.2.2 + 64) + 4), .ref ((G.2.2 + 64) + 5), .ref ((G.2.2 + 64) + 6), .ref ((G.2.2 + 64) + 7), .int 0, .ref ((G.2.2 + 64) + 8), .ref ((G.2.2 + 64) + 9), .ref ((G.2.2 + 64) + 10), .int 0, .int 0, .int 0, .ref ((G.2.2 + 64) + 11), .ref ((G.2.2 + 64) + 12), .ref ((G.2.2 + 64) + 13), .int 0, .ref ((G.2.2 + 64) + 14), .long 0])) H) : va_at G.1 vwCl (G.2.2 + 64, ent G M0 64) H := h
theorem cv_65 (G : gC) {H : Heap} (h : va_at G.1 vwCl (G.2.2 + 65, .inl (G.2.1 0, 140, .inl (fun _ => 0))) H) : va_at G.1 vwCl (G.2.2 + 65, ent G M0 65) H := h
theorem cv_66 (G : gC) {H : Heap} (h : va_at G.1 vwCl (G.2.2 + 66, .inl (G.2.1 0, 560, .inl (fun _ => 0))) H) : va_at G.1 vwCl (G.2.2 + 66, ent G M0 66) H := h
theorem cv_67 (G : gC) {H : Heap} (h : va_at G.1 vwCl (G.2.2 + 67, .inl (G.2.1 0, 100, .inl (fun _ => 0))) H) : va_at G.1 vwCl (G.2.2 + 67, ent G M0 67) H := h
theorem cv_68 (G : gC) {H : Heap} (h : va_at G.1 vwCl (G.2.2 + 68, .inl (G.2.1 0, 81, .inl (fun _ => 0))) H) : va_at G.1 vwCl (G.2.2 + 68, ent G M0 68) H := h
theorem cv_69 (G : gC) {H : Heap} (h : va_at G.1 vwCl (G.2.2 + 69, .inl (G.2.1 0, 9, .inl (fun _ => 0))) H) : va_at G.1 vwCl (G.2.2 + 69, ent G M0 69) H := h
theorem cv_70 (G : gC) {H : Heap} (h : va_at G.1 vwCl (G.2.2 + 70, .inl (G.2.1 0, 8, .inl (fun _ => 0))) H) : va_at G.1 vwCl (G.2.2 + 70, ent G M0 70) H := h
theorem cv_71 (G : gC) {H : Heap} (h : va_at G.1 vwCl (G.2.2 + 71, .inl (G.2.1 0, 8, .inl (fun _ => 0))) H) : va_at G.1 vwCl (G.2.2 + 71, ent G M0 71) H := h
theorem cv_72 (G : gC) {H : Heap} (h : va_at G.1 vwCl (G.2.2 + 72, .inl (G.2.1 0, 8, .inl (fun _ => 0))) H) : va_at G.1 vwCl (G.2.2 + 72, ent G M0 72) H := h
theorem cv_73 (G : gC) {H : Heap} (h : va_at G.1 vwCl (G.2.2 + 73, .inl (G.2.1 0, 153, .inl (fun _ => 0))) H) : va_at G.1 vwCl (G.2.2 + 73, ent G M0 73) H := h
theorem cv_74 (G : gC) {H : Heap} (h : va_at G.1 vwCl (G.2.2 + 74, .inl (G.2.1 0, 10, .inl (fun _ => 0))) H) : va_at G.1 vwCl (G.2.2 + 74, ent G M0 74) H := h
theorem cv_75 (G : gC) {H : Heap} (h : va_at G.1 vwCl (G.2.2 + 75, .inl (G.2.1 0, 9, .inl (fun _ => 0))) H) : va_at G.1 vwCl (G.2.2 + 75, ent G M0 75) H := h
theorem cv_76 (G : gC) {H : Heap} (h : va_at G.1 vwCl (G.2.2 + 76, .inl (G.2.1 0, 9, .inl (fun _ => 0))) H) : va_at G.1 vwCl (G.2.2 + 76, ent G M0 76) H := h
theorem cv_77 (G : gC) {H : Heap} (h : va_at G.1 vwCl (G.2.2 + 77, .inl (G.2.1 0, 10, .inl (fun _ => 0))) H) : va_at G.1 vwCl (G.2.2 + 77, ent G M0 77) H := h
theorem cv_78 (G : gC) {H : Heap} (h : va_at G.1 vwCl (G.2.2 + 78, .inl (G.2.1 0, 140, .inl (fun _ => 0))) H) : va_at G.1 vwCl (G.2.2 + 78, ent G M0 78) H := h
theorem cv_79 (G : gC) {H : Heap} (h : va_at G.1 vwCl (G.2.2 + 79, esO G) H) : va_at G.1 vwCl (G.2.2 + 79, ent G M0 79) H := h
theorem gP_start {G : gC} {H : Heap} (h : kP G (esR G ++ (esM G ++ [esO G])) H) : gP G M0 H := by
  intro k q hk
  have h1 : k < 80 := by have := (List.getElem?_eq_some_iff.mp hk).1; simpa [gw] using this
  rw [gw_at h1] at hk
  cases hk
  have key : ∀ e, (esR G ++ (esM G ++ [esO G]))[k]? = some e → va_at G.1 vwCl (G.2.2 + k, e) H := fun e he => h k _ (cwl_at G.2.2 _ k he)
  match k, h1, key with
  | 0, _, key => exact cv_0 G (key _ rfl)
  | 1, _, key => exact cv_1 G (key _ rfl)
  | 2, _, key => exact cv_2 G (key _ rfl)
  | 3, _, key => exact cv_3 G (key _ rfl)
  | 4, _, key => exact cv_4 G (key _ rfl)
  | 5, _, key => exact cv_5 G (key _ rfl)
  | 6, _, key => exact cv_6 G (key _ rfl)
  | 7, _, key => exact cv_7 G (key _ rfl)
  | 8, _, key => exact cv_8 G (key _ rfl)
  | 9, _, key => exact cv_9 G (key _ rfl)
  | 10, _, key => exact cv_10 G (key _ rfl)
  | 11, _, key => exact cv_11 G (key _ rfl)
  | 12, _, key => exact cv_12 G (key _ rfl)
  | 13, _, key => exact cv_13 G (key _ rfl)
  | 14, _, key => exact cv_14 G (key _ rfl)
  | 15, _, key => exact cv_15 G (key _ rfl)
  | 16, _, key => exact cv_16 G (key _ rfl)
  | 17, _, key => exact cv_17 G (key _ rfl)
  | 18, _, key => exact cv_18 G (key _ rfl)
  | 19, _, key => exact cv_19 G (key _ rfl)
  | 20, _, key => exact cv_20 G (key _ rfl)
  | 21, _, key => exact cv_21 G (key _ rfl)
  | 22, _, key => exact cv_22 G (key _ rfl)
  | 23, _, key => exact cv_23 G (key _ rfl)
  | 24, _, key => exact cv_24 G (key _ rfl)
  | 25, _, key => exact cv_25 G (key _ rfl)
  | 26, _, key => exact cv_26 G (key _ rfl)
  | 27, _, key => exact cv_27 G (key _ rfl)
  | 28, _, key => exact cv_28 G (key _ rfl)
  | 29, _, key => exact cv_29 G (key _ rfl)
  | 30, _, key => exact cv_30 G (key _ rfl)
  | 31, _, key => exact cv_31 G (key _ rfl)
  | 32, _, key => exact cv_32 G (key _ rfl)
  | 33, _, key => exact cv_33 G (key _ rfl)
  | 34, _, key => exact cv_34 G (key _ rfl)
  | 35, _, key => exact cv_35 G (key _ rfl)
  | 36, _, key => exact cv_36 G (key _ rfl)
  | 37, _, key => exact cv_37 G (key _ rfl)
  | 38, _, key => exact cv_38 G (key _ rfl)
  | 39, _, key => exact cv_39 G (key _ rfl)
  | 40, _, key => exact cv_40 G (key _ rfl)
  | 41, _, key => exact cv_41 G (key _ rfl)
  | 42, _, key => exact cv_42 G (key _ rfl)
  | 43, _, key => exact cv_43 G (key _ rfl)
  | 44, _, key => exact cv_44 G (key _ rfl)
  | 45, _, key => exact cv_45 G (key _ rfl)
  | 46, _, key => exact cv_46 G (key _ rfl)
  | 47, _, key => exact cv_47 G (key _ rfl)
  | 48, _, key => exact cv_48 G (key _ rfl)
  | 49, _, key => exact cv_49 G (key _ rfl)
  | 50, _, key => exact cv_50 G (key _ rfl)
  | 51, _, key => exact cv_51 G (key _ rfl)
  | 52, _, key => exact cv_52 G (key _ rfl)
  | 53, _, key => exact cv_53 G (key _ rfl)
  | 54, _, key => exact cv_54 G (key _ rfl)
  | 55, _, key => exact cv_55 G (key _ rfl)
  | 56, _, key => exact cv_56 G (key _ rfl)
  | 57, _, key => exact cv_57 G (key _ rfl)
  | 58, _, key => exact cv_58 G (key _ rfl)
  | 59, _, key => exact cv_59 G (key _ rfl)
  | 60, _, key => exact cv_60 G (key _ rfl)
  | 61, _, key => exact cv_61 G (key _ rfl)
  | 62, _, key => exact cv_62 G (key _ rfl)
  | 63, _, key => exact cv_63 G (key _ rfl)
  | 64, _, key => exact cv_64 G (key _ rfl)
  | 65, _, key => exact cv_65 G (key _ rfl)
  | 66, _, key => exact cv_66 G (key _ rfl)
  | 67, _, key => exact cv_67 G (key _ rfl)
  | 68, _, key => exact cv_68 G (key _ rfl)
  | 69, _, key => exact cv_69 G (key _ rfl)
  | 70, _, key => exact cv_70 G (key _ rfl)
  | 71, _, key => exact cv_71 G (key _ rfl)
  | 72, _, key => exact cv_72 G (key _ rfl)
  | 73, _, key => exact cv_73 G (key _ rfl)
  | 74, _, key => exact cv_74 G (key _ rfl)
  | 75, _, key => exact cv_75 G (key _ rfl)
  | 76, _, key => exact cv_76 G (key _ rfl)
  | 77, _, key => exact cv_77 G (key _ rfl)
  | 78, _, key => exact cv_78 G (key _ rfl)
  | 79, _, key => exact cv_79 G (key _ rfl)
  | k + 80, h1, _ => exact absurd h1 (by omega)
