theorem mset_at {M : Mem} {a b : Nat} {i j x : Int} (h : a ≠ b ∨ j ≠ i) : mset M b i x a j = M a j := by
  unfold mset; rw [if_neg (fun q => h.elim (fun z => z q.1) (fun z => z q.2))]
theorem mcpy_at {M : Mem} {a b c : Nat} {sp dp n j : Int} (h : a ≠ b ∨ False) : mcpy M c sp b dp n a j = M a j := by
  unfold mcpy; rw [if_neg (fun q => h.elim (fun z => z q.1) id)]
theorem st_rng {x : Nat} (h : shT[x]? = some (.inl 6)) : 1 ≤ x ∧ x + 5 ≤ 38 := by
  have hs := sh_lt h
  have key : ∀ k, k < 80 → shT[k]? = some (.inl 6) → 1 ≤ k ∧ k + 5 ≤ 38 := by decide +kernel
  exact key x hs h
theorem cw_X0_dropOldest_9 {res : Mem} {F : Nat} (a0 : Nat) (i0 : Int) (ha : (a0 ≠ 13 ∨ i0 ≠ 0) ∧ a0 ≠ 14) : ∀ (fu : Nat) (a1 : Nat) (v2 : Int) (M : Mem), f_X0_dropOldest_9 F fu a1 v2 M = some res → res a0 i0 = M a0 i0 := by
  intro fu
  induction fu with
  | zero => intro a1 v2 M h; exact nomatch (show (none : Option (Mem)) = some res from h)
  | succ fu ih =>
    intro a1 v2 M h
    have hG : M a0 i0 = M a0 i0 := rfl
    rw [f_X0_dropOldest_9] at h
    obtain ⟨hc1, h⟩ := chk_some h
    by_cases hc2 : 4 ≤ v2 + 1
    · replace h := ite_t hc2 h
      obtain ⟨hc3, h⟩ := chk_some h
      have hG4 : (mset M 14 3 ((a1 : Nat) : Int)) a0 i0 = M a0 i0 := (mset_at (Or.inl (show a0 ≠ 14 from by omega))).trans hG
      obtain ⟨hc5, h⟩ := chk_some h
      have hG6 : (mset (mset M 14 3 ((a1 : Nat) : Int)) 13 0 (((mset M 14 3 ((a1 : Nat) : Int)) 13 0) - 1)) a0 i0 = M a0 i0 := (mset_at (show a0 ≠ 13 ∨ i0 ≠ 0 from by omega)).trans hG4
      cases h
      exact hG6
    · replace h := ite_f hc2 h
      obtain ⟨hc7, h⟩ := chk_some h
      obtain ⟨hc8, h⟩ := chk_some h
      obtain ⟨hc9, h⟩ := chk_some h
      have hG10 : (mset M 14 v2 (((M 14 (v2 + 1)).toNat : Nat) : Int)) a0 i0 = M a0 i0 := (mset_at (Or.inl (show a0 ≠ 14 from by omega))).trans hG
      exact (ih a1 (v2 + 1) (mset M 14 v2 (((M 14 (v2 + 1)).toNat : Nat) : Int)) h).trans hG10
theorem cg_X0_dropOldest {F : Nat} {M : Mem} {res : Mem} (h : f_X0_dropOldest F M = some res) (a0 : Nat) (i0 : Int) (ha : (a0 ≠ 13 ∨ i0 ≠ 0) ∧ a0 ≠ 14) : res a0 i0 = M a0 i0 := by
  have hG : M a0 i0 = M a0 i0 := rfl
  rw [f_X0_dropOldest] at h
  exact (cw_X0_dropOldest_9 a0 i0 ha F ((M 14 0).toNat) 0 M h).trans hG
theorem cg_X6_copyFrom {M : Mem} {r : Nat} {o : Nat} {res : Mem} (h : f_X6_copyFrom r o M = some res) (a0 : Nat) (i0 : Int) (ha : (a0 ≠ r ∨ i0 ≠ 0) ∧ (a0 ≠ r ∨ i0 ≠ 1) ∧ a0 ≠ (r + 1) ∧ a0 ≠ (r + 2) ∧ a0 ≠ (r + 3) ∧ a0 ≠ (r + 4) ∧ a0 ≠ (r + 5)) : res a0 i0 = M a0 i0 := by
  have hG : M a0 i0 = M a0 i0 := rfl
  rw [f_X6_copyFrom] at h
  have hG1 : (mset M r 0 (M o 0)) a0 i0 = M a0 i0 := (mset_at (show a0 ≠ r ∨ i0 ≠ 0 from by omega)).trans hG
  have hG2 : (mset (mset M r 0 (M o 0)) r 1 ((mset M r 0 (M o 0)) o 1)) a0 i0 = M a0 i0 := (mset_at (show a0 ≠ r ∨ i0 ≠ 1 from by omega)).trans hG1
  have hG3 : (mcpy (mset (mset M r 0 (M o 0)) r 1 ((mset M r 0 (M o 0)) o 1)) (o + 1) 0 (r + 1) 0 16) a0 i0 = M a0 i0 := (mcpy_at (Or.inl (show a0 ≠ (r + 1) from by omega))).trans hG2
  have hG4 : (mcpy (mcpy (mset (mset M r 0 (M o 0)) r 1 ((mset M r 0 (M o 0)) o 1)) (o + 1) 0 (r + 1) 0 16) (o + 2) 0 (r + 2) 0 16) a0 i0 = M a0 i0 := (mcpy_at (Or.inl (show a0 ≠ (r + 2) from by omega))).trans hG3
  have hG5 : (mcpy (mcpy (mcpy (mset (mset M r 0 (M o 0)) r 1 ((mset M r 0 (M o 0)) o 1)) (o + 1) 0 (r + 1) 0 16) (o + 2) 0 (r + 2) 0 16) (o + 3) 0 (r + 3) 0 16) a0 i0 = M a0 i0 := (mcpy_at (Or.inl (show a0 ≠ (r + 3) from by omega))).trans hG4
  have hG6 : (mcpy (mcpy (mcpy (mcpy (mset (mset M r 0 (M o 0)) r 1 ((mset M r 0 (M o 0)) o 1)) (o + 1) 0 (r + 1) 0 16) (o + 2) 0 (r + 2) 0 16) (o + 3) 0 (r + 3) 0 16) (o + 4) 0 (r + 4) 0 9) a0 i0 = M a0 i0 := (mcpy_at (Or.inl (show a0 ≠ (r + 4) from by omega))).trans hG5
  have hG7 : (mcpy (mcpy (mcpy (mcpy (mcpy (mset (mset M r 0 (M o 0)) r 1 ((mset M r 0 (M o 0)) o 1)) (o + 1) 0 (r + 1) 0 16) (o + 2) 0 (r + 2) 0 16) (o + 3) 0 (r + 3) 0 16) (o + 4) 0 (r + 4) 0 9) (o + 5) 0 (r + 5) 0 81) a0 i0 = M a0 i0 := (mcpy_at (Or.inl (show a0 ≠ (r + 5) from by omega))).trans hG6
  cases h
  exact hG7
theorem cg_X0_save {F : Nat} {M : Mem} {res : Mem} (h : f_X0_save F M = some res) (a0 : Nat) (i0 : Int) (ha : (a0 < 1 ∨ 38 < a0)) : res a0 i0 = M a0 i0 := by
  have hG : M a0 i0 = M a0 i0 := rfl
  rw [f_X0_save] at h
  rcases (Decidable.em (M 13 0 = 4)).symm with hc1 | hc1
  · replace h := ite_f hc1 h
    obtain ⟨hc2, h⟩ := chk_some h
    obtain ⟨hc3, h⟩ := chk_some h
    obtain ⟨q4, h4, h⟩ := ob_some h
    have hG4 := (cg_X6_copyFrom h4 a0 i0 (by have := st_rng hc3; omega)).trans hG
    obtain ⟨hc5, h⟩ := chk_some h
    have hG6 : (mset q4 13 0 ((q4 13 0) + 1)) a0 i0 = M a0 i0 := (mset_at (show a0 ≠ 13 ∨ i0 ≠ 0 from by omega)).trans hG4
    cases h
    exact hG6
  · replace h := ite_t hc1 h
    obtain ⟨q7, h7, h⟩ := ob_some h
    have hG7 := (cg_X0_dropOldest h7 a0 i0 (by omega)).trans hG
    obtain ⟨hc8, h⟩ := chk_some h
    obtain ⟨hc9, h⟩ := chk_some h
    obtain ⟨q10, h10, h⟩ := ob_some h
    have hG10 := (cg_X6_copyFrom h10 a0 i0 (by have := st_rng hc9; omega)).trans hG7
    obtain ⟨hc11, h⟩ := chk_some h
    have hG12 : (mset q10 13 0 ((q10 13 0) + 1)) a0 i0 = M a0 i0 := (mset_at (show a0 ≠ 13 ∨ i0 ≠ 0 from by omega)).trans hG10
    cases h
    exact hG12
theorem cg_X0_restore {M : Mem} {res : Mem} (h : f_X0_restore M = some res) (a0 : Nat) (i0 : Int) (ha : (a0 ≠ 1 ∨ i0 ≠ 0) ∧ (a0 ≠ 1 ∨ i0 ≠ 1) ∧ a0 ≠ 2 ∧ a0 ≠ 3 ∧ a0 ≠ 4 ∧ a0 ≠ 5 ∧ a0 ≠ 6 ∧ (a0 ≠ 13 ∨ i0 ≠ 0)) : res a0 i0 = M a0 i0 := by
  have hG : M a0 i0 = M a0 i0 := rfl
  rw [f_X0_restore] at h
  obtain ⟨hc1, h⟩ := chk_some h
  have hG2 : (mset M 13 0 ((M 13 0) - 1)) a0 i0 = M a0 i0 := (mset_at (show a0 ≠ 13 ∨ i0 ≠ 0 from by omega)).trans hG
  obtain ⟨hc3, h⟩ := chk_some h
  obtain ⟨hc4, h⟩ := chk_some h
  obtain ⟨q5, h5, h⟩ := ob_some h
  have hG5 := (cg_X6_copyFrom h5 a0 i0 (by omega)).trans hG2
  cases h
  exact hG5
theorem cw_X1_labelTheRest_4 {res : Mem} {F : Nat} (a0 : Nat) (i0 : Int) (ha : a0 ≠ 5) : ∀ (fu : Nat) (v2 : Int) (v3 : Int) (M : Mem), f_X1_labelTheRest_4 F fu v2 v3 M = some res → res a0 i0 = M a0 i0 := by
  intro fu
  induction fu with
  | zero => intro v2 v3 M h; exact nomatch (show (none : Option (Mem)) = some res from h)
  | succ fu ih =>
    intro v2 v3 M h
    have hG : M a0 i0 = M a0 i0 := rfl
    rw [f_X1_labelTheRest_4] at h
    obtain ⟨⟨hp_v2, hp_v3⟩, h⟩ := chk_some h
    by_cases hc1 : M 1 0 ≤ v3
    · replace h := ite_t hc1 h
      cases h
      exact hG
    · replace h := ite_f hc1 h
      obtain ⟨hc2, h⟩ := chk_some h
      rcases (Decidable.em (M 5 v3 = (-1))).symm with hc3 | hc3
      · replace h := ite_f hc3 h
        exact (ih v2 (v3 + 1) M h).trans hG
      · replace h := ite_t hc3 h
        have hG4 : (mset M 5 v3 v2) a0 i0 = M a0 i0 := (mset_at (Or.inl (show a0 ≠ 5 from by omega))).trans hG
        exact (ih (v2 + 1) (v3 + 1) (mset M 5 v3 v2) h).trans hG4
theorem cg_X1_labelTheRest {F : Nat} {v1 : Int} {M : Mem} {res : Mem} (h : f_X1_labelTheRest F v1 M = some res) (a0 : Nat) (i0 : Int) (ha : a0 ≠ 5) : res a0 i0 = M a0 i0 := by
  have hG : M a0 i0 = M a0 i0 := rfl
  rw [f_X1_labelTheRest] at h
  exact (cw_X1_labelTheRest_4 a0 i0 ha F v1 0 M h).trans hG
theorem cw_X1_depthFirst_45 {res : Mem} {F : Nat} (a0 : Nat) (i0 : Int) (ha : a0 ≠ 5 ∧ a0 ≠ 61) : ∀ (fu : Nat) (v3 : Int) (v4 : Int) (v5 : Int) (M : Mem), f_X1_depthFirst_45 F fu v3 v4 v5 M = some res → res a0 i0 = M a0 i0 := by
  intro fu
  induction fu with
  | zero => intro v3 v4 v5 M h; exact nomatch (show (none : Option (Mem)) = some res from h)
  | succ fu ih =>
    intro v3 v4 v5 M h
    have hG : M a0 i0 = M a0 i0 := rfl
    rw [f_X1_depthFirst_45] at h
    obtain ⟨⟨hp_v3, hp_v4, hp_v5⟩, h⟩ := chk_some h
    by_cases hc5 : 18 ≤ v5
    · replace h := ite_t hc5 h
      obtain ⟨q6, h6, h⟩ := ob_some h
      have hG6 := (cg_X1_labelTheRest h6 a0 i0 (by omega)).trans hG
      cases h
      exact hG6
    · replace h := ite_f hc5 h
      by_cases hc7 : v4 = (-1)
      · replace h := ite_t hc7 h
        obtain ⟨q8, h8, h⟩ := ob_some h
        have hG8 := (cg_X1_labelTheRest h8 a0 i0 (by omega)).trans hG
        cases h
        exact hG8
      · replace h := ite_f hc7 h
        obtain ⟨q9, h9, h⟩ := ob_some h
        have hG9 := hG
        obtain ⟨hc10, h⟩ := chk_some h
        rcases (Decidable.em (q9 = (-1))).symm with hc11 | hc11
        · replace h := ite_f hc11 h
          obtain ⟨hc12, h⟩ := chk_some h
          have hG13 : (mset M 61 q9 v4) a0 i0 = M a0 i0 := (mset_at (Or.inl (show a0 ≠ 61 from by omega))).trans hG9
          have hG14 : (mset (mset M 61 q9 v4) 5 q9 v3) a0 i0 = M a0 i0 := (mset_at (Or.inl (show a0 ≠ 5 from by omega))).trans hG13
          exact (ih (v3 + 1) q9 (v5 + 1) (mset (mset M 61 q9 v4) 5 q9 v3) h).trans hG14
        · replace h := ite_t hc11 h
          obtain ⟨hc15, h⟩ := chk_some h
          exact (ih v3 (M 61 v4) (v5 + 1) M h).trans hG9
theorem cw_X1_depthFirst_2 {res : Mem} {F : Nat} (a0 : Nat) (i0 : Int) (ha : a0 ≠ 5 ∧ a0 ≠ 61) : ∀ (fu : Nat) (v2 : Int) (v3 : Int) (M : Mem), f_X1_depthFirst_2 F fu v2 v3 M = some res → res a0 i0 = M a0 i0 := by
  intro fu
  induction fu with
  | zero => intro v2 v3 M h; exact nomatch (show (none : Option (Mem)) = some res from h)
  | succ fu ih =>
    intro v2 v3 M h
    have hG : M a0 i0 = M a0 i0 := rfl
    rw [f_X1_depthFirst_2] at h
    obtain ⟨hp_v3, h⟩ := chk_some h
    by_cases hc1 : M 1 0 ≤ v3
    · replace h := ite_t hc1 h
      obtain ⟨hc2, h⟩ := chk_some h
      have hG3 : (mset M 5 v2 0) a0 i0 = M a0 i0 := (mset_at (Or.inl (show a0 ≠ 5 from by omega))).trans hG
      have hG4 : (mset (mset M 5 v2 0) 61 v2 (-1)) a0 i0 = M a0 i0 := (mset_at (Or.inl (show a0 ≠ 61 from by omega))).trans hG3
      exact (cw_X1_depthFirst_45 a0 i0 ha F 1 v2 0 (mset (mset M 5 v2 0) 61 v2 (-1)) h).trans hG4
    · replace h := ite_f hc1 h
      obtain ⟨hc16, h⟩ := chk_some h
      have hG17 : (mset M 5 v3 (-1)) a0 i0 = M a0 i0 := (mset_at (Or.inl (show a0 ≠ 5 from by omega))).trans hG
      exact (ih v2 (v3 + 1) (mset M 5 v3 (-1)) h).trans hG17
theorem cg_X1_depthFirst {F : Nat} {v2 : Int} {M : Mem} {res : Mem} (h : f_X1_depthFirst F v2 M = some res) (a0 : Nat) (i0 : Int) (ha : a0 ≠ 5 ∧ a0 ≠ 61) : res a0 i0 = M a0 i0 := by
  have hG : M a0 i0 = M a0 i0 := rfl
  rw [f_X1_depthFirst] at h
  exact (cw_X1_depthFirst_2 a0 i0 ha F v2 0 M h).trans hG
theorem cw_X1_byRank_18 {res : Mem} {F : Nat} (a0 : Nat) (i0 : Int) (ha : a0 ≠ 5) {k3 : Int → Int → Mem → Option (Mem)} (hk3 : ∀ (v3 : Int) (v4 : Int) (M : Mem), k3 v3 v4 M = some res → res a0 i0 = M a0 i0) : ∀ (fu : Nat) (v3 : Int) (v4 : Int) (v5 : Int) (v6 : Int) (M : Mem), f_X1_byRank_18 F k3 fu v3 v4 v5 v6 M = some res → res a0 i0 = M a0 i0 := by
  intro fu
  induction fu with
  | zero => intro v3 v4 v5 v6 M h; exact nomatch (show (none : Option (Mem)) = some res from h)
  | succ fu ih =>
    intro v3 v4 v5 v6 M h
    have hG : M a0 i0 = M a0 i0 := rfl
    rw [f_X1_byRank_18] at h
    obtain ⟨⟨hp_v4, hp_v5, hp_v6⟩, h⟩ := chk_some h
    by_cases hc2 : M 1 0 ≤ v6
    · replace h := ite_t hc2 h
      obtain ⟨hc3, h⟩ := chk_some h
      have hG4 : (mset M 5 v4 v5) a0 i0 = M a0 i0 := (mset_at (Or.inl (show a0 ≠ 5 from by omega))).trans hG
      exact (hk3 v3 (v4 + 1) (mset M 5 v4 v5) h).trans hG4
    · replace h := ite_f hc2 h
      obtain ⟨q5, h5, h⟩ := ob_some h
      have hG5 := hG
      obtain ⟨q6, h6, h⟩ := ob_some h
      have hG6 := hG5
      obtain ⟨hc7, h⟩ := chk_some h
      by_cases hc8 : q5 - q6 < 0
      · replace h := ite_t hc8 h
        exact (ih v3 v4 (v5 + 1) (v6 + 1) M h).trans hG6
      · replace h := ite_f hc8 h
        rcases (Decidable.em (q5 - q6 = 0)).symm with hc9 | hc9
        · replace h := ite_f hc9 h
          exact (ih v3 v4 v5 (v6 + 1) M h).trans hG6
        · replace h := ite_t hc9 h
          by_cases hc10 : v4 ≤ v6
          · replace h := ite_t hc10 h
            exact (ih v3 v4 v5 (v6 + 1) M h).trans hG6
          · replace h := ite_f hc10 h
            exact (ih v3 v4 (v5 + 1) (v6 + 1) M h).trans hG6
theorem cw_X1_byRank_3 {res : Mem} {F : Nat} (a0 : Nat) (i0 : Int) (ha : a0 ≠ 5) : ∀ (fu : Nat) (v3 : Int) (v4 : Int) (M : Mem), f_X1_byRank_3 F fu v3 v4 M = some res → res a0 i0 = M a0 i0 := by
  intro fu
  induction fu with
  | zero => intro v3 v4 M h; exact nomatch (show (none : Option (Mem)) = some res from h)
  | succ fu ih =>
    intro v3 v4 M h
    have hG : M a0 i0 = M a0 i0 := rfl
    rw [f_X1_byRank_3] at h
    obtain ⟨hp_v4, h⟩ := chk_some h
    by_cases hc1 : M 1 0 ≤ v4
    · replace h := ite_t hc1 h
      cases h
      exact hG
    · replace h := ite_f hc1 h
      exact (cw_X1_byRank_18 a0 i0 ha ih F v3 v4 0 0 M h).trans hG
theorem cg_X1_byRank {F : Nat} {v3 : Int} {M : Mem} {res : Mem} (h : f_X1_byRank F v3 M = some res) (a0 : Nat) (i0 : Int) (ha : a0 ≠ 5) : res a0 i0 = M a0 i0 := by
  have hG : M a0 i0 = M a0 i0 := rfl
  rw [f_X1_byRank] at h
  exact (cw_X1_byRank_3 a0 i0 ha F v3 0 M h).trans hG
theorem cw_X6_resetLabels_2 {res : Mem} {F : Nat} {r : Nat} (a0 : Nat) (i0 : Int) (ha : a0 ≠ (r + 4)) : ∀ (fu : Nat) (v1 : Int) (M : Mem), f_X6_resetLabels_2 F r fu v1 M = some res → res a0 i0 = M a0 i0 := by
  intro fu
  induction fu with
  | zero => intro v1 M h; exact nomatch (show (none : Option (Mem)) = some res from h)
  | succ fu ih =>
    intro v1 M h
    have hG : M a0 i0 = M a0 i0 := rfl
    rw [f_X6_resetLabels_2] at h
    obtain ⟨hp_v1, h⟩ := chk_some h
    by_cases hc1 : M r 0 ≤ v1
    · replace h := ite_t hc1 h
      cases h
      exact hG
    · replace h := ite_f hc1 h
      obtain ⟨hc2, h⟩ := chk_some h
      have hG3 : (mset M (r + 4) v1 v1) a0 i0 = M a0 i0 := (mset_at (Or.inl (show a0 ≠ (r + 4) from by omega))).trans hG
      exact (ih (v1 + 1) (mset M (r + 4) v1 v1) h).trans hG3
theorem cg_X6_resetLabels {F : Nat} {M : Mem} {r : Nat} {res : Mem} (h : f_X6_resetLabels F r M = some res) (a0 : Nat) (i0 : Int) (ha : a0 ≠ (r + 4)) : res a0 i0 = M a0 i0 := by
  have hG : M a0 i0 = M a0 i0 := rfl
  rw [f_X6_resetLabels] at h
  exact (cw_X6_resetLabels_2 a0 i0 ha F 0 M h).trans hG
theorem cg_X6_exchangeLabels {v1 : Int} {v2 : Int} {M : Mem} {r : Nat} {res : Mem} (h : f_X6_exchangeLabels r v1 v2 M = some res) (a0 : Nat) (i0 : Int) (ha : a0 ≠ (r + 4)) : res a0 i0 = M a0 i0 := by
  have hG : M a0 i0 = M a0 i0 := rfl
  rw [f_X6_exchangeLabels] at h
  obtain ⟨hc1, h⟩ := chk_some h
  obtain ⟨hc2, h⟩ := chk_some h
  have hG3 : (mset M (r + 4) v1 (M (r + 4) v2)) a0 i0 = M a0 i0 := (mset_at (Or.inl (show a0 ≠ (r + 4) from by omega))).trans hG
  have hG4 : (mset (mset M (r + 4) v1 (M (r + 4) v2)) (r + 4) v2 (M (r + 4) v1)) a0 i0 = M a0 i0 := (mset_at (Or.inl (show a0 ≠ (r + 4) from by omega))).trans hG3
  cases h
  exact hG4
theorem cw_X1_atRandom_15 {res : Mem} {F : Nat} (a0 : Nat) (i0 : Int) (ha : a0 ≠ 5) : ∀ (fu : Nat) (v3 : Int) (v5 : Int) (M : Mem), f_X1_atRandom_15 F fu v3 v5 M = some res → res a0 i0 = M a0 i0 := by
  intro fu
  induction fu with
  | zero => intro v3 v5 M h; exact nomatch (show (none : Option (Mem)) = some res from h)
  | succ fu ih =>
    intro v3 v5 M h
    have hG : M a0 i0 = M a0 i0 := rfl
    rw [f_X1_atRandom_15] at h
    obtain ⟨hp_v5, h⟩ := chk_some h
    by_cases hc2 : v5 < 1
    · replace h := ite_t hc2 h
      cases h
      exact hG
    · replace h := ite_f hc2 h
      obtain ⟨hc3, h⟩ := chk_some h
      obtain ⟨hc4, h⟩ := chk_some h
      obtain ⟨hc5, h⟩ := chk_some h
      obtain ⟨hc6, h⟩ := chk_some h
      obtain ⟨q7, h7, h⟩ := ob_some h
      have hG7 := (cg_X6_exchangeLabels h7 a0 i0 (by omega)).trans hG
      exact (ih (((1103515245 * v3) + 12345) % 2147483648) (v5 + (-1)) q7 h).trans hG7
theorem cg_X1_atRandom {F : Nat} {v2 : Int} {M : Mem} {res : Mem} (h : f_X1_atRandom F v2 M = some res) (a0 : Nat) (i0 : Int) (ha : a0 ≠ 5) : res a0 i0 = M a0 i0 := by
  have hG : M a0 i0 = M a0 i0 := rfl
  rw [f_X1_atRandom] at h
  obtain ⟨hp_v2, h⟩ := chk_some h
  obtain ⟨q1, h1, h⟩ := ob_some h
  have hG1 := (cg_X6_resetLabels h1 a0 i0 (by omega)).trans hG
  exact (cw_X1_atRandom_15 a0 i0 ha F v2 ((q1 1 0) - 1) q1 h).trans hG1
theorem cw_X2_travel_75 {res : Mem} {F : Nat} (a0 : Nat) (i0 : Int) (ha : (a0 ≠ 57 ∨ i0 ≠ 0) ∧ (a0 ≠ 57 ∨ i0 ≠ 1) ∧ (a0 ≠ 57 ∨ i0 ≠ 2) ∧ a0 ≠ 58 ∧ a0 ≠ 59) {k23 : Int → Int → Int → Int → Mem → Option (Mem)} (hk23 : ∀ (v3 : Int) (v4 : Int) (v5 : Int) (v6 : Int) (M : Mem), k23 v3 v4 v5 v6 M = some res → res a0 i0 = M a0 i0) : ∀ (v3 : Int) (v4 : Int) (v5 : Int) (v6 : Int) (v7 : Int) (M : Mem), f_X2_travel_75 F k23 v3 v4 v5 v6 v7 M = some res → res a0 i0 = M a0 i0 := by
  intro v3 v4 v5 v6 v7 M h
  have hG : M a0 i0 = M a0 i0 := rfl
  rw [f_X2_travel_75] at h
  obtain ⟨⟨hp_v3, hp_v5, hp_v7⟩, h⟩ := chk_some h
  rcases (Decidable.em (v7 = (-1))).symm with hc16 | hc16
  · replace h := ite_f hc16 h
    obtain ⟨q17, h17, h⟩ := ob_some h
    have hG17 := hG
    obtain ⟨hc18, h⟩ := chk_some h
    have hG19 : (mset M 59 v6 v7) a0 i0 = M a0 i0 := (mset_at (Or.inl (show a0 ≠ 59 from by omega))).trans hG17
    obtain ⟨hc20, h⟩ := chk_some h
    obtain ⟨hc21, h⟩ := chk_some h
    have hG22 : (mset (mset M 59 v6 v7) 58 (v6 + 1) q17) a0 i0 = M a0 i0 := (mset_at (Or.inl (show a0 ≠ 58 from by omega))).trans hG19
    obtain ⟨hc23, h⟩ := chk_some h
    have hG24 : (mset (mset (mset M 59 v6 v7) 58 (v6 + 1) q17) 57 2 (((mset (mset M 59 v6 v7) 58 (v6 + 1) q17) 57 2) + 1)) a0 i0 = M a0 i0 := (mset_at (show a0 ≠ 57 ∨ i0 ≠ 2 from by omega)).trans hG22
    obtain ⟨hc25, h⟩ := chk_some h
    obtain ⟨hc26, h⟩ := chk_some h
    have hG27 : (mset (mset (mset (mset M 59 v6 v7) 58 (v6 + 1) q17) 57 2 (((mset (mset M 59 v6 v7) 58 (v6 + 1) q17) 57 2) + 1)) 57 1 (((mset (mset (mset M 59 v6 v7) 58 (v6 + 1) q17) 57 2 (((mset (mset M 59 v6 v7) 58 (v6 + 1) q17) 57 2) + 1)) 57 1) + ((mset (mset (mset M 59 v6 v7) 58 (v6 + 1) q17) 57 2 (((mset (mset M 59 v6 v7) 58 (v6 + 1) q17) 57 2) + 1)) 4 v7))) a0 i0 = M a0 i0 := (mset_at (show a0 ≠ 57 ∨ i0 ≠ 1 from by omega)).trans hG24
    exact (hk23 v3 v4 q17 (v6 + 1) (mset (mset (mset (mset M 59 v6 v7) 58 (v6 + 1) q17) 57 2 (((mset (mset M 59 v6 v7) 58 (v6 + 1) q17) 57 2) + 1)) 57 1 (((mset (mset (mset M 59 v6 v7) 58 (v6 + 1) q17) 57 2 (((mset (mset M 59 v6 v7) 58 (v6 + 1) q17) 57 2) + 1)) 57 1) + ((mset (mset (mset M 59 v6 v7) 58 (v6 + 1) q17) 57 2 (((mset (mset M 59 v6 v7) 58 (v6 + 1) q17) 57 2) + 1)) 4 v7))) h).trans hG27
  · replace h := ite_t hc16 h
    rcases (Decidable.em (v5 = v3)).symm with hc28 | hc28
    · replace h := ite_f hc28 h
      have hG29 : (mset M 57 0 0) a0 i0 = M a0 i0 := (mset_at (show a0 ≠ 57 ∨ i0 ≠ 0 from by omega)).trans hG
      cases h
      exact hG29
    · replace h := ite_t hc28 h
      have hG30 : (mset M 57 0 1) a0 i0 = M a0 i0 := (mset_at (show a0 ≠ 57 ∨ i0 ≠ 0 from by omega)).trans hG
      cases h
      exact hG30
theorem cw_X2_travel_23 {res : Mem} {F : Nat} (a0 : Nat) (i0 : Int) (ha : (a0 ≠ 57 ∨ i0 ≠ 0) ∧ (a0 ≠ 57 ∨ i0 ≠ 1) ∧ (a0 ≠ 57 ∨ i0 ≠ 2) ∧ a0 ≠ 58 ∧ a0 ≠ 59) : ∀ (fu : Nat) (v3 : Int) (v4 : Int) (v5 : Int) (v6 : Int) (M : Mem), f_X2_travel_23 F fu v3 v4 v5 v6 M = some res → res a0 i0 = M a0 i0 := by
  intro fu
  induction fu with
  | zero => intro v3 v4 v5 v6 M h; exact nomatch (show (none : Option (Mem)) = some res from h)
  | succ fu ih =>
    intro v3 v4 v5 v6 M h
    have hG : M a0 i0 = M a0 i0 := rfl
    rw [f_X2_travel_23] at h
    obtain ⟨⟨hp_v3, hp_v4, hp_v5, hp_v6⟩, h⟩ := chk_some h
    by_cases hc4 : M 1 0 ≤ v6
    · replace h := ite_t hc4 h
      rcases (Decidable.em (v5 = v3)).symm with hc5 | hc5
      · replace h := ite_f hc5 h
        have hG6 : (mset M 57 0 0) a0 i0 = M a0 i0 := (mset_at (show a0 ≠ 57 ∨ i0 ≠ 0 from by omega)).trans hG
        cases h
        exact hG6
      · replace h := ite_t hc5 h
        have hG7 : (mset M 57 0 1) a0 i0 = M a0 i0 := (mset_at (show a0 ≠ 57 ∨ i0 ≠ 0 from by omega)).trans hG
        cases h
        exact hG7
    · replace h := ite_f hc4 h
      by_cases hc8 : v5 = v3
      · replace h := ite_t hc8 h
        rcases (Decidable.em (v5 = v3)).symm with hc9 | hc9
        · replace h := ite_f hc9 h
          have hG10 : (mset M 57 0 0) a0 i0 = M a0 i0 := (mset_at (show a0 ≠ 57 ∨ i0 ≠ 0 from by omega)).trans hG
          cases h
          exact hG10
        · replace h := ite_t hc9 h
          have hG11 : (mset M 57 0 1) a0 i0 = M a0 i0 := (mset_at (show a0 ≠ 57 ∨ i0 ≠ 0 from by omega)).trans hG
          cases h
          exact hG11
      · replace h := ite_f hc8 h
        obtain ⟨hc12, h⟩ := chk_some h
        obtain ⟨q13, h13, h⟩ := ob_some h
        have hG13 := hG
        obtain ⟨hc14, h⟩ := chk_some h
        by_cases hc15 : q13 = (-1)
        · replace h := ite_t hc15 h
          exact (cw_X2_travel_75 a0 i0 ha ih v3 v4 v5 v6 q13 M h).trans hG13
        · replace h := ite_f hc15 h
          rcases (Decidable.em (q13 = v4)).symm with hc31 | hc31
          · replace h := ite_f hc31 h
            exact (cw_X2_travel_75 a0 i0 ha ih v3 v4 v5 v6 q13 M h).trans hG13
          · replace h := ite_t hc31 h
            obtain ⟨q32, h32, h⟩ := ob_some h
            have hG32 := hG13
            exact (cw_X2_travel_75 a0 i0 ha ih v3 v4 v5 v6 q32 M h).trans hG32
theorem cg_X2_travel {F : Nat} {v2 : Int} {v3 : Int} {v4 : Int} {M : Mem} {res : Mem} (h : f_X2_travel F v2 v3 v4 M = some res) (a0 : Nat) (i0 : Int) (ha : (a0 ≠ 57 ∨ i0 ≠ 0) ∧ (a0 ≠ 57 ∨ i0 ≠ 1) ∧ (a0 ≠ 57 ∨ i0 ≠ 2) ∧ a0 ≠ 58 ∧ a0 ≠ 59) : res a0 i0 = M a0 i0 := by
  have hG : M a0 i0 = M a0 i0 := rfl
  rw [f_X2_travel] at h
  obtain ⟨hp_v2, h⟩ := chk_some h
  have hG1 : (mset M 58 0 v2) a0 i0 = M a0 i0 := (mset_at (Or.inl (show a0 ≠ 58 from by omega))).trans hG
  have hG2 : (mset (mset M 58 0 v2) 57 2 1) a0 i0 = M a0 i0 := (mset_at (show a0 ≠ 57 ∨ i0 ≠ 2 from by omega)).trans hG1
  have hG3 : (mset (mset (mset M 58 0 v2) 57 2 1) 57 1 0) a0 i0 = M a0 i0 := (mset_at (show a0 ≠ 57 ∨ i0 ≠ 1 from by omega)).trans hG2
  exact (cw_X2_travel_23 a0 i0 ha F v3 v4 v2 0 (mset (mset (mset M 58 0 v2) 57 2 1) 57 1 0) h).trans hG3
theorem cg_X3_put {v1 : Int} {M : Mem} {res : Mem} (h : f_X3_put v1 M = some res) (a0 : Nat) (i0 : Int) (ha : (a0 ≠ 62 ∨ i0 ≠ 0) ∧ a0 ≠ 63) : res a0 i0 = M a0 i0 := by
  have hG : M a0 i0 = M a0 i0 := rfl
  rw [f_X3_put] at h
  obtain ⟨hp_v1, h⟩ := chk_some h
  obtain ⟨hc1, h⟩ := chk_some h
  have hG2 : (mset M 63 (M 62 0) v1) a0 i0 = M a0 i0 := (mset_at (Or.inl (show a0 ≠ 63 from by omega))).trans hG
  obtain ⟨hc3, h⟩ := chk_some h
  have hG4 : (mset (mset M 63 (M 62 0) v1) 62 0 (((mset M 63 (M 62 0) v1) 62 0) + 1)) a0 i0 = M a0 i0 := (mset_at (show a0 ≠ 62 ∨ i0 ≠ 0 from by omega)).trans hG2
  cases h
  exact hG4
theorem cw_J7_fill_53178_5 {res : Mem} {F : Nat} {a : Nat} (a0 : Nat) (i0 : Int) (ha : a0 ≠ a) : ∀ (fu : Nat) (v1 : Int) (v2 : Int) (v3 : Int) (M : Mem), f_J7_fill_53178_5 F a fu v1 v2 v3 M = some res → res a0 i0 = M a0 i0 := by
  intro fu
  induction fu with
  | zero => intro v1 v2 v3 M h; exact nomatch (show (none : Option (Mem)) = some res from h)
  | succ fu ih =>
    intro v1 v2 v3 M h
    have hG : M a0 i0 = M a0 i0 := rfl
    rw [f_J7_fill_53178_5] at h
    obtain ⟨⟨hp_v1, hp_v2, hp_v3⟩, h⟩ := chk_some h
    by_cases hc1 : v3 ≤ v2
    · replace h := ite_t hc1 h
      cases h
      exact hG
    · replace h := ite_f hc1 h
      obtain ⟨hc2, h⟩ := chk_some h
      have hG3 : (mset M a v2 v1) a0 i0 = M a0 i0 := (mset_at (Or.inl (show a0 ≠ a from by omega))).trans hG
      exact (ih v1 (v2 + 1) v3 (mset M a v2 v1) h).trans hG3
theorem cg_J7_fill_53178 {F : Nat} {v1 : Int} {M : Mem} {a : Nat} {res : Mem} (h : f_J7_fill_53178 F a v1 M = some res) (a0 : Nat) (i0 : Int) (ha : a0 ≠ a) : res a0 i0 = M a0 i0 := by
  have hG : M a0 i0 = M a0 i0 := rfl
  rw [f_J7_fill_53178] at h
  exact (cw_J7_fill_53178_5 a0 i0 ha F v1 0 (alen a : Int) M h).trans hG
theorem cg_X6_clearEntries {F : Nat} {M : Mem} {r : Nat} {res : Mem} (h : f_X6_clearEntries F r M = some res) (a0 : Nat) (i0 : Int) (ha : a0 ≠ (r + 5)) : res a0 i0 = M a0 i0 := by
  have hG : M a0 i0 = M a0 i0 := rfl
  rw [f_X6_clearEntries] at h
  obtain ⟨q1, h1, h⟩ := ob_some h
  have hG1 := (cg_J7_fill_53178 h1 a0 i0 (by omega)).trans hG
  cases h
  exact hG1
theorem cg_X6_start {F : Nat} {v1 : Int} {M : Mem} {r : Nat} {res : Mem} (h : f_X6_start F r v1 M = some res) (a0 : Nat) (i0 : Int) (ha : (a0 ≠ r ∨ i0 ≠ 0) ∧ (a0 ≠ r ∨ i0 ≠ 1) ∧ a0 ≠ (r + 4) ∧ a0 ≠ (r + 5)) : res a0 i0 = M a0 i0 := by
  have hG : M a0 i0 = M a0 i0 := rfl
  rw [f_X6_start] at h
  obtain ⟨hp_v1, h⟩ := chk_some h
  have hG1 : (mset M r 0 v1) a0 i0 = M a0 i0 := (mset_at (show a0 ≠ r ∨ i0 ≠ 0 from by omega)).trans hG
  have hG2 : (mset (mset M r 0 v1) r 1 0) a0 i0 = M a0 i0 := (mset_at (show a0 ≠ r ∨ i0 ≠ 1 from by omega)).trans hG1
  obtain ⟨q3, h3, h⟩ := ob_some h
  have hG3 := (cg_X6_resetLabels h3 a0 i0 (by omega)).trans hG2
  obtain ⟨q4, h4, h⟩ := ob_some h
  have hG4 := (cg_X6_clearEntries h4 a0 i0 (by omega)).trans hG3
  cases h
  exact hG4
theorem cg_X6_join {v1 : Int} {v2 : Int} {v3 : Int} {M : Mem} {r : Nat} {res : Mem} (h : f_X6_join r v1 v2 v3 M = some res) (a0 : Nat) (i0 : Int) (ha : (a0 ≠ r ∨ i0 ≠ 1) ∧ a0 ≠ (r + 1) ∧ a0 ≠ (r + 2) ∧ a0 ≠ (r + 3)) : res a0 i0 = M a0 i0 := by
  have hG : M a0 i0 = M a0 i0 := rfl
  rw [f_X6_join] at h
  obtain ⟨⟨hp_v1, hp_v2, hp_v3⟩, h⟩ := chk_some h
  obtain ⟨hc1, h⟩ := chk_some h
  have hG2 : (mset M (r + 1) (M r 1) v1) a0 i0 = M a0 i0 := (mset_at (Or.inl (show a0 ≠ (r + 1) from by omega))).trans hG
  obtain ⟨hc3, h⟩ := chk_some h
  have hG4 : (mset (mset M (r + 1) (M r 1) v1) (r + 2) ((mset M (r + 1) (M r 1) v1) r 1) v2) a0 i0 = M a0 i0 := (mset_at (Or.inl (show a0 ≠ (r + 2) from by omega))).trans hG2
  obtain ⟨hc5, h⟩ := chk_some h
  have hG6 : (mset (mset (mset M (r + 1) (M r 1) v1) (r + 2) ((mset M (r + 1) (M r 1) v1) r 1) v2) (r + 3) ((mset (mset M (r + 1) (M r 1) v1) (r + 2) ((mset M (r + 1) (M r 1) v1) r 1) v2) r 1) v3) a0 i0 = M a0 i0 := (mset_at (Or.inl (show a0 ≠ (r + 3) from by omega))).trans hG4
  obtain ⟨hc7, h⟩ := chk_some h
  have hG8 : (mset (mset (mset (mset M (r + 1) (M r 1) v1) (r + 2) ((mset M (r + 1) (M r 1) v1) r 1) v2) (r + 3) ((mset (mset M (r + 1) (M r 1) v1) (r + 2) ((mset M (r + 1) (M r 1) v1) r 1) v2) r 1) v3) r 1 (((mset (mset (mset M (r + 1) (M r 1) v1) (r + 2) ((mset M (r + 1) (M r 1) v1) r 1) v2) (r + 3) ((mset (mset M (r + 1) (M r 1) v1) (r + 2) ((mset M (r + 1) (M r 1) v1) r 1) v2) r 1) v3) r 1) + 1)) a0 i0 = M a0 i0 := (mset_at (show a0 ≠ r ∨ i0 ≠ 1 from by omega)).trans hG6
  cases h
  exact hG8
theorem cg_X3_readLink {F : Nat} {v2 : Int} {M : Mem} {res : Int × Mem} (h : f_X3_readLink F v2 M = some res) (a0 : Nat) (i0 : Int) (ha : (a0 ≠ 7 ∨ i0 ≠ 1) ∧ a0 ≠ 8 ∧ a0 ≠ 9 ∧ a0 ≠ 10) : res.2 a0 i0 = M a0 i0 := by
  have hG : M a0 i0 = M a0 i0 := rfl
  rw [f_X3_readLink] at h
  obtain ⟨hc1, h⟩ := chk_some h
  by_cases hc2 : M 63 v2 = 59
  · replace h := ite_t hc2 h
    obtain ⟨q3, h3, h⟩ := ob_some h
    have hG3 := hG
    obtain ⟨hc4, h⟩ := chk_some h
    by_cases hc5 : q3 = (-1)
    · replace h := ite_t hc5 h
      cases h
      exact hG3
    · replace h := ite_f hc5 h
      by_cases hc6 : M 7 0 ≤ q3
      · replace h := ite_t hc6 h
        cases h
        exact hG3
      · replace h := ite_f hc6 h
        by_cases hc7 : M 7 1 < 16
        · replace h := ite_t hc7 h
          obtain ⟨q8, h8, h⟩ := ob_some h
          have hG8 := hG3
          obtain ⟨hc9, h⟩ := chk_some h
          by_cases hc10 : q8 = (-1)
          · replace h := ite_t hc10 h
            cases h
            exact hG8
          · replace h := ite_f hc10 h
            by_cases hc11 : M 7 0 ≤ q8
            · replace h := ite_t hc11 h
              cases h
              exact hG8
            · replace h := ite_f hc11 h
              by_cases hc12 : q8 = q3
              · replace h := ite_t hc12 h
                cases h
                exact hG8
              · replace h := ite_f hc12 h
                obtain ⟨q13, h13, h⟩ := ob_some h
                have hG13 := hG8
                obtain ⟨hc14, h⟩ := chk_some h
                by_cases hc15 : q13 = 0
                · replace h := ite_t hc15 h
                  obtain ⟨q16, h16, h⟩ := ob_some h
                  have hG16 := hG13
                  obtain ⟨hc17, h⟩ := chk_some h
                  by_cases hc18 : 1 ≤ q16
                  · replace h := ite_t hc18 h
                    obtain ⟨q19, h19, h⟩ := ob_some h
                    have hG19 := (cg_X6_join h19 a0 i0 (by omega)).trans hG16
                    cases h
                    exact hG19
                  · replace h := ite_f hc18 h
                    cases h
                    exact hG16
                · replace h := ite_f hc15 h
                  cases h
                  exact hG13
        · replace h := ite_f hc7 h
          cases h
          exact hG3
  · replace h := ite_f hc2 h
    cases h
    exact hG
theorem cw_X3_readInto_20 {res : Int × Mem} {F : Nat} (a0 : Nat) (i0 : Int) (ha : (a0 ≠ 7 ∨ i0 ≠ 0) ∧ (a0 ≠ 7 ∨ i0 ≠ 1) ∧ a0 ≠ 8 ∧ a0 ≠ 9 ∧ a0 ≠ 10 ∧ a0 ≠ 11 ∧ a0 ≠ 12) : ∀ (fu : Nat) (v3 : Int) (M : Mem), f_X3_readInto_20 F fu v3 M = some res → res.2 a0 i0 = M a0 i0 := by
  intro fu
  induction fu with
  | zero => intro v3 M h; exact nomatch (show (none : Option (Int × Mem)) = some res from h)
  | succ fu ih =>
    intro v3 M h
    have hG : M a0 i0 = M a0 i0 := rfl
    rw [f_X3_readInto_20] at h
    obtain ⟨hp_v3, h⟩ := chk_some h
    by_cases hc5 : M 62 0 ≤ v3
    · replace h := ite_t hc5 h
      cases h
      exact hG
    · replace h := ite_f hc5 h
      obtain ⟨q6, h6, h⟩ := ob_some h
      have hG6 := (cg_X3_readLink h6 a0 i0 (by omega)).trans hG
      obtain ⟨hc7, h⟩ := chk_some h
      by_cases hc8 : q6.1 = (-1)
      · replace h := ite_t hc8 h
        exact (ih (v3 + 4) q6.2 h).trans hG6
      · replace h := ite_f hc8 h
        cases h
        exact hG6
theorem cg_X3_readInto {F : Nat} {M : Mem} {res : Int × Mem} (h : f_X3_readInto F M = some res) (a0 : Nat) (i0 : Int) (ha : (a0 ≠ 7 ∨ i0 ≠ 0) ∧ (a0 ≠ 7 ∨ i0 ≠ 1) ∧ a0 ≠ 8 ∧ a0 ≠ 9 ∧ a0 ≠ 10 ∧ a0 ≠ 11 ∧ a0 ≠ 12) : res.2 a0 i0 = M a0 i0 := by
  have hG : M a0 i0 = M a0 i0 := rfl
  rw [f_X3_readInto] at h
  obtain ⟨q1, h1, h⟩ := ob_some h
  have hG1 := hG
  obtain ⟨hc2, h⟩ := chk_some h
  rcases (Decidable.em (q1 = (-1))).symm with hc3 | hc3
  · replace h := ite_f hc3 h
    obtain ⟨q4, h4, h⟩ := ob_some h
    have hG4 := (cg_X6_start h4 a0 i0 (by omega)).trans hG1
    exact (cw_X3_readInto_20 a0 i0 ha F 1 q4 h).trans hG4
  · replace h := ite_t hc3 h
    cases h
    exact hG1
theorem cw_X4_read_12 {res : Mem} {F : Nat} {r : Nat} (a0 : Nat) (i0 : Int) (ha : (a0 ≠ r ∨ i0 ≠ 0) ∧ a0 ≠ (r + 1)) : ∀ (fu : Nat) (v2 : Int) (v3 : Int) (M : Mem), f_X4_read_12 F r fu v2 v3 M = some res → res a0 i0 = M a0 i0 := by
  intro fu
  induction fu with
  | zero => intro v2 v3 M h; exact nomatch (show (none : Option (Mem)) = some res from h)
  | succ fu ih =>
    intro v2 v3 M h
    have hG : M a0 i0 = M a0 i0 := rfl
    rw [f_X4_read_12] at h
    obtain ⟨hp_v3, h⟩ := chk_some h
    by_cases hc3 : M r 0 ≤ v3
    · replace h := ite_t hc3 h
      cases h
      exact hG
    · replace h := ite_f hc3 h
      obtain ⟨hc4, h⟩ := chk_some h
      obtain ⟨q5, h5, h⟩ := ob_some h
      have hG5 := hG
      obtain ⟨q6, h6, h⟩ := ob_some h
      have hG6 := hG5
      obtain ⟨hc7, h⟩ := chk_some h
      obtain ⟨hc8, h⟩ := chk_some h
      have hG9 : (mset M (r + 1) v3 q6) a0 i0 = M a0 i0 := (mset_at (Or.inl (show a0 ≠ (r + 1) from by omega))).trans hG6
      exact (ih v2 (v3 + 1) (mset M (r + 1) v3 q6) h).trans hG9
theorem cg_X4_read {F : Nat} {v2 : Int} {M : Mem} {r : Nat} {res : Mem} (h : f_X4_read F r v2 M = some res) (a0 : Nat) (i0 : Int) (ha : (a0 ≠ r ∨ i0 ≠ 0) ∧ a0 ≠ (r + 1)) : res a0 i0 = M a0 i0 := by
  have hG : M a0 i0 = M a0 i0 := rfl
  rw [f_X4_read] at h
  obtain ⟨hc1, h⟩ := chk_some h
  have hG2 : (mset M r 0 ((M 1 0) - 1)) a0 i0 = M a0 i0 := (mset_at (show a0 ≠ r ∨ i0 ≠ 0 from by omega)).trans hG
  exact (cw_X4_read_12 a0 i0 ha F v2 0 (mset M r 0 ((M 1 0) - 1)) h).trans hG2
theorem cg_X5_forget {M : Mem} {res : Mem} (h : f_X5_forget M = some res) (a0 : Nat) (i0 : Int) (ha : (a0 ≠ 51 ∨ i0 ≠ 2)) : res a0 i0 = M a0 i0 := by
  have hG : M a0 i0 = M a0 i0 := rfl
  rw [f_X5_forget] at h
  have hG1 : (mset M 51 2 0) a0 i0 = M a0 i0 := (mset_at (show a0 ≠ 51 ∨ i0 ≠ 2 from by omega)).trans hG
  cases h
  exact hG1
theorem cw_X7_seat_7 {res : Mem} {F : Nat} {a : Nat} (a0 : Nat) (i0 : Int) (ha : (a0 ≠ 46 ∨ i0 ≠ 0) ∧ a0 ≠ 47) : ∀ (fu : Nat) (v2 : Int) (v3 : Int) (M : Mem), f_X7_seat_7 F a fu v2 v3 M = some res → res a0 i0 = M a0 i0 := by
  intro fu
  induction fu with
  | zero => intro v2 v3 M h; exact nomatch (show (none : Option (Mem)) = some res from h)
  | succ fu ih =>
    intro v2 v3 M h
    have hG : M a0 i0 = M a0 i0 := rfl
    rw [f_X7_seat_7] at h
    obtain ⟨⟨hp_v2, hp_v3⟩, h⟩ := chk_some h
    by_cases hc2 : v2 ≤ v3
    · replace h := ite_t hc2 h
      cases h
      exact hG
    · replace h := ite_f hc2 h
      obtain ⟨hc3, h⟩ := chk_some h
      obtain ⟨hc4, h⟩ := chk_some h
      have hG5 : (mset M 47 (M a v3) v3) a0 i0 = M a0 i0 := (mset_at (Or.inl (show a0 ≠ 47 from by omega))).trans hG
      exact (ih v2 (v3 + 1) (mset M 47 (M a v3) v3) h).trans hG5
theorem cg_X7_seat {F : Nat} {v2 : Int} {M : Mem} {a : Nat} {res : Mem} (h : f_X7_seat F a v2 M = some res) (a0 : Nat) (i0 : Int) (ha : (a0 ≠ 46 ∨ i0 ≠ 0) ∧ a0 ≠ 47) : res a0 i0 = M a0 i0 := by
  have hG : M a0 i0 = M a0 i0 := rfl
  rw [f_X7_seat] at h
  obtain ⟨hp_v2, h⟩ := chk_some h
  have hG1 : (mset M 46 0 v2) a0 i0 = M a0 i0 := (mset_at (show a0 ≠ 46 ∨ i0 ≠ 0 from by omega)).trans hG
  exact (cw_X7_seat_7 a0 i0 ha F v2 0 (mset M 46 0 v2) h).trans hG1
theorem cw_X8_copyChoices_11 {res : Int × Mem} {F : Nat} (a0 : Nat) (i0 : Int) (ha : a0 ≠ 49) : ∀ (fu : Nat) (v4 : Int) (v5 : Int) (v6 : Int) (M : Mem), f_X8_copyChoices_11 F fu v4 v5 v6 M = some res → res.2 a0 i0 = M a0 i0 := by
  intro fu
  induction fu with
  | zero => intro v4 v5 v6 M h; exact nomatch (show (none : Option (Int × Mem)) = some res from h)
  | succ fu ih =>
    intro v4 v5 v6 M h
    have hG : M a0 i0 = M a0 i0 := rfl
    rw [f_X8_copyChoices_11] at h
    obtain ⟨hp_v6, h⟩ := chk_some h
    obtain ⟨hc1, h⟩ := chk_some h
    by_cases hc2 : M 43 v5 ≤ v6
    · replace h := ite_t hc2 h
      cases h
      exact hG
    · replace h := ite_f hc2 h
      obtain ⟨hc3, h⟩ := chk_some h
      obtain ⟨hc4, h⟩ := chk_some h
      have hG5 : (mset M 49 (v4 + v6) (M 42 ((v5 * 8) + v6))) a0 i0 = M a0 i0 := (mset_at (Or.inl (show a0 ≠ 49 from by omega))).trans hG
      exact (ih v4 v5 (v6 + 1) (mset M 49 (v4 + v6) (M 42 ((v5 * 8) + v6))) h).trans hG5
theorem cg_X8_copyChoices {F : Nat} {v1 : Int} {v2 : Int} {v4 : Int} {M : Mem} {res : Int × Mem} (h : f_X8_copyChoices F v1 v2 v4 M = some res) (a0 : Nat) (i0 : Int) (ha : a0 ≠ 49) : res.2 a0 i0 = M a0 i0 := by
  have hG : M a0 i0 = M a0 i0 := rfl
  rw [f_X8_copyChoices] at h
  exact (cw_X8_copyChoices_11 a0 i0 ha F v4 ((v1 * 9) + v2) 0 M h).trans hG
theorem cw_X7_priceBeginningWith_11 {res : Mem} {F : Nat} (a0 : Nat) (i0 : Int) (ha : a0 ≠ 50) {k4 : Int → Int → Int → Mem → Option (Mem)} (hk4 : ∀ (v1 : Int) (v2 : Int) (v3 : Int) (M : Mem), k4 v1 v2 v3 M = some res → res a0 i0 = M a0 i0) : ∀ (fu : Nat) (v1 : Int) (v2 : Int) (v3 : Int) (v4 : Int) (M : Mem), f_X7_priceBeginningWith_11 F k4 fu v1 v2 v3 v4 M = some res → res a0 i0 = M a0 i0 := by
  intro fu
  induction fu with
  | zero => intro v1 v2 v3 v4 M h; exact nomatch (show (none : Option (Mem)) = some res from h)
  | succ fu ih =>
    intro v1 v2 v3 v4 M h
    have hG : M a0 i0 = M a0 i0 := rfl
    rw [f_X7_priceBeginningWith_11] at h
    obtain ⟨⟨hp_v3, hp_v4⟩, h⟩ := chk_some h
    obtain ⟨hc2, h⟩ := chk_some h
    by_cases hc3 : M 48 v3 ≤ v4
    · replace h := ite_t hc3 h
      exact (hk4 v1 v2 (v3 + (-1)) M h).trans hG
    · replace h := ite_f hc3 h
      obtain ⟨hc4, h⟩ := chk_some h
      rcases (Decidable.em (v3 = v2 - 1)).symm with hc5 | hc5
      · replace h := ite_f hc5 h
        obtain ⟨hc6, h⟩ := chk_some h
        obtain ⟨q7, h7, h⟩ := ob_some h
        have hG7 := hG
        obtain ⟨hc8, h⟩ := chk_some h
        have hG9 : (mset M 50 ((v3 * 8) + v4) q7) a0 i0 = M a0 i0 := (mset_at (Or.inl (show a0 ≠ 50 from by omega))).trans hG7
        exact (ih v1 v2 v3 (v4 + 1) (mset M 50 ((v3 * 8) + v4) q7) h).trans hG9
      · replace h := ite_t hc5 h
        obtain ⟨hc10, h⟩ := chk_some h
        obtain ⟨q11, h11, h⟩ := ob_some h
        have hG11 := hG
        obtain ⟨hc12, h⟩ := chk_some h
        have hG13 : (mset M 50 ((v3 * 8) + v4) q11) a0 i0 = M a0 i0 := (mset_at (Or.inl (show a0 ≠ 50 from by omega))).trans hG11
        exact (ih v1 v2 v3 (v4 + 1) (mset M 50 ((v3 * 8) + v4) q11) h).trans hG13
theorem cw_X7_priceBeginningWith_4 {res : Mem} {F : Nat} (a0 : Nat) (i0 : Int) (ha : a0 ≠ 50) : ∀ (fu : Nat) (v1 : Int) (v2 : Int) (v3 : Int) (M : Mem), f_X7_priceBeginningWith_4 F fu v1 v2 v3 M = some res → res a0 i0 = M a0 i0 := by
  intro fu
  induction fu with
  | zero => intro v1 v2 v3 M h; exact nomatch (show (none : Option (Mem)) = some res from h)
  | succ fu ih =>
    intro v1 v2 v3 M h
    have hG : M a0 i0 = M a0 i0 := rfl
    rw [f_X7_priceBeginningWith_4] at h
    obtain ⟨hp_v3, h⟩ := chk_some h
    by_cases hc1 : v3 < 0
    · replace h := ite_t hc1 h
      cases h
      exact hG
    · replace h := ite_f hc1 h
      exact (cw_X7_priceBeginningWith_11 a0 i0 ha ih F v1 v2 v3 0 M h).trans hG
theorem cg_X7_priceBeginningWith {F : Nat} {v1 : Int} {v2 : Int} {M : Mem} {res : Mem} (h : f_X7_priceBeginningWith F v1 v2 M = some res) (a0 : Nat) (i0 : Int) (ha : a0 ≠ 50) : res a0 i0 = M a0 i0 := by
  have hG : M a0 i0 = M a0 i0 := rfl
  rw [f_X7_priceBeginningWith] at h
  exact (cw_X7_priceBeginningWith_4 a0 i0 ha F v1 v2 (v2 - 1) M h).trans hG
theorem cw_X7_follow_45 {res : Mem} {F : Nat} {t : Nat} (a0 : Nat) (i0 : Int) (ha : a0 ≠ (t + 1)) {k22 : Int → Int → Mem → Option (Mem)} (hk22 : ∀ (v3 : Int) (v4 : Int) (M : Mem), k22 v3 v4 M = some res → res a0 i0 = M a0 i0) : ∀ (fu : Nat) (v3 : Int) (v4 : Int) (v5 : Int) (v6 : Int) (M : Mem), f_X7_follow_45 F t k22 fu v3 v4 v5 v6 M = some res → res a0 i0 = M a0 i0 := by
  intro fu
  induction fu with
  | zero => intro v3 v4 v5 v6 M h; exact nomatch (show (none : Option (Mem)) = some res from h)
  | succ fu ih =>
    intro v3 v4 v5 v6 M h
    have hG : M a0 i0 = M a0 i0 := rfl
    rw [f_X7_follow_45] at h
    obtain ⟨⟨hp_v3, hp_v6⟩, h⟩ := chk_some h
    obtain ⟨hc5, h⟩ := chk_some h
    by_cases hc6 : M 48 v4 ≤ v6
    · replace h := ite_t hc6 h
      exact (hk22 v3 (v4 + 1) M h).trans hG
    · replace h := ite_f hc6 h
      obtain ⟨hc7, h⟩ := chk_some h
      obtain ⟨q8, h8, h⟩ := ob_some h
      have hG8 := hG
      obtain ⟨hc9, h⟩ := chk_some h
      rcases (Decidable.em (q8 + (M 50 ((v4 * 8) + v6)) = v3)).symm with hc10 | hc10
      · replace h := ite_f hc10 h
        exact (ih v3 v4 v5 (v6 + 1) M h).trans hG8
      · replace h := ite_t hc10 h
        have hG11 : (mset M (t + 1) v4 (M 49 ((v4 * 8) + v6))) a0 i0 = M a0 i0 := (mset_at (Or.inl (show a0 ≠ (t + 1) from by omega))).trans hG8
        exact (hk22 ((mset M (t + 1) v4 (M 49 ((v4 * 8) + v6))) 50 ((v4 * 8) + v6)) (v4 + 1) (mset M (t + 1) v4 (M 49 ((v4 * 8) + v6))) h).trans hG11
theorem cw_X7_follow_22 {res : Mem} {F : Nat} {t : Nat} (a0 : Nat) (i0 : Int) (ha : a0 ≠ (t + 1)) : ∀ (fu : Nat) (v3 : Int) (v4 : Int) (M : Mem), f_X7_follow_22 F t fu v3 v4 M = some res → res a0 i0 = M a0 i0 := by
  intro fu
  induction fu with
  | zero => intro v3 v4 M h; exact nomatch (show (none : Option (Mem)) = some res from h)
  | succ fu ih =>
    intro v3 v4 M h
    have hG : M a0 i0 = M a0 i0 := rfl
    rw [f_X7_follow_22] at h
    obtain ⟨hp_v4, h⟩ := chk_some h
    by_cases hc3 : M t 0 ≤ v4
    · replace h := ite_t hc3 h
      cases h
      exact hG
    · replace h := ite_f hc3 h
      obtain ⟨hc4, h⟩ := chk_some h
      exact (cw_X7_follow_45 a0 i0 ha ih F v3 v4 (M (t + 1) (v4 - 1)) 0 M h).trans hG
theorem cg_X7_follow {F : Nat} {v1 : Int} {M : Mem} {t : Nat} {res : Mem} (h : f_X7_follow F t v1 M = some res) (a0 : Nat) (i0 : Int) (ha : a0 ≠ (t + 1)) : res a0 i0 = M a0 i0 := by
  have hG : M a0 i0 = M a0 i0 := rfl
  rw [f_X7_follow] at h
  obtain ⟨hc1, h⟩ := chk_some h
  have hG2 : (mset M (t + 1) 0 (M 49 v1)) a0 i0 = M a0 i0 := (mset_at (Or.inl (show a0 ≠ (t + 1) from by omega))).trans hG
  exact (cw_X7_follow_22 a0 i0 ha F ((mset M (t + 1) 0 (M 49 v1)) 50 v1) 1 (mset M (t + 1) 0 (M 49 v1)) h).trans hG2
theorem cw_X7_fill_83 {res : Mem} {F : Nat} {t : Nat} (a0 : Nat) (i0 : Int) (ha : (a0 ≠ t ∨ i0 ≠ 0) ∧ a0 ≠ 48 ∧ a0 ≠ 49 ∧ a0 ≠ 50 ∧ a0 ≠ (t + 1)) : ∀ (fu : Nat) (v5 : Int) (v6 : Int) (M : Mem), f_X7_fill_83 F t fu v5 v6 M = some res → res a0 i0 = M a0 i0 := by
  intro fu
  induction fu with
  | zero => intro v5 v6 M h; exact nomatch (show (none : Option (Mem)) = some res from h)
  | succ fu ih =>
    intro v5 v6 M h
    have hG : M a0 i0 = M a0 i0 := rfl
    rw [f_X7_fill_83] at h
    obtain ⟨⟨hp_v5, hp_v6⟩, h⟩ := chk_some h
    by_cases hc5 : M 48 0 ≤ v6
    · replace h := ite_t hc5 h
      cases h
      exact hG
    · replace h := ite_f hc5 h
      obtain ⟨hc6, h⟩ := chk_some h
      obtain ⟨q7, h7, h⟩ := ob_some h
      have hG7 := (cg_X7_priceBeginningWith h7 a0 i0 (by omega)).trans hG
      by_cases hc8 : v5 ≤ q7 50 v6
      · replace h := ite_t hc8 h
        exact (ih v5 (v6 + 1) q7 h).trans hG7
      · replace h := ite_f hc8 h
        obtain ⟨q9, h9, h⟩ := ob_some h
        have hG9 := (cg_X7_follow h9 a0 i0 (by omega)).trans hG7
        exact (ih (q7 50 v6) (v6 + 1) q9 h).trans hG9
theorem cw_X7_fill_23 {res : Mem} {F : Nat} {t : Nat} (a0 : Nat) (i0 : Int) (ha : (a0 ≠ t ∨ i0 ≠ 0) ∧ a0 ≠ 48 ∧ a0 ≠ 49 ∧ a0 ≠ 50 ∧ a0 ≠ (t + 1)) : ∀ (fu : Nat) (v2 : Int) (v3 : Int) (v5 : Int) (M : Mem), f_X7_fill_23 F t fu v2 v3 v5 M = some res → res a0 i0 = M a0 i0 := by
  intro fu
  induction fu with
  | zero => intro v2 v3 v5 M h; exact nomatch (show (none : Option (Mem)) = some res from h)
  | succ fu ih =>
    intro v2 v3 v5 M h
    have hG : M a0 i0 = M a0 i0 := rfl
    rw [f_X7_fill_23] at h
    obtain ⟨hp_v5, h⟩ := chk_some h
    by_cases hc4 : M t 0 ≤ v5
    · replace h := ite_t hc4 h
      exact (cw_X7_fill_83 a0 i0 ha F 1000 0 M h).trans hG
    · replace h := ite_f hc4 h
      obtain ⟨q10, h10, h⟩ := ob_some h
      have hG10 := hG
      obtain ⟨hc11, h⟩ := chk_some h
      obtain ⟨q12, h12, h⟩ := ob_some h
      have hG12 := (cg_X8_copyChoices h12 a0 i0 (by omega)).trans hG10
      obtain ⟨hc13, h⟩ := chk_some h
      obtain ⟨hc14, h⟩ := chk_some h
      have hG15 : (mset q12.2 48 v5 q12.1) a0 i0 = M a0 i0 := (mset_at (Or.inl (show a0 ≠ 48 from by omega))).trans hG12
      exact (ih v2 v3 (v5 + 1) (mset q12.2 48 v5 q12.1) h).trans hG15
theorem cg_X7_fill {F : Nat} {v2 : Int} {v3 : Int} {M : Mem} {t : Nat} {res : Mem} (h : f_X7_fill F t v2 v3 M = some res) (a0 : Nat) (i0 : Int) (ha : (a0 ≠ t ∨ i0 ≠ 0) ∧ a0 ≠ 48 ∧ a0 ≠ 49 ∧ a0 ≠ 50 ∧ a0 ≠ (t + 1)) : res a0 i0 = M a0 i0 := by
  have hG : M a0 i0 = M a0 i0 := rfl
  rw [f_X7_fill] at h
  obtain ⟨hc1, h⟩ := chk_some h
  have hG2 : (mset M t 0 ((M 46 0) - 1)) a0 i0 = M a0 i0 := (mset_at (show a0 ≠ t ∨ i0 ≠ 0 from by omega)).trans hG
  by_cases hc3 : 0 < (mset M t 0 ((M 46 0) - 1)) t 0
  · replace h := ite_t hc3 h
    exact (cw_X7_fill_23 a0 i0 ha F v2 v3 0 (mset M t 0 ((M 46 0) - 1)) h).trans hG2
  · replace h := ite_f hc3 h
    cases h
    exact hG2
theorem cw_X5_evaluate_22 {res : Mem} {F : Nat} (a0 : Nat) (i0 : Int) (ha : (a0 ≠ 46 ∨ i0 ≠ 0) ∧ a0 ≠ 47 ∧ a0 ≠ 48 ∧ a0 ≠ 49 ∧ a0 ≠ 50 ∧ (a0 ≠ 51 ∨ i0 ≠ 3) ∧ (a0 ≠ 51 ∨ i0 ≠ 4) ∧ (a0 ≠ 55 ∨ i0 ≠ 0) ∧ a0 ≠ 56) : ∀ (fu : Nat) (v2 : Int) (v4 : Int) (M : Mem), f_X5_evaluate_22 F fu v2 v4 M = some res → res a0 i0 = M a0 i0 := by
  intro fu
  induction fu with
  | zero => intro v2 v4 M h; exact nomatch (show (none : Option (Mem)) = some res from h)
  | succ fu ih =>
    intro v2 v4 M h
    have hG : M a0 i0 = M a0 i0 := rfl
    rw [f_X5_evaluate_22] at h
    obtain ⟨⟨hp_v2, hp_v4⟩, h⟩ := chk_some h
    by_cases hc4 : v2 ≤ v4
    · replace h := ite_t hc4 h
      cases h
      exact hG
    · replace h := ite_f hc4 h
      obtain ⟨hc5, h⟩ := chk_some h
      obtain ⟨q6, h6, h⟩ := ob_some h
      have hG6 := (cg_X7_fill h6 a0 i0 (by omega)).trans hG
      obtain ⟨q7, h7, h⟩ := ob_some h
      have hG7 := hG6
      obtain ⟨hc8, h⟩ := chk_some h
      have hG9 : (mset q6 51 3 (imax (q6 51 3) q7)) a0 i0 = M a0 i0 := (mset_at (show a0 ≠ 51 ∨ i0 ≠ 3 from by omega)).trans hG7
      obtain ⟨q10, h10, h⟩ := ob_some h
      have hG10 := hG9
      obtain ⟨hc11, h⟩ := chk_some h
      have hG12 : (mset (mset q6 51 3 (imax (q6 51 3) q7)) 51 4 (((mset q6 51 3 (imax (q6 51 3) q7)) 51 4) + q10)) a0 i0 = M a0 i0 := (mset_at (show a0 ≠ 51 ∨ i0 ≠ 4 from by omega)).trans hG10
      exact (ih v2 (v4 + 1) (mset (mset q6 51 3 (imax (q6 51 3) q7)) 51 4 (((mset q6 51 3 (imax (q6 51 3) q7)) 51 4) + q10)) h).trans hG12
theorem cg_X5_evaluate {F : Nat} {v2 : Int} {M : Mem} {res : Mem} (h : f_X5_evaluate F v2 M = some res) (a0 : Nat) (i0 : Int) (ha : (a0 ≠ 46 ∨ i0 ≠ 0) ∧ a0 ≠ 47 ∧ a0 ≠ 48 ∧ a0 ≠ 49 ∧ a0 ≠ 50 ∧ (a0 ≠ 51 ∨ i0 ≠ 3) ∧ (a0 ≠ 51 ∨ i0 ≠ 4) ∧ (a0 ≠ 55 ∨ i0 ≠ 0) ∧ a0 ≠ 56) : res a0 i0 = M a0 i0 := by
  have hG : M a0 i0 = M a0 i0 := rfl
  rw [f_X5_evaluate] at h
  obtain ⟨q1, h1, h⟩ := ob_some h
  have hG1 := (cg_X7_seat h1 a0 i0 (by omega)).trans hG
  have hG2 : (mset q1 51 3 0) a0 i0 = M a0 i0 := (mset_at (show a0 ≠ 51 ∨ i0 ≠ 3 from by omega)).trans hG1
  have hG3 : (mset (mset q1 51 3 0) 51 4 0) a0 i0 = M a0 i0 := (mset_at (show a0 ≠ 51 ∨ i0 ≠ 4 from by omega)).trans hG2
  exact (cw_X5_evaluate_22 a0 i0 ha F v2 0 (mset (mset q1 51 3 0) 51 4 0) h).trans hG3
theorem cw_X5_note_22 {res : Mem} (a0 : Nat) (i0 : Int) (ha : (a0 ≠ 51 ∨ i0 ≠ 0) ∧ (a0 ≠ 51 ∨ i0 ≠ 1) ∧ a0 ≠ 53 ∧ a0 ≠ 54) : ∀ (v1 : Int) (M : Mem), f_X5_note_22 v1 M = some res → res a0 i0 = M a0 i0 := by
  intro v1 M h
  have hG : M a0 i0 = M a0 i0 := rfl
  rw [f_X5_note_22] at h
  by_cases hc2 : M 51 3 < M 51 0
  · replace h := ite_t hc2 h
    have hG4 : (mset M 51 0 (M 51 3)) a0 i0 = M a0 i0 := (mset_at (show a0 ≠ 51 ∨ i0 ≠ 0 from by omega)).trans hG
    have hG5 : (mset (mset M 51 0 (M 51 3)) 51 1 ((mset M 51 0 (M 51 3)) 51 4)) a0 i0 = M a0 i0 := (mset_at (show a0 ≠ 51 ∨ i0 ≠ 1 from by omega)).trans hG4
    obtain ⟨hc6, h⟩ := chk_some h
    have hG7 : (mcpy (mset (mset M 51 0 (M 51 3)) 51 1 ((mset M 51 0 (M 51 3)) 51 4)) 52 0 53 0 v1) a0 i0 = M a0 i0 := (mcpy_at (Or.inl (show a0 ≠ 53 from by omega))).trans hG5
    cases h
    exact hG7
  · replace h := ite_f hc2 h
    rcases (Decidable.em (M 51 3 = M 51 0)).symm with hc8 | hc8
    · replace h := ite_f hc8 h
      cases h
      exact hG
    · replace h := ite_t hc8 h
      by_cases hc10 : M 51 1 ≤ M 51 4
      · replace h := ite_t hc10 h
        cases h
        exact hG
      · replace h := ite_f hc10 h
        have hG13 : (mset M 51 0 (M 51 3)) a0 i0 = M a0 i0 := (mset_at (show a0 ≠ 51 ∨ i0 ≠ 0 from by omega)).trans hG
        have hG14 : (mset (mset M 51 0 (M 51 3)) 51 1 ((mset M 51 0 (M 51 3)) 51 4)) a0 i0 = M a0 i0 := (mset_at (show a0 ≠ 51 ∨ i0 ≠ 1 from by omega)).trans hG13
        obtain ⟨hc15, h⟩ := chk_some h
        have hG16 : (mcpy (mset (mset M 51 0 (M 51 3)) 51 1 ((mset M 51 0 (M 51 3)) 51 4)) 52 0 53 0 v1) a0 i0 = M a0 i0 := (mcpy_at (Or.inl (show a0 ≠ 53 from by omega))).trans hG14
        cases h
        exact hG16
theorem cg_X5_note {v1 : Int} {M : Mem} {res : Mem} (h : f_X5_note v1 M = some res) (a0 : Nat) (i0 : Int) (ha : (a0 ≠ 51 ∨ i0 ≠ 0) ∧ (a0 ≠ 51 ∨ i0 ≠ 1) ∧ a0 ≠ 53 ∧ a0 ≠ 54) : res a0 i0 = M a0 i0 := by
  have hG : M a0 i0 = M a0 i0 := rfl
  rw [f_X5_note] at h
  by_cases hc1 : 9 < M 51 3
  · replace h := ite_t hc1 h
    exact (cw_X5_note_22 a0 i0 ha v1 M h).trans hG
  · replace h := ite_f hc1 h
    obtain ⟨hc17, h⟩ := chk_some h
    obtain ⟨hc18, h⟩ := chk_some h
    have hG19 : (mset M 54 (M 51 3) ((M 54 (M 51 3)) + 1)) a0 i0 = M a0 i0 := (mset_at (Or.inl (show a0 ≠ 54 from by omega))).trans hG
    exact (cw_X5_note_22 a0 i0 ha v1 (mset M 54 (M 51 3) ((M 54 (M 51 3)) + 1)) h).trans hG19
theorem cg_X5_exchange {v1 : Int} {v2 : Int} {M : Mem} {res : Mem} (h : f_X5_exchange v1 v2 M = some res) (a0 : Nat) (i0 : Int) (ha : a0 ≠ 52) : res a0 i0 = M a0 i0 := by
  have hG : M a0 i0 = M a0 i0 := rfl
  rw [f_X5_exchange] at h
  obtain ⟨hc1, h⟩ := chk_some h
  obtain ⟨hc2, h⟩ := chk_some h
  have hG3 : (mset M 52 v1 (M 52 v2)) a0 i0 = M a0 i0 := (mset_at (Or.inl (show a0 ≠ 52 from by omega))).trans hG
  have hG4 : (mset (mset M 52 v1 (M 52 v2)) 52 v2 (M 52 v1)) a0 i0 = M a0 i0 := (mset_at (Or.inl (show a0 ≠ 52 from by omega))).trans hG3
  cases h
  exact hG4
theorem cw_X5_nextTrial_103 {res : Int × Mem} {F : Nat} (a0 : Nat) (i0 : Int) (ha : a0 ≠ 52) : ∀ (fu : Nat) (v4 : Int) (v5 : Int) (M : Mem), f_X5_nextTrial_103 F fu v4 v5 M = some res → res.2 a0 i0 = M a0 i0 := by
  intro fu
  induction fu with
  | zero => intro v4 v5 M h; exact nomatch (show (none : Option (Int × Mem)) = some res from h)
  | succ fu ih =>
    intro v4 v5 M h
    have hG : M a0 i0 = M a0 i0 := rfl
    rw [f_X5_nextTrial_103] at h
    obtain ⟨⟨hp_v4, hp_v5⟩, h⟩ := chk_some h
    by_cases hc5 : v5 ≤ v4
    · replace h := ite_t hc5 h
      cases h
      exact hG
    · replace h := ite_f hc5 h
      obtain ⟨q6, h6, h⟩ := ob_some h
      have hG6 := (cg_X5_exchange h6 a0 i0 (by omega)).trans hG
      exact (ih (v4 + 1) (v5 + (-1)) q6 h).trans hG6
theorem cw_X5_nextTrial_56 {res : Int × Mem} {F : Nat} (a0 : Nat) (i0 : Int) (ha : a0 ≠ 52) : ∀ (fu : Nat) (v1 : Int) (v2 : Int) (v3 : Int) (v4 : Int) (M : Mem), f_X5_nextTrial_56 F fu v1 v2 v3 v4 M = some res → res.2 a0 i0 = M a0 i0 := by
  intro fu
  induction fu with
  | zero => intro v1 v2 v3 v4 M h; exact nomatch (show (none : Option (Int × Mem)) = some res from h)
  | succ fu ih =>
    intro v1 v2 v3 v4 M h
    have hG : M a0 i0 = M a0 i0 := rfl
    rw [f_X5_nextTrial_56] at h
    obtain ⟨⟨hp_v1, hp_v4⟩, h⟩ := chk_some h
    by_cases hc3 : v1 ≤ v4
    · replace h := ite_t hc3 h
      obtain ⟨q4, h4, h⟩ := ob_some h
      have hG4 := (cg_X5_exchange h4 a0 i0 (by omega)).trans hG
      exact (cw_X5_nextTrial_103 a0 i0 ha F (v2 + 1) (v1 - 1) q4 h).trans hG4
    · replace h := ite_f hc3 h
      obtain ⟨hc7, h⟩ := chk_some h
      obtain ⟨hc8, h⟩ := chk_some h
      by_cases hc9 : M 52 v4 ≤ M 52 v2
      · replace h := ite_t hc9 h
        exact (ih v1 v2 v3 (v4 + 1) M h).trans hG
      · replace h := ite_f hc9 h
        exact (ih v1 v2 v4 (v4 + 1) M h).trans hG
theorem cw_X5_nextTrial_6 {res : Int × Mem} {F : Nat} (a0 : Nat) (i0 : Int) (ha : a0 ≠ 52) : ∀ (fu : Nat) (v1 : Int) (v2 : Int) (v3 : Int) (M : Mem), f_X5_nextTrial_6 F fu v1 v2 v3 M = some res → res.2 a0 i0 = M a0 i0 := by
  intro fu
  induction fu with
  | zero => intro v1 v2 v3 M h; exact nomatch (show (none : Option (Int × Mem)) = some res from h)
  | succ fu ih =>
    intro v1 v2 v3 M h
    have hG : M a0 i0 = M a0 i0 := rfl
    rw [f_X5_nextTrial_6] at h
    obtain ⟨⟨hp_v1, hp_v2, hp_v3⟩, h⟩ := chk_some h
    by_cases hc1 : v1 ≤ v3
    · replace h := ite_t hc1 h
      by_cases hc2 : 0 ≤ v2
      · replace h := ite_t hc2 h
        exact (cw_X5_nextTrial_56 a0 i0 ha F v1 v2 (v2 + 1) (v2 + 2) M h).trans hG
      · replace h := ite_f hc2 h
        cases h
        exact hG
    · replace h := ite_f hc1 h
      by_cases hc10 : v2 < 0
      · replace h := ite_t hc10 h
        by_cases hc11 : 0 ≤ v2
        · replace h := ite_t hc11 h
          exact (cw_X5_nextTrial_56 a0 i0 ha F v1 v2 (v2 + 1) (v2 + 2) M h).trans hG
        · replace h := ite_f hc11 h
          cases h
          exact hG
      · replace h := ite_f hc10 h
        obtain ⟨hc12, h⟩ := chk_some h
        obtain ⟨hc13, h⟩ := chk_some h
        by_cases hc14 : M 52 v2 ≤ M 52 (v2 + 1)
        · replace h := ite_t hc14 h
          by_cases hc15 : 0 ≤ v2
          · replace h := ite_t hc15 h
            exact (cw_X5_nextTrial_56 a0 i0 ha F v1 v2 (v2 + 1) (v2 + 2) M h).trans hG
          · replace h := ite_f hc15 h
            cases h
            exact hG
        · replace h := ite_f hc14 h
          exact (ih v1 (v2 + (-1)) (v3 + 1) M h).trans hG
theorem cg_X5_nextTrial {F : Nat} {v1 : Int} {M : Mem} {res : Int × Mem} (h : f_X5_nextTrial F v1 M = some res) (a0 : Nat) (i0 : Int) (ha : a0 ≠ 52) : res.2 a0 i0 = M a0 i0 := by
  have hG : M a0 i0 = M a0 i0 := rfl
  rw [f_X5_nextTrial] at h
  exact (cw_X5_nextTrial_6 a0 i0 ha F v1 (v1 - 2) 0 M h).trans hG
theorem cw_X5_ensure_58 {res : Mem} {F : Nat} (a0 : Nat) (i0 : Int) (ha : (a0 ≠ 46 ∨ i0 ≠ 0) ∧ a0 ≠ 47 ∧ a0 ≠ 48 ∧ a0 ≠ 49 ∧ a0 ≠ 50 ∧ (a0 ≠ 51 ∨ i0 ≠ 0) ∧ (a0 ≠ 51 ∨ i0 ≠ 1) ∧ (a0 ≠ 51 ∨ i0 ≠ 2) ∧ (a0 ≠ 51 ∨ i0 ≠ 3) ∧ (a0 ≠ 51 ∨ i0 ≠ 4) ∧ a0 ≠ 52 ∧ a0 ≠ 53 ∧ a0 ≠ 54 ∧ (a0 ≠ 55 ∨ i0 ≠ 0) ∧ a0 ≠ 56) : ∀ (fu : Nat) (v2 : Int) (v4 : Int) (v5 : Int) (M : Mem), f_X5_ensure_58 F fu v2 v4 v5 M = some res → res a0 i0 = M a0 i0 := by
  intro fu
  induction fu with
  | zero => intro v2 v4 v5 M h; exact nomatch (show (none : Option (Mem)) = some res from h)
  | succ fu ih =>
    intro v2 v4 v5 M h
    have hG : M a0 i0 = M a0 i0 := rfl
    rw [f_X5_ensure_58] at h
    obtain ⟨⟨hp_v4, hp_v5⟩, h⟩ := chk_some h
    by_cases hc6 : 720 ≤ v5
    · replace h := ite_t hc6 h
      cases h
      exact hG
    · replace h := ite_f hc6 h
      by_cases hc7 : v4 = 0
      · replace h := ite_t hc7 h
        cases h
        exact hG
      · replace h := ite_f hc7 h
        obtain ⟨q8, h8, h⟩ := ob_some h
        have hG8 := (cg_X5_evaluate h8 a0 i0 (by omega)).trans hG
        obtain ⟨q9, h9, h⟩ := ob_some h
        have hG9 := (cg_X5_note h9 a0 i0 (by omega)).trans hG8
        obtain ⟨q10, h10, h⟩ := ob_some h
        have hG10 := (cg_X5_nextTrial h10 a0 i0 (by omega)).trans hG9
        exact (ih v2 q10.1 (v5 + 1) q10.2 h).trans hG10
theorem cw_X5_ensure_31 {res : Mem} {F : Nat} (a0 : Nat) (i0 : Int) (ha : (a0 ≠ 46 ∨ i0 ≠ 0) ∧ a0 ≠ 47 ∧ a0 ≠ 48 ∧ a0 ≠ 49 ∧ a0 ≠ 50 ∧ (a0 ≠ 51 ∨ i0 ≠ 0) ∧ (a0 ≠ 51 ∨ i0 ≠ 1) ∧ (a0 ≠ 51 ∨ i0 ≠ 2) ∧ (a0 ≠ 51 ∨ i0 ≠ 3) ∧ (a0 ≠ 51 ∨ i0 ≠ 4) ∧ a0 ≠ 52 ∧ a0 ≠ 53 ∧ a0 ≠ 54 ∧ (a0 ≠ 55 ∨ i0 ≠ 0) ∧ a0 ≠ 56) : ∀ (fu : Nat) (v2 : Int) (v4 : Int) (M : Mem), f_X5_ensure_31 F fu v2 v4 M = some res → res a0 i0 = M a0 i0 := by
  intro fu
  induction fu with
  | zero => intro v2 v4 M h; exact nomatch (show (none : Option (Mem)) = some res from h)
  | succ fu ih =>
    intro v2 v4 M h
    have hG : M a0 i0 = M a0 i0 := rfl
    rw [f_X5_ensure_31] at h
    obtain ⟨⟨hp_v2, hp_v4⟩, h⟩ := chk_some h
    by_cases hc5 : v2 ≤ v4
    · replace h := ite_t hc5 h
      exact (cw_X5_ensure_58 a0 i0 ha F v2 1 0 M h).trans hG
    · replace h := ite_f hc5 h
      obtain ⟨hc11, h⟩ := chk_some h
      have hG12 : (mset M 52 v4 v4) a0 i0 = M a0 i0 := (mset_at (Or.inl (show a0 ≠ 52 from by omega))).trans hG
      exact (ih v2 (v4 + 1) (mset M 52 v4 v4) h).trans hG12
theorem cg_X5_ensure {F : Nat} {v2 : Int} {M : Mem} {res : Mem} (h : f_X5_ensure F v2 M = some res) (a0 : Nat) (i0 : Int) (ha : (a0 ≠ 46 ∨ i0 ≠ 0) ∧ a0 ≠ 47 ∧ a0 ≠ 48 ∧ a0 ≠ 49 ∧ a0 ≠ 50 ∧ (a0 ≠ 51 ∨ i0 ≠ 0) ∧ (a0 ≠ 51 ∨ i0 ≠ 1) ∧ (a0 ≠ 51 ∨ i0 ≠ 2) ∧ (a0 ≠ 51 ∨ i0 ≠ 3) ∧ (a0 ≠ 51 ∨ i0 ≠ 4) ∧ a0 ≠ 52 ∧ a0 ≠ 53 ∧ a0 ≠ 54 ∧ (a0 ≠ 55 ∨ i0 ≠ 0) ∧ a0 ≠ 56) : res a0 i0 = M a0 i0 := by
  have hG : M a0 i0 = M a0 i0 := rfl
  rw [f_X5_ensure] at h
  by_cases hc1 : M 51 2 = 0
  · replace h := ite_t hc1 h
    have hG2 : (mset M 51 2 1) a0 i0 = M a0 i0 := (mset_at (show a0 ≠ 51 ∨ i0 ≠ 2 from by omega)).trans hG
    have hG3 : (mset (mset M 51 2 1) 51 0 1000) a0 i0 = M a0 i0 := (mset_at (show a0 ≠ 51 ∨ i0 ≠ 0 from by omega)).trans hG2
    obtain ⟨q4, h4, h⟩ := ob_some h
    have hG4 := (cg_J7_fill_53178 h4 a0 i0 (by omega)).trans hG3
    exact (cw_X5_ensure_31 a0 i0 ha F v2 0 q4 h).trans hG4
  · replace h := ite_f hc1 h
    cases h
    exact hG
theorem cg_X5_copyBest {M : Mem} {res : Mem} (h : f_X5_copyBest M = some res) (a0 : Nat) (i0 : Int) (ha : a0 ≠ 5) : res a0 i0 = M a0 i0 := by
  have hG : M a0 i0 = M a0 i0 := rfl
  rw [f_X5_copyBest] at h
  obtain ⟨hc1, h⟩ := chk_some h
  have hG2 : (mcpy M 53 0 5 0 (M 1 0)) a0 i0 = M a0 i0 := (mcpy_at (Or.inl (show a0 ≠ 5 from by omega))).trans hG
  cases h
  exact hG2
theorem cw_X6_drop_2 {res : Mem} {F : Nat} {r : Nat} (a0 : Nat) (i0 : Int) (ha : (a0 ≠ r ∨ i0 ≠ 1) ∧ a0 ≠ (r + 1) ∧ a0 ≠ (r + 2) ∧ a0 ≠ (r + 3)) : ∀ (fu : Nat) (v2 : Int) (M : Mem), f_X6_drop_2 F r fu v2 M = some res → res a0 i0 = M a0 i0 := by
  intro fu
  induction fu with
  | zero => intro v2 M h; exact nomatch (show (none : Option (Mem)) = some res from h)
  | succ fu ih =>
    intro v2 M h
    have hG : M a0 i0 = M a0 i0 := rfl
    rw [f_X6_drop_2] at h
    obtain ⟨hc1, h⟩ := chk_some h
    by_cases hc2 : M r 1 ≤ v2 + 1
    · replace h := ite_t hc2 h
      obtain ⟨hc3, h⟩ := chk_some h
      have hG4 : (mset M r 1 ((M r 1) - 1)) a0 i0 = M a0 i0 := (mset_at (show a0 ≠ r ∨ i0 ≠ 1 from by omega)).trans hG
      cases h
      exact hG4
    · replace h := ite_f hc2 h
      obtain ⟨hc5, h⟩ := chk_some h
      obtain ⟨hc6, h⟩ := chk_some h
      have hG7 : (mset M (r + 1) v2 (M (r + 1) (v2 + 1))) a0 i0 = M a0 i0 := (mset_at (Or.inl (show a0 ≠ (r + 1) from by omega))).trans hG
      have hG8 : (mset (mset M (r + 1) v2 (M (r + 1) (v2 + 1))) (r + 2) v2 ((mset M (r + 1) v2 (M (r + 1) (v2 + 1))) (r + 2) (v2 + 1))) a0 i0 = M a0 i0 := (mset_at (Or.inl (show a0 ≠ (r + 2) from by omega))).trans hG7
      have hG9 : (mset (mset (mset M (r + 1) v2 (M (r + 1) (v2 + 1))) (r + 2) v2 ((mset M (r + 1) v2 (M (r + 1) (v2 + 1))) (r + 2) (v2 + 1))) (r + 3) v2 ((mset (mset M (r + 1) v2 (M (r + 1) (v2 + 1))) (r + 2) v2 ((mset M (r + 1) v2 (M (r + 1) (v2 + 1))) (r + 2) (v2 + 1))) (r + 3) (v2 + 1))) a0 i0 = M a0 i0 := (mset_at (Or.inl (show a0 ≠ (r + 3) from by omega))).trans hG8
      exact (ih (v2 + 1) (mset (mset (mset M (r + 1) v2 (M (r + 1) (v2 + 1))) (r + 2) v2 ((mset M (r + 1) v2 (M (r + 1) (v2 + 1))) (r + 2) (v2 + 1))) (r + 3) v2 ((mset (mset M (r + 1) v2 (M (r + 1) (v2 + 1))) (r + 2) v2 ((mset M (r + 1) v2 (M (r + 1) (v2 + 1))) (r + 2) (v2 + 1))) (r + 3) (v2 + 1))) h).trans hG9
theorem cg_X6_drop {F : Nat} {v1 : Int} {M : Mem} {r : Nat} {res : Mem} (h : f_X6_drop F r v1 M = some res) (a0 : Nat) (i0 : Int) (ha : (a0 ≠ r ∨ i0 ≠ 1) ∧ a0 ≠ (r + 1) ∧ a0 ≠ (r + 2) ∧ a0 ≠ (r + 3)) : res a0 i0 = M a0 i0 := by
  have hG : M a0 i0 = M a0 i0 := rfl
  rw [f_X6_drop] at h
  exact (cw_X6_drop_2 a0 i0 ha F v1 M h).trans hG
theorem cw_X6_storeTable_2 {res : Mem} {F : Nat} {r : Nat} (a0 : Nat) (i0 : Int) (ha : a0 ≠ (r + 5)) : ∀ (fu : Nat) (v1 : Int) (v3 : Int) (M : Mem), f_X6_storeTable_2 F r fu v1 v3 M = some res → res a0 i0 = M a0 i0 := by
  intro fu
  induction fu with
  | zero => intro v1 v3 M h; exact nomatch (show (none : Option (Mem)) = some res from h)
  | succ fu ih =>
    intro v1 v3 M h
    have hG : M a0 i0 = M a0 i0 := rfl
    rw [f_X6_storeTable_2] at h
    obtain ⟨hp_v3, h⟩ := chk_some h
    by_cases hc1 : M 44 0 ≤ v3
    · replace h := ite_t hc1 h
      cases h
      exact hG
    · replace h := ite_f hc1 h
      obtain ⟨hc2, h⟩ := chk_some h
      obtain ⟨q3, h3, h⟩ := ob_some h
      have hG3 := hG
      obtain ⟨hc4, h⟩ := chk_some h
      obtain ⟨hc5, h⟩ := chk_some h
      have hG6 : (mset M (r + 5) ((v1 * 9) + q3) (M 45 v3)) a0 i0 = M a0 i0 := (mset_at (Or.inl (show a0 ≠ (r + 5) from by omega))).trans hG3
      exact (ih v1 (v3 + 1) (mset M (r + 5) ((v1 * 9) + q3) (M 45 v3)) h).trans hG6
theorem cg_X6_storeTable {F : Nat} {v1 : Int} {M : Mem} {r : Nat} {res : Mem} (h : f_X6_storeTable F r v1 M = some res) (a0 : Nat) (i0 : Int) (ha : a0 ≠ (r + 5)) : res a0 i0 = M a0 i0 := by
  have hG : M a0 i0 = M a0 i0 := rfl
  rw [f_X6_storeTable] at h
  exact (cw_X6_storeTable_2 a0 i0 ha F v1 0 M h).trans hG
theorem cw_X6_setInterval_30 {res : Int × Mem} {F : Nat} {r : Nat} (a0 : Nat) (i0 : Int) (ha : a0 ≠ (r + 5)) : ∀ (fu : Nat) (v1 : Int) (v2 : Int) (v3 : Int) (v5 : Int) (v6 : Int) (v7 : Int) (M : Mem), f_X6_setInterval_30 F r fu v1 v2 v3 v5 v6 v7 M = some res → res.2 a0 i0 = M a0 i0 := by
  intro fu
  induction fu with
  | zero => intro v1 v2 v3 v5 v6 v7 M h; exact nomatch (show (none : Option (Int × Mem)) = some res from h)
  | succ fu ih =>
    intro v1 v2 v3 v5 v6 v7 M h
    have hG : M a0 i0 = M a0 i0 := rfl
    rw [f_X6_setInterval_30] at h
    obtain ⟨⟨hp_v2, hp_v5, hp_v7⟩, h⟩ := chk_some h
    by_cases hc2 : v5 < v7
    · replace h := ite_t hc2 h
      cases h
      exact hG
    · replace h := ite_f hc2 h
      obtain ⟨hc3, h⟩ := chk_some h
      by_cases hc4 : M r 0 ≤ v3 + v7
      · replace h := ite_t hc4 h
        obtain ⟨hc5, h⟩ := chk_some h
        obtain ⟨hc6, h⟩ := chk_some h
        by_cases hc7 : (v3 + v7) - (M r 0) = M (r + 4) v1
        · replace h := ite_t hc7 h
          exact (ih v1 v2 v3 v5 v6 (v7 + 1) M h).trans hG
        · replace h := ite_f hc7 h
          obtain ⟨hc8, h⟩ := chk_some h
          by_cases hc9 : M (r + 5) ((v1 * 9) + ((v3 + v7) - (M r 0))) = v2
          · replace h := ite_t hc9 h
            exact (ih v1 v2 v3 v5 v6 (v7 + 1) M h).trans hG
          · replace h := ite_f hc9 h
            have hG10 : (mset M (r + 5) ((v1 * 9) + ((v3 + v7) - (M r 0))) v2) a0 i0 = M a0 i0 := (mset_at (Or.inl (show a0 ≠ (r + 5) from by omega))).trans hG
            exact (ih v1 v2 v3 v5 (v6 + 1) (v7 + 1) (mset M (r + 5) ((v1 * 9) + ((v3 + v7) - (M r 0))) v2) h).trans hG10
      · replace h := ite_f hc4 h
        obtain ⟨hc11, h⟩ := chk_some h
        by_cases hc12 : v3 + v7 = M (r + 4) v1
        · replace h := ite_t hc12 h
          exact (ih v1 v2 v3 v5 v6 (v7 + 1) M h).trans hG
        · replace h := ite_f hc12 h
          obtain ⟨hc13, h⟩ := chk_some h
          by_cases hc14 : M (r + 5) ((v1 * 9) + (v3 + v7)) = v2
          · replace h := ite_t hc14 h
            exact (ih v1 v2 v3 v5 v6 (v7 + 1) M h).trans hG
          · replace h := ite_f hc14 h
            have hG15 : (mset M (r + 5) ((v1 * 9) + (v3 + v7)) v2) a0 i0 = M a0 i0 := (mset_at (Or.inl (show a0 ≠ (r + 5) from by omega))).trans hG
            exact (ih v1 v2 v3 v5 (v6 + 1) (v7 + 1) (mset M (r + 5) ((v1 * 9) + (v3 + v7)) v2) h).trans hG15
theorem cg_X6_setInterval {F : Nat} {v1 : Int} {v2 : Int} {v3 : Int} {v4 : Int} {M : Mem} {r : Nat} {res : Int × Mem} (h : f_X6_setInterval F r v1 v2 v3 v4 M = some res) (a0 : Nat) (i0 : Int) (ha : a0 ≠ (r + 5)) : res.2 a0 i0 = M a0 i0 := by
  have hG : M a0 i0 = M a0 i0 := rfl
  rw [f_X6_setInterval] at h
  obtain ⟨⟨hp_v3, hp_v4⟩, h⟩ := chk_some h
  by_cases hc1 : v4 < v3
  · replace h := ite_t hc1 h
    exact (cw_X6_setInterval_30 a0 i0 ha F v1 v2 v3 ((v4 - v3) + (M r 0)) 0 0 M h).trans hG
  · replace h := ite_f hc1 h
    exact (cw_X6_setInterval_30 a0 i0 ha F v1 v2 v3 (v4 - v3) 0 0 M h).trans hG
theorem cw_X8_shortenOver_10 {res : Mem} {F : Nat} (a0 : Nat) (i0 : Int) (ha : a0 ≠ 40) {k2 : Int → Int → Int → Mem → Option (Mem)} (hk2 : ∀ (v1 : Int) (v2 : Int) (v3 : Int) (M : Mem), k2 v1 v2 v3 M = some res → res a0 i0 = M a0 i0) : ∀ (fu : Nat) (v1 : Int) (v2 : Int) (v3 : Int) (v4 : Int) (M : Mem), f_X8_shortenOver_10 F k2 fu v1 v2 v3 v4 M = some res → res a0 i0 = M a0 i0 := by
  intro fu
  induction fu with
  | zero => intro v1 v2 v3 v4 M h; exact nomatch (show (none : Option (Mem)) = some res from h)
  | succ fu ih =>
    intro v1 v2 v3 v4 M h
    have hG : M a0 i0 = M a0 i0 := rfl
    rw [f_X8_shortenOver_10] at h
    obtain ⟨⟨hp_v2, hp_v4⟩, h⟩ := chk_some h
    by_cases hc2 : v2 ≤ v4
    · replace h := ite_t hc2 h
      exact (hk2 v1 v2 (v3 + 1) M h).trans hG
    · replace h := ite_f hc2 h
      obtain ⟨q3, h3, h⟩ := ob_some h
      have hG3 := hG
      obtain ⟨q4, h4, h⟩ := ob_some h
      have hG4 := hG3
      obtain ⟨q5, h5, h⟩ := ob_some h
      have hG5 := hG4
      obtain ⟨hc6, h⟩ := chk_some h
      obtain ⟨hc7, h⟩ := chk_some h
      by_cases hc8 : q5 ≤ q3 + q4
      · replace h := ite_t hc8 h
        exact (ih v1 v2 v3 (v4 + 1) M h).trans hG5
      · replace h := ite_f hc8 h
        obtain ⟨hc9, h⟩ := chk_some h
        have hG10 : (mset M 40 ((v3 * 9) + v4) (q3 + q4)) a0 i0 = M a0 i0 := (mset_at (Or.inl (show a0 ≠ 40 from by omega))).trans hG5
        exact (ih v1 v2 v3 (v4 + 1) (mset M 40 ((v3 * 9) + v4) (q3 + q4)) h).trans hG10
theorem cw_X8_shortenOver_2 {res : Mem} {F : Nat} (a0 : Nat) (i0 : Int) (ha : a0 ≠ 40) : ∀ (fu : Nat) (v1 : Int) (v2 : Int) (v3 : Int) (M : Mem), f_X8_shortenOver_2 F fu v1 v2 v3 M = some res → res a0 i0 = M a0 i0 := by
  intro fu
  induction fu with
  | zero => intro v1 v2 v3 M h; exact nomatch (show (none : Option (Mem)) = some res from h)
  | succ fu ih =>
    intro v1 v2 v3 M h
    have hG : M a0 i0 = M a0 i0 := rfl
    rw [f_X8_shortenOver_2] at h
    obtain ⟨⟨hp_v2, hp_v3⟩, h⟩ := chk_some h
    by_cases hc1 : v2 ≤ v3
    · replace h := ite_t hc1 h
      cases h
      exact hG
    · replace h := ite_f hc1 h
      exact (cw_X8_shortenOver_10 a0 i0 ha ih F v1 v2 v3 0 M h).trans hG
theorem cg_X8_shortenOver {F : Nat} {v1 : Int} {v2 : Int} {M : Mem} {res : Mem} (h : f_X8_shortenOver F v1 v2 M = some res) (a0 : Nat) (i0 : Int) (ha : a0 ≠ 40) : res a0 i0 = M a0 i0 := by
  have hG : M a0 i0 = M a0 i0 := rfl
  rw [f_X8_shortenOver] at h
  exact (cw_X8_shortenOver_2 a0 i0 ha F v1 v2 0 M h).trans hG
theorem cw_X8_measureDistances_107 {res : Mem} {F : Nat} (a0 : Nat) (i0 : Int) (ha : a0 ≠ 40) : ∀ (fu : Nat) (v2 : Int) (M : Mem), f_X8_measureDistances_107 F fu v2 M = some res → res a0 i0 = M a0 i0 := by
  intro fu
  induction fu with
  | zero => intro v2 M h; exact nomatch (show (none : Option (Mem)) = some res from h)
  | succ fu ih =>
    intro v2 M h
    have hG : M a0 i0 = M a0 i0 := rfl
    rw [f_X8_measureDistances_107] at h
    obtain ⟨hp_v2, h⟩ := chk_some h
    by_cases hc4 : M 1 0 ≤ v2
    · replace h := ite_t hc4 h
      cases h
      exact hG
    · replace h := ite_f hc4 h
      obtain ⟨q5, h5, h⟩ := ob_some h
      have hG5 := (cg_X8_shortenOver h5 a0 i0 (by omega)).trans hG
      exact (ih (v2 + 1) q5 h).trans hG5
theorem cw_X8_measureDistances_40 {res : Mem} {F : Nat} (a0 : Nat) (i0 : Int) (ha : a0 ≠ 40) : ∀ (fu : Nat) (v2 : Int) (M : Mem), f_X8_measureDistances_40 F fu v2 M = some res → res a0 i0 = M a0 i0 := by
  intro fu
  induction fu with
  | zero => intro v2 M h; exact nomatch (show (none : Option (Mem)) = some res from h)
  | succ fu ih =>
    intro v2 M h
    have hG : M a0 i0 = M a0 i0 := rfl
    rw [f_X8_measureDistances_40] at h
    obtain ⟨hp_v2, h⟩ := chk_some h
    by_cases hc3 : M 1 1 ≤ v2
    · replace h := ite_t hc3 h
      exact (cw_X8_measureDistances_107 a0 i0 ha F 0 M h).trans hG
    · replace h := ite_f hc3 h
      obtain ⟨hc6, h⟩ := chk_some h
      obtain ⟨hc7, h⟩ := chk_some h
      have hG8 : (mset M 40 (((M 2 v2) * 9) + (M 3 v2)) (M 4 v2)) a0 i0 = M a0 i0 := (mset_at (Or.inl (show a0 ≠ 40 from by omega))).trans hG
      obtain ⟨hc9, h⟩ := chk_some h
      have hG10 : (mset (mset M 40 (((M 2 v2) * 9) + (M 3 v2)) (M 4 v2)) 40 (((M 3 v2) * 9) + (M 2 v2)) ((mset M 40 (((M 2 v2) * 9) + (M 3 v2)) (M 4 v2)) 4 v2)) a0 i0 = M a0 i0 := (mset_at (Or.inl (show a0 ≠ 40 from by omega))).trans hG8
      exact (ih (v2 + 1) (mset (mset M 40 (((M 2 v2) * 9) + (M 3 v2)) (M 4 v2)) 40 (((M 3 v2) * 9) + (M 2 v2)) ((mset M 40 (((M 2 v2) * 9) + (M 3 v2)) (M 4 v2)) 4 v2)) h).trans hG10
theorem cw_X8_measureDistances_12 {res : Mem} {F : Nat} (a0 : Nat) (i0 : Int) (ha : a0 ≠ 40) : ∀ (fu : Nat) (v2 : Int) (M : Mem), f_X8_measureDistances_12 F fu v2 M = some res → res a0 i0 = M a0 i0 := by
  intro fu
  induction fu with
  | zero => intro v2 M h; exact nomatch (show (none : Option (Mem)) = some res from h)
  | succ fu ih =>
    intro v2 M h
    have hG : M a0 i0 = M a0 i0 := rfl
    rw [f_X8_measureDistances_12] at h
    obtain ⟨hp_v2, h⟩ := chk_some h
    by_cases hc2 : M 1 0 ≤ v2
    · replace h := ite_t hc2 h
      exact (cw_X8_measureDistances_40 a0 i0 ha F 0 M h).trans hG
    · replace h := ite_f hc2 h
      obtain ⟨hc11, h⟩ := chk_some h
      have hG12 : (mset M 40 ((v2 * 9) + v2) 0) a0 i0 = M a0 i0 := (mset_at (Or.inl (show a0 ≠ 40 from by omega))).trans hG
      exact (ih (v2 + 1) (mset M 40 ((v2 * 9) + v2) 0) h).trans hG12
theorem cg_X8_measureDistances {F : Nat} {M : Mem} {res : Mem} (h : f_X8_measureDistances F M = some res) (a0 : Nat) (i0 : Int) (ha : a0 ≠ 40) : res a0 i0 = M a0 i0 := by
  have hG : M a0 i0 = M a0 i0 := rfl
  rw [f_X8_measureDistances] at h
  obtain ⟨q1, h1, h⟩ := ob_some h
  have hG1 := (cg_J7_fill_53178 h1 a0 i0 (by omega)).trans hG
  exact (cw_X8_measureDistances_12 a0 i0 ha F 0 q1 h).trans hG1
theorem cw_X8_findGoodLinks_17 {res : Mem} {F : Nat} (a0 : Nat) (i0 : Int) (ha : a0 ≠ 41 ∧ a0 ≠ 42 ∧ a0 ≠ 43) : ∀ (fu : Nat) (v2 : Int) (v3 : Int) (v4 : Int) (v5 : Int) (v6 : Int) (v7 : Int) (M : Mem), f_X8_findGoodLinks_17 F fu v2 v3 v4 v5 v6 v7 M = some res → res a0 i0 = M a0 i0 := by
  intro fu
  induction fu with
  | zero => intro v2 v3 v4 v5 v6 v7 M h; exact nomatch (show (none : Option (Mem)) = some res from h)
  | succ fu ih =>
    intro v2 v3 v4 v5 v6 v7 M h
    have hG : M a0 i0 = M a0 i0 := rfl
    rw [f_X8_findGoodLinks_17] at h
    obtain ⟨⟨hp_v5, hp_v6, hp_v7⟩, h⟩ := chk_some h
    by_cases hc1 : M 1 1 ≤ v7
    · replace h := ite_t hc1 h
      rcases (Decidable.em (v6 = 0)).symm with hc2 | hc2
      · replace h := ite_f hc2 h
        obtain ⟨hc3, h⟩ := chk_some h
        have hG4 : (mset M 41 v4 v5) a0 i0 = M a0 i0 := (mset_at (Or.inl (show a0 ≠ 41 from by omega))).trans hG
        have hG5 : (mset (mset M 41 v4 v5) 43 v4 v6) a0 i0 = M a0 i0 := (mset_at (Or.inl (show a0 ≠ 43 from by omega))).trans hG4
        cases h
        exact hG5
      · replace h := ite_t hc2 h
        obtain ⟨hc6, h⟩ := chk_some h
        have hG7 : (mset M 42 (v4 * 8) (-1)) a0 i0 = M a0 i0 := (mset_at (Or.inl (show a0 ≠ 42 from by omega))).trans hG
        obtain ⟨hc8, h⟩ := chk_some h
        have hG9 : (mset (mset M 42 (v4 * 8) (-1)) 41 v4 v5) a0 i0 = M a0 i0 := (mset_at (Or.inl (show a0 ≠ 41 from by omega))).trans hG7
        have hG10 : (mset (mset (mset M 42 (v4 * 8) (-1)) 41 v4 v5) 43 v4 1) a0 i0 = M a0 i0 := (mset_at (Or.inl (show a0 ≠ 43 from by omega))).trans hG9
        cases h
        exact hG10
    · replace h := ite_f hc1 h
      by_cases hc11 : 8 ≤ v6
      · replace h := ite_t hc11 h
        rcases (Decidable.em (v6 = 0)).symm with hc12 | hc12
        · replace h := ite_f hc12 h
          obtain ⟨hc13, h⟩ := chk_some h
          have hG14 : (mset M 41 v4 v5) a0 i0 = M a0 i0 := (mset_at (Or.inl (show a0 ≠ 41 from by omega))).trans hG
          have hG15 : (mset (mset M 41 v4 v5) 43 v4 v6) a0 i0 = M a0 i0 := (mset_at (Or.inl (show a0 ≠ 43 from by omega))).trans hG14
          cases h
          exact hG15
        · replace h := ite_t hc12 h
          obtain ⟨hc16, h⟩ := chk_some h
          have hG17 : (mset M 42 (v4 * 8) (-1)) a0 i0 = M a0 i0 := (mset_at (Or.inl (show a0 ≠ 42 from by omega))).trans hG
          obtain ⟨hc18, h⟩ := chk_some h
          have hG19 : (mset (mset M 42 (v4 * 8) (-1)) 41 v4 v5) a0 i0 = M a0 i0 := (mset_at (Or.inl (show a0 ≠ 41 from by omega))).trans hG17
          have hG20 : (mset (mset (mset M 42 (v4 * 8) (-1)) 41 v4 v5) 43 v4 1) a0 i0 = M a0 i0 := (mset_at (Or.inl (show a0 ≠ 43 from by omega))).trans hG19
          cases h
          exact hG20
      · replace h := ite_f hc11 h
        obtain ⟨q21, h21, h⟩ := ob_some h
        have hG21 := hG
        obtain ⟨hc22, h⟩ := chk_some h
        by_cases hc23 : q21 = 0
        · replace h := ite_t hc23 h
          exact (ih v2 v3 v4 v5 v6 (v7 + 1) M h).trans hG21
        · replace h := ite_f hc23 h
          obtain ⟨hc24, h⟩ := chk_some h
          have hG25 : (mset M 42 ((v4 * 8) + v6) v7) a0 i0 = M a0 i0 := (mset_at (Or.inl (show a0 ≠ 42 from by omega))).trans hG21
          exact (ih v2 v3 v4 (bor v5 (bshl 1 v7)) (v6 + 1) (v7 + 1) (mset M 42 ((v4 * 8) + v6) v7) h).trans hG25
theorem cg_X8_findGoodLinks {F : Nat} {v2 : Int} {v3 : Int} {M : Mem} {res : Mem} (h : f_X8_findGoodLinks F v2 v3 M = some res) (a0 : Nat) (i0 : Int) (ha : a0 ≠ 41 ∧ a0 ≠ 42 ∧ a0 ≠ 43) : res a0 i0 = M a0 i0 := by
  have hG : M a0 i0 = M a0 i0 := rfl
  rw [f_X8_findGoodLinks] at h
  exact (cw_X8_findGoodLinks_17 a0 i0 ha F v2 v3 ((v2 * 9) + v3) 0 0 0 M h).trans hG
theorem cw_X8_measure_17 {res : Mem} {F : Nat} (a0 : Nat) (i0 : Int) (ha : a0 ≠ 40 ∧ a0 ≠ 41 ∧ a0 ≠ 42 ∧ a0 ≠ 43) {k7 : Int → Mem → Option (Mem)} (hk7 : ∀ (v2 : Int) (M : Mem), k7 v2 M = some res → res a0 i0 = M a0 i0) : ∀ (fu : Nat) (v2 : Int) (v3 : Int) (M : Mem), f_X8_measure_17 F k7 fu v2 v3 M = some res → res a0 i0 = M a0 i0 := by
  intro fu
  induction fu with
  | zero => intro v2 v3 M h; exact nomatch (show (none : Option (Mem)) = some res from h)
  | succ fu ih =>
    intro v2 v3 M h
    have hG : M a0 i0 = M a0 i0 := rfl
    rw [f_X8_measure_17] at h
    obtain ⟨hp_v3, h⟩ := chk_some h
    by_cases hc3 : M 1 0 ≤ v3
    · replace h := ite_t hc3 h
      exact (hk7 (v2 + 1) M h).trans hG
    · replace h := ite_f hc3 h
      obtain ⟨q4, h4, h⟩ := ob_some h
      have hG4 := (cg_X8_findGoodLinks h4 a0 i0 (by omega)).trans hG
      exact (ih v2 (v3 + 1) q4 h).trans hG4
theorem cw_X8_measure_7 {res : Mem} {F : Nat} (a0 : Nat) (i0 : Int) (ha : a0 ≠ 40 ∧ a0 ≠ 41 ∧ a0 ≠ 42 ∧ a0 ≠ 43) : ∀ (fu : Nat) (v2 : Int) (M : Mem), f_X8_measure_7 F fu v2 M = some res → res a0 i0 = M a0 i0 := by
  intro fu
  induction fu with
  | zero => intro v2 M h; exact nomatch (show (none : Option (Mem)) = some res from h)
  | succ fu ih =>
    intro v2 M h
    have hG : M a0 i0 = M a0 i0 := rfl
    rw [f_X8_measure_7] at h
    obtain ⟨hp_v2, h⟩ := chk_some h
    by_cases hc2 : M 1 0 ≤ v2
    · replace h := ite_t hc2 h
      cases h
      exact hG
    · replace h := ite_f hc2 h
      exact (cw_X8_measure_17 a0 i0 ha ih F v2 0 M h).trans hG
theorem cg_X8_measure {F : Nat} {M : Mem} {res : Mem} (h : f_X8_measure F M = some res) (a0 : Nat) (i0 : Int) (ha : a0 ≠ 40 ∧ a0 ≠ 41 ∧ a0 ≠ 42 ∧ a0 ≠ 43) : res a0 i0 = M a0 i0 := by
  have hG : M a0 i0 = M a0 i0 := rfl
  rw [f_X8_measure] at h
  obtain ⟨q1, h1, h⟩ := ob_some h
  have hG1 := (cg_X8_measureDistances h1 a0 i0 (by omega)).trans hG
  exact (cw_X8_measure_7 a0 i0 ha F 0 q1 h).trans hG1
theorem cg_X9_measureNetwork {F : Nat} {M : Mem} {res : Mem} (h : f_X9_measureNetwork F M = some res) (a0 : Nat) (i0 : Int) (ha : a0 ≠ 40 ∧ a0 ≠ 41 ∧ a0 ≠ 42 ∧ a0 ≠ 43 ∧ (a0 ≠ 51 ∨ i0 ≠ 2)) : res a0 i0 = M a0 i0 := by
  have hG : M a0 i0 = M a0 i0 := rfl
  rw [f_X9_measureNetwork] at h
  obtain ⟨q1, h1, h⟩ := ob_some h
  have hG1 := (cg_X8_measure h1 a0 i0 (by omega)).trans hG
  obtain ⟨q2, h2, h⟩ := ob_some h
  have hG2 := (cg_X5_forget h2 a0 i0 (by omega)).trans hG1
  cases h
  exact hG2
theorem cg_X9_networkChanged {F : Nat} {M : Mem} {res : Mem} (h : f_X9_networkChanged F M = some res) (a0 : Nat) (i0 : Int) (ha : a0 ≠ 6 ∧ a0 ≠ 40 ∧ a0 ≠ 41 ∧ a0 ≠ 42 ∧ a0 ≠ 43 ∧ (a0 ≠ 51 ∨ i0 ≠ 2)) : res a0 i0 = M a0 i0 := by
  have hG : M a0 i0 = M a0 i0 := rfl
  rw [f_X9_networkChanged] at h
  obtain ⟨q1, h1, h⟩ := ob_some h
  have hG1 := (cg_X6_clearEntries h1 a0 i0 (by omega)).trans hG
  obtain ⟨q2, h2, h⟩ := ob_some h
  have hG2 := (cg_X9_measureNetwork h2 a0 i0 (by omega)).trans hG1
  cases h
  exact hG2
theorem cg_X9_begin {F : Nat} {v1 : Int} {M : Mem} {res : (Nat ⊕ Int) × Mem} (h : f_X9_begin F v1 M = some res) (a0 : Nat) (i0 : Int) (ha : a0 ≠ 40 ∧ a0 ≠ 41 ∧ a0 ≠ 42 ∧ a0 ≠ 43 ∧ (a0 ≠ 51 ∨ i0 ≠ 2) ∧ (a0 < 1 ∨ 38 < a0)) : res.2 a0 i0 = M a0 i0 := by
  have hG : M a0 i0 = M a0 i0 := rfl
  rw [f_X9_begin] at h
  obtain ⟨q1, h1, h⟩ := ob_some h
  have hG1 := hG
  rcases hz1 : q1 with e1 | r1
  · replace h := ox_l hz1 h
    cases h
    exact hG1
  · replace h := ox_r hz1 h
    obtain ⟨q2, h2, h⟩ := ob_some h
    have hG2 := (cg_X0_save h2 a0 i0 (by omega)).trans hG1
    obtain ⟨q3, h3, h⟩ := ob_some h
    have hG3 := (cg_X6_start h3 a0 i0 (by omega)).trans hG2
    obtain ⟨q4, h4, h⟩ := ob_some h
    have hG4 := (cg_X9_networkChanged h4 a0 i0 (by omega)).trans hG3
    cases h
    exact hG4
theorem cg_X9_addLink {F : Nat} {v1 : Int} {v2 : Int} {v3 : Int} {M : Mem} {res : (Nat ⊕ Int) × Mem} (h : f_X9_addLink F v1 v2 v3 M = some res) (a0 : Nat) (i0 : Int) (ha : a0 ≠ 40 ∧ a0 ≠ 41 ∧ a0 ≠ 42 ∧ a0 ≠ 43 ∧ (a0 ≠ 51 ∨ i0 ≠ 2) ∧ (a0 < 1 ∨ 38 < a0)) : res.2 a0 i0 = M a0 i0 := by
  have hG : M a0 i0 = M a0 i0 := rfl
  rw [f_X9_addLink] at h
  obtain ⟨⟨hp_v1, hp_v2⟩, h⟩ := chk_some h
  obtain ⟨q1, h1, h⟩ := ob_some h
  have hG1 := hG
  rcases hz1 : q1 with e1 | r1
  · replace h := ox_l hz1 h
    cases h
    exact hG1
  · replace h := ox_r hz1 h
    obtain ⟨q2, h2, h⟩ := ob_some h
    have hG2 := hG1
    rcases hz2 : q2 with e2 | r2
    · replace h := ox_l hz2 h
      cases h
      exact hG2
    · replace h := ox_r hz2 h
      obtain ⟨q3, h3, h⟩ := ob_some h
      have hG3 := hG2
      rcases hz3 : q3 with e3 | r3
      · replace h := ox_l hz3 h
        cases h
        exact hG3
      · replace h := ox_r hz3 h
        by_cases hc4 : v1 = v2
        · replace h := ite_t hc4 h
          cases h
          exact hG3
        · replace h := ite_f hc4 h
          obtain ⟨q5, h5, h⟩ := ob_some h
          have hG5 := hG3
          obtain ⟨hc6, h⟩ := chk_some h
          by_cases hc7 : q5 = 0
          · replace h := ite_t hc7 h
            by_cases hc8 : M 1 1 < 16
            · replace h := ite_t hc8 h
              obtain ⟨q9, h9, h⟩ := ob_some h
              have hG9 := (cg_X0_save h9 a0 i0 (by omega)).trans hG5
              obtain ⟨q10, h10, h⟩ := ob_some h
              have hG10 := (cg_X6_join h10 a0 i0 (by omega)).trans hG9
              obtain ⟨q11, h11, h⟩ := ob_some h
              have hG11 := (cg_X9_networkChanged h11 a0 i0 (by omega)).trans hG10
              cases h
              exact hG11
            · replace h := ite_f hc8 h
              cases h
              exact hG5
          · replace h := ite_f hc7 h
            cases h
            exact hG5
theorem cg_X9_removeLink {F : Nat} {v1 : Int} {M : Mem} {res : (Nat ⊕ Int) × Mem} (h : f_X9_removeLink F v1 M = some res) (a0 : Nat) (i0 : Int) (ha : a0 ≠ 40 ∧ a0 ≠ 41 ∧ a0 ≠ 42 ∧ a0 ≠ 43 ∧ (a0 ≠ 51 ∨ i0 ≠ 2) ∧ (a0 < 1 ∨ 38 < a0)) : res.2 a0 i0 = M a0 i0 := by
  have hG : M a0 i0 = M a0 i0 := rfl
  rw [f_X9_removeLink] at h
  obtain ⟨q1, h1, h⟩ := ob_some h
  have hG1 := hG
  rcases hz1 : q1 with e1 | r1
  · replace h := ox_l hz1 h
    cases h
    exact hG1
  · replace h := ox_r hz1 h
    obtain ⟨q2, h2, h⟩ := ob_some h
    have hG2 := (cg_X0_save h2 a0 i0 (by omega)).trans hG1
    obtain ⟨q3, h3, h⟩ := ob_some h
    have hG3 := (cg_X6_drop h3 a0 i0 (by omega)).trans hG2
    obtain ⟨q4, h4, h⟩ := ob_some h
    have hG4 := (cg_X9_networkChanged h4 a0 i0 (by omega)).trans hG3
    cases h
    exact hG4
theorem cg_X9_setLength {F : Nat} {v1 : Int} {v2 : Int} {M : Mem} {res : (Nat ⊕ Int) × Mem} (h : f_X9_setLength F v1 v2 M = some res) (a0 : Nat) (i0 : Int) (ha : a0 ≠ 40 ∧ a0 ≠ 41 ∧ a0 ≠ 42 ∧ a0 ≠ 43 ∧ (a0 ≠ 51 ∨ i0 ≠ 2) ∧ (a0 < 1 ∨ 38 < a0)) : res.2 a0 i0 = M a0 i0 := by
  have hG : M a0 i0 = M a0 i0 := rfl
  rw [f_X9_setLength] at h
  obtain ⟨hp_v2, h⟩ := chk_some h
  obtain ⟨q1, h1, h⟩ := ob_some h
  have hG1 := hG
  rcases hz1 : q1 with e1 | r1
  · replace h := ox_l hz1 h
    cases h
    exact hG1
  · replace h := ox_r hz1 h
    obtain ⟨q2, h2, h⟩ := ob_some h
    have hG2 := hG1
    rcases hz2 : q2 with e2 | r2
    · replace h := ox_l hz2 h
      cases h
      exact hG2
    · replace h := ox_r hz2 h
      obtain ⟨hc3, h⟩ := chk_some h
      obtain ⟨q4, h4, h⟩ := ob_some h
      have hG4 := (cg_X0_save h4 a0 i0 (by omega)).trans hG2
      have hG5 : (mset q4 4 v1 v2) a0 i0 = M a0 i0 := (mset_at (Or.inl (show a0 ≠ 4 from by omega))).trans hG4
      obtain ⟨q6, h6, h⟩ := ob_some h
      have hG6 := (cg_X9_networkChanged h6 a0 i0 (by omega)).trans hG5
      cases h
      exact hG6
theorem cw_X9_setLabels_123 {res : (Nat ⊕ Int) × Mem} {F : Nat} (a0 : Nat) (i0 : Int) (ha : (a0 ≠ 46 ∨ i0 ≠ 0) ∧ a0 ≠ 47 ∧ a0 ≠ 48 ∧ a0 ≠ 49 ∧ a0 ≠ 50 ∧ (a0 ≠ 51 ∨ i0 ≠ 0) ∧ (a0 ≠ 51 ∨ i0 ≠ 1) ∧ (a0 ≠ 51 ∨ i0 ≠ 2) ∧ (a0 ≠ 51 ∨ i0 ≠ 3) ∧ (a0 ≠ 51 ∨ i0 ≠ 4) ∧ a0 ≠ 52 ∧ a0 ≠ 53 ∧ a0 ≠ 54 ∧ (a0 ≠ 55 ∨ i0 ≠ 0) ∧ a0 ≠ 56 ∧ a0 ≠ 61 ∧ (a0 < 1 ∨ 38 < a0)) : ∀ (M : Mem), f_X9_setLabels_123 F M = some res → res.2 a0 i0 = M a0 i0 := by
  intro M h
  have hG : M a0 i0 = M a0 i0 := rfl
  rw [f_X9_setLabels_123] at h
  obtain ⟨q10, h10, h⟩ := ob_some h
  have hG10 := (cg_X6_clearEntries h10 a0 i0 (by omega)).trans hG
  obtain ⟨hc11, h⟩ := chk_some h
  cases h
  exact hG10
theorem cw_X9_setLabels_21 {res : (Nat ⊕ Int) × Mem} {F : Nat} (a0 : Nat) (i0 : Int) (ha : (a0 ≠ 46 ∨ i0 ≠ 0) ∧ a0 ≠ 47 ∧ a0 ≠ 48 ∧ a0 ≠ 49 ∧ a0 ≠ 50 ∧ (a0 ≠ 51 ∨ i0 ≠ 0) ∧ (a0 ≠ 51 ∨ i0 ≠ 1) ∧ (a0 ≠ 51 ∨ i0 ≠ 2) ∧ (a0 ≠ 51 ∨ i0 ≠ 3) ∧ (a0 ≠ 51 ∨ i0 ≠ 4) ∧ a0 ≠ 52 ∧ a0 ≠ 53 ∧ a0 ≠ 54 ∧ (a0 ≠ 55 ∨ i0 ≠ 0) ∧ a0 ≠ 56 ∧ a0 ≠ 61 ∧ (a0 < 1 ∨ 38 < a0)) : ∀ (v1 : Int) (v2 : Int) (M : Mem), f_X9_setLabels_21 F v1 v2 M = some res → res.2 a0 i0 = M a0 i0 := by
  intro v1 v2 M h
  have hG : M a0 i0 = M a0 i0 := rfl
  rw [f_X9_setLabels_21] at h
  obtain ⟨hp_v1, h⟩ := chk_some h
  obtain ⟨q4, h4, h⟩ := ob_some h
  have hG4 := (cg_X0_save h4 a0 i0 (by omega)).trans hG
  rcases (Decidable.em (v1 = 0)).symm with hc5 | hc5
  · replace h := ite_f hc5 h
    rcases (Decidable.em (v1 = 1)).symm with hc6 | hc6
    · replace h := ite_f hc6 h
      rcases (Decidable.em (v1 = 2)).symm with hc7 | hc7
      · replace h := ite_f hc7 h
        obtain ⟨q8, h8, h⟩ := ob_some h
        have hG8 := (cg_X5_ensure h8 a0 i0 (by omega)).trans hG4
        obtain ⟨q9, h9, h⟩ := ob_some h
        have hG9 := (cg_X5_copyBest h9 a0 i0 (by omega)).trans hG8
        exact (cw_X9_setLabels_123 a0 i0 ha q9 h).trans hG9
      · replace h := ite_t hc7 h
        obtain ⟨q12, h12, h⟩ := ob_some h
        have hG12 := (cg_X1_byRank h12 a0 i0 (by omega)).trans hG4
        exact (cw_X9_setLabels_123 a0 i0 ha q12 h).trans hG12
    · replace h := ite_t hc6 h
      obtain ⟨q13, h13, h⟩ := ob_some h
      have hG13 := (cg_X1_depthFirst h13 a0 i0 (by omega)).trans hG4
      exact (cw_X9_setLabels_123 a0 i0 ha q13 h).trans hG13
  · replace h := ite_t hc5 h
    obtain ⟨q14, h14, h⟩ := ob_some h
    have hG14 := (cg_X6_resetLabels h14 a0 i0 (by omega)).trans hG4
    exact (cw_X9_setLabels_123 a0 i0 ha q14 h).trans hG14
theorem cg_X9_setLabels {F : Nat} {v1 : Int} {v2 : Int} {M : Mem} {res : (Nat ⊕ Int) × Mem} (h : f_X9_setLabels F v1 v2 M = some res) (a0 : Nat) (i0 : Int) (ha : (a0 ≠ 46 ∨ i0 ≠ 0) ∧ a0 ≠ 47 ∧ a0 ≠ 48 ∧ a0 ≠ 49 ∧ a0 ≠ 50 ∧ (a0 ≠ 51 ∨ i0 ≠ 0) ∧ (a0 ≠ 51 ∨ i0 ≠ 1) ∧ (a0 ≠ 51 ∨ i0 ≠ 2) ∧ (a0 ≠ 51 ∨ i0 ≠ 3) ∧ (a0 ≠ 51 ∨ i0 ≠ 4) ∧ a0 ≠ 52 ∧ a0 ≠ 53 ∧ a0 ≠ 54 ∧ (a0 ≠ 55 ∨ i0 ≠ 0) ∧ a0 ≠ 56 ∧ a0 ≠ 61 ∧ (a0 < 1 ∨ 38 < a0)) : res.2 a0 i0 = M a0 i0 := by
  have hG : M a0 i0 = M a0 i0 := rfl
  rw [f_X9_setLabels] at h
  obtain ⟨hp_v1, h⟩ := chk_some h
  obtain ⟨q1, h1, h⟩ := ob_some h
  have hG1 := hG
  rcases hz1 : q1 with e1 | r1
  · replace h := ox_l hz1 h
    cases h
    exact hG1
  · replace h := ox_r hz1 h
    obtain ⟨q2, h2, h⟩ := ob_some h
    have hG2 := hG1
    rcases hz2 : q2 with e2 | r2
    · replace h := ox_l hz2 h
      cases h
      exact hG2
    · replace h := ox_r hz2 h
      rcases (Decidable.em (v1 = 3)).symm with hc3 | hc3
      · replace h := ite_f hc3 h
        exact (cw_X9_setLabels_21 a0 i0 ha v1 v2 M h).trans hG2
      · replace h := ite_t hc3 h
        obtain ⟨q15, h15, h⟩ := ob_some h
        have hG15 := hG2
        rcases hz15 : q15 with e15 | r15
        · replace h := ox_l hz15 h
          cases h
          exact hG15
        · replace h := ox_r hz15 h
          exact (cw_X9_setLabels_21 a0 i0 ha v1 v2 M h).trans hG15
theorem cg_X9_swapLabels {F : Nat} {v1 : Int} {v2 : Int} {M : Mem} {res : (Nat ⊕ Int) × Mem} (h : f_X9_swapLabels F v1 v2 M = some res) (a0 : Nat) (i0 : Int) (ha : (a0 < 1 ∨ 38 < a0)) : res.2 a0 i0 = M a0 i0 := by
  have hG : M a0 i0 = M a0 i0 := rfl
  rw [f_X9_swapLabels] at h
  obtain ⟨q1, h1, h⟩ := ob_some h
  have hG1 := hG
  rcases hz1 : q1 with e1 | r1
  · replace h := ox_l hz1 h
    cases h
    exact hG1
  · replace h := ox_r hz1 h
    obtain ⟨q2, h2, h⟩ := ob_some h
    have hG2 := hG1
    rcases hz2 : q2 with e2 | r2
    · replace h := ox_l hz2 h
      cases h
      exact hG2
    · replace h := ox_r hz2 h
      obtain ⟨q3, h3, h⟩ := ob_some h
      have hG3 := (cg_X0_save h3 a0 i0 (by omega)).trans hG2
      obtain ⟨q4, h4, h⟩ := ob_some h
      have hG4 := (cg_X6_exchangeLabels h4 a0 i0 (by omega)).trans hG3
      obtain ⟨q5, h5, h⟩ := ob_some h
      have hG5 := (cg_X6_clearEntries h5 a0 i0 (by omega)).trans hG4
      obtain ⟨hc6, h⟩ := chk_some h
      cases h
      exact hG5
theorem cw_X9_turn_41 {res : (Nat ⊕ Int) × Mem} {F : Nat} (a0 : Nat) (i0 : Int) (ha : (a0 < 1 ∨ 38 < a0)) : ∀ (fu : Nat) (v1 : Int) (v2 : Int) (M : Mem), f_X9_turn_41 F fu v1 v2 M = some res → res.2 a0 i0 = M a0 i0 := by
  intro fu
  induction fu with
  | zero => intro v1 v2 M h; exact nomatch (show (none : Option ((Nat ⊕ Int) × Mem)) = some res from h)
  | succ fu ih =>
    intro v1 v2 M h
    have hG : M a0 i0 = M a0 i0 := rfl
    rw [f_X9_turn_41] at h
    obtain ⟨hp_v2, h⟩ := chk_some h
    by_cases hc4 : M 1 0 ≤ v2
    · replace h := ite_t hc4 h
      obtain ⟨q5, h5, h⟩ := ob_some h
      have hG5 := (cg_X6_clearEntries h5 a0 i0 (by omega)).trans hG
      cases h
      exact hG5
    · replace h := ite_f hc4 h
      obtain ⟨hc6, h⟩ := chk_some h
      obtain ⟨hc7, h⟩ := chk_some h
      obtain ⟨hc8, h⟩ := chk_some h
      have hG9 : (mset M 5 v2 (((M 5 v2) + v1) % (M 1 0))) a0 i0 = M a0 i0 := (mset_at (Or.inl (show a0 ≠ 5 from by omega))).trans hG
      exact (ih v1 (v2 + 1) (mset M 5 v2 (((M 5 v2) + v1) % (M 1 0))) h).trans hG9
theorem cg_X9_turn {F : Nat} {v1 : Int} {M : Mem} {res : (Nat ⊕ Int) × Mem} (h : f_X9_turn F v1 M = some res) (a0 : Nat) (i0 : Int) (ha : (a0 < 1 ∨ 38 < a0)) : res.2 a0 i0 = M a0 i0 := by
  have hG : M a0 i0 = M a0 i0 := rfl
  rw [f_X9_turn] at h
  obtain ⟨q1, h1, h⟩ := ob_some h
  have hG1 := hG
  rcases hz1 : q1 with e1 | r1
  · replace h := ox_l hz1 h
    cases h
    exact hG1
  · replace h := ox_r hz1 h
    rcases (Decidable.em (M 1 0 = 0)).symm with hc2 | hc2
    · replace h := ite_f hc2 h
      obtain ⟨q3, h3, h⟩ := ob_some h
      have hG3 := (cg_X0_save h3 a0 i0 (by omega)).trans hG1
      exact (cw_X9_turn_41 a0 i0 ha F v1 0 q3 h).trans hG3
    · replace h := ite_t hc2 h
      cases h
      exact hG1
theorem cg_X9_shuffle {F : Nat} {v1 : Int} {M : Mem} {res : (Nat ⊕ Int) × Mem} (h : f_X9_shuffle F v1 M = some res) (a0 : Nat) (i0 : Int) (ha : (a0 < 1 ∨ 38 < a0)) : res.2 a0 i0 = M a0 i0 := by
  have hG : M a0 i0 = M a0 i0 := rfl
  rw [f_X9_shuffle] at h
  obtain ⟨q1, h1, h⟩ := ob_some h
  have hG1 := hG
  rcases hz1 : q1 with e1 | r1
  · replace h := ox_l hz1 h
    cases h
    exact hG1
  · replace h := ox_r hz1 h
    obtain ⟨q2, h2, h⟩ := ob_some h
    have hG2 := (cg_X0_save h2 a0 i0 (by omega)).trans hG1
    obtain ⟨q3, h3, h⟩ := ob_some h
    have hG3 := (cg_X1_atRandom h3 a0 i0 (by omega)).trans hG2
    obtain ⟨q4, h4, h⟩ := ob_some h
    have hG4 := (cg_X6_clearEntries h4 a0 i0 (by omega)).trans hG3
    rcases (Decidable.em (q4 1 0 = 0)).symm with hc5 | hc5
    · replace h := ite_f hc5 h
      cases h
      exact hG4
    · replace h := ite_t hc5 h
      cases h
      exact hG4
theorem cw_X9_makeTables_36 {res : Int × Mem} {F : Nat} (a0 : Nat) (i0 : Int) (ha : (a0 ≠ 44 ∨ i0 ≠ 0) ∧ a0 ≠ 45 ∧ (a0 ≠ 46 ∨ i0 ≠ 0) ∧ a0 ≠ 47 ∧ a0 ≠ 48 ∧ a0 ≠ 49 ∧ a0 ≠ 50 ∧ (a0 < 1 ∨ 38 < a0)) : ∀ (fu : Nat) (v1 : Int) (v2 : Int) (M : Mem), f_X9_makeTables_36 F fu v1 v2 M = some res → res.2 a0 i0 = M a0 i0 := by
  intro fu
  induction fu with
  | zero => intro v1 v2 M h; exact nomatch (show (none : Option (Int × Mem)) = some res from h)
  | succ fu ih =>
    intro v1 v2 M h
    have hG : M a0 i0 = M a0 i0 := rfl
    rw [f_X9_makeTables_36] at h
    obtain ⟨hp_v2, h⟩ := chk_some h
    by_cases hc3 : M 1 0 ≤ v2
    · replace h := ite_t hc3 h
      cases h
      exact hG
    · replace h := ite_f hc3 h
      obtain ⟨hc4, h⟩ := chk_some h
      obtain ⟨q5, h5, h⟩ := ob_some h
      have hG5 := (cg_X7_fill h5 a0 i0 (by omega)).trans hG
      obtain ⟨q6, h6, h⟩ := ob_some h
      have hG6 := (cg_X6_storeTable h6 a0 i0 (by omega)).trans hG5
      obtain ⟨q7, h7, h⟩ := ob_some h
      have hG7 := hG6
      exact (ih (v1 + q7) (v2 + 1) q6 h).trans hG7
theorem cg_X9_makeTables {F : Nat} {M : Mem} {res : Int × Mem} (h : f_X9_makeTables F M = some res) (a0 : Nat) (i0 : Int) (ha : (a0 ≠ 44 ∨ i0 ≠ 0) ∧ a0 ≠ 45 ∧ (a0 ≠ 46 ∨ i0 ≠ 0) ∧ a0 ≠ 47 ∧ a0 ≠ 48 ∧ a0 ≠ 49 ∧ a0 ≠ 50 ∧ (a0 < 1 ∨ 38 < a0)) : res.2 a0 i0 = M a0 i0 := by
  have hG : M a0 i0 = M a0 i0 := rfl
  rw [f_X9_makeTables] at h
  obtain ⟨q1, h1, h⟩ := ob_some h
  have hG1 := (cg_X0_save h1 a0 i0 (by omega)).trans hG
  obtain ⟨q2, h2, h⟩ := ob_some h
  have hG2 := (cg_X7_seat h2 a0 i0 (by omega)).trans hG1
  exact (cw_X9_makeTables_36 a0 i0 ha F 0 0 q2 h).trans hG2
theorem cw_X9_setRange_15 {res : (Nat ⊕ Int) × Mem} {F : Nat} (a0 : Nat) (i0 : Int) (ha : (a0 < 1 ∨ 38 < a0)) : ∀ (v1 : Int) (v2 : Int) (v3 : Int) (v4 : Int) (M : Mem), f_X9_setRange_15 F v1 v2 v3 v4 M = some res → res.2 a0 i0 = M a0 i0 := by
  intro v1 v2 v3 v4 M h
  have hG : M a0 i0 = M a0 i0 := rfl
  rw [f_X9_setRange_15] at h
  obtain ⟨hp_v2, h⟩ := chk_some h
  obtain ⟨q3, h3, h⟩ := ob_some h
  have hG3 := hG
  rcases hz3 : q3 with e3 | r3
  · replace h := ox_l hz3 h
    cases h
    exact hG3
  · replace h := ox_r hz3 h
    obtain ⟨q4, h4, h⟩ := ob_some h
    have hG4 := hG3
    rcases hz4 : q4 with e4 | r4
    · replace h := ox_l hz4 h
      cases h
      exact hG4
    · replace h := ox_r hz4 h
      by_cases hc5 : v2 = (-1)
      · replace h := ite_t hc5 h
        obtain ⟨q6, h6, h⟩ := ob_some h
        have hG6 := (cg_X0_save h6 a0 i0 (by omega)).trans hG4
        obtain ⟨q7, h7, h⟩ := ob_some h
        have hG7 := (cg_X6_setInterval h7 a0 i0 (by omega)).trans hG6
        cases h
        exact hG7
      · replace h := ite_f hc5 h
        obtain ⟨q8, h8, h⟩ := ob_some h
        have hG8 := hG4
        obtain ⟨hc9, h⟩ := chk_some h
        rcases (Decidable.em (q8 = 0)).symm with hc10 | hc10
        · replace h := ite_f hc10 h
          obtain ⟨q11, h11, h⟩ := ob_some h
          have hG11 := (cg_X0_save h11 a0 i0 (by omega)).trans hG8
          obtain ⟨q12, h12, h⟩ := ob_some h
          have hG12 := (cg_X6_setInterval h12 a0 i0 (by omega)).trans hG11
          cases h
          exact hG12
        · replace h := ite_t hc10 h
          cases h
          exact hG8
theorem cg_X9_setRange {F : Nat} {v1 : Int} {v2 : Int} {v3 : Int} {v4 : Int} {M : Mem} {res : (Nat ⊕ Int) × Mem} (h : f_X9_setRange F v1 v2 v3 v4 M = some res) (a0 : Nat) (i0 : Int) (ha : (a0 < 1 ∨ 38 < a0)) : res.2 a0 i0 = M a0 i0 := by
  have hG : M a0 i0 = M a0 i0 := rfl
  rw [f_X9_setRange] at h
  obtain ⟨hp_v2, h⟩ := chk_some h
  obtain ⟨q1, h1, h⟩ := ob_some h
  have hG1 := hG
  rcases hz1 : q1 with e1 | r1
  · replace h := ox_l hz1 h
    cases h
    exact hG1
  · replace h := ox_r hz1 h
    by_cases hc2 : v2 = (-1)
    · replace h := ite_t hc2 h
      exact (cw_X9_setRange_15 a0 i0 ha v1 v2 v3 v4 M h).trans hG1
    · replace h := ite_f hc2 h
      obtain ⟨q13, h13, h⟩ := ob_some h
      have hG13 := hG1
      rcases hz13 : q13 with e13 | r13
      · replace h := ox_l hz13 h
        cases h
        exact hG13
      · replace h := ox_r hz13 h
        exact (cw_X9_setRange_15 a0 i0 ha v1 v2 v3 v4 M h).trans hG13
theorem cg_X9_runs {F : Nat} {v1 : Int} {v2 : Int} {M : Mem} {res : (Nat ⊕ Int) × Mem} (h : f_X9_runs F v1 v2 M = some res) (a0 : Nat) (i0 : Int) (ha : (a0 ≠ 44 ∨ i0 ≠ 0) ∧ a0 ≠ 45) : res.2 a0 i0 = M a0 i0 := by
  have hG : M a0 i0 = M a0 i0 := rfl
  rw [f_X9_runs] at h
  obtain ⟨q1, h1, h⟩ := ob_some h
  have hG1 := hG
  rcases hz1 : q1 with e1 | r1
  · replace h := ox_l hz1 h
    cases h
    exact hG1
  · replace h := ox_r hz1 h
    obtain ⟨q2, h2, h⟩ := ob_some h
    have hG2 := hG1
    rcases hz2 : q2 with e2 | r2
    · replace h := ox_l hz2 h
      cases h
      exact hG2
    · replace h := ox_r hz2 h
      obtain ⟨q3, h3, h⟩ := ob_some h
      have hG3 := hG2
      obtain ⟨hc4, h⟩ := chk_some h
      rcases (Decidable.em (q3 = 0)).symm with hc5 | hc5
      · replace h := ite_f hc5 h
        obtain ⟨q6, h6, h⟩ := ob_some h
        have hG6 := (cg_X4_read h6 a0 i0 (by omega)).trans hG3
        obtain ⟨q7, h7, h⟩ := ob_some h
        have hG7 := hG6
        cases h
        exact hG7
      · replace h := ite_t hc5 h
        cases h
        exact hG3
theorem cg_X9_runEnd {F : Nat} {v1 : Int} {v2 : Int} {v3 : Int} {v4 : Int} {M : Mem} {res : (Nat ⊕ Int) × Mem} (h : f_X9_runEnd F v1 v2 v3 v4 M = some res) (a0 : Nat) (i0 : Int) (ha : (a0 ≠ 44 ∨ i0 ≠ 0) ∧ a0 ≠ 45) : res.2 a0 i0 = M a0 i0 := by
  have hG : M a0 i0 = M a0 i0 := rfl
  rw [f_X9_runEnd] at h
  obtain ⟨hp_v4, h⟩ := chk_some h
  obtain ⟨q1, h1, h⟩ := ob_some h
  have hG1 := hG
  rcases hz1 : q1 with e1 | r1
  · replace h := ox_l hz1 h
    cases h
    exact hG1
  · replace h := ox_r hz1 h
    obtain ⟨q2, h2, h⟩ := ob_some h
    have hG2 := hG1
    rcases hz2 : q2 with e2 | r2
    · replace h := ox_l hz2 h
      cases h
      exact hG2
    · replace h := ox_r hz2 h
      obtain ⟨q3, h3, h⟩ := ob_some h
      have hG3 := hG2
      obtain ⟨hc4, h⟩ := chk_some h
      rcases (Decidable.em (q3 = 0)).symm with hc5 | hc5
      · replace h := ite_f hc5 h
        obtain ⟨q6, h6, h⟩ := ob_some h
        have hG6 := (cg_X4_read h6 a0 i0 (by omega)).trans hG3
        obtain ⟨q7, h7, h⟩ := ob_some h
        have hG7 := hG6
        obtain ⟨hc8, h⟩ := chk_some h
        rcases (Decidable.em (q7 = (-1))).symm with hc9 | hc9
        · replace h := ite_f hc9 h
          by_cases hc10 : v4 = 0
          · replace h := ite_t hc10 h
            obtain ⟨hc11, h⟩ := chk_some h
            obtain ⟨q12, h12, h⟩ := ob_some h
            have hG12 := hG7
            cases h
            exact hG12
          · replace h := ite_f hc10 h
            obtain ⟨q13, h13, h⟩ := ob_some h
            have hG13 := hG7
            obtain ⟨hc14, h⟩ := chk_some h
            obtain ⟨q15, h15, h⟩ := ob_some h
            have hG15 := hG13
            cases h
            exact hG15
        · replace h := ite_t hc9 h
          cases h
          exact hG7
      · replace h := ite_t hc5 h
        cases h
        exact hG3
theorem cw_X9_networkSize_4 {res : Int × Mem} {F : Nat} (a0 : Nat) (i0 : Int) (ha : (a0 ≠ 44 ∨ i0 ≠ 0) ∧ a0 ≠ 45) : ∀ (fu : Nat) (v1 : Int) (v2 : Int) (M : Mem), f_X9_networkSize_4 F fu v1 v2 M = some res → res.2 a0 i0 = M a0 i0 := by
  intro fu
  induction fu with
  | zero => intro v1 v2 M h; exact nomatch (show (none : Option (Int × Mem)) = some res from h)
  | succ fu ih =>
    intro v1 v2 M h
    have hG : M a0 i0 = M a0 i0 := rfl
    rw [f_X9_networkSize_4] at h
    obtain ⟨hp_v2, h⟩ := chk_some h
    by_cases hc1 : M 1 0 ≤ v2
    · replace h := ite_t hc1 h
      cases h
      exact hG
    · replace h := ite_f hc1 h
      obtain ⟨q2, h2, h⟩ := ob_some h
      have hG2 := (cg_X4_read h2 a0 i0 (by omega)).trans hG
      obtain ⟨q3, h3, h⟩ := ob_some h
      have hG3 := hG2
      exact (ih (v1 + q3) (v2 + 1) q2 h).trans hG3
theorem cg_X9_networkSize {F : Nat} {M : Mem} {res : Int × Mem} (h : f_X9_networkSize F M = some res) (a0 : Nat) (i0 : Int) (ha : (a0 ≠ 44 ∨ i0 ≠ 0) ∧ a0 ≠ 45) : res.2 a0 i0 = M a0 i0 := by
  have hG : M a0 i0 = M a0 i0 := rfl
  rw [f_X9_networkSize] at h
  exact (cw_X9_networkSize_4 a0 i0 ha F 0 0 M h).trans hG
theorem cg_X9_tableSize {F : Nat} {v1 : Int} {M : Mem} {res : (Nat ⊕ Int) × Mem} (h : f_X9_tableSize F v1 M = some res) (a0 : Nat) (i0 : Int) (ha : (a0 ≠ 44 ∨ i0 ≠ 0) ∧ a0 ≠ 45) : res.2 a0 i0 = M a0 i0 := by
  have hG : M a0 i0 = M a0 i0 := rfl
  rw [f_X9_tableSize] at h
  obtain ⟨hp_v1, h⟩ := chk_some h
  rcases (Decidable.em (v1 = (-1))).symm with hc1 | hc1
  · replace h := ite_f hc1 h
    obtain ⟨q2, h2, h⟩ := ob_some h
    have hG2 := hG
    rcases hz2 : q2 with e2 | r2
    · replace h := ox_l hz2 h
      cases h
      exact hG2
    · replace h := ox_r hz2 h
      obtain ⟨q3, h3, h⟩ := ob_some h
      have hG3 := (cg_X4_read h3 a0 i0 (by omega)).trans hG2
      obtain ⟨q4, h4, h⟩ := ob_some h
      have hG4 := hG3
      cases h
      exact hG4
  · replace h := ite_t hc1 h
    obtain ⟨q5, h5, h⟩ := ob_some h
    have hG5 := (cg_X9_networkSize h5 a0 i0 (by omega)).trans hG
    cases h
    exact hG5
theorem cw_X9_compactness_4 {res : Int × Mem} {F : Nat} (a0 : Nat) (i0 : Int) (ha : (a0 ≠ 44 ∨ i0 ≠ 0) ∧ a0 ≠ 45) : ∀ (fu : Nat) (v1 : Int) (v2 : Int) (M : Mem), f_X9_compactness_4 F fu v1 v2 M = some res → res.2 a0 i0 = M a0 i0 := by
  intro fu
  induction fu with
  | zero => intro v1 v2 M h; exact nomatch (show (none : Option (Int × Mem)) = some res from h)
  | succ fu ih =>
    intro v1 v2 M h
    have hG : M a0 i0 = M a0 i0 := rfl
    rw [f_X9_compactness_4] at h
    obtain ⟨⟨hp_v1, hp_v2⟩, h⟩ := chk_some h
    by_cases hc1 : M 1 0 ≤ v2
    · replace h := ite_t hc1 h
      cases h
      exact hG
    · replace h := ite_f hc1 h
      obtain ⟨q2, h2, h⟩ := ob_some h
      have hG2 := (cg_X4_read h2 a0 i0 (by omega)).trans hG
      obtain ⟨q3, h3, h⟩ := ob_some h
      have hG3 := hG2
      obtain ⟨hc4, h⟩ := chk_some h
      exact (ih (imax v1 q3) (v2 + 1) q2 h).trans hG3
theorem cg_X9_compactness {F : Nat} {M : Mem} {res : Int × Mem} (h : f_X9_compactness F M = some res) (a0 : Nat) (i0 : Int) (ha : (a0 ≠ 44 ∨ i0 ≠ 0) ∧ a0 ≠ 45) : res.2 a0 i0 = M a0 i0 := by
  have hG : M a0 i0 = M a0 i0 := rfl
  rw [f_X9_compactness] at h
  exact (cw_X9_compactness_4 a0 i0 ha F 0 0 M h).trans hG
theorem cg_X9_bestSize {F : Nat} {v1 : Int} {M : Mem} {res : (Nat ⊕ Int) × Mem} (h : f_X9_bestSize F v1 M = some res) (a0 : Nat) (i0 : Int) (ha : (a0 ≠ 44 ∨ i0 ≠ 0) ∧ a0 ≠ 45 ∧ (a0 ≠ 46 ∨ i0 ≠ 0) ∧ a0 ≠ 47 ∧ a0 ≠ 48 ∧ a0 ≠ 49 ∧ a0 ≠ 50) : res.2 a0 i0 = M a0 i0 := by
  have hG : M a0 i0 = M a0 i0 := rfl
  rw [f_X9_bestSize] at h
  obtain ⟨q1, h1, h⟩ := ob_some h
  have hG1 := hG
  rcases hz1 : q1 with e1 | r1
  · replace h := ox_l hz1 h
    cases h
    exact hG1
  · replace h := ox_r hz1 h
    obtain ⟨q2, h2, h⟩ := ob_some h
    have hG2 := (cg_X7_seat h2 a0 i0 (by omega)).trans hG1
    obtain ⟨hc3, h⟩ := chk_some h
    obtain ⟨q4, h4, h⟩ := ob_some h
    have hG4 := (cg_X7_fill h4 a0 i0 (by omega)).trans hG2
    obtain ⟨q5, h5, h⟩ := ob_some h
    have hG5 := hG4
    cases h
    exact hG5
theorem cg_X9_send {F : Nat} {v1 : Int} {v2 : Int} {M : Mem} {res : (Nat ⊕ Int) × Mem} (h : f_X9_send F v1 v2 M = some res) (a0 : Nat) (i0 : Int) (ha : (a0 ≠ 57 ∨ i0 ≠ 0) ∧ (a0 ≠ 57 ∨ i0 ≠ 1) ∧ (a0 ≠ 57 ∨ i0 ≠ 2) ∧ a0 ≠ 58 ∧ a0 ≠ 59) : res.2 a0 i0 = M a0 i0 := by
  have hG : M a0 i0 = M a0 i0 := rfl
  rw [f_X9_send] at h
  obtain ⟨q1, h1, h⟩ := ob_some h
  have hG1 := hG
  rcases hz1 : q1 with e1 | r1
  · replace h := ox_l hz1 h
    cases h
    exact hG1
  · replace h := ox_r hz1 h
    obtain ⟨q2, h2, h⟩ := ob_some h
    have hG2 := hG1
    rcases hz2 : q2 with e2 | r2
    · replace h := ox_l hz2 h
      cases h
      exact hG2
    · replace h := ox_r hz2 h
      obtain ⟨q3, h3, h⟩ := ob_some h
      have hG3 := (cg_X2_travel h3 a0 i0 (by omega)).trans hG2
      by_cases hc4 : q3 57 0 = 0
      · replace h := ite_t hc4 h
        cases h
        exact hG3
      · replace h := ite_f hc4 h
        cases h
        exact hG3
theorem cg_X9_wayNode {F : Nat} {v1 : Int} {v2 : Int} {v3 : Int} {M : Mem} {res : (Nat ⊕ Int) × Mem} (h : f_X9_wayNode F v1 v2 v3 M = some res) (a0 : Nat) (i0 : Int) (ha : (a0 ≠ 57 ∨ i0 ≠ 0) ∧ (a0 ≠ 57 ∨ i0 ≠ 1) ∧ (a0 ≠ 57 ∨ i0 ≠ 2) ∧ a0 ≠ 58 ∧ a0 ≠ 59) : res.2 a0 i0 = M a0 i0 := by
  have hG : M a0 i0 = M a0 i0 := rfl
  rw [f_X9_wayNode] at h
  obtain ⟨hp_v3, h⟩ := chk_some h
  obtain ⟨q1, h1, h⟩ := ob_some h
  have hG1 := hG
  rcases hz1 : q1 with e1 | r1
  · replace h := ox_l hz1 h
    cases h
    exact hG1
  · replace h := ox_r hz1 h
    obtain ⟨q2, h2, h⟩ := ob_some h
    have hG2 := hG1
    rcases hz2 : q2 with e2 | r2
    · replace h := ox_l hz2 h
      cases h
      exact hG2
    · replace h := ox_r hz2 h
      by_cases hc3 : 0 ≤ v3
      · replace h := ite_t hc3 h
        obtain ⟨q4, h4, h⟩ := ob_some h
        have hG4 := (cg_X2_travel h4 a0 i0 (by omega)).trans hG2
        by_cases hc5 : q4 57 2 ≤ v3
        · replace h := ite_t hc5 h
          cases h
          exact hG4
        · replace h := ite_f hc5 h
          obtain ⟨hc6, h⟩ := chk_some h
          cases h
          exact hG4
      · replace h := ite_f hc3 h
        cases h
        exact hG2
theorem cg_X9_arrives {F : Nat} {v1 : Int} {v2 : Int} {v3 : Int} {M : Mem} {res : Int × Mem} (h : f_X9_arrives F v1 v2 v3 M = some res) (a0 : Nat) (i0 : Int) (ha : (a0 ≠ 57 ∨ i0 ≠ 0) ∧ (a0 ≠ 57 ∨ i0 ≠ 1) ∧ (a0 ≠ 57 ∨ i0 ≠ 2) ∧ a0 ≠ 58 ∧ a0 ≠ 59) : res.2 a0 i0 = M a0 i0 := by
  have hG : M a0 i0 = M a0 i0 := rfl
  rw [f_X9_arrives] at h
  obtain ⟨q1, h1, h⟩ := ob_some h
  have hG1 := (cg_X2_travel h1 a0 i0 (by omega)).trans hG
  obtain ⟨hc2, h⟩ := chk_some h
  cases h
  exact hG1
theorem cw_X9_arriving_17 {res : Int × Mem} {F : Nat} (a0 : Nat) (i0 : Int) (ha : (a0 ≠ 57 ∨ i0 ≠ 0) ∧ (a0 ≠ 57 ∨ i0 ≠ 1) ∧ (a0 ≠ 57 ∨ i0 ≠ 2) ∧ a0 ≠ 58 ∧ a0 ≠ 59) {k4 : Int → Int → Mem → Option (Int × Mem)} (hk4 : ∀ (v1 : Int) (v2 : Int) (M : Mem), k4 v1 v2 M = some res → res.2 a0 i0 = M a0 i0) : ∀ (fu : Nat) (v1 : Int) (v2 : Int) (v3 : Int) (M : Mem), f_X9_arriving_17 F k4 fu v1 v2 v3 M = some res → res.2 a0 i0 = M a0 i0 := by
  intro fu
  induction fu with
  | zero => intro v1 v2 v3 M h; exact nomatch (show (none : Option (Int × Mem)) = some res from h)
  | succ fu ih =>
    intro v1 v2 v3 M h
    have hG : M a0 i0 = M a0 i0 := rfl
    rw [f_X9_arriving_17] at h
    obtain ⟨⟨hp_v2, hp_v3⟩, h⟩ := chk_some h
    by_cases hc2 : M 1 0 ≤ v3
    · replace h := ite_t hc2 h
      exact (hk4 v1 (v2 + 1) M h).trans hG
    · replace h := ite_f hc2 h
      by_cases hc3 : v2 = v3
      · replace h := ite_t hc3 h
        exact (ih v1 v2 (v3 + 1) M h).trans hG
      · replace h := ite_f hc3 h
        obtain ⟨q4, h4, h⟩ := ob_some h
        have hG4 := (cg_X9_arrives h4 a0 i0 (by omega)).trans hG
        obtain ⟨hc5, h⟩ := chk_some h
        by_cases hc6 : q4.1 = 0
        · replace h := ite_t hc6 h
          exact (ih v1 v2 (v3 + 1) q4.2 h).trans hG4
        · replace h := ite_f hc6 h
          exact (ih (v1 + 1) v2 (v3 + 1) q4.2 h).trans hG4
theorem cw_X9_arriving_4 {res : Int × Mem} {F : Nat} (a0 : Nat) (i0 : Int) (ha : (a0 ≠ 57 ∨ i0 ≠ 0) ∧ (a0 ≠ 57 ∨ i0 ≠ 1) ∧ (a0 ≠ 57 ∨ i0 ≠ 2) ∧ a0 ≠ 58 ∧ a0 ≠ 59) : ∀ (fu : Nat) (v1 : Int) (v2 : Int) (M : Mem), f_X9_arriving_4 F fu v1 v2 M = some res → res.2 a0 i0 = M a0 i0 := by
  intro fu
  induction fu with
  | zero => intro v1 v2 M h; exact nomatch (show (none : Option (Int × Mem)) = some res from h)
  | succ fu ih =>
    intro v1 v2 M h
    have hG : M a0 i0 = M a0 i0 := rfl
    rw [f_X9_arriving_4] at h
    obtain ⟨hp_v2, h⟩ := chk_some h
    by_cases hc1 : M 1 0 ≤ v2
    · replace h := ite_t hc1 h
      cases h
      exact hG
    · replace h := ite_f hc1 h
      exact (cw_X9_arriving_17 a0 i0 ha ih F v1 v2 0 M h).trans hG
theorem cg_X9_arriving {F : Nat} {M : Mem} {res : Int × Mem} (h : f_X9_arriving F M = some res) (a0 : Nat) (i0 : Int) (ha : (a0 ≠ 57 ∨ i0 ≠ 0) ∧ (a0 ≠ 57 ∨ i0 ≠ 1) ∧ (a0 ≠ 57 ∨ i0 ≠ 2) ∧ a0 ≠ 58 ∧ a0 ≠ 59) : res.2 a0 i0 = M a0 i0 := by
  have hG : M a0 i0 = M a0 i0 := rfl
  rw [f_X9_arriving] at h
  exact (cw_X9_arriving_4 a0 i0 ha F 0 0 M h).trans hG
theorem cw_X9_stretch_18 {res : UInt64 × Mem} {F : Nat} (a0 : Nat) (i0 : Int) (ha : (a0 ≠ 57 ∨ i0 ≠ 0) ∧ (a0 ≠ 57 ∨ i0 ≠ 1) ∧ (a0 ≠ 57 ∨ i0 ≠ 2) ∧ a0 ≠ 58 ∧ a0 ≠ 59) {k4 : UInt64 → Int → Mem → Option (UInt64 × Mem)} (hk4 : ∀ (v1 : UInt64) (v3 : Int) (M : Mem), k4 v1 v3 M = some res → res.2 a0 i0 = M a0 i0) : ∀ (fu : Nat) (v1 : UInt64) (v3 : Int) (v4 : Int) (M : Mem), f_X9_stretch_18 F k4 fu v1 v3 v4 M = some res → res.2 a0 i0 = M a0 i0 := by
  intro fu
  induction fu with
  | zero => intro v1 v3 v4 M h; exact nomatch (show (none : Option (UInt64 × Mem)) = some res from h)
  | succ fu ih =>
    intro v1 v3 v4 M h
    have hG : M a0 i0 = M a0 i0 := rfl
    rw [f_X9_stretch_18] at h
    obtain ⟨hp_v4, h⟩ := chk_some h
    by_cases hc2 : M 1 0 ≤ v4
    · replace h := ite_t hc2 h
      exact (hk4 v1 (v3 + 1) M h).trans hG
    · replace h := ite_f hc2 h
      obtain ⟨q3, h3, h⟩ := ob_some h
      have hG3 := hG
      obtain ⟨hc4, h⟩ := chk_some h
      by_cases hc5 : q3 ≤ 0
      · replace h := ite_t hc5 h
        exact (ih v1 v3 (v4 + 1) M h).trans hG3
      · replace h := ite_f hc5 h
        obtain ⟨q6, h6, h⟩ := ob_some h
        have hG6 := (cg_X9_arrives h6 a0 i0 (by omega)).trans hG3
        obtain ⟨hc7, h⟩ := chk_some h
        by_cases hc8 : q6.1 = 0
        · replace h := ite_t hc8 h
          exact (ih v1 v3 (v4 + 1) q6.2 h).trans hG6
        · replace h := ite_f hc8 h
          obtain ⟨hc9, h⟩ := chk_some h
          by_cases hc10 : (Op.cmpValue (FP.dcmp (FP.ddiv (FP.i2d (iI (q6.2 57 1))) (FP.i2d (iI q3))) v1) .l).toInt ≤ 0
          · replace h := ite_t hc10 h
            exact (ih v1 v3 (v4 + 1) q6.2 h).trans hG6
          · replace h := ite_f hc10 h
            exact (ih (FP.ddiv (FP.i2d (iI (q6.2 57 1))) (FP.i2d (iI q3))) v3 (v4 + 1) q6.2 h).trans hG6
theorem cw_X9_stretch_4 {res : UInt64 × Mem} {F : Nat} (a0 : Nat) (i0 : Int) (ha : (a0 ≠ 57 ∨ i0 ≠ 0) ∧ (a0 ≠ 57 ∨ i0 ≠ 1) ∧ (a0 ≠ 57 ∨ i0 ≠ 2) ∧ a0 ≠ 58 ∧ a0 ≠ 59) : ∀ (fu : Nat) (v1 : UInt64) (v3 : Int) (M : Mem), f_X9_stretch_4 F fu v1 v3 M = some res → res.2 a0 i0 = M a0 i0 := by
  intro fu
  induction fu with
  | zero => intro v1 v3 M h; exact nomatch (show (none : Option (UInt64 × Mem)) = some res from h)
  | succ fu ih =>
    intro v1 v3 M h
    have hG : M a0 i0 = M a0 i0 := rfl
    rw [f_X9_stretch_4] at h
    obtain ⟨hp_v3, h⟩ := chk_some h
    by_cases hc1 : M 1 0 ≤ v3
    · replace h := ite_t hc1 h
      cases h
      exact hG
    · replace h := ite_f hc1 h
      exact (cw_X9_stretch_18 a0 i0 ha ih F v1 v3 0 M h).trans hG
theorem cg_X9_stretch {F : Nat} {M : Mem} {res : UInt64 × Mem} (h : f_X9_stretch F M = some res) (a0 : Nat) (i0 : Int) (ha : (a0 ≠ 57 ∨ i0 ≠ 0) ∧ (a0 ≠ 57 ∨ i0 ≠ 1) ∧ (a0 ≠ 57 ∨ i0 ≠ 2) ∧ a0 ≠ 58 ∧ a0 ≠ 59) : res.2 a0 i0 = M a0 i0 := by
  have hG : M a0 i0 = M a0 i0 := rfl
  rw [f_X9_stretch] at h
  exact (cw_X9_stretch_4 a0 i0 ha F 0 0 M h).trans hG
theorem cw_X9_load_23 {res : (Nat ⊕ Int) × Mem} {F : Nat} (a0 : Nat) (i0 : Int) (ha : (a0 ≠ 57 ∨ i0 ≠ 0) ∧ (a0 ≠ 57 ∨ i0 ≠ 1) ∧ (a0 ≠ 57 ∨ i0 ≠ 2) ∧ a0 ≠ 58 ∧ a0 ≠ 59) {k9 : Int → Int → Int → Mem → Option ((Nat ⊕ Int) × Mem)} (hk9 : ∀ (v1 : Int) (v2 : Int) (v3 : Int) (M : Mem), k9 v1 v2 v3 M = some res → res.2 a0 i0 = M a0 i0) : ∀ (fu : Nat) (v1 : Int) (v2 : Int) (v3 : Int) (v4 : Int) (M : Mem), f_X9_load_23 F k9 fu v1 v2 v3 v4 M = some res → res.2 a0 i0 = M a0 i0 := by
  intro fu
  induction fu with
  | zero => intro v1 v2 v3 v4 M h; exact nomatch (show (none : Option ((Nat ⊕ Int) × Mem)) = some res from h)
  | succ fu ih =>
    intro v1 v2 v3 v4 M h
    have hG : M a0 i0 = M a0 i0 := rfl
    rw [f_X9_load_23] at h
    obtain ⟨⟨hp_v3, hp_v4⟩, h⟩ := chk_some h
    by_cases hc3 : M 1 0 ≤ v4
    · replace h := ite_t hc3 h
      exact (hk9 v1 v2 (v3 + 1) M h).trans hG
    · replace h := ite_f hc3 h
      by_cases hc4 : v3 = v4
      · replace h := ite_t hc4 h
        exact (ih v1 v2 v3 (v4 + 1) M h).trans hG
      · replace h := ite_f hc4 h
        obtain ⟨q5, h5, h⟩ := ob_some h
        have hG5 := (cg_X9_arrives h5 a0 i0 (by omega)).trans hG
        obtain ⟨hc6, h⟩ := chk_some h
        by_cases hc7 : q5.1 = 0
        · replace h := ite_t hc7 h
          exact (ih v1 v2 v3 (v4 + 1) q5.2 h).trans hG5
        · replace h := ite_f hc7 h
          obtain ⟨q8, h8, h⟩ := ob_some h
          have hG8 := hG5
          obtain ⟨hc9, h⟩ := chk_some h
          by_cases hc10 : q8 = 0
          · replace h := ite_t hc10 h
            exact (ih v1 v2 v3 (v4 + 1) q5.2 h).trans hG8
          · replace h := ite_f hc10 h
            exact (ih v1 (v2 + 1) v3 (v4 + 1) q5.2 h).trans hG8
theorem cw_X9_load_9 {res : (Nat ⊕ Int) × Mem} {F : Nat} (a0 : Nat) (i0 : Int) (ha : (a0 ≠ 57 ∨ i0 ≠ 0) ∧ (a0 ≠ 57 ∨ i0 ≠ 1) ∧ (a0 ≠ 57 ∨ i0 ≠ 2) ∧ a0 ≠ 58 ∧ a0 ≠ 59) : ∀ (fu : Nat) (v1 : Int) (v2 : Int) (v3 : Int) (M : Mem), f_X9_load_9 F fu v1 v2 v3 M = some res → res.2 a0 i0 = M a0 i0 := by
  intro fu
  induction fu with
  | zero => intro v1 v2 v3 M h; exact nomatch (show (none : Option ((Nat ⊕ Int) × Mem)) = some res from h)
  | succ fu ih =>
    intro v1 v2 v3 M h
    have hG : M a0 i0 = M a0 i0 := rfl
    rw [f_X9_load_9] at h
    obtain ⟨hp_v3, h⟩ := chk_some h
    by_cases hc2 : M 1 0 ≤ v3
    · replace h := ite_t hc2 h
      cases h
      exact hG
    · replace h := ite_f hc2 h
      exact (cw_X9_load_23 a0 i0 ha ih F v1 v2 v3 0 M h).trans hG
theorem cg_X9_load {F : Nat} {v1 : Int} {M : Mem} {res : (Nat ⊕ Int) × Mem} (h : f_X9_load F v1 M = some res) (a0 : Nat) (i0 : Int) (ha : (a0 ≠ 57 ∨ i0 ≠ 0) ∧ (a0 ≠ 57 ∨ i0 ≠ 1) ∧ (a0 ≠ 57 ∨ i0 ≠ 2) ∧ a0 ≠ 58 ∧ a0 ≠ 59) : res.2 a0 i0 = M a0 i0 := by
  have hG : M a0 i0 = M a0 i0 := rfl
  rw [f_X9_load] at h
  obtain ⟨q1, h1, h⟩ := ob_some h
  have hG1 := hG
  rcases hz1 : q1 with e1 | r1
  · replace h := ox_l hz1 h
    cases h
    exact hG1
  · replace h := ox_r hz1 h
    exact (cw_X9_load_9 a0 i0 ha F v1 0 0 M h).trans hG1
theorem cw_X9_lostWithout_23 {res : (Nat ⊕ Int) × Mem} {F : Nat} (a0 : Nat) (i0 : Int) (ha : (a0 ≠ 57 ∨ i0 ≠ 0) ∧ (a0 ≠ 57 ∨ i0 ≠ 1) ∧ (a0 ≠ 57 ∨ i0 ≠ 2) ∧ a0 ≠ 58 ∧ a0 ≠ 59) {k9 : Int → Int → Int → Mem → Option ((Nat ⊕ Int) × Mem)} (hk9 : ∀ (v1 : Int) (v2 : Int) (v3 : Int) (M : Mem), k9 v1 v2 v3 M = some res → res.2 a0 i0 = M a0 i0) : ∀ (fu : Nat) (v1 : Int) (v2 : Int) (v3 : Int) (v4 : Int) (M : Mem), f_X9_lostWithout_23 F k9 fu v1 v2 v3 v4 M = some res → res.2 a0 i0 = M a0 i0 := by
  intro fu
  induction fu with
  | zero => intro v1 v2 v3 v4 M h; exact nomatch (show (none : Option ((Nat ⊕ Int) × Mem)) = some res from h)
  | succ fu ih =>
    intro v1 v2 v3 v4 M h
    have hG : M a0 i0 = M a0 i0 := rfl
    rw [f_X9_lostWithout_23] at h
    obtain ⟨⟨hp_v3, hp_v4⟩, h⟩ := chk_some h
    by_cases hc3 : M 1 0 ≤ v4
    · replace h := ite_t hc3 h
      exact (hk9 v1 v2 (v3 + 1) M h).trans hG
    · replace h := ite_f hc3 h
      by_cases hc4 : v3 = v4
      · replace h := ite_t hc4 h
        exact (ih v1 v2 v3 (v4 + 1) M h).trans hG
      · replace h := ite_f hc4 h
        obtain ⟨q5, h5, h⟩ := ob_some h
        have hG5 := (cg_X9_arrives h5 a0 i0 (by omega)).trans hG
        obtain ⟨hc6, h⟩ := chk_some h
        by_cases hc7 : q5.1 = 0
        · replace h := ite_t hc7 h
          exact (ih v1 v2 v3 (v4 + 1) q5.2 h).trans hG5
        · replace h := ite_f hc7 h
          obtain ⟨q8, h8, h⟩ := ob_some h
          have hG8 := (cg_X9_arrives h8 a0 i0 (by omega)).trans hG5
          obtain ⟨hc9, h⟩ := chk_some h
          rcases (Decidable.em (q8.1 = 0)).symm with hc10 | hc10
          · replace h := ite_f hc10 h
            exact (ih v1 v2 v3 (v4 + 1) q8.2 h).trans hG8
          · replace h := ite_t hc10 h
            exact (ih v1 (v2 + 1) v3 (v4 + 1) q8.2 h).trans hG8
theorem cw_X9_lostWithout_9 {res : (Nat ⊕ Int) × Mem} {F : Nat} (a0 : Nat) (i0 : Int) (ha : (a0 ≠ 57 ∨ i0 ≠ 0) ∧ (a0 ≠ 57 ∨ i0 ≠ 1) ∧ (a0 ≠ 57 ∨ i0 ≠ 2) ∧ a0 ≠ 58 ∧ a0 ≠ 59) : ∀ (fu : Nat) (v1 : Int) (v2 : Int) (v3 : Int) (M : Mem), f_X9_lostWithout_9 F fu v1 v2 v3 M = some res → res.2 a0 i0 = M a0 i0 := by
  intro fu
  induction fu with
  | zero => intro v1 v2 v3 M h; exact nomatch (show (none : Option ((Nat ⊕ Int) × Mem)) = some res from h)
  | succ fu ih =>
    intro v1 v2 v3 M h
    have hG : M a0 i0 = M a0 i0 := rfl
    rw [f_X9_lostWithout_9] at h
    obtain ⟨hp_v3, h⟩ := chk_some h
    by_cases hc2 : M 1 0 ≤ v3
    · replace h := ite_t hc2 h
      cases h
      exact hG
    · replace h := ite_f hc2 h
      exact (cw_X9_lostWithout_23 a0 i0 ha ih F v1 v2 v3 0 M h).trans hG
theorem cg_X9_lostWithout {F : Nat} {v1 : Int} {M : Mem} {res : (Nat ⊕ Int) × Mem} (h : f_X9_lostWithout F v1 M = some res) (a0 : Nat) (i0 : Int) (ha : (a0 ≠ 57 ∨ i0 ≠ 0) ∧ (a0 ≠ 57 ∨ i0 ≠ 1) ∧ (a0 ≠ 57 ∨ i0 ≠ 2) ∧ a0 ≠ 58 ∧ a0 ≠ 59) : res.2 a0 i0 = M a0 i0 := by
  have hG : M a0 i0 = M a0 i0 := rfl
  rw [f_X9_lostWithout] at h
  obtain ⟨q1, h1, h⟩ := ob_some h
  have hG1 := hG
  rcases hz1 : q1 with e1 | r1
  · replace h := ox_l hz1 h
    cases h
    exact hG1
  · replace h := ox_r hz1 h
    exact (cw_X9_lostWithout_9 a0 i0 ha F v1 0 0 M h).trans hG1
theorem cg_X9_bestCompactness {F : Nat} {M : Mem} {res : (Nat ⊕ Int) × Mem} (h : f_X9_bestCompactness F M = some res) (a0 : Nat) (i0 : Int) (ha : (a0 ≠ 46 ∨ i0 ≠ 0) ∧ a0 ≠ 47 ∧ a0 ≠ 48 ∧ a0 ≠ 49 ∧ a0 ≠ 50 ∧ (a0 ≠ 51 ∨ i0 ≠ 0) ∧ (a0 ≠ 51 ∨ i0 ≠ 1) ∧ (a0 ≠ 51 ∨ i0 ≠ 2) ∧ (a0 ≠ 51 ∨ i0 ≠ 3) ∧ (a0 ≠ 51 ∨ i0 ≠ 4) ∧ a0 ≠ 52 ∧ a0 ≠ 53 ∧ a0 ≠ 54 ∧ (a0 ≠ 55 ∨ i0 ≠ 0) ∧ a0 ≠ 56) : res.2 a0 i0 = M a0 i0 := by
  have hG : M a0 i0 = M a0 i0 := rfl
  rw [f_X9_bestCompactness] at h
  obtain ⟨q1, h1, h⟩ := ob_some h
  have hG1 := hG
  rcases hz1 : q1 with e1 | r1
  · replace h := ox_l hz1 h
    cases h
    exact hG1
  · replace h := ox_r hz1 h
    obtain ⟨q2, h2, h⟩ := ob_some h
    have hG2 := (cg_X5_ensure h2 a0 i0 (by omega)).trans hG1
    cases h
    exact hG2
theorem cg_X9_labelings {F : Nat} {v1 : Int} {M : Mem} {res : (Nat ⊕ Int) × Mem} (h : f_X9_labelings F v1 M = some res) (a0 : Nat) (i0 : Int) (ha : (a0 ≠ 46 ∨ i0 ≠ 0) ∧ a0 ≠ 47 ∧ a0 ≠ 48 ∧ a0 ≠ 49 ∧ a0 ≠ 50 ∧ (a0 ≠ 51 ∨ i0 ≠ 0) ∧ (a0 ≠ 51 ∨ i0 ≠ 1) ∧ (a0 ≠ 51 ∨ i0 ≠ 2) ∧ (a0 ≠ 51 ∨ i0 ≠ 3) ∧ (a0 ≠ 51 ∨ i0 ≠ 4) ∧ a0 ≠ 52 ∧ a0 ≠ 53 ∧ a0 ≠ 54 ∧ (a0 ≠ 55 ∨ i0 ≠ 0) ∧ a0 ≠ 56) : res.2 a0 i0 = M a0 i0 := by
  have hG : M a0 i0 = M a0 i0 := rfl
  rw [f_X9_labelings] at h
  obtain ⟨q1, h1, h⟩ := ob_some h
  have hG1 := hG
  rcases hz1 : q1 with e1 | r1
  · replace h := ox_l hz1 h
    cases h
    exact hG1
  · replace h := ox_r hz1 h
    obtain ⟨q2, h2, h⟩ := ob_some h
    have hG2 := hG1
    rcases hz2 : q2 with e2 | r2
    · replace h := ox_l hz2 h
      cases h
      exact hG2
    · replace h := ox_r hz2 h
      obtain ⟨q3, h3, h⟩ := ob_some h
      have hG3 := (cg_X5_ensure h3 a0 i0 (by omega)).trans hG2
      obtain ⟨q4, h4, h⟩ := ob_some h
      have hG4 := hG3
      cases h
      exact hG4
theorem cg_X9_append {v1 : Int} {M : Mem} {res : (Nat ⊕ Int) × Mem} (h : f_X9_append v1 M = some res) (a0 : Nat) (i0 : Int) (ha : (a0 ≠ 62 ∨ i0 ≠ 0) ∧ a0 ≠ 63) : res.2 a0 i0 = M a0 i0 := by
  have hG : M a0 i0 = M a0 i0 := rfl
  rw [f_X9_append] at h
  obtain ⟨q1, h1, h⟩ := ob_some h
  have hG1 := hG
  rcases hz1 : q1 with e1 | r1
  · replace h := ox_l hz1 h
    cases h
    exact hG1
  · replace h := ox_r hz1 h
    by_cases hc2 : M 62 0 < 100
    · replace h := ite_t hc2 h
      obtain ⟨q3, h3, h⟩ := ob_some h
      have hG3 := (cg_X3_put h3 a0 i0 (by omega)).trans hG1
      cases h
      exact hG3
    · replace h := ite_f hc2 h
      cases h
      exact hG1
theorem cg_X9_clearText {M : Mem} {res : Int × Mem} (h : f_X9_clearText M = some res) (a0 : Nat) (i0 : Int) (ha : (a0 ≠ 62 ∨ i0 ≠ 0)) : res.2 a0 i0 = M a0 i0 := by
  have hG : M a0 i0 = M a0 i0 := rfl
  rw [f_X9_clearText] at h
  have hG1 : (mset M 62 0 0) a0 i0 = M a0 i0 := (mset_at (show a0 ≠ 62 ∨ i0 ≠ 0 from by omega)).trans hG
  cases h
  exact hG1
theorem cg_X9_parse {F : Nat} {M : Mem} {res : Int × Mem} (h : f_X9_parse F M = some res) (a0 : Nat) (i0 : Int) (ha : a0 ≠ 40 ∧ a0 ≠ 41 ∧ a0 ≠ 42 ∧ a0 ≠ 43 ∧ (a0 ≠ 51 ∨ i0 ≠ 2) ∧ (a0 < 1 ∨ 38 < a0)) : res.2 a0 i0 = M a0 i0 := by
  have hG : M a0 i0 = M a0 i0 := rfl
  rw [f_X9_parse] at h
  obtain ⟨q1, h1, h⟩ := ob_some h
  have hG1 := (cg_X3_readInto h1 a0 i0 (by omega)).trans hG
  obtain ⟨hc2, h⟩ := chk_some h
  by_cases hc3 : q1.1 = (-1)
  · replace h := ite_t hc3 h
    obtain ⟨q4, h4, h⟩ := ob_some h
    have hG4 := (cg_X0_save h4 a0 i0 (by omega)).trans hG1
    obtain ⟨q5, h5, h⟩ := ob_some h
    have hG5 := (cg_X6_copyFrom h5 a0 i0 (by omega)).trans hG4
    obtain ⟨q6, h6, h⟩ := ob_some h
    have hG6 := (cg_X9_networkChanged h6 a0 i0 (by omega)).trans hG5
    cases h
    exact hG6
  · replace h := ite_f hc3 h
    cases h
    exact hG1
theorem cg_X9_undo {F : Nat} {M : Mem} {res : (Nat ⊕ Int) × Mem} (h : f_X9_undo F M = some res) (a0 : Nat) (i0 : Int) (ha : (a0 ≠ 1 ∨ i0 ≠ 0) ∧ (a0 ≠ 1 ∨ i0 ≠ 1) ∧ a0 ≠ 2 ∧ a0 ≠ 3 ∧ a0 ≠ 4 ∧ a0 ≠ 5 ∧ a0 ≠ 6 ∧ (a0 ≠ 13 ∨ i0 ≠ 0) ∧ a0 ≠ 40 ∧ a0 ≠ 41 ∧ a0 ≠ 42 ∧ a0 ≠ 43 ∧ (a0 ≠ 51 ∨ i0 ≠ 2)) : res.2 a0 i0 = M a0 i0 := by
  have hG : M a0 i0 = M a0 i0 := rfl
  rw [f_X9_undo] at h
  rcases (Decidable.em (M 13 0 = 0)).symm with hc1 | hc1
  · replace h := ite_f hc1 h
    obtain ⟨q2, h2, h⟩ := ob_some h
    have hG2 := (cg_X0_restore h2 a0 i0 (by omega)).trans hG
    obtain ⟨q3, h3, h⟩ := ob_some h
    have hG3 := (cg_X9_measureNetwork h3 a0 i0 (by omega)).trans hG2
    cases h
    exact hG3
  · replace h := ite_t hc1 h
    cases h
    exact hG
theorem cw_X9_digest_54 {res : Int × Mem} {F : Nat} (a0 : Nat) (i0 : Int) (ha : (a0 ≠ 44 ∨ i0 ≠ 0) ∧ a0 ≠ 45 ∧ (a0 ≠ 57 ∨ i0 ≠ 0) ∧ (a0 ≠ 57 ∨ i0 ≠ 1) ∧ (a0 ≠ 57 ∨ i0 ≠ 2) ∧ a0 ≠ 58 ∧ a0 ≠ 59) : ∀ (fu : Nat) (v1 : Int) (v3 : Int) (M : Mem), f_X9_digest_54 F fu v1 v3 M = some res → res.2 a0 i0 = M a0 i0 := by
  intro fu
  induction fu with
  | zero => intro v1 v3 M h; exact nomatch (show (none : Option (Int × Mem)) = some res from h)
  | succ fu ih =>
    intro v1 v3 M h
    have hG : M a0 i0 = M a0 i0 := rfl
    rw [f_X9_digest_54] at h
    obtain ⟨hp_v3, h⟩ := chk_some h
    by_cases hc6 : 5 ≤ v3
    · replace h := ite_t hc6 h
      obtain ⟨q7, h7, h⟩ := ob_some h
      have hG7 := (cg_X9_arriving h7 a0 i0 (by omega)).trans hG
      obtain ⟨hc8, h⟩ := chk_some h
      cases h
      exact hG7
    · replace h := ite_f hc6 h
      obtain ⟨q9, h9, h⟩ := ob_some h
      have hG9 := hG
      obtain ⟨hc10, h⟩ := chk_some h
      exact (ih ((31 * v1) + q9) (v3 + 1) M h).trans hG9
theorem cg_X9_digest {F : Nat} {M : Mem} {res : Int × Mem} (h : f_X9_digest F M = some res) (a0 : Nat) (i0 : Int) (ha : (a0 ≠ 44 ∨ i0 ≠ 0) ∧ a0 ≠ 45 ∧ (a0 ≠ 57 ∨ i0 ≠ 0) ∧ (a0 ≠ 57 ∨ i0 ≠ 1) ∧ (a0 ≠ 57 ∨ i0 ≠ 2) ∧ a0 ≠ 58 ∧ a0 ≠ 59) : res.2 a0 i0 = M a0 i0 := by
  have hG : M a0 i0 = M a0 i0 := rfl
  rw [f_X9_digest] at h
  obtain ⟨q1, h1, h⟩ := ob_some h
  have hG1 := hG
  obtain ⟨q2, h2, h⟩ := ob_some h
  have hG2 := (cg_X9_networkSize h2 a0 i0 (by omega)).trans hG1
  obtain ⟨hc3, h⟩ := chk_some h
  obtain ⟨q4, h4, h⟩ := ob_some h
  have hG4 := (cg_X9_compactness h4 a0 i0 (by omega)).trans hG2
  obtain ⟨hc5, h⟩ := chk_some h
  exact (cw_X9_digest_54 a0 i0 ha F ((31 * ((31 * q1) + q2.1)) + q4.1) 0 q4.2 h).trans hG4
theorem cg_X10_refused {v1 : Int} {M : Mem} {res : Int × Mem} (h : f_X10_refused v1 M = some res) (a0 : Nat) (i0 : Int) (ha : (a0 ≠ 64 ∨ i0 ≠ 3)) : res.2 a0 i0 = M a0 i0 := by
  have hG : M a0 i0 = M a0 i0 := rfl
  rw [f_X10_refused] at h
  obtain ⟨hp_v1, h⟩ := chk_some h
  have hG1 : (mset M 64 3 v1) a0 i0 = M a0 i0 := (mset_at (show a0 ≠ 64 ∨ i0 ≠ 3 from by omega)).trans hG
  by_cases hc2 : v1 ≤ 0
  · replace h := ite_t hc2 h
    cases h
    exact hG1
  · replace h := ite_f hc2 h
    cases h
    exact hG1
theorem cw_X10_saves_51 {res : Mem} {F : Nat} (a0 : Nat) (i0 : Int) (ha : (a0 ≠ 64 ∨ i0 ≠ 2) ∧ a0 ≠ 66) : ∀ (fu : Nat) (v1 : Int) (M : Mem), f_X10_saves_51 F fu v1 M = some res → res a0 i0 = M a0 i0 := by
  intro fu
  induction fu with
  | zero => intro v1 M h; exact nomatch (show (none : Option (Mem)) = some res from h)
  | succ fu ih =>
    intro v1 M h
    have hG : M a0 i0 = M a0 i0 := rfl
    rw [f_X10_saves_51] at h
    obtain ⟨hp_v1, h⟩ := chk_some h
    by_cases hc2 : 140 ≤ v1
    · replace h := ite_t hc2 h
      obtain ⟨hc3, h⟩ := chk_some h
      have hG4 : (mset M 64 2 ((M 64 2) + 1)) a0 i0 = M a0 i0 := (mset_at (show a0 ≠ 64 ∨ i0 ≠ 2 from by omega)).trans hG
      cases h
      exact hG4
    · replace h := ite_f hc2 h
      obtain ⟨hc5, h⟩ := chk_some h
      obtain ⟨hc6, h⟩ := chk_some h
      have hG7 : (mset M 66 ((140 * (M 64 2)) + v1) (M 65 v1)) a0 i0 = M a0 i0 := (mset_at (Or.inl (show a0 ≠ 66 from by omega))).trans hG
      exact (ih (v1 + 1) (mset M 66 ((140 * (M 64 2)) + v1) (M 65 v1)) h).trans hG7
theorem cw_X10_saves_10 {res : Mem} {F : Nat} (a0 : Nat) (i0 : Int) (ha : (a0 ≠ 64 ∨ i0 ≠ 2) ∧ a0 ≠ 66) : ∀ (fu : Nat) (v1 : Int) (M : Mem), f_X10_saves_10 F fu v1 M = some res → res a0 i0 = M a0 i0 := by
  intro fu
  induction fu with
  | zero => intro v1 M h; exact nomatch (show (none : Option (Mem)) = some res from h)
  | succ fu ih =>
    intro v1 M h
    have hG : M a0 i0 = M a0 i0 := rfl
    rw [f_X10_saves_10] at h
    obtain ⟨hp_v1, h⟩ := chk_some h
    by_cases hc8 : 420 ≤ v1
    · replace h := ite_t hc8 h
      obtain ⟨hc9, h⟩ := chk_some h
      have hG10 : (mset M 64 2 ((M 64 2) - 1)) a0 i0 = M a0 i0 := (mset_at (show a0 ≠ 64 ∨ i0 ≠ 2 from by omega)).trans hG
      exact (cw_X10_saves_51 a0 i0 ha F 0 (mset M 64 2 ((M 64 2) - 1)) h).trans hG10
    · replace h := ite_f hc8 h
      obtain ⟨hc11, h⟩ := chk_some h
      obtain ⟨hc12, h⟩ := chk_some h
      have hG13 : (mset M 66 v1 (M 66 (v1 + 140))) a0 i0 = M a0 i0 := (mset_at (Or.inl (show a0 ≠ 66 from by omega))).trans hG
      exact (ih (v1 + 1) (mset M 66 v1 (M 66 (v1 + 140))) h).trans hG13
theorem cg_X10_saves {F : Nat} {M : Mem} {res : Mem} (h : f_X10_saves F M = some res) (a0 : Nat) (i0 : Int) (ha : (a0 ≠ 64 ∨ i0 ≠ 2) ∧ a0 ≠ 66) : res a0 i0 = M a0 i0 := by
  have hG : M a0 i0 = M a0 i0 := rfl
  rw [f_X10_saves] at h
  rcases (Decidable.em (M 64 2 = 4)).symm with hc1 | hc1
  · replace h := ite_f hc1 h
    exact (cw_X10_saves_51 a0 i0 ha F 0 M h).trans hG
  · replace h := ite_t hc1 h
    exact (cw_X10_saves_10 a0 i0 ha F 0 M h).trans hG
theorem cw_X10_undo_33 {res : Int × Mem} {F : Nat} (a0 : Nat) (i0 : Int) (ha : (a0 ≠ 64 ∨ i0 ≠ 2) ∧ (a0 ≠ 64 ∨ i0 ≠ 3) ∧ a0 ≠ 65) : ∀ (fu : Nat) (v1 : Int) (M : Mem), f_X10_undo_33 F fu v1 M = some res → res.2 a0 i0 = M a0 i0 := by
  intro fu
  induction fu with
  | zero => intro v1 M h; exact nomatch (show (none : Option (Int × Mem)) = some res from h)
  | succ fu ih =>
    intro v1 M h
    have hG : M a0 i0 = M a0 i0 := rfl
    rw [f_X10_undo_33] at h
    obtain ⟨hp_v1, h⟩ := chk_some h
    by_cases hc7 : 140 ≤ v1
    · replace h := ite_t hc7 h
      cases h
      exact hG
    · replace h := ite_f hc7 h
      obtain ⟨hc8, h⟩ := chk_some h
      obtain ⟨hc9, h⟩ := chk_some h
      have hG10 : (mset M 65 v1 (M 66 ((140 * (M 64 2)) + v1))) a0 i0 = M a0 i0 := (mset_at (Or.inl (show a0 ≠ 65 from by omega))).trans hG
      exact (ih (v1 + 1) (mset M 65 v1 (M 66 ((140 * (M 64 2)) + v1))) h).trans hG10
theorem cg_X10_undo {F : Nat} {M : Mem} {res : Int × Mem} (h : f_X10_undo F M = some res) (a0 : Nat) (i0 : Int) (ha : (a0 ≠ 64 ∨ i0 ≠ 2) ∧ (a0 ≠ 64 ∨ i0 ≠ 3) ∧ a0 ≠ 65) : res.2 a0 i0 = M a0 i0 := by
  have hG : M a0 i0 = M a0 i0 := rfl
  rw [f_X10_undo] at h
  rcases (Decidable.em (M 64 2 = 0)).symm with hc1 | hc1
  · replace h := ite_f hc1 h
    obtain ⟨q2, h2, h⟩ := ob_some h
    have hG2 := (cg_X10_refused h2 a0 i0 (by omega)).trans hG
    obtain ⟨hc3, h⟩ := chk_some h
    by_cases hc4 : q2.1 = 0
    · replace h := ite_t hc4 h
      obtain ⟨hc5, h⟩ := chk_some h
      have hG6 : (mset q2.2 64 2 ((q2.2 64 2) - 1)) a0 i0 = M a0 i0 := (mset_at (show a0 ≠ 64 ∨ i0 ≠ 2 from by omega)).trans hG2
      exact (cw_X10_undo_33 a0 i0 ha F 0 (mset q2.2 64 2 ((q2.2 64 2) - 1)) h).trans hG6
    · replace h := ite_f hc4 h
      cases h
      exact hG2
  · replace h := ite_t hc1 h
    obtain ⟨q11, h11, h⟩ := ob_some h
    have hG11 := (cg_X10_refused h11 a0 i0 (by omega)).trans hG
    obtain ⟨hc12, h⟩ := chk_some h
    by_cases hc13 : q11.1 = 0
    · replace h := ite_t hc13 h
      obtain ⟨hc14, h⟩ := chk_some h
      have hG15 : (mset q11.2 64 2 ((q11.2 64 2) - 1)) a0 i0 = M a0 i0 := (mset_at (show a0 ≠ 64 ∨ i0 ≠ 2 from by omega)).trans hG11
      exact (cw_X10_undo_33 a0 i0 ha F 0 (mset q11.2 64 2 ((q11.2 64 2) - 1)) h).trans hG15
    · replace h := ite_f hc13 h
      cases h
      exact hG11
theorem cw_X10_empties_3 {res : Mem} {F : Nat} (a0 : Nat) (i0 : Int) (ha : a0 ≠ 65) : ∀ (fu : Nat) (v1 : Int) (M : Mem), f_X10_empties_3 F fu v1 M = some res → res a0 i0 = M a0 i0 := by
  intro fu
  induction fu with
  | zero => intro v1 M h; exact nomatch (show (none : Option (Mem)) = some res from h)
  | succ fu ih =>
    intro v1 M h
    have hG : M a0 i0 = M a0 i0 := rfl
    rw [f_X10_empties_3] at h
    obtain ⟨hp_v1, h⟩ := chk_some h
    by_cases hc1 : 140 ≤ v1
    · replace h := ite_t hc1 h
      cases h
      exact hG
    · replace h := ite_f hc1 h
      obtain ⟨hc2, h⟩ := chk_some h
      have hG3 : (mset M 65 v1 0) a0 i0 = M a0 i0 := (mset_at (Or.inl (show a0 ≠ 65 from by omega))).trans hG
      exact (ih (v1 + 1) (mset M 65 v1 0) h).trans hG3
theorem cg_X10_empties {F : Nat} {M : Mem} {res : Mem} (h : f_X10_empties F M = some res) (a0 : Nat) (i0 : Int) (ha : a0 ≠ 65) : res a0 i0 = M a0 i0 := by
  have hG : M a0 i0 = M a0 i0 := rfl
  rw [f_X10_empties] at h
  exact (cw_X10_empties_3 a0 i0 ha F 59 M h).trans hG
theorem cw_X10_begins_16 {res : Mem} {F : Nat} (a0 : Nat) (i0 : Int) (ha : a0 ≠ 65) : ∀ (fu : Nat) (v2 : Int) (M : Mem), f_X10_begins_16 F fu v2 M = some res → res a0 i0 = M a0 i0 := by
  intro fu
  induction fu with
  | zero => intro v2 M h; exact nomatch (show (none : Option (Mem)) = some res from h)
  | succ fu ih =>
    intro v2 M h
    have hG : M a0 i0 = M a0 i0 := rfl
    rw [f_X10_begins_16] at h
    obtain ⟨hp_v2, h⟩ := chk_some h
    by_cases hc3 : 9 ≤ v2
    · replace h := ite_t hc3 h
      obtain ⟨q4, h4, h⟩ := ob_some h
      have hG4 := (cg_X10_empties h4 a0 i0 (by omega)).trans hG
      cases h
      exact hG4
    · replace h := ite_f hc3 h
      obtain ⟨hc5, h⟩ := chk_some h
      have hG6 : (mset M 65 (50 + v2) v2) a0 i0 = M a0 i0 := (mset_at (Or.inl (show a0 ≠ 65 from by omega))).trans hG
      exact (ih (v2 + 1) (mset M 65 (50 + v2) v2) h).trans hG6
theorem cg_X10_begins {F : Nat} {v1 : Int} {M : Mem} {res : Mem} (h : f_X10_begins F v1 M = some res) (a0 : Nat) (i0 : Int) (ha : a0 ≠ 65) : res a0 i0 = M a0 i0 := by
  have hG : M a0 i0 = M a0 i0 := rfl
  rw [f_X10_begins] at h
  obtain ⟨hp_v1, h⟩ := chk_some h
  have hG1 : (mset M 65 0 v1) a0 i0 = M a0 i0 := (mset_at (Or.inl (show a0 ≠ 65 from by omega))).trans hG
  have hG2 : (mset (mset M 65 0 v1) 65 1 0) a0 i0 = M a0 i0 := (mset_at (Or.inl (show a0 ≠ 65 from by omega))).trans hG1
  exact (cw_X10_begins_16 a0 i0 ha F 0 (mset (mset M 65 0 v1) 65 1 0) h).trans hG2
theorem cg_X10_begin {F : Nat} {v1 : Int} {M : Mem} {res : Int × Mem} (h : f_X10_begin F v1 M = some res) (a0 : Nat) (i0 : Int) (ha : (a0 ≠ 64 ∨ i0 ≠ 2) ∧ (a0 ≠ 64 ∨ i0 ≠ 3) ∧ a0 ≠ 65 ∧ a0 ≠ 66) : res.2 a0 i0 = M a0 i0 := by
  have hG : M a0 i0 = M a0 i0 := rfl
  rw [f_X10_begin] at h
  obtain ⟨q1, h1, h⟩ := ob_some h
  have hG1 := hG
  obtain ⟨hc2, h⟩ := chk_some h
  by_cases hc3 : q1 = 0
  · replace h := ite_t hc3 h
    obtain ⟨q4, h4, h⟩ := ob_some h
    have hG4 := (cg_X10_refused h4 a0 i0 (by omega)).trans hG1
    obtain ⟨hc5, h⟩ := chk_some h
    by_cases hc6 : q4.1 = 0
    · replace h := ite_t hc6 h
      obtain ⟨q7, h7, h⟩ := ob_some h
      have hG7 := (cg_X10_saves h7 a0 i0 (by omega)).trans hG4
      obtain ⟨q8, h8, h⟩ := ob_some h
      have hG8 := (cg_X10_begins h8 a0 i0 (by omega)).trans hG7
      cases h
      exact hG8
    · replace h := ite_f hc6 h
      cases h
      exact hG4
  · replace h := ite_f hc3 h
    obtain ⟨q9, h9, h⟩ := ob_some h
    have hG9 := (cg_X10_refused h9 a0 i0 (by omega)).trans hG1
    obtain ⟨hc10, h⟩ := chk_some h
    by_cases hc11 : q9.1 = 0
    · replace h := ite_t hc11 h
      obtain ⟨q12, h12, h⟩ := ob_some h
      have hG12 := (cg_X10_saves h12 a0 i0 (by omega)).trans hG9
      obtain ⟨q13, h13, h⟩ := ob_some h
      have hG13 := (cg_X10_begins h13 a0 i0 (by omega)).trans hG12
      cases h
      exact hG13
    · replace h := ite_f hc11 h
      cases h
      exact hG9
theorem cg_X10_joins {v1 : Int} {v2 : Int} {v3 : Int} {M : Mem} {res : Mem} (h : f_X10_joins v1 v2 v3 M = some res) (a0 : Nat) (i0 : Int) (ha : a0 ≠ 65) : res a0 i0 = M a0 i0 := by
  have hG : M a0 i0 = M a0 i0 := rfl
  rw [f_X10_joins] at h
  obtain ⟨⟨hp_v1, hp_v2, hp_v3⟩, h⟩ := chk_some h
  obtain ⟨hc1, h⟩ := chk_some h
  have hG2 : (mset M 65 (2 + (3 * (M 65 1))) v1) a0 i0 = M a0 i0 := (mset_at (Or.inl (show a0 ≠ 65 from by omega))).trans hG
  obtain ⟨hc3, h⟩ := chk_some h
  have hG4 : (mset (mset M 65 (2 + (3 * (M 65 1))) v1) 65 ((2 + (3 * (M 65 1))) + 1) v2) a0 i0 = M a0 i0 := (mset_at (Or.inl (show a0 ≠ 65 from by omega))).trans hG2
  obtain ⟨hc5, h⟩ := chk_some h
  have hG6 : (mset (mset (mset M 65 (2 + (3 * (M 65 1))) v1) 65 ((2 + (3 * (M 65 1))) + 1) v2) 65 ((2 + (3 * (M 65 1))) + 2) v3) a0 i0 = M a0 i0 := (mset_at (Or.inl (show a0 ≠ 65 from by omega))).trans hG4
  obtain ⟨hc7, h⟩ := chk_some h
  have hG8 : (mset (mset (mset (mset M 65 (2 + (3 * (M 65 1))) v1) 65 ((2 + (3 * (M 65 1))) + 1) v2) 65 ((2 + (3 * (M 65 1))) + 2) v3) 65 1 (((mset (mset (mset M 65 (2 + (3 * (M 65 1))) v1) 65 ((2 + (3 * (M 65 1))) + 1) v2) 65 ((2 + (3 * (M 65 1))) + 2) v3) 65 1) + 1)) a0 i0 = M a0 i0 := (mset_at (Or.inl (show a0 ≠ 65 from by omega))).trans hG6
  cases h
  exact hG8
theorem cw_X10_addLink_94 {res : Int × Mem} {F : Nat} (a0 : Nat) (i0 : Int) (ha : (a0 ≠ 64 ∨ i0 ≠ 2) ∧ (a0 ≠ 64 ∨ i0 ≠ 3) ∧ a0 ≠ 65 ∧ a0 ≠ 66) : ∀ (v1 : Int) (v2 : Int) (v3 : Int) (t1 : Int) (M : Mem), f_X10_addLink_94 F v1 v2 v3 t1 M = some res → res.2 a0 i0 = M a0 i0 := by
  intro v1 v2 v3 t1 M h
  have hG : M a0 i0 = M a0 i0 := rfl
  rw [f_X10_addLink_94] at h
  obtain ⟨q7, h7, h⟩ := ob_some h
  have hG7 := (cg_X10_refused h7 a0 i0 (by omega)).trans hG
  obtain ⟨hc8, h⟩ := chk_some h
  by_cases hc9 : q7.1 = 0
  · replace h := ite_t hc9 h
    obtain ⟨q10, h10, h⟩ := ob_some h
    have hG10 := (cg_X10_saves h10 a0 i0 (by omega)).trans hG7
    obtain ⟨q11, h11, h⟩ := ob_some h
    have hG11 := (cg_X10_joins h11 a0 i0 (by omega)).trans hG10
    obtain ⟨q12, h12, h⟩ := ob_some h
    have hG12 := (cg_X10_empties h12 a0 i0 (by omega)).trans hG11
    cases h
    exact hG12
  · replace h := ite_f hc9 h
    cases h
    exact hG7
theorem cw_X10_addLink_56 {res : Int × Mem} {F : Nat} (a0 : Nat) (i0 : Int) (ha : (a0 ≠ 64 ∨ i0 ≠ 2) ∧ (a0 ≠ 64 ∨ i0 ≠ 3) ∧ a0 ≠ 65 ∧ a0 ≠ 66) : ∀ (v1 : Int) (v2 : Int) (v3 : Int) (v4 : Int) (M : Mem), f_X10_addLink_56 F v1 v2 v3 v4 M = some res → res.2 a0 i0 = M a0 i0 := by
  intro v1 v2 v3 v4 M h
  have hG : M a0 i0 = M a0 i0 := rfl
  rw [f_X10_addLink_56] at h
  obtain ⟨hp_v4, h⟩ := chk_some h
  rcases (Decidable.em (v4 = 0)).symm with hc5 | hc5
  · replace h := ite_f hc5 h
    exact (cw_X10_addLink_94 a0 i0 ha v1 v2 v3 2 M h).trans hG
  · replace h := ite_t hc5 h
    exact (cw_X10_addLink_94 a0 i0 ha v1 v2 v3 1 M h).trans hG
theorem cw_X10_addLink_21 {res : Int × Mem} {F : Nat} (a0 : Nat) (i0 : Int) (ha : (a0 ≠ 64 ∨ i0 ≠ 2) ∧ (a0 ≠ 64 ∨ i0 ≠ 3) ∧ a0 ≠ 65 ∧ a0 ≠ 66) : ∀ (v1 : Int) (v2 : Int) (v3 : Int) (t0 : Int) (M : Mem), f_X10_addLink_21 F v1 v2 v3 t0 M = some res → res.2 a0 i0 = M a0 i0 := by
  intro v1 v2 v3 t0 M h
  have hG : M a0 i0 = M a0 i0 := rfl
  rw [f_X10_addLink_21] at h
  obtain ⟨⟨hp_v1, hp_v2, hp_t0⟩, h⟩ := chk_some h
  by_cases hc4 : t0 = 0
  · replace h := ite_t hc4 h
    exact (cw_X10_addLink_56 a0 i0 ha v1 v2 v3 t0 M h).trans hG
  · replace h := ite_f hc4 h
    by_cases hc13 : v1 = v2
    · replace h := ite_t hc13 h
      exact (cw_X10_addLink_56 a0 i0 ha v1 v2 v3 t0 M h).trans hG
    · replace h := ite_f hc13 h
      obtain ⟨q14, h14, h⟩ := ob_some h
      have hG14 := hG
      obtain ⟨hc15, h⟩ := chk_some h
      by_cases hc16 : q14 = 0
      · replace h := ite_t hc16 h
        exact (cw_X10_addLink_56 a0 i0 ha v1 v2 v3 t0 M h).trans hG14
      · replace h := ite_f hc16 h
        obtain ⟨q17, h17, h⟩ := ob_some h
        have hG17 := hG14
        obtain ⟨hc18, h⟩ := chk_some h
        rcases (Decidable.em (q17 = 0)).symm with hc19 | hc19
        · replace h := ite_f hc19 h
          exact (cw_X10_addLink_56 a0 i0 ha v1 v2 v3 t0 M h).trans hG17
        · replace h := ite_t hc19 h
          rcases (Decidable.em (t0 = 0)).symm with hc20 | hc20
          · replace h := ite_f hc20 h
            rcases (Decidable.em (M 65 1 = 16)).symm with hc22 | hc22
            · replace h := ite_f hc22 h
              exact (cw_X10_addLink_94 a0 i0 ha v1 v2 v3 0 M h).trans hG17
            · replace h := ite_t hc22 h
              exact (cw_X10_addLink_94 a0 i0 ha v1 v2 v3 3 M h).trans hG17
          · replace h := ite_t hc20 h
            exact (cw_X10_addLink_94 a0 i0 ha v1 v2 v3 1 M h).trans hG17
