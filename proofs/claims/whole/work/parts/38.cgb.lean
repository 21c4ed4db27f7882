theorem cg_X10_addLink {F : Nat} {v1 : Int} {v2 : Int} {v3 : Int} {M : Mem} {res : Int × Mem} (h : f_X10_addLink F v1 v2 v3 M = some res) (a0 : Nat) (i0 : Int) (ha : (a0 ≠ 64 ∨ i0 ≠ 2) ∧ (a0 ≠ 64 ∨ i0 ≠ 3) ∧ a0 ≠ 65 ∧ a0 ≠ 66) : res.2 a0 i0 = M a0 i0 := by
  have hG : M a0 i0 = M a0 i0 := rfl
  rw [f_X10_addLink] at h
  obtain ⟨q1, h1, h⟩ := ob_some h
  have hG1 := hG
  obtain ⟨hc2, h⟩ := chk_some h
  by_cases hc3 : q1 = 0
  · replace h := ite_t hc3 h
    exact (cw_X10_addLink_21 a0 i0 ha v1 v2 v3 0 M h).trans hG1
  · replace h := ite_f hc3 h
    obtain ⟨q23, h23, h⟩ := ob_some h
    have hG23 := hG1
    obtain ⟨hc24, h⟩ := chk_some h
    by_cases hc25 : q23 = 0
    · replace h := ite_t hc25 h
      exact (cw_X10_addLink_21 a0 i0 ha v1 v2 v3 0 M h).trans hG23
    · replace h := ite_f hc25 h
      exact (cw_X10_addLink_21 a0 i0 ha v1 v2 v3 1 M h).trans hG23
theorem cw_X10_removeLink_42 {res : Int × Mem} {F : Nat} (a0 : Nat) (i0 : Int) (ha : (a0 ≠ 64 ∨ i0 ≠ 2) ∧ (a0 ≠ 64 ∨ i0 ≠ 3) ∧ a0 ≠ 65 ∧ a0 ≠ 66) : ∀ (fu : Nat) (v2 : Int) (M : Mem), f_X10_removeLink_42 F fu v2 M = some res → res.2 a0 i0 = M a0 i0 := by
  intro fu
  induction fu with
  | zero => intro v2 M h; exact nomatch (show (none : Option (Int × Mem)) = some res from h)
  | succ fu ih =>
    intro v2 M h
    have hG : M a0 i0 = M a0 i0 := rfl
    rw [f_X10_removeLink_42] at h
    obtain ⟨hp_v2, h⟩ := chk_some h
    obtain ⟨hc10, h⟩ := chk_some h
    by_cases hc11 : 2 + (3 * (M 65 1)) ≤ v2
    · replace h := ite_t hc11 h
      obtain ⟨q12, h12, h⟩ := ob_some h
      have hG12 := (cg_X10_empties h12 a0 i0 (by omega)).trans hG
      cases h
      exact hG12
    · replace h := ite_f hc11 h
      obtain ⟨hc13, h⟩ := chk_some h
      obtain ⟨hc14, h⟩ := chk_some h
      have hG15 : (mset M 65 v2 (M 65 (v2 + 3))) a0 i0 = M a0 i0 := (mset_at (Or.inl (show a0 ≠ 65 from by omega))).trans hG
      exact (ih (v2 + 1) (mset M 65 v2 (M 65 (v2 + 3))) h).trans hG15
theorem cg_X10_removeLink {F : Nat} {v1 : Int} {M : Mem} {res : Int × Mem} (h : f_X10_removeLink F v1 M = some res) (a0 : Nat) (i0 : Int) (ha : (a0 ≠ 64 ∨ i0 ≠ 2) ∧ (a0 ≠ 64 ∨ i0 ≠ 3) ∧ a0 ≠ 65 ∧ a0 ≠ 66) : res.2 a0 i0 = M a0 i0 := by
  have hG : M a0 i0 = M a0 i0 := rfl
  rw [f_X10_removeLink] at h
  obtain ⟨q1, h1, h⟩ := ob_some h
  have hG1 := hG
  obtain ⟨hc2, h⟩ := chk_some h
  by_cases hc3 : q1 = 0
  · replace h := ite_t hc3 h
    obtain ⟨q4, h4, h⟩ := ob_some h
    have hG4 := (cg_X10_refused h4 a0 i0 (by omega)).trans hG1
    obtain ⟨hc5, h⟩ := chk_some h
    by_cases hc6 : q4.1 = 0
    · replace h := ite_t hc6 h
      obtain ⟨q7, h7, h⟩ := ob_some h
      have hG7 := (cg_X10_saves h7 a0 i0 (by omega)).trans hG4
      obtain ⟨hc8, h⟩ := chk_some h
      have hG9 : (mset q7 65 1 ((q7 65 1) - 1)) a0 i0 = M a0 i0 := (mset_at (Or.inl (show a0 ≠ 65 from by omega))).trans hG7
      exact (cw_X10_removeLink_42 a0 i0 ha F (2 + (3 * v1)) (mset q7 65 1 ((q7 65 1) - 1)) h).trans hG9
    · replace h := ite_f hc6 h
      cases h
      exact hG4
  · replace h := ite_f hc3 h
    obtain ⟨q16, h16, h⟩ := ob_some h
    have hG16 := (cg_X10_refused h16 a0 i0 (by omega)).trans hG1
    obtain ⟨hc17, h⟩ := chk_some h
    by_cases hc18 : q16.1 = 0
    · replace h := ite_t hc18 h
      obtain ⟨q19, h19, h⟩ := ob_some h
      have hG19 := (cg_X10_saves h19 a0 i0 (by omega)).trans hG16
      obtain ⟨hc20, h⟩ := chk_some h
      have hG21 : (mset q19 65 1 ((q19 65 1) - 1)) a0 i0 = M a0 i0 := (mset_at (Or.inl (show a0 ≠ 65 from by omega))).trans hG19
      exact (cw_X10_removeLink_42 a0 i0 ha F (2 + (3 * v1)) (mset q19 65 1 ((q19 65 1) - 1)) h).trans hG21
    · replace h := ite_f hc18 h
      cases h
      exact hG16
theorem cw_X10_setLength_28 {res : Int × Mem} {F : Nat} (a0 : Nat) (i0 : Int) (ha : (a0 ≠ 64 ∨ i0 ≠ 2) ∧ (a0 ≠ 64 ∨ i0 ≠ 3) ∧ a0 ≠ 65 ∧ a0 ≠ 66) : ∀ (v1 : Int) (v2 : Int) (t1 : Int) (M : Mem), f_X10_setLength_28 F v1 v2 t1 M = some res → res.2 a0 i0 = M a0 i0 := by
  intro v1 v2 t1 M h
  have hG : M a0 i0 = M a0 i0 := rfl
  rw [f_X10_setLength_28] at h
  obtain ⟨hp_v2, h⟩ := chk_some h
  obtain ⟨q7, h7, h⟩ := ob_some h
  have hG7 := (cg_X10_refused h7 a0 i0 (by omega)).trans hG
  obtain ⟨hc8, h⟩ := chk_some h
  by_cases hc9 : q7.1 = 0
  · replace h := ite_t hc9 h
    obtain ⟨q10, h10, h⟩ := ob_some h
    have hG10 := (cg_X10_saves h10 a0 i0 (by omega)).trans hG7
    obtain ⟨q11, h11, h⟩ := ob_some h
    have hG11 := hG10
    obtain ⟨hc12, h⟩ := chk_some h
    have hG13 : (mset q10 65 ((2 + (3 * v1)) + 2) v2) a0 i0 = M a0 i0 := (mset_at (Or.inl (show a0 ≠ 65 from by omega))).trans hG11
    obtain ⟨q14, h14, h⟩ := ob_some h
    have hG14 := (cg_X10_empties h14 a0 i0 (by omega)).trans hG13
    cases h
    exact hG14
  · replace h := ite_f hc9 h
    cases h
    exact hG7
theorem cg_X10_setLength {F : Nat} {v1 : Int} {v2 : Int} {M : Mem} {res : Int × Mem} (h : f_X10_setLength F v1 v2 M = some res) (a0 : Nat) (i0 : Int) (ha : (a0 ≠ 64 ∨ i0 ≠ 2) ∧ (a0 ≠ 64 ∨ i0 ≠ 3) ∧ a0 ≠ 65 ∧ a0 ≠ 66) : res.2 a0 i0 = M a0 i0 := by
  have hG : M a0 i0 = M a0 i0 := rfl
  rw [f_X10_setLength] at h
  obtain ⟨q1, h1, h⟩ := ob_some h
  have hG1 := hG
  obtain ⟨hc2, h⟩ := chk_some h
  rcases (Decidable.em (q1 = 0)).symm with hc3 | hc3
  · replace h := ite_f hc3 h
    obtain ⟨q4, h4, h⟩ := ob_some h
    have hG4 := hG1
    obtain ⟨hc5, h⟩ := chk_some h
    by_cases hc6 : q4 = 0
    · replace h := ite_t hc6 h
      exact (cw_X10_setLength_28 a0 i0 ha v1 v2 2 M h).trans hG4
    · replace h := ite_f hc6 h
      exact (cw_X10_setLength_28 a0 i0 ha v1 v2 0 M h).trans hG4
  · replace h := ite_t hc3 h
    exact (cw_X10_setLength_28 a0 i0 ha v1 v2 1 M h).trans hG1
theorem cg_X10_size {v1 : Int} {M : Mem} {res : Int × Mem} (h : f_X10_size v1 M = some res) (a0 : Nat) (i0 : Int) (ha : (a0 ≠ 64 ∨ i0 ≠ 3)) : res.2 a0 i0 = M a0 i0 := by
  have hG : M a0 i0 = M a0 i0 := rfl
  rw [f_X10_size] at h
  obtain ⟨hp_v1, h⟩ := chk_some h
  have hG1 : (mset M 64 3 0) a0 i0 = M a0 i0 := (mset_at (show a0 ≠ 64 ∨ i0 ≠ 3 from by omega)).trans hG
  by_cases hc2 : v1 = 0
  · replace h := ite_t hc2 h
    cases h
    exact hG1
  · replace h := ite_f hc2 h
    cases h
    exact hG1
theorem cg_X10_link {v1 : Int} {v2 : Int} {M : Mem} {res : Int × Mem} (h : f_X10_link v1 v2 M = some res) (a0 : Nat) (i0 : Int) (ha : (a0 ≠ 64 ∨ i0 ≠ 3)) : res.2 a0 i0 = M a0 i0 := by
  have hG : M a0 i0 = M a0 i0 := rfl
  rw [f_X10_link] at h
  obtain ⟨q1, h1, h⟩ := ob_some h
  have hG1 := hG
  obtain ⟨hc2, h⟩ := chk_some h
  rcases (Decidable.em (q1 = 0)).symm with hc3 | hc3
  · replace h := ite_f hc3 h
    obtain ⟨q4, h4, h⟩ := ob_some h
    have hG4 := hG1
    obtain ⟨hc5, h⟩ := chk_some h
    by_cases hc6 : q4 = 0
    · replace h := ite_t hc6 h
      obtain ⟨q7, h7, h⟩ := ob_some h
      have hG7 := (cg_X10_refused h7 a0 i0 (by omega)).trans hG4
      obtain ⟨hc8, h⟩ := chk_some h
      by_cases hc9 : q7.1 = 0
      · replace h := ite_t hc9 h
        obtain ⟨q10, h10, h⟩ := ob_some h
        have hG10 := hG7
        cases h
        exact hG10
      · replace h := ite_f hc9 h
        cases h
        exact hG7
    · replace h := ite_f hc6 h
      obtain ⟨q11, h11, h⟩ := ob_some h
      have hG11 := (cg_X10_refused h11 a0 i0 (by omega)).trans hG4
      obtain ⟨hc12, h⟩ := chk_some h
      by_cases hc13 : q11.1 = 0
      · replace h := ite_t hc13 h
        obtain ⟨q14, h14, h⟩ := ob_some h
        have hG14 := hG11
        cases h
        exact hG14
      · replace h := ite_f hc13 h
        cases h
        exact hG11
  · replace h := ite_t hc3 h
    obtain ⟨q15, h15, h⟩ := ob_some h
    have hG15 := (cg_X10_refused h15 a0 i0 (by omega)).trans hG1
    obtain ⟨hc16, h⟩ := chk_some h
    by_cases hc17 : q15.1 = 0
    · replace h := ite_t hc17 h
      obtain ⟨q18, h18, h⟩ := ob_some h
      have hG18 := hG15
      cases h
      exact hG18
    · replace h := ite_f hc17 h
      cases h
      exact hG15
theorem cg_X10_eases {v1 : Int} {v2 : Int} {v3 : Int} {M : Mem} {res : Int × Mem} (h : f_X10_eases v1 v2 v3 M = some res) (a0 : Nat) (i0 : Int) (ha : a0 ≠ 68) : res.2 a0 i0 = M a0 i0 := by
  have hG : M a0 i0 = M a0 i0 := rfl
  rw [f_X10_eases] at h
  obtain ⟨hc1, h⟩ := chk_some h
  obtain ⟨hc2, h⟩ := chk_some h
  obtain ⟨hc3, h⟩ := chk_some h
  by_cases hc4 : M 68 v2 ≤ (M 68 v1) + v3
  · replace h := ite_t hc4 h
    have hG6 : (mset M 68 v2 (M 68 v2)) a0 i0 = M a0 i0 := (mset_at (Or.inl (show a0 ≠ 68 from by omega))).trans hG
    cases h
    exact hG6
  · replace h := ite_f hc4 h
    have hG8 : (mset M 68 v2 ((M 68 v1) + v3)) a0 i0 = M a0 i0 := (mset_at (Or.inl (show a0 ≠ 68 from by omega))).trans hG
    cases h
    exact hG8
theorem cw_X10_laysFar_114 {res : Mem} {F : Nat} (a0 : Nat) (i0 : Int) (ha : a0 ≠ 68) {k60 : Int → Int → Int → Mem → Option (Mem)} (hk60 : ∀ (v1 : Int) (v2 : Int) (v3 : Int) (M : Mem), k60 v1 v2 v3 M = some res → res a0 i0 = M a0 i0) : ∀ (v2 : Int) (v3 : Int) (t0 : Int) (M : Mem), f_X10_laysFar_114 F k60 v2 v3 t0 M = some res → res a0 i0 = M a0 i0 := by
  intro v2 v3 t0 M h
  have hG : M a0 i0 = M a0 i0 := rfl
  rw [f_X10_laysFar_114] at h
  obtain ⟨hp_t0, h⟩ := chk_some h
  obtain ⟨q11, h11, h⟩ := ob_some h
  have hG11 := hG
  obtain ⟨q12, h12, h⟩ := ob_some h
  have hG12 := hG11
  obtain ⟨q13, h13, h⟩ := ob_some h
  have hG13 := hG12
  obtain ⟨q14, h14, h⟩ := ob_some h
  have hG14 := (cg_X10_eases h14 a0 i0 (by omega)).trans hG13
  obtain ⟨hc15, h⟩ := chk_some h
  rcases (Decidable.em (q14.1 = 0)).symm with hc16 | hc16
  · replace h := ite_f hc16 h
    exact (hk60 1 v2 (v3 + 1) q14.2 h).trans hG14
  · replace h := ite_t hc16 h
    by_cases hc17 : t0 = 0
    · replace h := ite_t hc17 h
      exact (hk60 0 v2 (v3 + 1) q14.2 h).trans hG14
    · replace h := ite_f hc17 h
      exact (hk60 1 v2 (v3 + 1) q14.2 h).trans hG14
theorem cw_X10_laysFar_60 {res : Mem} {F : Nat} (a0 : Nat) (i0 : Int) (ha : a0 ≠ 68) {k48 : Int → Int → Mem → Option (Mem)} (hk48 : ∀ (v1 : Int) (v2 : Int) (M : Mem), k48 v1 v2 M = some res → res a0 i0 = M a0 i0) : ∀ (fu : Nat) (v1 : Int) (v2 : Int) (v3 : Int) (M : Mem), f_X10_laysFar_60 F k48 fu v1 v2 v3 M = some res → res a0 i0 = M a0 i0 := by
  intro fu
  induction fu with
  | zero => intro v1 v2 v3 M h; exact nomatch (show (none : Option (Mem)) = some res from h)
  | succ fu ih =>
    intro v1 v2 v3 M h
    have hG : M a0 i0 = M a0 i0 := rfl
    rw [f_X10_laysFar_60] at h
    obtain ⟨⟨hp_v1, hp_v3⟩, h⟩ := chk_some h
    by_cases hc4 : M 65 0 ≤ v3
    · replace h := ite_t hc4 h
      exact (hk48 v1 (v2 + 1) M h).trans hG
    · replace h := ite_f hc4 h
      obtain ⟨q5, h5, h⟩ := ob_some h
      have hG5 := hG
      obtain ⟨q6, h6, h⟩ := ob_some h
      have hG6 := hG5
      obtain ⟨q7, h7, h⟩ := ob_some h
      have hG7 := hG6
      obtain ⟨q8, h8, h⟩ := ob_some h
      have hG8 := (cg_X10_eases h8 a0 i0 (by omega)).trans hG7
      obtain ⟨hc9, h⟩ := chk_some h
      rcases (Decidable.em (q8.1 = 0)).symm with hc10 | hc10
      · replace h := ite_f hc10 h
        exact (cw_X10_laysFar_114 a0 i0 ha ih v2 v3 1 q8.2 h).trans hG8
      · replace h := ite_t hc10 h
        by_cases hc18 : v1 = 0
        · replace h := ite_t hc18 h
          exact (cw_X10_laysFar_114 a0 i0 ha ih v2 v3 0 q8.2 h).trans hG8
        · replace h := ite_f hc18 h
          exact (cw_X10_laysFar_114 a0 i0 ha ih v2 v3 1 q8.2 h).trans hG8
theorem cw_X10_laysFar_48 {res : Mem} {F : Nat} (a0 : Nat) (i0 : Int) (ha : a0 ≠ 68) {k40 : Int → Mem → Option (Mem)} (hk40 : ∀ (v1 : Int) (M : Mem), k40 v1 M = some res → res a0 i0 = M a0 i0) : ∀ (fu : Nat) (v1 : Int) (v2 : Int) (M : Mem), f_X10_laysFar_48 F k40 fu v1 v2 M = some res → res a0 i0 = M a0 i0 := by
  intro fu
  induction fu with
  | zero => intro v1 v2 M h; exact nomatch (show (none : Option (Mem)) = some res from h)
  | succ fu ih =>
    intro v1 v2 M h
    have hG : M a0 i0 = M a0 i0 := rfl
    rw [f_X10_laysFar_48] at h
    obtain ⟨hp_v2, h⟩ := chk_some h
    by_cases hc3 : M 65 1 ≤ v2
    · replace h := ite_t hc3 h
      exact (hk40 v1 M h).trans hG
    · replace h := ite_f hc3 h
      exact (cw_X10_laysFar_60 a0 i0 ha ih F v1 v2 0 M h).trans hG
theorem cw_X10_laysFar_40 {res : Mem} {F : Nat} (a0 : Nat) (i0 : Int) (ha : a0 ≠ 68) : ∀ (fu : Nat) (v1 : Int) (M : Mem), f_X10_laysFar_40 F fu v1 M = some res → res a0 i0 = M a0 i0 := by
  intro fu
  induction fu with
  | zero => intro v1 M h; exact nomatch (show (none : Option (Mem)) = some res from h)
  | succ fu ih =>
    intro v1 M h
    have hG : M a0 i0 = M a0 i0 := rfl
    rw [f_X10_laysFar_40] at h
    obtain ⟨hp_v1, h⟩ := chk_some h
    by_cases hc2 : v1 = 0
    · replace h := ite_t hc2 h
      cases h
      exact hG
    · replace h := ite_f hc2 h
      exact (cw_X10_laysFar_48 a0 i0 ha ih F 0 0 M h).trans hG
theorem cw_X10_laysFar_2 {res : Mem} {F : Nat} (a0 : Nat) (i0 : Int) (ha : a0 ≠ 68) : ∀ (fu : Nat) (v1 : Int) (M : Mem), f_X10_laysFar_2 F fu v1 M = some res → res a0 i0 = M a0 i0 := by
  intro fu
  induction fu with
  | zero => intro v1 M h; exact nomatch (show (none : Option (Mem)) = some res from h)
  | succ fu ih =>
    intro v1 M h
    have hG : M a0 i0 = M a0 i0 := rfl
    rw [f_X10_laysFar_2] at h
    obtain ⟨hp_v1, h⟩ := chk_some h
    by_cases hc1 : 81 ≤ v1
    · replace h := ite_t hc1 h
      exact (cw_X10_laysFar_40 a0 i0 ha F 1 M h).trans hG
    · replace h := ite_f hc1 h
      obtain ⟨hc19, h⟩ := chk_some h
      obtain ⟨hc20, h⟩ := chk_some h
      obtain ⟨hc21, h⟩ := chk_some h
      rcases (Decidable.em (v1 / 9 = v1 % 9)).symm with hc22 | hc22
      · replace h := ite_f hc22 h
        obtain ⟨hc23, h⟩ := chk_some h
        have hG24 : (mset M 68 v1 1000) a0 i0 = M a0 i0 := (mset_at (Or.inl (show a0 ≠ 68 from by omega))).trans hG
        exact (ih (v1 + 1) (mset M 68 v1 1000) h).trans hG24
      · replace h := ite_t hc22 h
        obtain ⟨hc25, h⟩ := chk_some h
        have hG26 : (mset M 68 v1 0) a0 i0 = M a0 i0 := (mset_at (Or.inl (show a0 ≠ 68 from by omega))).trans hG
        exact (ih (v1 + 1) (mset M 68 v1 0) h).trans hG26
theorem cg_X10_laysFar {F : Nat} {M : Mem} {res : Mem} (h : f_X10_laysFar F M = some res) (a0 : Nat) (i0 : Int) (ha : a0 ≠ 68) : res a0 i0 = M a0 i0 := by
  have hG : M a0 i0 = M a0 i0 := rfl
  rw [f_X10_laysFar] at h
  exact (cw_X10_laysFar_2 a0 i0 ha F 0 M h).trans hG
theorem cg_X10_distance {F : Nat} {v1 : Int} {v2 : Int} {M : Mem} {res : Int × Mem} (h : f_X10_distance F v1 v2 M = some res) (a0 : Nat) (i0 : Int) (ha : (a0 ≠ 64 ∨ i0 ≠ 3) ∧ a0 ≠ 68) : res.2 a0 i0 = M a0 i0 := by
  have hG : M a0 i0 = M a0 i0 := rfl
  rw [f_X10_distance] at h
  obtain ⟨q1, h1, h⟩ := ob_some h
  have hG1 := hG
  obtain ⟨hc2, h⟩ := chk_some h
  by_cases hc3 : q1 = 0
  · replace h := ite_t hc3 h
    obtain ⟨q4, h4, h⟩ := ob_some h
    have hG4 := (cg_X10_refused h4 a0 i0 (by omega)).trans hG1
    obtain ⟨hc5, h⟩ := chk_some h
    by_cases hc6 : q4.1 = 0
    · replace h := ite_t hc6 h
      obtain ⟨q7, h7, h⟩ := ob_some h
      have hG7 := (cg_X10_laysFar h7 a0 i0 (by omega)).trans hG4
      obtain ⟨q8, h8, h⟩ := ob_some h
      have hG8 := hG7
      obtain ⟨hc9, h⟩ := chk_some h
      rcases (Decidable.em (q8 = 1000)).symm with hc10 | hc10
      · replace h := ite_f hc10 h
        obtain ⟨q11, h11, h⟩ := ob_some h
        have hG11 := hG8
        cases h
        exact hG11
      · replace h := ite_t hc10 h
        cases h
        exact hG8
    · replace h := ite_f hc6 h
      cases h
      exact hG4
  · replace h := ite_f hc3 h
    obtain ⟨q12, h12, h⟩ := ob_some h
    have hG12 := hG1
    obtain ⟨hc13, h⟩ := chk_some h
    by_cases hc14 : q12 = 0
    · replace h := ite_t hc14 h
      obtain ⟨q15, h15, h⟩ := ob_some h
      have hG15 := (cg_X10_refused h15 a0 i0 (by omega)).trans hG12
      obtain ⟨hc16, h⟩ := chk_some h
      by_cases hc17 : q15.1 = 0
      · replace h := ite_t hc17 h
        obtain ⟨q18, h18, h⟩ := ob_some h
        have hG18 := (cg_X10_laysFar h18 a0 i0 (by omega)).trans hG15
        obtain ⟨q19, h19, h⟩ := ob_some h
        have hG19 := hG18
        obtain ⟨hc20, h⟩ := chk_some h
        rcases (Decidable.em (q19 = 1000)).symm with hc21 | hc21
        · replace h := ite_f hc21 h
          obtain ⟨q22, h22, h⟩ := ob_some h
          have hG22 := hG19
          cases h
          exact hG22
        · replace h := ite_t hc21 h
          cases h
          exact hG19
      · replace h := ite_f hc17 h
        cases h
        exact hG15
    · replace h := ite_f hc14 h
      obtain ⟨q23, h23, h⟩ := ob_some h
      have hG23 := (cg_X10_refused h23 a0 i0 (by omega)).trans hG12
      obtain ⟨hc24, h⟩ := chk_some h
      by_cases hc25 : q23.1 = 0
      · replace h := ite_t hc25 h
        obtain ⟨q26, h26, h⟩ := ob_some h
        have hG26 := (cg_X10_laysFar h26 a0 i0 (by omega)).trans hG23
        obtain ⟨q27, h27, h⟩ := ob_some h
        have hG27 := hG26
        obtain ⟨hc28, h⟩ := chk_some h
        rcases (Decidable.em (q27 = 1000)).symm with hc29 | hc29
        · replace h := ite_f hc29 h
          obtain ⟨q30, h30, h⟩ := ob_some h
          have hG30 := hG27
          cases h
          exact hG30
        · replace h := ite_t hc29 h
          cases h
          exact hG27
      · replace h := ite_f hc25 h
        cases h
        exact hG23
theorem cg_X10_goodLinks {F : Nat} {v1 : Int} {v2 : Int} {M : Mem} {res : Int × Mem} (h : f_X10_goodLinks F v1 v2 M = some res) (a0 : Nat) (i0 : Int) (ha : (a0 ≠ 64 ∨ i0 ≠ 3) ∧ a0 ≠ 68) : res.2 a0 i0 = M a0 i0 := by
  have hG : M a0 i0 = M a0 i0 := rfl
  rw [f_X10_goodLinks] at h
  obtain ⟨q1, h1, h⟩ := ob_some h
  have hG1 := hG
  obtain ⟨hc2, h⟩ := chk_some h
  by_cases hc3 : q1 = 0
  · replace h := ite_t hc3 h
    obtain ⟨q4, h4, h⟩ := ob_some h
    have hG4 := (cg_X10_refused h4 a0 i0 (by omega)).trans hG1
    obtain ⟨hc5, h⟩ := chk_some h
    by_cases hc6 : q4.1 = 0
    · replace h := ite_t hc6 h
      obtain ⟨q7, h7, h⟩ := ob_some h
      have hG7 := (cg_X10_laysFar h7 a0 i0 (by omega)).trans hG4
      obtain ⟨q8, h8, h⟩ := ob_some h
      have hG8 := hG7
      cases h
      exact hG8
    · replace h := ite_f hc6 h
      cases h
      exact hG4
  · replace h := ite_f hc3 h
    obtain ⟨q9, h9, h⟩ := ob_some h
    have hG9 := hG1
    obtain ⟨hc10, h⟩ := chk_some h
    by_cases hc11 : q9 = 0
    · replace h := ite_t hc11 h
      obtain ⟨q12, h12, h⟩ := ob_some h
      have hG12 := (cg_X10_refused h12 a0 i0 (by omega)).trans hG9
      obtain ⟨hc13, h⟩ := chk_some h
      by_cases hc14 : q12.1 = 0
      · replace h := ite_t hc14 h
        obtain ⟨q15, h15, h⟩ := ob_some h
        have hG15 := (cg_X10_laysFar h15 a0 i0 (by omega)).trans hG12
        obtain ⟨q16, h16, h⟩ := ob_some h
        have hG16 := hG15
        cases h
        exact hG16
      · replace h := ite_f hc14 h
        cases h
        exact hG12
    · replace h := ite_f hc11 h
      obtain ⟨q17, h17, h⟩ := ob_some h
      have hG17 := (cg_X10_refused h17 a0 i0 (by omega)).trans hG9
      obtain ⟨hc18, h⟩ := chk_some h
      by_cases hc19 : q17.1 = 0
      · replace h := ite_t hc19 h
        obtain ⟨q20, h20, h⟩ := ob_some h
        have hG20 := (cg_X10_laysFar h20 a0 i0 (by omega)).trans hG17
        obtain ⟨q21, h21, h⟩ := ob_some h
        have hG21 := hG20
        cases h
        exact hG21
      · replace h := ite_f hc19 h
        cases h
        exact hG17
theorem cw_X10_kind_42 {res : Int × Mem} {F : Nat} (a0 : Nat) (i0 : Int) (ha : (a0 ≠ 64 ∨ i0 ≠ 3) ∧ a0 ≠ 68) : ∀ (fu : Nat) (v1 : Int) (v2 : Int) (v3 : Int) (M : Mem), f_X10_kind_42 F fu v1 v2 v3 M = some res → res.2 a0 i0 = M a0 i0 := by
  intro fu
  induction fu with
  | zero => intro v1 v2 v3 M h; exact nomatch (show (none : Option (Int × Mem)) = some res from h)
  | succ fu ih =>
    intro v1 v2 v3 M h
    have hG : M a0 i0 = M a0 i0 := rfl
    rw [f_X10_kind_42] at h
    obtain ⟨⟨hp_v1, hp_v2, hp_v3⟩, h⟩ := chk_some h
    by_cases hc5 : M 65 0 ≤ v3
    · replace h := ite_t hc5 h
      rcases (Decidable.em (v1 = 0)).symm with hc6 | hc6
      · replace h := ite_f hc6 h
        obtain ⟨hc7, h⟩ := chk_some h
        rcases (Decidable.em (M 65 1 = (M 65 0) - 1)).symm with hc8 | hc8
        · replace h := ite_f hc8 h
          by_cases hc9 : v2 = 0
          · replace h := ite_t hc9 h
            cases h
            exact hG
          · replace h := ite_f hc9 h
            cases h
            exact hG
        · replace h := ite_t hc8 h
          cases h
          exact hG
      · replace h := ite_t hc6 h
        cases h
        exact hG
    · replace h := ite_f hc5 h
      by_cases hc10 : v1 = 0
      · replace h := ite_t hc10 h
        by_cases hc11 : v2 = 0
        · replace h := ite_t hc11 h
          exact (ih 0 0 (v3 + 1) M h).trans hG
        · replace h := ite_f hc11 h
          obtain ⟨q12, h12, h⟩ := ob_some h
          have hG12 := hG
          obtain ⟨hc13, h⟩ := chk_some h
          rcases (Decidable.em (q12 = 2)).symm with hc14 | hc14
          · replace h := ite_f hc14 h
            exact (ih 0 0 (v3 + 1) M h).trans hG12
          · replace h := ite_t hc14 h
            exact (ih 0 1 (v3 + 1) M h).trans hG12
      · replace h := ite_f hc10 h
        obtain ⟨q15, h15, h⟩ := ob_some h
        have hG15 := hG
        obtain ⟨hc16, h⟩ := chk_some h
        by_cases hc17 : 1000 ≤ q15
        · replace h := ite_t hc17 h
          by_cases hc18 : v2 = 0
          · replace h := ite_t hc18 h
            exact (ih 0 0 (v3 + 1) M h).trans hG15
          · replace h := ite_f hc18 h
            obtain ⟨q19, h19, h⟩ := ob_some h
            have hG19 := hG15
            obtain ⟨hc20, h⟩ := chk_some h
            rcases (Decidable.em (q19 = 2)).symm with hc21 | hc21
            · replace h := ite_f hc21 h
              exact (ih 0 0 (v3 + 1) M h).trans hG19
            · replace h := ite_t hc21 h
              exact (ih 0 1 (v3 + 1) M h).trans hG19
        · replace h := ite_f hc17 h
          by_cases hc22 : v2 = 0
          · replace h := ite_t hc22 h
            exact (ih 1 0 (v3 + 1) M h).trans hG15
          · replace h := ite_f hc22 h
            obtain ⟨q23, h23, h⟩ := ob_some h
            have hG23 := hG15
            obtain ⟨hc24, h⟩ := chk_some h
            rcases (Decidable.em (q23 = 2)).symm with hc25 | hc25
            · replace h := ite_f hc25 h
              exact (ih 1 0 (v3 + 1) M h).trans hG23
            · replace h := ite_t hc25 h
              exact (ih 1 1 (v3 + 1) M h).trans hG23
theorem cg_X10_kind {F : Nat} {M : Mem} {res : Int × Mem} (h : f_X10_kind F M = some res) (a0 : Nat) (i0 : Int) (ha : (a0 ≠ 64 ∨ i0 ≠ 3) ∧ a0 ≠ 68) : res.2 a0 i0 = M a0 i0 := by
  have hG : M a0 i0 = M a0 i0 := rfl
  rw [f_X10_kind] at h
  have hG1 : (mset M 64 3 0) a0 i0 = M a0 i0 := (mset_at (show a0 ≠ 64 ∨ i0 ≠ 3 from by omega)).trans hG
  obtain ⟨q2, h2, h⟩ := ob_some h
  have hG2 := (cg_X10_laysFar h2 a0 i0 (by omega)).trans hG1
  by_cases hc3 : q2 65 0 ≤ 0
  · replace h := ite_t hc3 h
    by_cases hc4 : q2 65 0 ≤ 2
    · replace h := ite_t hc4 h
      exact (cw_X10_kind_42 a0 i0 ha F 0 0 0 q2 h).trans hG2
    · replace h := ite_f hc4 h
      exact (cw_X10_kind_42 a0 i0 ha F 0 1 0 q2 h).trans hG2
  · replace h := ite_f hc3 h
    by_cases hc26 : q2 65 0 ≤ 2
    · replace h := ite_t hc26 h
      exact (cw_X10_kind_42 a0 i0 ha F 1 0 0 q2 h).trans hG2
    · replace h := ite_f hc26 h
      exact (cw_X10_kind_42 a0 i0 ha F 1 1 0 q2 h).trans hG2
theorem cg_X10_label {v1 : Int} {M : Mem} {res : Int × Mem} (h : f_X10_label v1 M = some res) (a0 : Nat) (i0 : Int) (ha : (a0 ≠ 64 ∨ i0 ≠ 3)) : res.2 a0 i0 = M a0 i0 := by
  have hG : M a0 i0 = M a0 i0 := rfl
  rw [f_X10_label] at h
  obtain ⟨q1, h1, h⟩ := ob_some h
  have hG1 := hG
  obtain ⟨hc2, h⟩ := chk_some h
  by_cases hc3 : q1 = 0
  · replace h := ite_t hc3 h
    obtain ⟨q4, h4, h⟩ := ob_some h
    have hG4 := (cg_X10_refused h4 a0 i0 (by omega)).trans hG1
    obtain ⟨hc5, h⟩ := chk_some h
    by_cases hc6 : q4.1 = 0
    · replace h := ite_t hc6 h
      obtain ⟨hc7, h⟩ := chk_some h
      cases h
      exact hG4
    · replace h := ite_f hc6 h
      cases h
      exact hG4
  · replace h := ite_f hc3 h
    obtain ⟨q8, h8, h⟩ := ob_some h
    have hG8 := (cg_X10_refused h8 a0 i0 (by omega)).trans hG1
    obtain ⟨hc9, h⟩ := chk_some h
    by_cases hc10 : q8.1 = 0
    · replace h := ite_t hc10 h
      obtain ⟨hc11, h⟩ := chk_some h
      cases h
      exact hG8
    · replace h := ite_f hc10 h
      cases h
      exact hG8
theorem cg_X10_nodeWith {F : Nat} {v1 : Int} {M : Mem} {res : Int × Mem} (h : f_X10_nodeWith F v1 M = some res) (a0 : Nat) (i0 : Int) (ha : (a0 ≠ 64 ∨ i0 ≠ 3)) : res.2 a0 i0 = M a0 i0 := by
  have hG : M a0 i0 = M a0 i0 := rfl
  rw [f_X10_nodeWith] at h
  obtain ⟨q1, h1, h⟩ := ob_some h
  have hG1 := hG
  obtain ⟨hc2, h⟩ := chk_some h
  by_cases hc3 : q1 = 0
  · replace h := ite_t hc3 h
    obtain ⟨q4, h4, h⟩ := ob_some h
    have hG4 := (cg_X10_refused h4 a0 i0 (by omega)).trans hG1
    obtain ⟨hc5, h⟩ := chk_some h
    by_cases hc6 : q4.1 = 0
    · replace h := ite_t hc6 h
      obtain ⟨q7, h7, h⟩ := ob_some h
      have hG7 := hG4
      cases h
      exact hG7
    · replace h := ite_f hc6 h
      cases h
      exact hG4
  · replace h := ite_f hc3 h
    obtain ⟨q8, h8, h⟩ := ob_some h
    have hG8 := (cg_X10_refused h8 a0 i0 (by omega)).trans hG1
    obtain ⟨hc9, h⟩ := chk_some h
    by_cases hc10 : q8.1 = 0
    · replace h := ite_t hc10 h
      obtain ⟨q11, h11, h⟩ := ob_some h
      have hG11 := hG8
      cases h
      exact hG11
    · replace h := ite_f hc10 h
      cases h
      exact hG8
theorem cw_X10_visits_158 {res : Mem} {F : Nat} (a0 : Nat) (i0 : Int) (ha : a0 ≠ 65 ∧ a0 ≠ 69) : ∀ (fu : Nat) (v2 : Int) (v3 : Int) (v5 : Int) (M : Mem), f_X10_visits_158 F fu v2 v3 v5 M = some res → res a0 i0 = M a0 i0 := by
  intro fu
  induction fu with
  | zero => intro v2 v3 v5 M h; exact nomatch (show (none : Option (Mem)) = some res from h)
  | succ fu ih =>
    intro v2 v3 v5 M h
    have hG : M a0 i0 = M a0 i0 := rfl
    rw [f_X10_visits_158] at h
    obtain ⟨⟨hp_v3, hp_v5⟩, h⟩ := chk_some h
    by_cases hc5 : M 65 0 ≤ v5
    · replace h := ite_t hc5 h
      cases h
      exact hG
    · replace h := ite_f hc5 h
      obtain ⟨q6, h6, h⟩ := ob_some h
      have hG6 := hG
      obtain ⟨hc7, h⟩ := chk_some h
      rcases (Decidable.em (q6 = 0)).symm with hc8 | hc8
      · replace h := ite_f hc8 h
        exact (ih v2 v3 (v5 + 1) M h).trans hG6
      · replace h := ite_t hc8 h
        obtain ⟨hc9, h⟩ := chk_some h
        have hG10 : (mset M 65 (50 + v5) v3) a0 i0 = M a0 i0 := (mset_at (Or.inl (show a0 ≠ 65 from by omega))).trans hG6
        exact (ih v2 (v3 + 1) (v5 + 1) (mset M 65 (50 + v5) v3) h).trans hG10
theorem cw_X10_visits_55 {res : Mem} {F : Nat} (a0 : Nat) (i0 : Int) (ha : a0 ≠ 65 ∧ a0 ≠ 69) {k26 : Int → Int → Int → Mem → Option (Mem)} (hk26 : ∀ (v2 : Int) (v3 : Int) (v4 : Int) (M : Mem), k26 v2 v3 v4 M = some res → res a0 i0 = M a0 i0) : ∀ (fu : Nat) (v2 : Int) (v3 : Int) (v4 : Int) (v5 : Int) (v6 : Int) (v7 : Int) (M : Mem), f_X10_visits_55 F k26 fu v2 v3 v4 v5 v6 v7 M = some res → res a0 i0 = M a0 i0 := by
  intro fu
  induction fu with
  | zero => intro v2 v3 v4 v5 v6 v7 M h; exact nomatch (show (none : Option (Mem)) = some res from h)
  | succ fu ih =>
    intro v2 v3 v4 v5 v6 v7 M h
    have hG : M a0 i0 = M a0 i0 := rfl
    rw [f_X10_visits_55] at h
    obtain ⟨⟨hp_v3, hp_v6, hp_v7⟩, h⟩ := chk_some h
    by_cases hc12 : v7 < 0
    · replace h := ite_t hc12 h
      rcases (Decidable.em (v6 = (-1))).symm with hc13 | hc13
      · replace h := ite_f hc13 h
        obtain ⟨hc14, h⟩ := chk_some h
        have hG15 : (mset M 65 (50 + v6) v3) a0 i0 = M a0 i0 := (mset_at (Or.inl (show a0 ≠ 65 from by omega))).trans hG
        obtain ⟨hc16, h⟩ := chk_some h
        have hG17 : (mset (mset M 65 (50 + v6) v3) 69 v4 v6) a0 i0 = M a0 i0 := (mset_at (Or.inl (show a0 ≠ 69 from by omega))).trans hG15
        exact (hk26 (bor v2 (bshl 1 v6)) (v3 + 1) (v4 + 1) (mset (mset M 65 (50 + v6) v3) 69 v4 v6) h).trans hG17
      · replace h := ite_t hc13 h
        exact (hk26 v2 v3 (v4 + (-1)) M h).trans hG
    · replace h := ite_f hc12 h
      obtain ⟨q18, h18, h⟩ := ob_some h
      have hG18 := hG
      obtain ⟨hc19, h⟩ := chk_some h
      by_cases hc20 : q18 = 0
      · replace h := ite_t hc20 h
        exact (ih v2 v3 v4 v5 v6 (v7 + (-1)) M h).trans hG18
      · replace h := ite_f hc20 h
        obtain ⟨q21, h21, h⟩ := ob_some h
        have hG21 := hG18
        obtain ⟨q22, h22, h⟩ := ob_some h
        have hG22 := hG21
        obtain ⟨hc23, h⟩ := chk_some h
        rcases (Decidable.em (q22 = 0)).symm with hc24 | hc24
        · replace h := ite_f hc24 h
          exact (ih v2 v3 v4 v5 v6 (v7 + (-1)) M h).trans hG22
        · replace h := ite_t hc24 h
          obtain ⟨q25, h25, h⟩ := ob_some h
          have hG25 := hG22
          exact (ih v2 v3 v4 v5 q25 (v7 + (-1)) M h).trans hG25
theorem cw_X10_visits_26 {res : Mem} {F : Nat} (a0 : Nat) (i0 : Int) (ha : a0 ≠ 65 ∧ a0 ≠ 69) : ∀ (fu : Nat) (v2 : Int) (v3 : Int) (v4 : Int) (M : Mem), f_X10_visits_26 F fu v2 v3 v4 M = some res → res a0 i0 = M a0 i0 := by
  intro fu
  induction fu with
  | zero => intro v2 v3 v4 M h; exact nomatch (show (none : Option (Mem)) = some res from h)
  | succ fu ih =>
    intro v2 v3 v4 M h
    have hG : M a0 i0 = M a0 i0 := rfl
    rw [f_X10_visits_26] at h
    obtain ⟨hp_v4, h⟩ := chk_some h
    by_cases hc4 : v4 ≤ 0
    · replace h := ite_t hc4 h
      exact (cw_X10_visits_158 a0 i0 ha F v2 v3 0 M h).trans hG
    · replace h := ite_f hc4 h
      obtain ⟨hc11, h⟩ := chk_some h
      exact (cw_X10_visits_55 a0 i0 ha ih F v2 v3 v4 (M 69 (v4 - 1)) (-1) ((M 65 1) - 1) M h).trans hG
theorem cg_X10_visits {F : Nat} {v1 : Int} {M : Mem} {res : Mem} (h : f_X10_visits F v1 M = some res) (a0 : Nat) (i0 : Int) (ha : a0 ≠ 65 ∧ a0 ≠ 69) : res a0 i0 = M a0 i0 := by
  have hG : M a0 i0 = M a0 i0 := rfl
  rw [f_X10_visits] at h
  obtain ⟨hp_v1, h⟩ := chk_some h
  have hG1 : (mset M 69 0 v1) a0 i0 = M a0 i0 := (mset_at (Or.inl (show a0 ≠ 69 from by omega))).trans hG
  obtain ⟨hc2, h⟩ := chk_some h
  have hG3 : (mset (mset M 69 0 v1) 65 (50 + v1) 0) a0 i0 = M a0 i0 := (mset_at (Or.inl (show a0 ≠ 65 from by omega))).trans hG1
  exact (cw_X10_visits_26 a0 i0 ha F (bshl 1 v1) 1 1 (mset (mset M 69 0 v1) 65 (50 + v1) 0) h).trans hG3
theorem cw_X10_ranks_21 {res : Mem} {F : Nat} (a0 : Nat) (i0 : Int) (ha : a0 ≠ 65 ∧ a0 ≠ 68) {k6 : Int → Int → Mem → Option (Mem)} (hk6 : ∀ (v1 : Int) (v2 : Int) (M : Mem), k6 v1 v2 M = some res → res a0 i0 = M a0 i0) : ∀ (fu : Nat) (v1 : Int) (v2 : Int) (v3 : Int) (v4 : Int) (M : Mem), f_X10_ranks_21 F k6 fu v1 v2 v3 v4 M = some res → res a0 i0 = M a0 i0 := by
  intro fu
  induction fu with
  | zero => intro v1 v2 v3 v4 M h; exact nomatch (show (none : Option (Mem)) = some res from h)
  | succ fu ih =>
    intro v1 v2 v3 v4 M h
    have hG : M a0 i0 = M a0 i0 := rfl
    rw [f_X10_ranks_21] at h
    obtain ⟨⟨hp_v2, hp_v3, hp_v4⟩, h⟩ := chk_some h
    by_cases hc3 : M 65 0 ≤ v4
    · replace h := ite_t hc3 h
      obtain ⟨hc4, h⟩ := chk_some h
      have hG5 : (mset M 65 (50 + v2) v3) a0 i0 = M a0 i0 := (mset_at (Or.inl (show a0 ≠ 65 from by omega))).trans hG
      exact (hk6 v1 (v2 + 1) (mset M 65 (50 + v2) v3) h).trans hG5
    · replace h := ite_f hc3 h
      obtain ⟨q6, h6, h⟩ := ob_some h
      have hG6 := hG
      obtain ⟨q7, h7, h⟩ := ob_some h
      have hG7 := hG6
      obtain ⟨hc8, h⟩ := chk_some h
      obtain ⟨hc9, h⟩ := chk_some h
      by_cases hc10 : q6 < q7
      · replace h := ite_t hc10 h
        exact (ih v1 v2 (v3 + 1) (v4 + 1) M h).trans hG7
      · replace h := ite_f hc10 h
        obtain ⟨q11, h11, h⟩ := ob_some h
        have hG11 := hG7
        obtain ⟨q12, h12, h⟩ := ob_some h
        have hG12 := hG11
        obtain ⟨hc13, h⟩ := chk_some h
        obtain ⟨hc14, h⟩ := chk_some h
        rcases (Decidable.em (q11 = q12)).symm with hc15 | hc15
        · replace h := ite_f hc15 h
          exact (ih v1 v2 (v3 + 0) (v4 + 1) M h).trans hG12
        · replace h := ite_t hc15 h
          by_cases hc16 : v2 ≤ v4
          · replace h := ite_t hc16 h
            exact (ih v1 v2 (v3 + 0) (v4 + 1) M h).trans hG12
          · replace h := ite_f hc16 h
            exact (ih v1 v2 (v3 + 1) (v4 + 1) M h).trans hG12
theorem cw_X10_ranks_6 {res : Mem} {F : Nat} (a0 : Nat) (i0 : Int) (ha : a0 ≠ 65 ∧ a0 ≠ 68) : ∀ (fu : Nat) (v1 : Int) (v2 : Int) (M : Mem), f_X10_ranks_6 F fu v1 v2 M = some res → res a0 i0 = M a0 i0 := by
  intro fu
  induction fu with
  | zero => intro v1 v2 M h; exact nomatch (show (none : Option (Mem)) = some res from h)
  | succ fu ih =>
    intro v1 v2 M h
    have hG : M a0 i0 = M a0 i0 := rfl
    rw [f_X10_ranks_6] at h
    obtain ⟨hp_v2, h⟩ := chk_some h
    by_cases hc2 : M 65 0 ≤ v2
    · replace h := ite_t hc2 h
      cases h
      exact hG
    · replace h := ite_f hc2 h
      exact (cw_X10_ranks_21 a0 i0 ha ih F v1 v2 0 0 M h).trans hG
theorem cg_X10_ranks {F : Nat} {v1 : Int} {M : Mem} {res : Mem} (h : f_X10_ranks F v1 M = some res) (a0 : Nat) (i0 : Int) (ha : a0 ≠ 65 ∧ a0 ≠ 68) : res a0 i0 = M a0 i0 := by
  have hG : M a0 i0 = M a0 i0 := rfl
  rw [f_X10_ranks] at h
  obtain ⟨q1, h1, h⟩ := ob_some h
  have hG1 := (cg_X10_laysFar h1 a0 i0 (by omega)).trans hG
  exact (cw_X10_ranks_6 a0 i0 ha F v1 0 q1 h).trans hG1
theorem cw_X10_laysRing_7 {res : Mem} {F : Nat} (a0 : Nat) (i0 : Int) (ha : (a0 ≠ 64 ∨ i0 ≠ 10) ∧ a0 ≠ 70 ∧ a0 ≠ 71) : ∀ (fu : Nat) (v1 : Int) (v2 : Int) (M : Mem), f_X10_laysRing_7 F fu v1 v2 M = some res → res a0 i0 = M a0 i0 := by
  intro fu
  induction fu with
  | zero => intro v1 v2 M h; exact nomatch (show (none : Option (Mem)) = some res from h)
  | succ fu ih =>
    intro v1 v2 M h
    have hG : M a0 i0 = M a0 i0 := rfl
    rw [f_X10_laysRing_7] at h
    obtain ⟨hp_v2, h⟩ := chk_some h
    by_cases hc2 : M 65 0 ≤ v2
    · replace h := ite_t hc2 h
      cases h
      exact hG
    · replace h := ite_f hc2 h
      obtain ⟨hc3, h⟩ := chk_some h
      by_cases hc4 : v2 = M 65 (50 + v1)
      · replace h := ite_t hc4 h
        exact (ih v1 (v2 + 1) M h).trans hG
      · replace h := ite_f hc4 h
        obtain ⟨hc5, h⟩ := chk_some h
        have hG6 : (mset M 71 (M 64 10) v2) a0 i0 = M a0 i0 := (mset_at (Or.inl (show a0 ≠ 71 from by omega))).trans hG
        obtain ⟨q7, h7, h⟩ := ob_some h
        have hG7 := hG6
        obtain ⟨hc8, h⟩ := chk_some h
        obtain ⟨hc9, h⟩ := chk_some h
        have hG10 : (mset (mset M 71 (M 64 10) v2) 70 ((mset M 71 (M 64 10) v2) 64 10) q7) a0 i0 = M a0 i0 := (mset_at (Or.inl (show a0 ≠ 70 from by omega))).trans hG7
        obtain ⟨hc11, h⟩ := chk_some h
        have hG12 : (mset (mset (mset M 71 (M 64 10) v2) 70 ((mset M 71 (M 64 10) v2) 64 10) q7) 64 10 (((mset (mset M 71 (M 64 10) v2) 70 ((mset M 71 (M 64 10) v2) 64 10) q7) 64 10) + 1)) a0 i0 = M a0 i0 := (mset_at (show a0 ≠ 64 ∨ i0 ≠ 10 from by omega)).trans hG10
        exact (ih v1 (v2 + 1) (mset (mset (mset M 71 (M 64 10) v2) 70 ((mset M 71 (M 64 10) v2) 64 10) q7) 64 10 (((mset (mset M 71 (M 64 10) v2) 70 ((mset M 71 (M 64 10) v2) 64 10) q7) 64 10) + 1)) h).trans hG12
theorem cg_X10_laysRing {F : Nat} {v1 : Int} {M : Mem} {res : Mem} (h : f_X10_laysRing F v1 M = some res) (a0 : Nat) (i0 : Int) (ha : (a0 ≠ 64 ∨ i0 ≠ 10) ∧ a0 ≠ 70 ∧ a0 ≠ 71) : res a0 i0 = M a0 i0 := by
  have hG : M a0 i0 = M a0 i0 := rfl
  rw [f_X10_laysRing] at h
  have hG1 : (mset M 64 10 0) a0 i0 = M a0 i0 := (mset_at (show a0 ≠ 64 ∨ i0 ≠ 10 from by omega)).trans hG
  exact (cw_X10_laysRing_7 a0 i0 ha F v1 0 (mset M 64 10 0) h).trans hG1
theorem cw_X10_laysRest_60 {res : Mem} {F : Nat} (a0 : Nat) (i0 : Int) (ha : a0 ≠ 73) {k46 : Int → Int → Mem → Option (Mem)} (hk46 : ∀ (v2 : Int) (v3 : Int) (M : Mem), k46 v2 v3 M = some res → res a0 i0 = M a0 i0) : ∀ (fu : Nat) (v2 : Int) (v3 : Int) (v4 : Int) (v5 : Int) (M : Mem), f_X10_laysRest_60 F k46 fu v2 v3 v4 v5 M = some res → res a0 i0 = M a0 i0 := by
  intro fu
  induction fu with
  | zero => intro v2 v3 v4 v5 M h; exact nomatch (show (none : Option (Mem)) = some res from h)
  | succ fu ih =>
    intro v2 v3 v4 v5 M h
    have hG : M a0 i0 = M a0 i0 := rfl
    rw [f_X10_laysRest_60] at h
    obtain ⟨⟨hp_v4, hp_v5⟩, h⟩ := chk_some h
    by_cases hc4 : 16 < v5
    · replace h := ite_t hc4 h
      obtain ⟨hc5, h⟩ := chk_some h
      have hG6 : (mset M 73 ((17 * v2) + v3) v4) a0 i0 = M a0 i0 := (mset_at (Or.inl (show a0 ≠ 73 from by omega))).trans hG
      exact (hk46 v2 (v3 + 1) (mset M 73 ((17 * v2) + v3) v4) h).trans hG6
    · replace h := ite_f hc4 h
      obtain ⟨hc7, h⟩ := chk_some h
      obtain ⟨q8, h8, h⟩ := ob_some h
      have hG8 := hG
      obtain ⟨hc9, h⟩ := chk_some h
      by_cases hc10 : q8 = 0
      · replace h := ite_t hc10 h
        by_cases hc11 : v4 ≤ 1000
        · replace h := ite_t hc11 h
          exact (ih v2 v3 v4 (v5 + 1) M h).trans hG8
        · replace h := ite_f hc11 h
          exact (ih v2 v3 1000 (v5 + 1) M h).trans hG8
      · replace h := ite_f hc10 h
        obtain ⟨q12, h12, h⟩ := ob_some h
        have hG12 := hG8
        obtain ⟨hc13, h⟩ := chk_some h
        obtain ⟨hc14, h⟩ := chk_some h
        by_cases hc15 : v4 ≤ q12 + (M 73 ((17 * (v2 + 1)) + v5))
        · replace h := ite_t hc15 h
          exact (ih v2 v3 v4 (v5 + 1) M h).trans hG12
        · replace h := ite_f hc15 h
          exact (ih v2 v3 (q12 + (M 73 ((17 * (v2 + 1)) + v5))) (v5 + 1) M h).trans hG12
theorem cw_X10_laysRest_46 {res : Mem} {F : Nat} (a0 : Nat) (i0 : Int) (ha : a0 ≠ 73) {k40 : Int → Mem → Option (Mem)} (hk40 : ∀ (v2 : Int) (M : Mem), k40 v2 M = some res → res a0 i0 = M a0 i0) : ∀ (fu : Nat) (v2 : Int) (v3 : Int) (M : Mem), f_X10_laysRest_46 F k40 fu v2 v3 M = some res → res a0 i0 = M a0 i0 := by
  intro fu
  induction fu with
  | zero => intro v2 v3 M h; exact nomatch (show (none : Option (Mem)) = some res from h)
  | succ fu ih =>
    intro v2 v3 M h
    have hG : M a0 i0 = M a0 i0 := rfl
    rw [f_X10_laysRest_46] at h
    obtain ⟨hp_v3, h⟩ := chk_some h
    by_cases hc3 : 16 < v3
    · replace h := ite_t hc3 h
      exact (hk40 (v2 + (-1)) M h).trans hG
    · replace h := ite_f hc3 h
      exact (cw_X10_laysRest_60 a0 i0 ha ih F v2 v3 1000 0 M h).trans hG
theorem cw_X10_laysRest_40 {res : Mem} {F : Nat} (a0 : Nat) (i0 : Int) (ha : a0 ≠ 73) : ∀ (fu : Nat) (v2 : Int) (M : Mem), f_X10_laysRest_40 F fu v2 M = some res → res a0 i0 = M a0 i0 := by
  intro fu
  induction fu with
  | zero => intro v2 M h; exact nomatch (show (none : Option (Mem)) = some res from h)
  | succ fu ih =>
    intro v2 M h
    have hG : M a0 i0 = M a0 i0 := rfl
    rw [f_X10_laysRest_40] at h
    obtain ⟨hp_v2, h⟩ := chk_some h
    by_cases hc2 : v2 ≤ 0
    · replace h := ite_t hc2 h
      cases h
      exact hG
    · replace h := ite_f hc2 h
      exact (cw_X10_laysRest_46 a0 i0 ha ih F v2 0 M h).trans hG
theorem cw_X10_laysRest_2 {res : Mem} {F : Nat} (a0 : Nat) (i0 : Int) (ha : a0 ≠ 73) : ∀ (fu : Nat) (v1 : Int) (v2 : Int) (M : Mem), f_X10_laysRest_2 F fu v1 v2 M = some res → res a0 i0 = M a0 i0 := by
  intro fu
  induction fu with
  | zero => intro v1 v2 M h; exact nomatch (show (none : Option (Mem)) = some res from h)
  | succ fu ih =>
    intro v1 v2 M h
    have hG : M a0 i0 = M a0 i0 := rfl
    rw [f_X10_laysRest_2] at h
    obtain ⟨hp_v2, h⟩ := chk_some h
    by_cases hc1 : 16 < v2
    · replace h := ite_t hc1 h
      exact (cw_X10_laysRest_40 a0 i0 ha F ((M 64 10) - 1) M h).trans hG
    · replace h := ite_f hc1 h
      obtain ⟨q16, h16, h⟩ := ob_some h
      have hG16 := hG
      obtain ⟨hc17, h⟩ := chk_some h
      obtain ⟨hc18, h⟩ := chk_some h
      have hG19 : (mset M 73 ((17 * (M 64 10)) + v2) q16) a0 i0 = M a0 i0 := (mset_at (Or.inl (show a0 ≠ 73 from by omega))).trans hG16
      exact (ih v1 (v2 + 1) (mset M 73 ((17 * (M 64 10)) + v2) q16) h).trans hG19
theorem cg_X10_laysRest {F : Nat} {v1 : Int} {M : Mem} {res : Mem} (h : f_X10_laysRest F v1 M = some res) (a0 : Nat) (i0 : Int) (ha : a0 ≠ 73) : res a0 i0 = M a0 i0 := by
  have hG : M a0 i0 = M a0 i0 := rfl
  rw [f_X10_laysRest] at h
  exact (cw_X10_laysRest_2 a0 i0 ha F v1 0 M h).trans hG
theorem cw_X10_laysBest_278 {res : Mem} {F : Nat} (a0 : Nat) (i0 : Int) (ha : (a0 ≠ 64 ∨ i0 ≠ 10) ∧ a0 ≠ 70 ∧ a0 ≠ 71 ∧ a0 ≠ 72 ∧ a0 ≠ 73) : ∀ (fu : Nat) (v4 : Int) (M : Mem), f_X10_laysBest_278 F fu v4 M = some res → res a0 i0 = M a0 i0 := by
  intro fu
  induction fu with
  | zero => intro v4 M h; exact nomatch (show (none : Option (Mem)) = some res from h)
  | succ fu ih =>
    intro v4 M h
    have hG : M a0 i0 = M a0 i0 := rfl
    rw [f_X10_laysBest_278] at h
    obtain ⟨hp_v4, h⟩ := chk_some h
    by_cases hc6 : M 64 10 ≤ v4
    · replace h := ite_t hc6 h
      cases h
      exact hG
    · replace h := ite_f hc6 h
      obtain ⟨hc7, h⟩ := chk_some h
      rcases (Decidable.em (M 70 v4 = 16)).symm with hc8 | hc8
      · replace h := ite_f hc8 h
        have hG9 : (mset M 70 v4 (M 70 v4)) a0 i0 = M a0 i0 := (mset_at (Or.inl (show a0 ≠ 70 from by omega))).trans hG
        exact (ih (v4 + 1) (mset M 70 v4 (M 70 v4)) h).trans hG9
      · replace h := ite_t hc8 h
        have hG10 : (mset M 70 v4 (-1)) a0 i0 = M a0 i0 := (mset_at (Or.inl (show a0 ≠ 70 from by omega))).trans hG
        exact (ih (v4 + 1) (mset M 70 v4 (-1)) h).trans hG10
theorem cw_X10_laysBest_186 {res : Mem} {F : Nat} (a0 : Nat) (i0 : Int) (ha : (a0 ≠ 64 ∨ i0 ≠ 10) ∧ a0 ≠ 70 ∧ a0 ≠ 71 ∧ a0 ≠ 72 ∧ a0 ≠ 73) {k174 : Int → Mem → Option (Mem)} (hk174 : ∀ (v4 : Int) (M : Mem), k174 v4 M = some res → res a0 i0 = M a0 i0) : ∀ (fu : Nat) (v4 : Int) (v5 : Int) (M : Mem), f_X10_laysBest_186 F k174 fu v4 v5 M = some res → res a0 i0 = M a0 i0 := by
  intro fu
  induction fu with
  | zero => intro v4 v5 M h; exact nomatch (show (none : Option (Mem)) = some res from h)
  | succ fu ih =>
    intro v4 v5 M h
    have hG : M a0 i0 = M a0 i0 := rfl
    rw [f_X10_laysBest_186] at h
    obtain ⟨hp_v5, h⟩ := chk_some h
    obtain ⟨hc11, h⟩ := chk_some h
    obtain ⟨q12, h12, h⟩ := ob_some h
    have hG12 := hG
    obtain ⟨hc13, h⟩ := chk_some h
    by_cases hc14 : q12 = 0
    · replace h := ite_t hc14 h
      exact (ih v4 (v5 + 1) M h).trans hG12
    · replace h := ite_f hc14 h
      obtain ⟨hc15, h⟩ := chk_some h
      obtain ⟨q16, h16, h⟩ := ob_some h
      have hG16 := hG12
      obtain ⟨hc17, h⟩ := chk_some h
      obtain ⟨hc18, h⟩ := chk_some h
      obtain ⟨hc19, h⟩ := chk_some h
      by_cases hc20 : q16 + (M 73 ((17 * (v4 + 1)) + v5)) = M 73 ((17 * v4) + (M 70 (v4 - 1)))
      · replace h := ite_t hc20 h
        have hG21 : (mset M 70 v4 v5) a0 i0 = M a0 i0 := (mset_at (Or.inl (show a0 ≠ 70 from by omega))).trans hG16
        exact (hk174 (v4 + 1) (mset M 70 v4 v5) h).trans hG21
      · replace h := ite_f hc20 h
        exact (ih v4 (v5 + 1) M h).trans hG16
theorem cw_X10_laysBest_174 {res : Mem} {F : Nat} (a0 : Nat) (i0 : Int) (ha : (a0 ≠ 64 ∨ i0 ≠ 10) ∧ a0 ≠ 70 ∧ a0 ≠ 71 ∧ a0 ≠ 72 ∧ a0 ≠ 73) : ∀ (fu : Nat) (v4 : Int) (M : Mem), f_X10_laysBest_174 F fu v4 M = some res → res a0 i0 = M a0 i0 := by
  intro fu
  induction fu with
  | zero => intro v4 M h; exact nomatch (show (none : Option (Mem)) = some res from h)
  | succ fu ih =>
    intro v4 M h
    have hG : M a0 i0 = M a0 i0 := rfl
    rw [f_X10_laysBest_174] at h
    obtain ⟨hp_v4, h⟩ := chk_some h
    by_cases hc5 : M 64 10 ≤ v4
    · replace h := ite_t hc5 h
      exact (cw_X10_laysBest_278 a0 i0 ha F 0 M h).trans hG
    · replace h := ite_f hc5 h
      exact (cw_X10_laysBest_186 a0 i0 ha ih F v4 0 M h).trans hG
theorem cw_X10_laysBest_62 {res : Mem} {F : Nat} (a0 : Nat) (i0 : Int) (ha : (a0 ≠ 64 ∨ i0 ≠ 10) ∧ a0 ≠ 70 ∧ a0 ≠ 71 ∧ a0 ≠ 72 ∧ a0 ≠ 73) : ∀ (fu : Nat) (v2 : Int) (v3 : Int) (v4 : Int) (M : Mem), f_X10_laysBest_62 F fu v2 v3 v4 M = some res → res a0 i0 = M a0 i0 := by
  intro fu
  induction fu with
  | zero => intro v2 v3 v4 M h; exact nomatch (show (none : Option (Mem)) = some res from h)
  | succ fu ih =>
    intro v2 v3 v4 M h
    have hG : M a0 i0 = M a0 i0 := rfl
    rw [f_X10_laysBest_62] at h
    obtain ⟨⟨hp_v2, hp_v3, hp_v4⟩, h⟩ := chk_some h
    by_cases hc3 : 16 < v4
    · replace h := ite_t hc3 h
      by_cases hc4 : M 64 10 ≤ 0
      · replace h := ite_t hc4 h
        exact (cw_X10_laysBest_174 a0 i0 ha F 1 M h).trans hG
      · replace h := ite_f hc4 h
        obtain ⟨q22, h22, h⟩ := ob_some h
        have hG22 := (cg_X10_laysRest h22 a0 i0 (by omega)).trans hG
        have hG23 : (mset q22 70 0 v2) a0 i0 = M a0 i0 := (mset_at (Or.inl (show a0 ≠ 70 from by omega))).trans hG22
        exact (cw_X10_laysBest_174 a0 i0 ha F 1 (mset q22 70 0 v2) h).trans hG23
    · replace h := ite_f hc3 h
      by_cases hc24 : M 64 10 ≤ 0
      · replace h := ite_t hc24 h
        by_cases hc25 : M 64 10 ≤ 0
        · replace h := ite_t hc25 h
          exact (cw_X10_laysBest_174 a0 i0 ha F 1 M h).trans hG
        · replace h := ite_f hc25 h
          obtain ⟨q26, h26, h⟩ := ob_some h
          have hG26 := (cg_X10_laysRest h26 a0 i0 (by omega)).trans hG
          have hG27 : (mset q26 70 0 v2) a0 i0 = M a0 i0 := (mset_at (Or.inl (show a0 ≠ 70 from by omega))).trans hG26
          exact (cw_X10_laysBest_174 a0 i0 ha F 1 (mset q26 70 0 v2) h).trans hG27
      · replace h := ite_f hc24 h
        obtain ⟨q28, h28, h⟩ := ob_some h
        have hG28 := hG
        obtain ⟨hc29, h⟩ := chk_some h
        by_cases hc30 : q28 = 0
        · replace h := ite_t hc30 h
          exact (ih v2 v3 (v4 + 1) M h).trans hG28
        · replace h := ite_f hc30 h
          obtain ⟨q31, h31, h⟩ := ob_some h
          have hG31 := (cg_X10_laysRest h31 a0 i0 (by omega)).trans hG28
          obtain ⟨hc32, h⟩ := chk_some h
          by_cases hc33 : v3 ≤ q31 73 (17 + v4)
          · replace h := ite_t hc33 h
            by_cases hc34 : v3 ≤ q31 73 (17 + v4)
            · replace h := ite_t hc34 h
              exact (ih v2 v3 (v4 + 1) q31 h).trans hG31
            · replace h := ite_f hc34 h
              exact (ih v2 (q31 73 (17 + v4)) (v4 + 1) q31 h).trans hG31
          · replace h := ite_f hc33 h
            by_cases hc35 : v3 ≤ q31 73 (17 + v4)
            · replace h := ite_t hc35 h
              exact (ih v4 v3 (v4 + 1) q31 h).trans hG31
            · replace h := ite_f hc35 h
              exact (ih v4 (q31 73 (17 + v4)) (v4 + 1) q31 h).trans hG31
theorem cw_X10_laysBest_7 {res : Mem} {F : Nat} (a0 : Nat) (i0 : Int) (ha : (a0 ≠ 64 ∨ i0 ≠ 10) ∧ a0 ≠ 70 ∧ a0 ≠ 71 ∧ a0 ≠ 72 ∧ a0 ≠ 73) : ∀ (fu : Nat) (v1 : Int) (v2 : Int) (M : Mem), f_X10_laysBest_7 F fu v1 v2 M = some res → res a0 i0 = M a0 i0 := by
  intro fu
  induction fu with
  | zero => intro v1 v2 M h; exact nomatch (show (none : Option (Mem)) = some res from h)
  | succ fu ih =>
    intro v1 v2 M h
    have hG : M a0 i0 = M a0 i0 := rfl
    rw [f_X10_laysBest_7] at h
    obtain ⟨hp_v2, h⟩ := chk_some h
    by_cases hc2 : M 64 10 ≤ v2
    · replace h := ite_t hc2 h
      exact (cw_X10_laysBest_62 a0 i0 ha F (-1) 1000 0 M h).trans hG
    · replace h := ite_f hc2 h
      obtain ⟨hc36, h⟩ := chk_some h
      obtain ⟨q37, h37, h⟩ := ob_some h
      have hG37 := hG
      obtain ⟨q38, h38, h⟩ := ob_some h
      have hG38 := hG37
      obtain ⟨hc39, h⟩ := chk_some h
      rcases (Decidable.em (q38 = 0)).symm with hc40 | hc40
      · replace h := ite_f hc40 h
        have hG41 : (mset M 72 v2 q38) a0 i0 = M a0 i0 := (mset_at (Or.inl (show a0 ≠ 72 from by omega))).trans hG38
        exact (ih v1 (v2 + 1) (mset M 72 v2 q38) h).trans hG41
      · replace h := ite_t hc40 h
        have hG42 : (mset M 72 v2 65536) a0 i0 = M a0 i0 := (mset_at (Or.inl (show a0 ≠ 72 from by omega))).trans hG38
        exact (ih v1 (v2 + 1) (mset M 72 v2 65536) h).trans hG42
theorem cg_X10_laysBest {F : Nat} {v1 : Int} {M : Mem} {res : Mem} (h : f_X10_laysBest F v1 M = some res) (a0 : Nat) (i0 : Int) (ha : (a0 ≠ 64 ∨ i0 ≠ 10) ∧ a0 ≠ 70 ∧ a0 ≠ 71 ∧ a0 ≠ 72 ∧ a0 ≠ 73) : res a0 i0 = M a0 i0 := by
  have hG : M a0 i0 = M a0 i0 := rfl
  rw [f_X10_laysBest] at h
  obtain ⟨q1, h1, h⟩ := ob_some h
  have hG1 := (cg_X10_laysRing h1 a0 i0 (by omega)).trans hG
  exact (cw_X10_laysBest_7 a0 i0 ha F v1 0 q1 h).trans hG1
theorem cg_X10_swaps {v1 : Int} {v2 : Int} {M : Mem} {res : Mem} (h : f_X10_swaps v1 v2 M = some res) (a0 : Nat) (i0 : Int) (ha : a0 ≠ 65) : res a0 i0 = M a0 i0 := by
  have hG : M a0 i0 = M a0 i0 := rfl
  rw [f_X10_swaps] at h
  obtain ⟨hc1, h⟩ := chk_some h
  obtain ⟨hc2, h⟩ := chk_some h
  have hG3 : (mset M 65 (50 + v1) (M 65 (50 + v2))) a0 i0 = M a0 i0 := (mset_at (Or.inl (show a0 ≠ 65 from by omega))).trans hG
  have hG4 : (mset (mset M 65 (50 + v1) (M 65 (50 + v2))) 65 (50 + v2) (M 65 (50 + v1))) a0 i0 = M a0 i0 := (mset_at (Or.inl (show a0 ≠ 65 from by omega))).trans hG3
  cases h
  exact hG4
theorem cw_X10_follows_104 {res : Int × Mem} {F : Nat} (a0 : Nat) (i0 : Int) (ha : a0 ≠ 65) : ∀ (fu : Nat) (v3 : Int) (v4 : Int) (M : Mem), f_X10_follows_104 F fu v3 v4 M = some res → res.2 a0 i0 = M a0 i0 := by
  intro fu
  induction fu with
  | zero => intro v3 v4 M h; exact nomatch (show (none : Option (Int × Mem)) = some res from h)
  | succ fu ih =>
    intro v3 v4 M h
    have hG : M a0 i0 = M a0 i0 := rfl
    rw [f_X10_follows_104] at h
    obtain ⟨⟨hp_v3, hp_v4⟩, h⟩ := chk_some h
    by_cases hc7 : v4 ≤ v3
    · replace h := ite_t hc7 h
      cases h
      exact hG
    · replace h := ite_f hc7 h
      obtain ⟨q8, h8, h⟩ := ob_some h
      have hG8 := (cg_X10_swaps h8 a0 i0 (by omega)).trans hG
      exact (ih (v3 + 1) (v4 + (-1)) q8 h).trans hG8
theorem cw_X10_follows_57 {res : Int × Mem} {F : Nat} (a0 : Nat) (i0 : Int) (ha : a0 ≠ 65) : ∀ (fu : Nat) (v1 : Int) (v2 : Int) (M : Mem), f_X10_follows_57 F fu v1 v2 M = some res → res.2 a0 i0 = M a0 i0 := by
  intro fu
  induction fu with
  | zero => intro v1 v2 M h; exact nomatch (show (none : Option (Int × Mem)) = some res from h)
  | succ fu ih =>
    intro v1 v2 M h
    have hG : M a0 i0 = M a0 i0 := rfl
    rw [f_X10_follows_57] at h
    obtain ⟨hc3, h⟩ := chk_some h
    obtain ⟨hc4, h⟩ := chk_some h
    by_cases hc5 : M 65 (50 + v1) ≤ M 65 (50 + v2)
    · replace h := ite_t hc5 h
      obtain ⟨q6, h6, h⟩ := ob_some h
      have hG6 := (cg_X10_swaps h6 a0 i0 (by omega)).trans hG
      exact (cw_X10_follows_104 a0 i0 ha F (v1 + 1) ((q6 65 0) - 1) q6 h).trans hG6
    · replace h := ite_f hc5 h
      exact (ih v1 (v2 + (-1)) M h).trans hG
theorem cw_X10_follows_9 {res : Int × Mem} {F : Nat} (a0 : Nat) (i0 : Int) (ha : a0 ≠ 65) : ∀ (fu : Nat) (v1 : Int) (M : Mem), f_X10_follows_9 F fu v1 M = some res → res.2 a0 i0 = M a0 i0 := by
  intro fu
  induction fu with
  | zero => intro v1 M h; exact nomatch (show (none : Option (Int × Mem)) = some res from h)
  | succ fu ih =>
    intro v1 M h
    have hG : M a0 i0 = M a0 i0 := rfl
    rw [f_X10_follows_9] at h
    obtain ⟨hp_v1, h⟩ := chk_some h
    by_cases hc1 : v1 < 0
    · replace h := ite_t hc1 h
      by_cases hc2 : 0 ≤ v1
      · replace h := ite_t hc2 h
        exact (cw_X10_follows_57 a0 i0 ha F v1 ((M 65 0) - 1) M h).trans hG
      · replace h := ite_f hc2 h
        cases h
        exact hG
    · replace h := ite_f hc1 h
      obtain ⟨hc9, h⟩ := chk_some h
      obtain ⟨hc10, h⟩ := chk_some h
      by_cases hc11 : M 65 (50 + v1) ≤ M 65 ((50 + v1) + 1)
      · replace h := ite_t hc11 h
        by_cases hc12 : 0 ≤ v1
        · replace h := ite_t hc12 h
          exact (cw_X10_follows_57 a0 i0 ha F v1 ((M 65 0) - 1) M h).trans hG
        · replace h := ite_f hc12 h
          cases h
          exact hG
      · replace h := ite_f hc11 h
        exact (ih (v1 + (-1)) M h).trans hG
theorem cg_X10_follows {F : Nat} {M : Mem} {res : Int × Mem} (h : f_X10_follows F M = some res) (a0 : Nat) (i0 : Int) (ha : a0 ≠ 65) : res.2 a0 i0 = M a0 i0 := by
  have hG : M a0 i0 = M a0 i0 := rfl
  rw [f_X10_follows] at h
  exact (cw_X10_follows_9 a0 i0 ha F ((M 65 0) - 2) M h).trans hG
theorem cw_X10_bestOf_248 {res : Int × Mem} {F : Nat} (a0 : Nat) (i0 : Int) (ha : (a0 ≠ 64 ∨ i0 ≠ 10) ∧ a0 ≠ 65 ∧ a0 ≠ 68 ∧ a0 ≠ 70 ∧ a0 ≠ 71 ∧ a0 ≠ 72 ∧ a0 ≠ 73 ∧ a0 ≠ 75 ∧ a0 ≠ 76 ∧ a0 ≠ 77) : ∀ (fu : Nat) (v1 : Int) (v4 : Int) (M : Mem), f_X10_bestOf_248 F fu v1 v4 M = some res → res.2 a0 i0 = M a0 i0 := by
  intro fu
  induction fu with
  | zero => intro v1 v4 M h; exact nomatch (show (none : Option (Int × Mem)) = some res from h)
  | succ fu ih =>
    intro v1 v4 M h
    have hG : M a0 i0 = M a0 i0 := rfl
    rw [f_X10_bestOf_248] at h
    obtain ⟨hp_v4, h⟩ := chk_some h
    by_cases hc5 : 9 ≤ v4
    · replace h := ite_t hc5 h
      cases h
      exact hG
    · replace h := ite_f hc5 h
      obtain ⟨hc6, h⟩ := chk_some h
      obtain ⟨hc7, h⟩ := chk_some h
      have hG8 : (mset M 65 (50 + v4) (M 76 v4)) a0 i0 = M a0 i0 := (mset_at (Or.inl (show a0 ≠ 65 from by omega))).trans hG
      exact (ih v1 (v4 + 1) (mset M 65 (50 + v4) (M 76 v4)) h).trans hG8
theorem cw_X10_bestOf_213 {res : Int × Mem} {F : Nat} (a0 : Nat) (i0 : Int) (ha : (a0 ≠ 64 ∨ i0 ≠ 10) ∧ a0 ≠ 65 ∧ a0 ≠ 68 ∧ a0 ≠ 70 ∧ a0 ≠ 71 ∧ a0 ≠ 72 ∧ a0 ≠ 73 ∧ a0 ≠ 75 ∧ a0 ≠ 76 ∧ a0 ≠ 77) {k74 : Int → Int → Int → Mem → Option (Int × Mem)} (hk74 : ∀ (v1 : Int) (v2 : Int) (v3 : Int) (M : Mem), k74 v1 v2 v3 M = some res → res.2 a0 i0 = M a0 i0) : ∀ (v1 : Int) (v2 : Int) (v4 : Int) (v5 : Int) (v6 : Int) (M : Mem), f_X10_bestOf_213 F k74 v1 v2 v4 v5 v6 M = some res → res.2 a0 i0 = M a0 i0 := by
  intro v1 v2 v4 v5 v6 M h
  have hG : M a0 i0 = M a0 i0 := rfl
  rw [f_X10_bestOf_213] at h
  obtain ⟨hp_v6, h⟩ := chk_some h
  by_cases hc15 : v6 = 0
  · replace h := ite_t hc15 h
    by_cases hc16 : v6 = 0
    · replace h := ite_t hc16 h
      obtain ⟨q17, h17, h⟩ := ob_some h
      have hG17 := (cg_X10_follows h17 a0 i0 (by omega)).trans hG
      exact (hk74 v1 v2 q17.1 q17.2 h).trans hG17
    · replace h := ite_f hc16 h
      obtain ⟨q18, h18, h⟩ := ob_some h
      have hG18 := (cg_X10_follows h18 a0 i0 (by omega)).trans hG
      exact (hk74 v1 v5 q18.1 q18.2 h).trans hG18
  · replace h := ite_f hc15 h
    by_cases hc19 : v6 = 0
    · replace h := ite_t hc19 h
      obtain ⟨q20, h20, h⟩ := ob_some h
      have hG20 := (cg_X10_follows h20 a0 i0 (by omega)).trans hG
      exact (hk74 v4 v2 q20.1 q20.2 h).trans hG20
    · replace h := ite_f hc19 h
      obtain ⟨q21, h21, h⟩ := ob_some h
      have hG21 := (cg_X10_follows h21 a0 i0 (by omega)).trans hG
      exact (hk74 v4 v5 q21.1 q21.2 h).trans hG21
theorem cw_X10_bestOf_178 {res : Int × Mem} {F : Nat} (a0 : Nat) (i0 : Int) (ha : (a0 ≠ 64 ∨ i0 ≠ 10) ∧ a0 ≠ 65 ∧ a0 ≠ 68 ∧ a0 ≠ 70 ∧ a0 ≠ 71 ∧ a0 ≠ 72 ∧ a0 ≠ 73 ∧ a0 ≠ 75 ∧ a0 ≠ 76 ∧ a0 ≠ 77) {k74 : Int → Int → Int → Mem → Option (Int × Mem)} (hk74 : ∀ (v1 : Int) (v2 : Int) (v3 : Int) (M : Mem), k74 v1 v2 v3 M = some res → res.2 a0 i0 = M a0 i0) : ∀ (fu : Nat) (v1 : Int) (v2 : Int) (v4 : Int) (v5 : Int) (v6 : Int) (v7 : Int) (M : Mem), f_X10_bestOf_178 F k74 fu v1 v2 v4 v5 v6 v7 M = some res → res.2 a0 i0 = M a0 i0 := by
  intro fu
  induction fu with
  | zero => intro v1 v2 v4 v5 v6 v7 M h; exact nomatch (show (none : Option (Int × Mem)) = some res from h)
  | succ fu ih =>
    intro v1 v2 v4 v5 v6 v7 M h
    have hG : M a0 i0 = M a0 i0 := rfl
    rw [f_X10_bestOf_178] at h
    obtain ⟨⟨hp_v6, hp_v7⟩, h⟩ := chk_some h
    by_cases hc14 : 9 ≤ v7
    · replace h := ite_t hc14 h
      exact (cw_X10_bestOf_213 a0 i0 ha hk74 v1 v2 v4 v5 v6 M h).trans hG
    · replace h := ite_f hc14 h
      by_cases hc22 : v6 = 0
      · replace h := ite_t hc22 h
        exact (cw_X10_bestOf_213 a0 i0 ha hk74 v1 v2 v4 v5 v6 M h).trans hG
      · replace h := ite_f hc22 h
        obtain ⟨hc23, h⟩ := chk_some h
        obtain ⟨hc24, h⟩ := chk_some h
        have hG25 : (mset M 75 v7 (M 65 (50 + v7))) a0 i0 = M a0 i0 := (mset_at (Or.inl (show a0 ≠ 75 from by omega))).trans hG
        exact (ih v1 v2 v4 v5 v6 (v7 + 1) (mset M 75 v7 (M 65 (50 + v7))) h).trans hG25
theorem cw_X10_bestOf_87 {res : Int × Mem} {F : Nat} (a0 : Nat) (i0 : Int) (ha : (a0 ≠ 64 ∨ i0 ≠ 10) ∧ a0 ≠ 65 ∧ a0 ≠ 68 ∧ a0 ≠ 70 ∧ a0 ≠ 71 ∧ a0 ≠ 72 ∧ a0 ≠ 73 ∧ a0 ≠ 75 ∧ a0 ≠ 76 ∧ a0 ≠ 77) {k74 : Int → Int → Int → Mem → Option (Int × Mem)} (hk74 : ∀ (v1 : Int) (v2 : Int) (v3 : Int) (M : Mem), k74 v1 v2 v3 M = some res → res.2 a0 i0 = M a0 i0) : ∀ (fu : Nat) (v1 : Int) (v2 : Int) (v4 : Int) (v5 : Int) (v6 : Int) (M : Mem), f_X10_bestOf_87 F k74 fu v1 v2 v4 v5 v6 M = some res → res.2 a0 i0 = M a0 i0 := by
  intro fu
  induction fu with
  | zero => intro v1 v2 v4 v5 v6 M h; exact nomatch (show (none : Option (Int × Mem)) = some res from h)
  | succ fu ih =>
    intro v1 v2 v4 v5 v6 M h
    have hG : M a0 i0 = M a0 i0 := rfl
    rw [f_X10_bestOf_87] at h
    obtain ⟨⟨hp_v1, hp_v2, hp_v4, hp_v5, hp_v6⟩, h⟩ := chk_some h
    by_cases hc9 : M 65 0 ≤ v6
    · replace h := ite_t hc9 h
      obtain ⟨hc10, h⟩ := chk_some h
      obtain ⟨hc11, h⟩ := chk_some h
      have hG12 : (mset M 77 v4 ((M 77 v4) + 1)) a0 i0 = M a0 i0 := (mset_at (Or.inl (show a0 ≠ 77 from by omega))).trans hG
      by_cases hc13 : v4 < v1
      · replace h := ite_t hc13 h
        exact (cw_X10_bestOf_178 a0 i0 ha hk74 F v1 v2 v4 v5 1 0 (mset M 77 v4 ((M 77 v4) + 1)) h).trans hG12
      · replace h := ite_f hc13 h
        rcases (Decidable.em (v4 = v1)).symm with hc26 | hc26
        · replace h := ite_f hc26 h
          exact (cw_X10_bestOf_178 a0 i0 ha hk74 F v1 v2 v4 v5 0 0 (mset M 77 v4 ((M 77 v4) + 1)) h).trans hG12
        · replace h := ite_t hc26 h
          by_cases hc27 : v2 ≤ v5
          · replace h := ite_t hc27 h
            exact (cw_X10_bestOf_178 a0 i0 ha hk74 F v1 v2 v4 v5 0 0 (mset M 77 v4 ((M 77 v4) + 1)) h).trans hG12
          · replace h := ite_f hc27 h
            exact (cw_X10_bestOf_178 a0 i0 ha hk74 F v1 v2 v4 v5 1 0 (mset M 77 v4 ((M 77 v4) + 1)) h).trans hG12
    · replace h := ite_f hc9 h
      obtain ⟨q28, h28, h⟩ := ob_some h
      have hG28 := (cg_X10_laysBest h28 a0 i0 (by omega)).trans hG
      obtain ⟨q29, h29, h⟩ := ob_some h
      have hG29 := hG28
      obtain ⟨hc30, h⟩ := chk_some h
      by_cases hc31 : q29 ≤ v4
      · replace h := ite_t hc31 h
        obtain ⟨q32, h32, h⟩ := ob_some h
        have hG32 := hG29
        exact (ih v1 v2 v4 (v5 + q32) (v6 + 1) q28 h).trans hG32
      · replace h := ite_f hc31 h
        obtain ⟨q33, h33, h⟩ := ob_some h
        have hG33 := hG29
        obtain ⟨q34, h34, h⟩ := ob_some h
        have hG34 := hG33
        exact (ih v1 v2 q33 (v5 + q34) (v6 + 1) q28 h).trans hG34
theorem cw_X10_bestOf_74 {res : Int × Mem} {F : Nat} (a0 : Nat) (i0 : Int) (ha : (a0 ≠ 64 ∨ i0 ≠ 10) ∧ a0 ≠ 65 ∧ a0 ≠ 68 ∧ a0 ≠ 70 ∧ a0 ≠ 71 ∧ a0 ≠ 72 ∧ a0 ≠ 73 ∧ a0 ≠ 75 ∧ a0 ≠ 76 ∧ a0 ≠ 77) : ∀ (fu : Nat) (v1 : Int) (v2 : Int) (v3 : Int) (M : Mem), f_X10_bestOf_74 F fu v1 v2 v3 M = some res → res.2 a0 i0 = M a0 i0 := by
  intro fu
  induction fu with
  | zero => intro v1 v2 v3 M h; exact nomatch (show (none : Option (Int × Mem)) = some res from h)
  | succ fu ih =>
    intro v1 v2 v3 M h
    have hG : M a0 i0 = M a0 i0 := rfl
    rw [f_X10_bestOf_74] at h
    obtain ⟨hp_v3, h⟩ := chk_some h
    by_cases hc4 : v3 = 0
    · replace h := ite_t hc4 h
      exact (cw_X10_bestOf_248 a0 i0 ha F v1 0 M h).trans hG
    · replace h := ite_f hc4 h
      exact (cw_X10_bestOf_87 a0 i0 ha ih F v1 v2 0 0 0 M h).trans hG
theorem cw_X10_bestOf_27 {res : Int × Mem} {F : Nat} (a0 : Nat) (i0 : Int) (ha : (a0 ≠ 64 ∨ i0 ≠ 10) ∧ a0 ≠ 65 ∧ a0 ≠ 68 ∧ a0 ≠ 70 ∧ a0 ≠ 71 ∧ a0 ≠ 72 ∧ a0 ≠ 73 ∧ a0 ≠ 75 ∧ a0 ≠ 76 ∧ a0 ≠ 77) : ∀ (fu : Nat) (v1 : Int) (M : Mem), f_X10_bestOf_27 F fu v1 M = some res → res.2 a0 i0 = M a0 i0 := by
  intro fu
  induction fu with
  | zero => intro v1 M h; exact nomatch (show (none : Option (Int × Mem)) = some res from h)
  | succ fu ih =>
    intro v1 M h
    have hG : M a0 i0 = M a0 i0 := rfl
    rw [f_X10_bestOf_27] at h
    obtain ⟨hp_v1, h⟩ := chk_some h
    by_cases hc3 : 9 ≤ v1
    · replace h := ite_t hc3 h
      exact (cw_X10_bestOf_74 a0 i0 ha F 1000 1000 1 M h).trans hG
    · replace h := ite_f hc3 h
      obtain ⟨hc35, h⟩ := chk_some h
      obtain ⟨hc36, h⟩ := chk_some h
      have hG37 : (mset M 76 v1 (M 65 (50 + v1))) a0 i0 = M a0 i0 := (mset_at (Or.inl (show a0 ≠ 76 from by omega))).trans hG
      have hG38 : (mset (mset M 76 v1 (M 65 (50 + v1))) 65 (50 + v1) v1) a0 i0 = M a0 i0 := (mset_at (Or.inl (show a0 ≠ 65 from by omega))).trans hG37
      exact (ih (v1 + 1) (mset (mset M 76 v1 (M 65 (50 + v1))) 65 (50 + v1) v1) h).trans hG38
theorem cw_X10_bestOf_6 {res : Int × Mem} {F : Nat} (a0 : Nat) (i0 : Int) (ha : (a0 ≠ 64 ∨ i0 ≠ 10) ∧ a0 ≠ 65 ∧ a0 ≠ 68 ∧ a0 ≠ 70 ∧ a0 ≠ 71 ∧ a0 ≠ 72 ∧ a0 ≠ 73 ∧ a0 ≠ 75 ∧ a0 ≠ 76 ∧ a0 ≠ 77) : ∀ (fu : Nat) (v1 : Int) (M : Mem), f_X10_bestOf_6 F fu v1 M = some res → res.2 a0 i0 = M a0 i0 := by
  intro fu
  induction fu with
  | zero => intro v1 M h; exact nomatch (show (none : Option (Int × Mem)) = some res from h)
  | succ fu ih =>
    intro v1 M h
    have hG : M a0 i0 = M a0 i0 := rfl
    rw [f_X10_bestOf_6] at h
    obtain ⟨hp_v1, h⟩ := chk_some h
    by_cases hc2 : 10 ≤ v1
    · replace h := ite_t hc2 h
      exact (cw_X10_bestOf_27 a0 i0 ha F 0 M h).trans hG
    · replace h := ite_f hc2 h
      obtain ⟨hc39, h⟩ := chk_some h
      have hG40 : (mset M 77 v1 0) a0 i0 = M a0 i0 := (mset_at (Or.inl (show a0 ≠ 77 from by omega))).trans hG
      exact (ih (v1 + 1) (mset M 77 v1 0) h).trans hG40
theorem cg_X10_bestOf {F : Nat} {M : Mem} {res : Int × Mem} (h : f_X10_bestOf F M = some res) (a0 : Nat) (i0 : Int) (ha : (a0 ≠ 64 ∨ i0 ≠ 10) ∧ a0 ≠ 65 ∧ a0 ≠ 68 ∧ a0 ≠ 70 ∧ a0 ≠ 71 ∧ a0 ≠ 72 ∧ a0 ≠ 73 ∧ a0 ≠ 75 ∧ a0 ≠ 76 ∧ a0 ≠ 77) : res.2 a0 i0 = M a0 i0 := by
  have hG : M a0 i0 = M a0 i0 := rfl
  rw [f_X10_bestOf] at h
  obtain ⟨q1, h1, h⟩ := ob_some h
  have hG1 := (cg_X10_laysFar h1 a0 i0 (by omega)).trans hG
  exact (cw_X10_bestOf_6 a0 i0 ha F 0 q1 h).trans hG1
theorem cw_X10_setLabels_102 {res : Int × Mem} {F : Nat} (a0 : Nat) (i0 : Int) (ha : (a0 ≠ 64 ∨ i0 ≠ 2) ∧ (a0 ≠ 64 ∨ i0 ≠ 3) ∧ (a0 ≠ 64 ∨ i0 ≠ 10) ∧ a0 ≠ 65 ∧ a0 ≠ 66 ∧ a0 ≠ 68 ∧ a0 ≠ 69 ∧ a0 ≠ 70 ∧ a0 ≠ 71 ∧ a0 ≠ 72 ∧ a0 ≠ 73 ∧ a0 ≠ 75 ∧ a0 ≠ 76 ∧ a0 ≠ 77) : ∀ (fu : Nat) (v1 : Int) (v4 : Int) (M : Mem), f_X10_setLabels_102 F fu v1 v4 M = some res → res.2 a0 i0 = M a0 i0 := by
  intro fu
  induction fu with
  | zero => intro v1 v4 M h; exact nomatch (show (none : Option (Int × Mem)) = some res from h)
  | succ fu ih =>
    intro v1 v4 M h
    have hG : M a0 i0 = M a0 i0 := rfl
    rw [f_X10_setLabels_102] at h
    obtain ⟨⟨hp_v1, hp_v4⟩, h⟩ := chk_some h
    by_cases hc15 : M 65 0 ≤ v4
    · replace h := ite_t hc15 h
      obtain ⟨q16, h16, h⟩ := ob_some h
      have hG16 := (cg_X10_empties h16 a0 i0 (by omega)).trans hG
      obtain ⟨hc17, h⟩ := chk_some h
      cases h
      exact hG16
    · replace h := ite_f hc15 h
      rcases (Decidable.em (v1 = 3)).symm with hc18 | hc18
      · replace h := ite_f hc18 h
        obtain ⟨hc19, h⟩ := chk_some h
        have hG20 : (mset M 65 (50 + v4) v4) a0 i0 = M a0 i0 := (mset_at (Or.inl (show a0 ≠ 65 from by omega))).trans hG
        exact (ih v1 (v4 + 1) (mset M 65 (50 + v4) v4) h).trans hG20
      · replace h := ite_t hc18 h
        obtain ⟨hc21, h⟩ := chk_some h
        obtain ⟨hc22, h⟩ := chk_some h
        have hG23 : (mset M 65 (50 + v4) (M 75 v4)) a0 i0 = M a0 i0 := (mset_at (Or.inl (show a0 ≠ 65 from by omega))).trans hG
        exact (ih v1 (v4 + 1) (mset M 65 (50 + v4) (M 75 v4)) h).trans hG23
theorem cw_X10_setLabels_47 {res : Int × Mem} {F : Nat} (a0 : Nat) (i0 : Int) (ha : (a0 ≠ 64 ∨ i0 ≠ 2) ∧ (a0 ≠ 64 ∨ i0 ≠ 3) ∧ (a0 ≠ 64 ∨ i0 ≠ 10) ∧ a0 ≠ 65 ∧ a0 ≠ 66 ∧ a0 ≠ 68 ∧ a0 ≠ 69 ∧ a0 ≠ 70 ∧ a0 ≠ 71 ∧ a0 ≠ 72 ∧ a0 ≠ 73 ∧ a0 ≠ 75 ∧ a0 ≠ 76 ∧ a0 ≠ 77) : ∀ (v1 : Int) (v2 : Int) (t1 : Int) (M : Mem), f_X10_setLabels_47 F v1 v2 t1 M = some res → res.2 a0 i0 = M a0 i0 := by
  intro v1 v2 t1 M h
  have hG : M a0 i0 = M a0 i0 := rfl
  rw [f_X10_setLabels_47] at h
  obtain ⟨hp_v1, h⟩ := chk_some h
  obtain ⟨q8, h8, h⟩ := ob_some h
  have hG8 := (cg_X10_refused h8 a0 i0 (by omega)).trans hG
  obtain ⟨hc9, h⟩ := chk_some h
  by_cases hc10 : q8.1 = 0
  · replace h := ite_t hc10 h
    obtain ⟨q11, h11, h⟩ := ob_some h
    have hG11 := (cg_X10_saves h11 a0 i0 (by omega)).trans hG8
    rcases (Decidable.em (v1 = 1)).symm with hc12 | hc12
    · replace h := ite_f hc12 h
      rcases (Decidable.em (v1 = 2)).symm with hc13 | hc13
      · replace h := ite_f hc13 h
        rcases (Decidable.em (v1 = 3)).symm with hc14 | hc14
        · replace h := ite_f hc14 h
          exact (cw_X10_setLabels_102 a0 i0 ha F v1 0 q11 h).trans hG11
        · replace h := ite_t hc14 h
          obtain ⟨q24, h24, h⟩ := ob_some h
          have hG24 := (cg_X10_bestOf h24 a0 i0 (by omega)).trans hG11
          exact (cw_X10_setLabels_102 a0 i0 ha F v1 0 q24.2 h).trans hG24
      · replace h := ite_t hc13 h
        obtain ⟨q25, h25, h⟩ := ob_some h
        have hG25 := (cg_X10_ranks h25 a0 i0 (by omega)).trans hG11
        obtain ⟨q26, h26, h⟩ := ob_some h
        have hG26 := (cg_X10_empties h26 a0 i0 (by omega)).trans hG25
        obtain ⟨hc27, h⟩ := chk_some h
        cases h
        exact hG26
    · replace h := ite_t hc12 h
      obtain ⟨q28, h28, h⟩ := ob_some h
      have hG28 := (cg_X10_visits h28 a0 i0 (by omega)).trans hG11
      obtain ⟨q29, h29, h⟩ := ob_some h
      have hG29 := (cg_X10_empties h29 a0 i0 (by omega)).trans hG28
      obtain ⟨hc30, h⟩ := chk_some h
      cases h
      exact hG29
  · replace h := ite_f hc10 h
    cases h
    exact hG8
theorem cg_X10_setLabels {F : Nat} {v1 : Int} {v2 : Int} {M : Mem} {res : Int × Mem} (h : f_X10_setLabels F v1 v2 M = some res) (a0 : Nat) (i0 : Int) (ha : (a0 ≠ 64 ∨ i0 ≠ 2) ∧ (a0 ≠ 64 ∨ i0 ≠ 3) ∧ (a0 ≠ 64 ∨ i0 ≠ 10) ∧ a0 ≠ 65 ∧ a0 ≠ 66 ∧ a0 ≠ 68 ∧ a0 ≠ 69 ∧ a0 ≠ 70 ∧ a0 ≠ 71 ∧ a0 ≠ 72 ∧ a0 ≠ 73 ∧ a0 ≠ 75 ∧ a0 ≠ 76 ∧ a0 ≠ 77) : res.2 a0 i0 = M a0 i0 := by
  have hG : M a0 i0 = M a0 i0 := rfl
  rw [f_X10_setLabels] at h
  obtain ⟨hp_v1, h⟩ := chk_some h
  obtain ⟨q1, h1, h⟩ := ob_some h
  have hG1 := hG
  obtain ⟨hc2, h⟩ := chk_some h
  rcases (Decidable.em (q1 = 0)).symm with hc3 | hc3
  · replace h := ite_f hc3 h
    obtain ⟨q4, h4, h⟩ := ob_some h
    have hG4 := hG1
    obtain ⟨hc5, h⟩ := chk_some h
    rcases (Decidable.em (q4 = 0)).symm with hc6 | hc6
    · replace h := ite_f hc6 h
      rcases (Decidable.em (v1 = 3)).symm with hc7 | hc7
      · replace h := ite_f hc7 h
        exact (cw_X10_setLabels_47 a0 i0 ha v1 v2 0 M h).trans hG4
      · replace h := ite_t hc7 h
        by_cases hc31 : M 65 0 ≤ 6
        · replace h := ite_t hc31 h
          exact (cw_X10_setLabels_47 a0 i0 ha v1 v2 0 M h).trans hG4
        · replace h := ite_f hc31 h
          exact (cw_X10_setLabels_47 a0 i0 ha v1 v2 3 M h).trans hG4
    · replace h := ite_t hc6 h
      exact (cw_X10_setLabels_47 a0 i0 ha v1 v2 2 M h).trans hG4
  · replace h := ite_t hc3 h
    exact (cw_X10_setLabels_47 a0 i0 ha v1 v2 1 M h).trans hG1
theorem cg_X10_swapLabels {F : Nat} {v1 : Int} {v2 : Int} {M : Mem} {res : Int × Mem} (h : f_X10_swapLabels F v1 v2 M = some res) (a0 : Nat) (i0 : Int) (ha : (a0 ≠ 64 ∨ i0 ≠ 2) ∧ (a0 ≠ 64 ∨ i0 ≠ 3) ∧ a0 ≠ 65 ∧ a0 ≠ 66) : res.2 a0 i0 = M a0 i0 := by
  have hG : M a0 i0 = M a0 i0 := rfl
  rw [f_X10_swapLabels] at h
  obtain ⟨q1, h1, h⟩ := ob_some h
  have hG1 := hG
  obtain ⟨hc2, h⟩ := chk_some h
  by_cases hc3 : q1 = 0
  · replace h := ite_t hc3 h
    obtain ⟨q4, h4, h⟩ := ob_some h
    have hG4 := (cg_X10_refused h4 a0 i0 (by omega)).trans hG1
    obtain ⟨hc5, h⟩ := chk_some h
    by_cases hc6 : q4.1 = 0
    · replace h := ite_t hc6 h
      obtain ⟨q7, h7, h⟩ := ob_some h
      have hG7 := (cg_X10_saves h7 a0 i0 (by omega)).trans hG4
      obtain ⟨q8, h8, h⟩ := ob_some h
      have hG8 := (cg_X10_swaps h8 a0 i0 (by omega)).trans hG7
      obtain ⟨q9, h9, h⟩ := ob_some h
      have hG9 := (cg_X10_empties h9 a0 i0 (by omega)).trans hG8
      obtain ⟨hc10, h⟩ := chk_some h
      cases h
      exact hG9
    · replace h := ite_f hc6 h
      cases h
      exact hG4
  · replace h := ite_f hc3 h
    obtain ⟨q11, h11, h⟩ := ob_some h
    have hG11 := hG1
    obtain ⟨hc12, h⟩ := chk_some h
    by_cases hc13 : q11 = 0
    · replace h := ite_t hc13 h
      obtain ⟨q14, h14, h⟩ := ob_some h
      have hG14 := (cg_X10_refused h14 a0 i0 (by omega)).trans hG11
      obtain ⟨hc15, h⟩ := chk_some h
      by_cases hc16 : q14.1 = 0
      · replace h := ite_t hc16 h
        obtain ⟨q17, h17, h⟩ := ob_some h
        have hG17 := (cg_X10_saves h17 a0 i0 (by omega)).trans hG14
        obtain ⟨q18, h18, h⟩ := ob_some h
        have hG18 := (cg_X10_swaps h18 a0 i0 (by omega)).trans hG17
        obtain ⟨q19, h19, h⟩ := ob_some h
        have hG19 := (cg_X10_empties h19 a0 i0 (by omega)).trans hG18
        obtain ⟨hc20, h⟩ := chk_some h
        cases h
        exact hG19
      · replace h := ite_f hc16 h
        cases h
        exact hG14
    · replace h := ite_f hc13 h
      obtain ⟨q21, h21, h⟩ := ob_some h
      have hG21 := (cg_X10_refused h21 a0 i0 (by omega)).trans hG11
      obtain ⟨hc22, h⟩ := chk_some h
      by_cases hc23 : q21.1 = 0
      · replace h := ite_t hc23 h
        obtain ⟨q24, h24, h⟩ := ob_some h
        have hG24 := (cg_X10_saves h24 a0 i0 (by omega)).trans hG21
        obtain ⟨q25, h25, h⟩ := ob_some h
        have hG25 := (cg_X10_swaps h25 a0 i0 (by omega)).trans hG24
        obtain ⟨q26, h26, h⟩ := ob_some h
        have hG26 := (cg_X10_empties h26 a0 i0 (by omega)).trans hG25
        obtain ⟨hc27, h⟩ := chk_some h
        cases h
        exact hG26
      · replace h := ite_f hc23 h
        cases h
        exact hG21
theorem cw_X10_turn_43 {res : Int × Mem} {F : Nat} (a0 : Nat) (i0 : Int) (ha : (a0 ≠ 64 ∨ i0 ≠ 2) ∧ (a0 ≠ 64 ∨ i0 ≠ 3) ∧ a0 ≠ 65 ∧ a0 ≠ 66) : ∀ (fu : Nat) (v1 : Int) (v2 : Int) (M : Mem), f_X10_turn_43 F fu v1 v2 M = some res → res.2 a0 i0 = M a0 i0 := by
  intro fu
  induction fu with
  | zero => intro v1 v2 M h; exact nomatch (show (none : Option (Int × Mem)) = some res from h)
  | succ fu ih =>
    intro v1 v2 M h
    have hG : M a0 i0 = M a0 i0 := rfl
    rw [f_X10_turn_43] at h
    obtain ⟨hp_v2, h⟩ := chk_some h
    by_cases hc9 : M 65 0 ≤ v2
    · replace h := ite_t hc9 h
      obtain ⟨q10, h10, h⟩ := ob_some h
      have hG10 := (cg_X10_empties h10 a0 i0 (by omega)).trans hG
      cases h
      exact hG10
    · replace h := ite_f hc9 h
      obtain ⟨hc11, h⟩ := chk_some h
      obtain ⟨hc12, h⟩ := chk_some h
      obtain ⟨hc13, h⟩ := chk_some h
      have hG14 : (mset M 65 (50 + v2) (((M 65 (50 + v2)) + v1) % (M 65 0))) a0 i0 = M a0 i0 := (mset_at (Or.inl (show a0 ≠ 65 from by omega))).trans hG
      exact (ih v1 (v2 + 1) (mset M 65 (50 + v2) (((M 65 (50 + v2)) + v1) % (M 65 0))) h).trans hG14
theorem cg_X10_turn {F : Nat} {v1 : Int} {M : Mem} {res : Int × Mem} (h : f_X10_turn F v1 M = some res) (a0 : Nat) (i0 : Int) (ha : (a0 ≠ 64 ∨ i0 ≠ 2) ∧ (a0 ≠ 64 ∨ i0 ≠ 3) ∧ a0 ≠ 65 ∧ a0 ≠ 66) : res.2 a0 i0 = M a0 i0 := by
  have hG : M a0 i0 = M a0 i0 := rfl
  rw [f_X10_turn] at h
  obtain ⟨q1, h1, h⟩ := ob_some h
  have hG1 := hG
  obtain ⟨hc2, h⟩ := chk_some h
  rcases (Decidable.em (q1 = 0)).symm with hc3 | hc3
  · replace h := ite_f hc3 h
    rcases (Decidable.em (M 65 0 = 0)).symm with hc4 | hc4
    · replace h := ite_f hc4 h
      obtain ⟨q5, h5, h⟩ := ob_some h
      have hG5 := (cg_X10_refused h5 a0 i0 (by omega)).trans hG1
      obtain ⟨hc6, h⟩ := chk_some h
      by_cases hc7 : q5.1 = 0
      · replace h := ite_t hc7 h
        obtain ⟨q8, h8, h⟩ := ob_some h
        have hG8 := (cg_X10_saves h8 a0 i0 (by omega)).trans hG5
        exact (cw_X10_turn_43 a0 i0 ha F v1 0 q8 h).trans hG8
      · replace h := ite_f hc7 h
        cases h
        exact hG5
    · replace h := ite_t hc4 h
      obtain ⟨q15, h15, h⟩ := ob_some h
      have hG15 := (cg_X10_refused h15 a0 i0 (by omega)).trans hG1
      obtain ⟨hc16, h⟩ := chk_some h
      by_cases hc17 : q15.1 = 0
      · replace h := ite_t hc17 h
        obtain ⟨q18, h18, h⟩ := ob_some h
        have hG18 := (cg_X10_saves h18 a0 i0 (by omega)).trans hG15
        exact (cw_X10_turn_43 a0 i0 ha F v1 0 q18 h).trans hG18
      · replace h := ite_f hc17 h
        cases h
        exact hG15
  · replace h := ite_t hc3 h
    obtain ⟨q19, h19, h⟩ := ob_some h
    have hG19 := (cg_X10_refused h19 a0 i0 (by omega)).trans hG1
    obtain ⟨hc20, h⟩ := chk_some h
    by_cases hc21 : q19.1 = 0
    · replace h := ite_t hc21 h
      obtain ⟨q22, h22, h⟩ := ob_some h
      have hG22 := (cg_X10_saves h22 a0 i0 (by omega)).trans hG19
      exact (cw_X10_turn_43 a0 i0 ha F v1 0 q22 h).trans hG22
    · replace h := ite_f hc21 h
      cases h
      exact hG19
theorem cw_X10_shuffle_69 {res : Int × Mem} {F : Nat} (a0 : Nat) (i0 : Int) (ha : (a0 ≠ 64 ∨ i0 ≠ 2) ∧ (a0 ≠ 64 ∨ i0 ≠ 3) ∧ a0 ≠ 65 ∧ a0 ≠ 66) : ∀ (fu : Nat) (v2 : Int) (v4 : Int) (M : Mem), f_X10_shuffle_69 F fu v2 v4 M = some res → res.2 a0 i0 = M a0 i0 := by
  intro fu
  induction fu with
  | zero => intro v2 v4 M h; exact nomatch (show (none : Option (Int × Mem)) = some res from h)
  | succ fu ih =>
    intro v2 v4 M h
    have hG : M a0 i0 = M a0 i0 := rfl
    rw [f_X10_shuffle_69] at h
    obtain ⟨hp_v4, h⟩ := chk_some h
    by_cases hc9 : v4 ≤ 0
    · replace h := ite_t hc9 h
      obtain ⟨q10, h10, h⟩ := ob_some h
      have hG10 := (cg_X10_empties h10 a0 i0 (by omega)).trans hG
      rcases (Decidable.em (q10 65 0 = 0)).symm with hc11 | hc11
      · replace h := ite_f hc11 h
        cases h
        exact hG10
      · replace h := ite_t hc11 h
        cases h
        exact hG10
    · replace h := ite_f hc9 h
      obtain ⟨hc12, h⟩ := chk_some h
      obtain ⟨hc13, h⟩ := chk_some h
      obtain ⟨hc14, h⟩ := chk_some h
      obtain ⟨q15, h15, h⟩ := ob_some h
      have hG15 := (cg_X10_swaps h15 a0 i0 (by omega)).trans hG
      exact (ih (((1103515245 * v2) + 12345) % 2147483648) (v4 + (-1)) q15 h).trans hG15
theorem cw_X10_shuffle_30 {res : Int × Mem} {F : Nat} (a0 : Nat) (i0 : Int) (ha : (a0 ≠ 64 ∨ i0 ≠ 2) ∧ (a0 ≠ 64 ∨ i0 ≠ 3) ∧ a0 ≠ 65 ∧ a0 ≠ 66) : ∀ (fu : Nat) (v1 : Int) (v2 : Int) (M : Mem), f_X10_shuffle_30 F fu v1 v2 M = some res → res.2 a0 i0 = M a0 i0 := by
  intro fu
  induction fu with
  | zero => intro v1 v2 M h; exact nomatch (show (none : Option (Int × Mem)) = some res from h)
  | succ fu ih =>
    intro v1 v2 M h
    have hG : M a0 i0 = M a0 i0 := rfl
    rw [f_X10_shuffle_30] at h
    obtain ⟨⟨hp_v1, hp_v2⟩, h⟩ := chk_some h
    by_cases hc8 : M 65 0 ≤ v2
    · replace h := ite_t hc8 h
      exact (cw_X10_shuffle_69 a0 i0 ha F v1 ((M 65 0) - 1) M h).trans hG
    · replace h := ite_f hc8 h
      obtain ⟨hc16, h⟩ := chk_some h
      have hG17 : (mset M 65 (50 + v2) v2) a0 i0 = M a0 i0 := (mset_at (Or.inl (show a0 ≠ 65 from by omega))).trans hG
      exact (ih v1 (v2 + 1) (mset M 65 (50 + v2) v2) h).trans hG17
theorem cg_X10_shuffle {F : Nat} {v1 : Int} {M : Mem} {res : Int × Mem} (h : f_X10_shuffle F v1 M = some res) (a0 : Nat) (i0 : Int) (ha : (a0 ≠ 64 ∨ i0 ≠ 2) ∧ (a0 ≠ 64 ∨ i0 ≠ 3) ∧ a0 ≠ 65 ∧ a0 ≠ 66) : res.2 a0 i0 = M a0 i0 := by
  have hG : M a0 i0 = M a0 i0 := rfl
  rw [f_X10_shuffle] at h
  obtain ⟨q1, h1, h⟩ := ob_some h
  have hG1 := hG
  obtain ⟨hc2, h⟩ := chk_some h
  by_cases hc3 : q1 = 0
  · replace h := ite_t hc3 h
    obtain ⟨q4, h4, h⟩ := ob_some h
    have hG4 := (cg_X10_refused h4 a0 i0 (by omega)).trans hG1
    obtain ⟨hc5, h⟩ := chk_some h
    by_cases hc6 : q4.1 = 0
    · replace h := ite_t hc6 h
      obtain ⟨q7, h7, h⟩ := ob_some h
      have hG7 := (cg_X10_saves h7 a0 i0 (by omega)).trans hG4
      exact (cw_X10_shuffle_30 a0 i0 ha F v1 0 q7 h).trans hG7
    · replace h := ite_f hc6 h
      cases h
      exact hG4
  · replace h := ite_f hc3 h
    obtain ⟨q18, h18, h⟩ := ob_some h
    have hG18 := (cg_X10_refused h18 a0 i0 (by omega)).trans hG1
    obtain ⟨hc19, h⟩ := chk_some h
    by_cases hc20 : q18.1 = 0
    · replace h := ite_t hc20 h
      obtain ⟨q21, h21, h⟩ := ob_some h
      have hG21 := (cg_X10_saves h21 a0 i0 (by omega)).trans hG18
      exact (cw_X10_shuffle_30 a0 i0 ha F v1 0 q21 h).trans hG21
    · replace h := ite_f hc20 h
      cases h
      exact hG18
theorem cw_X10_netSize_4 {res : Int × Mem} {F : Nat} (a0 : Nat) (i0 : Int) (ha : (a0 ≠ 64 ∨ i0 ≠ 10) ∧ a0 ≠ 70 ∧ a0 ≠ 71) : ∀ (fu : Nat) (v1 : Int) (v2 : Int) (M : Mem), f_X10_netSize_4 F fu v1 v2 M = some res → res.2 a0 i0 = M a0 i0 := by
  intro fu
  induction fu with
  | zero => intro v1 v2 M h; exact nomatch (show (none : Option (Int × Mem)) = some res from h)
  | succ fu ih =>
    intro v1 v2 M h
    have hG : M a0 i0 = M a0 i0 := rfl
    rw [f_X10_netSize_4] at h
    obtain ⟨hp_v2, h⟩ := chk_some h
    by_cases hc1 : M 65 0 ≤ v2
    · replace h := ite_t hc1 h
      cases h
      exact hG
    · replace h := ite_f hc1 h
      obtain ⟨q2, h2, h⟩ := ob_some h
      have hG2 := (cg_X10_laysRing h2 a0 i0 (by omega)).trans hG
      obtain ⟨q3, h3, h⟩ := ob_some h
      have hG3 := hG2
      exact (ih (v1 + q3) (v2 + 1) q2 h).trans hG3
theorem cg_X10_netSize {F : Nat} {M : Mem} {res : Int × Mem} (h : f_X10_netSize F M = some res) (a0 : Nat) (i0 : Int) (ha : (a0 ≠ 64 ∨ i0 ≠ 10) ∧ a0 ≠ 70 ∧ a0 ≠ 71) : res.2 a0 i0 = M a0 i0 := by
  have hG : M a0 i0 = M a0 i0 := rfl
  rw [f_X10_netSize] at h
  exact (cw_X10_netSize_4 a0 i0 ha F 0 0 M h).trans hG
theorem cw_X10_makeTables_32 {res : Int × Mem} {F : Nat} (a0 : Nat) (i0 : Int) (ha : (a0 ≠ 64 ∨ i0 ≠ 2) ∧ (a0 ≠ 64 ∨ i0 ≠ 3) ∧ (a0 ≠ 64 ∨ i0 ≠ 10) ∧ a0 ≠ 65 ∧ a0 ≠ 66 ∧ a0 ≠ 68 ∧ a0 ≠ 70 ∧ a0 ≠ 71 ∧ a0 ≠ 72 ∧ a0 ≠ 73) {k15 : Int → Mem → Option (Int × Mem)} (hk15 : ∀ (v1 : Int) (M : Mem), k15 v1 M = some res → res.2 a0 i0 = M a0 i0) : ∀ (fu : Nat) (v1 : Int) (v2 : Int) (M : Mem), f_X10_makeTables_32 F k15 fu v1 v2 M = some res → res.2 a0 i0 = M a0 i0 := by
  intro fu
  induction fu with
  | zero => intro v1 v2 M h; exact nomatch (show (none : Option (Int × Mem)) = some res from h)
  | succ fu ih =>
    intro v1 v2 M h
    have hG : M a0 i0 = M a0 i0 := rfl
    rw [f_X10_makeTables_32] at h
    obtain ⟨hp_v2, h⟩ := chk_some h
    by_cases hc7 : M 64 10 ≤ v2
    · replace h := ite_t hc7 h
      exact (hk15 (v1 + 1) M h).trans hG
    · replace h := ite_f hc7 h
      obtain ⟨hc8, h⟩ := chk_some h
      obtain ⟨hc9, h⟩ := chk_some h
      obtain ⟨hc10, h⟩ := chk_some h
      have hG11 : (mset M 65 ((59 + (9 * v1)) + (M 71 v2)) ((M 70 v2) + 1)) a0 i0 = M a0 i0 := (mset_at (Or.inl (show a0 ≠ 65 from by omega))).trans hG
      exact (ih v1 (v2 + 1) (mset M 65 ((59 + (9 * v1)) + (M 71 v2)) ((M 70 v2) + 1)) h).trans hG11
theorem cw_X10_makeTables_15 {res : Int × Mem} {F : Nat} (a0 : Nat) (i0 : Int) (ha : (a0 ≠ 64 ∨ i0 ≠ 2) ∧ (a0 ≠ 64 ∨ i0 ≠ 3) ∧ (a0 ≠ 64 ∨ i0 ≠ 10) ∧ a0 ≠ 65 ∧ a0 ≠ 66 ∧ a0 ≠ 68 ∧ a0 ≠ 70 ∧ a0 ≠ 71 ∧ a0 ≠ 72 ∧ a0 ≠ 73) : ∀ (fu : Nat) (v1 : Int) (M : Mem), f_X10_makeTables_15 F fu v1 M = some res → res.2 a0 i0 = M a0 i0 := by
  intro fu
  induction fu with
  | zero => intro v1 M h; exact nomatch (show (none : Option (Int × Mem)) = some res from h)
  | succ fu ih =>
    intro v1 M h
    have hG : M a0 i0 = M a0 i0 := rfl
    rw [f_X10_makeTables_15] at h
    obtain ⟨hp_v1, h⟩ := chk_some h
    by_cases hc4 : M 65 0 ≤ v1
    · replace h := ite_t hc4 h
      obtain ⟨q5, h5, h⟩ := ob_some h
      have hG5 := (cg_X10_netSize h5 a0 i0 (by omega)).trans hG
      cases h
      exact hG5
    · replace h := ite_f hc4 h
      obtain ⟨q6, h6, h⟩ := ob_some h
      have hG6 := (cg_X10_laysBest h6 a0 i0 (by omega)).trans hG
      exact (cw_X10_makeTables_32 a0 i0 ha ih F v1 0 q6 h).trans hG6
theorem cg_X10_makeTables {F : Nat} {M : Mem} {res : Int × Mem} (h : f_X10_makeTables F M = some res) (a0 : Nat) (i0 : Int) (ha : (a0 ≠ 64 ∨ i0 ≠ 2) ∧ (a0 ≠ 64 ∨ i0 ≠ 3) ∧ (a0 ≠ 64 ∨ i0 ≠ 10) ∧ a0 ≠ 65 ∧ a0 ≠ 66 ∧ a0 ≠ 68 ∧ a0 ≠ 70 ∧ a0 ≠ 71 ∧ a0 ≠ 72 ∧ a0 ≠ 73) : res.2 a0 i0 = M a0 i0 := by
  have hG : M a0 i0 = M a0 i0 := rfl
  rw [f_X10_makeTables] at h
  have hG1 : (mset M 64 3 0) a0 i0 = M a0 i0 := (mset_at (show a0 ≠ 64 ∨ i0 ≠ 3 from by omega)).trans hG
  obtain ⟨q2, h2, h⟩ := ob_some h
  have hG2 := (cg_X10_saves h2 a0 i0 (by omega)).trans hG1
  obtain ⟨q3, h3, h⟩ := ob_some h
  have hG3 := (cg_X10_laysFar h3 a0 i0 (by omega)).trans hG2
  exact (cw_X10_makeTables_15 a0 i0 ha F 0 q3 h).trans hG3
theorem cw_X10_setRange_112 {res : Int × Mem} {F : Nat} (a0 : Nat) (i0 : Int) (ha : (a0 ≠ 64 ∨ i0 ≠ 2) ∧ (a0 ≠ 64 ∨ i0 ≠ 3) ∧ a0 ≠ 65 ∧ a0 ≠ 66) {k95 : Int → Int → Int → Int → Int → Int → Mem → Option (Int × Mem)} (hk95 : ∀ (v1 : Int) (v2 : Int) (v4 : Int) (v6 : Int) (v7 : Int) (v8 : Int) (M : Mem), k95 v1 v2 v4 v6 v7 v8 M = some res → res.2 a0 i0 = M a0 i0) : ∀ (v1 : Int) (v2 : Int) (v4 : Int) (v6 : Int) (v7 : Int) (t0 : Int) (M : Mem), f_X10_setRange_112 F k95 v1 v2 v4 v6 v7 t0 M = some res → res.2 a0 i0 = M a0 i0 := by
  intro v1 v2 v4 v6 v7 t0 M h
  have hG : M a0 i0 = M a0 i0 := rfl
  rw [f_X10_setRange_112] at h
  obtain ⟨⟨hp_v2, hp_v7⟩, h⟩ := chk_some h
  obtain ⟨hc12, h⟩ := chk_some h
  by_cases hc13 : v7 = M 65 (50 + v1)
  · replace h := ite_t hc13 h
    obtain ⟨hc14, h⟩ := chk_some h
    exact (hk95 v1 v2 v4 v6 ((v7 + 1) % (M 65 0)) t0 M h).trans hG
  · replace h := ite_f hc13 h
    obtain ⟨q15, h15, h⟩ := ob_some h
    have hG15 := hG
    obtain ⟨hc16, h⟩ := chk_some h
    rcases (Decidable.em (q15 = v2)).symm with hc17 | hc17
    · replace h := ite_f hc17 h
      obtain ⟨hc18, h⟩ := chk_some h
      obtain ⟨hc19, h⟩ := chk_some h
      have hG20 : (mset M 65 ((59 + (9 * v1)) + v7) (v2 + 1)) a0 i0 = M a0 i0 := (mset_at (Or.inl (show a0 ≠ 65 from by omega))).trans hG15
      obtain ⟨hc21, h⟩ := chk_some h
      exact (hk95 v1 v2 v4 (v6 + 1) ((v7 + 1) % ((mset M 65 ((59 + (9 * v1)) + v7) (v2 + 1)) 65 0)) t0 (mset M 65 ((59 + (9 * v1)) + v7) (v2 + 1)) h).trans hG20
    · replace h := ite_t hc17 h
      obtain ⟨hc22, h⟩ := chk_some h
      obtain ⟨hc23, h⟩ := chk_some h
      have hG24 : (mset M 65 ((59 + (9 * v1)) + v7) (v2 + 1)) a0 i0 = M a0 i0 := (mset_at (Or.inl (show a0 ≠ 65 from by omega))).trans hG15
      obtain ⟨hc25, h⟩ := chk_some h
      exact (hk95 v1 v2 v4 (v6 + 0) ((v7 + 1) % ((mset M 65 ((59 + (9 * v1)) + v7) (v2 + 1)) 65 0)) t0 (mset M 65 ((59 + (9 * v1)) + v7) (v2 + 1)) h).trans hG24
theorem cw_X10_setRange_95 {res : Int × Mem} {F : Nat} (a0 : Nat) (i0 : Int) (ha : (a0 ≠ 64 ∨ i0 ≠ 2) ∧ (a0 ≠ 64 ∨ i0 ≠ 3) ∧ a0 ≠ 65 ∧ a0 ≠ 66) : ∀ (fu : Nat) (v1 : Int) (v2 : Int) (v4 : Int) (v6 : Int) (v7 : Int) (v8 : Int) (M : Mem), f_X10_setRange_95 F fu v1 v2 v4 v6 v7 v8 M = some res → res.2 a0 i0 = M a0 i0 := by
  intro fu
  induction fu with
  | zero => intro v1 v2 v4 v6 v7 v8 M h; exact nomatch (show (none : Option (Int × Mem)) = some res from h)
  | succ fu ih =>
    intro v1 v2 v4 v6 v7 v8 M h
    have hG : M a0 i0 = M a0 i0 := rfl
    rw [f_X10_setRange_95] at h
    obtain ⟨⟨hp_v4, hp_v7, hp_v8⟩, h⟩ := chk_some h
    by_cases hc10 : v8 = 0
    · replace h := ite_t hc10 h
      cases h
      exact hG
    · replace h := ite_f hc10 h
      by_cases hc11 : v7 = v4
      · replace h := ite_t hc11 h
        exact (cw_X10_setRange_112 a0 i0 ha ih v1 v2 v4 v6 v7 0 M h).trans hG
      · replace h := ite_f hc11 h
        exact (cw_X10_setRange_112 a0 i0 ha ih v1 v2 v4 v6 v7 1 M h).trans hG
theorem cw_X10_setRange_43 {res : Int × Mem} {F : Nat} (a0 : Nat) (i0 : Int) (ha : (a0 ≠ 64 ∨ i0 ≠ 2) ∧ (a0 ≠ 64 ∨ i0 ≠ 3) ∧ a0 ≠ 65 ∧ a0 ≠ 66) : ∀ (v1 : Int) (v2 : Int) (v3 : Int) (v4 : Int) (t0 : Int) (M : Mem), f_X10_setRange_43 F v1 v2 v3 v4 t0 M = some res → res.2 a0 i0 = M a0 i0 := by
  intro v1 v2 v3 v4 t0 M h
  have hG : M a0 i0 = M a0 i0 := rfl
  rw [f_X10_setRange_43] at h
  obtain ⟨⟨hp_v2, hp_t0⟩, h⟩ := chk_some h
  rcases (Decidable.em (t0 = 0)).symm with hc4 | hc4
  · replace h := ite_f hc4 h
    by_cases hc5 : v2 = (-1)
    · replace h := ite_t hc5 h
      obtain ⟨q6, h6, h⟩ := ob_some h
      have hG6 := (cg_X10_refused h6 a0 i0 (by omega)).trans hG
      obtain ⟨hc7, h⟩ := chk_some h
      by_cases hc8 : q6.1 = 0
      · replace h := ite_t hc8 h
        obtain ⟨q9, h9, h⟩ := ob_some h
        have hG9 := (cg_X10_saves h9 a0 i0 (by omega)).trans hG6
        exact (cw_X10_setRange_95 a0 i0 ha F v1 v2 v4 0 v3 1 q9 h).trans hG9
      · replace h := ite_f hc8 h
        cases h
        exact hG6
    · replace h := ite_f hc5 h
      obtain ⟨q26, h26, h⟩ := ob_some h
      have hG26 := hG
      obtain ⟨hc27, h⟩ := chk_some h
      by_cases hc28 : q26 = 0
      · replace h := ite_t hc28 h
        obtain ⟨q29, h29, h⟩ := ob_some h
        have hG29 := (cg_X10_refused h29 a0 i0 (by omega)).trans hG26
        obtain ⟨hc30, h⟩ := chk_some h
        by_cases hc31 : q29.1 = 0
        · replace h := ite_t hc31 h
          obtain ⟨q32, h32, h⟩ := ob_some h
          have hG32 := (cg_X10_saves h32 a0 i0 (by omega)).trans hG29
          exact (cw_X10_setRange_95 a0 i0 ha F v1 v2 v4 0 v3 1 q32 h).trans hG32
        · replace h := ite_f hc31 h
          cases h
          exact hG29
      · replace h := ite_f hc28 h
        obtain ⟨q33, h33, h⟩ := ob_some h
        have hG33 := (cg_X10_refused h33 a0 i0 (by omega)).trans hG26
        obtain ⟨hc34, h⟩ := chk_some h
        by_cases hc35 : q33.1 = 0
        · replace h := ite_t hc35 h
          obtain ⟨q36, h36, h⟩ := ob_some h
          have hG36 := (cg_X10_saves h36 a0 i0 (by omega)).trans hG33
          exact (cw_X10_setRange_95 a0 i0 ha F v1 v2 v4 0 v3 1 q36 h).trans hG36
        · replace h := ite_f hc35 h
          cases h
          exact hG33
  · replace h := ite_t hc4 h
    obtain ⟨q37, h37, h⟩ := ob_some h
    have hG37 := (cg_X10_refused h37 a0 i0 (by omega)).trans hG
    obtain ⟨hc38, h⟩ := chk_some h
    by_cases hc39 : q37.1 = 0
    · replace h := ite_t hc39 h
      obtain ⟨q40, h40, h⟩ := ob_some h
      have hG40 := (cg_X10_saves h40 a0 i0 (by omega)).trans hG37
      exact (cw_X10_setRange_95 a0 i0 ha F v1 v2 v4 0 v3 1 q40 h).trans hG40
    · replace h := ite_f hc39 h
      cases h
      exact hG37
theorem cg_X10_setRange {F : Nat} {v1 : Int} {v2 : Int} {v3 : Int} {v4 : Int} {M : Mem} {res : Int × Mem} (h : f_X10_setRange F v1 v2 v3 v4 M = some res) (a0 : Nat) (i0 : Int) (ha : (a0 ≠ 64 ∨ i0 ≠ 2) ∧ (a0 ≠ 64 ∨ i0 ≠ 3) ∧ a0 ≠ 65 ∧ a0 ≠ 66) : res.2 a0 i0 = M a0 i0 := by
  have hG : M a0 i0 = M a0 i0 := rfl
  rw [f_X10_setRange] at h
  obtain ⟨hp_v2, h⟩ := chk_some h
  obtain ⟨q1, h1, h⟩ := ob_some h
  have hG1 := hG
  obtain ⟨hc2, h⟩ := chk_some h
  by_cases hc3 : q1 = 0
  · replace h := ite_t hc3 h
    exact (cw_X10_setRange_43 a0 i0 ha v1 v2 v3 v4 0 M h).trans hG1
  · replace h := ite_f hc3 h
    by_cases hc41 : v2 = (-1)
    · replace h := ite_t hc41 h
      obtain ⟨q42, h42, h⟩ := ob_some h
      have hG42 := hG1
      obtain ⟨hc43, h⟩ := chk_some h
      by_cases hc44 : q42 = 0
      · replace h := ite_t hc44 h
        exact (cw_X10_setRange_43 a0 i0 ha v1 v2 v3 v4 0 M h).trans hG42
      · replace h := ite_f hc44 h
        obtain ⟨q45, h45, h⟩ := ob_some h
        have hG45 := hG42
        obtain ⟨hc46, h⟩ := chk_some h
        by_cases hc47 : q45 = 0
        · replace h := ite_t hc47 h
          exact (cw_X10_setRange_43 a0 i0 ha v1 v2 v3 v4 0 M h).trans hG45
        · replace h := ite_f hc47 h
          exact (cw_X10_setRange_43 a0 i0 ha v1 v2 v3 v4 1 M h).trans hG45
    · replace h := ite_f hc41 h
      obtain ⟨q48, h48, h⟩ := ob_some h
      have hG48 := hG1
      obtain ⟨hc49, h⟩ := chk_some h
      by_cases hc50 : q48 = 0
      · replace h := ite_t hc50 h
        exact (cw_X10_setRange_43 a0 i0 ha v1 v2 v3 v4 0 M h).trans hG48
      · replace h := ite_f hc50 h
        obtain ⟨q51, h51, h⟩ := ob_some h
        have hG51 := hG48
        obtain ⟨hc52, h⟩ := chk_some h
        by_cases hc53 : q51 = 0
        · replace h := ite_t hc53 h
          exact (cw_X10_setRange_43 a0 i0 ha v1 v2 v3 v4 0 M h).trans hG51
        · replace h := ite_f hc53 h
          obtain ⟨q54, h54, h⟩ := ob_some h
          have hG54 := hG51
          obtain ⟨hc55, h⟩ := chk_some h
          by_cases hc56 : q54 = 0
          · replace h := ite_t hc56 h
            exact (cw_X10_setRange_43 a0 i0 ha v1 v2 v3 v4 0 M h).trans hG54
          · replace h := ite_f hc56 h
            exact (cw_X10_setRange_43 a0 i0 ha v1 v2 v3 v4 1 M h).trans hG54
theorem cg_X10_entry {v1 : Int} {v2 : Int} {M : Mem} {res : Int × Mem} (h : f_X10_entry v1 v2 M = some res) (a0 : Nat) (i0 : Int) (ha : (a0 ≠ 64 ∨ i0 ≠ 3)) : res.2 a0 i0 = M a0 i0 := by
  have hG : M a0 i0 = M a0 i0 := rfl
  rw [f_X10_entry] at h
  obtain ⟨q1, h1, h⟩ := ob_some h
  have hG1 := hG
  obtain ⟨hc2, h⟩ := chk_some h
  by_cases hc3 : q1 = 0
  · replace h := ite_t hc3 h
    obtain ⟨q4, h4, h⟩ := ob_some h
    have hG4 := (cg_X10_refused h4 a0 i0 (by omega)).trans hG1
    obtain ⟨hc5, h⟩ := chk_some h
    by_cases hc6 : q4.1 = 0
    · replace h := ite_t hc6 h
      obtain ⟨q7, h7, h⟩ := ob_some h
      have hG7 := hG4
      cases h
      exact hG7
    · replace h := ite_f hc6 h
      cases h
      exact hG4
  · replace h := ite_f hc3 h
    obtain ⟨q8, h8, h⟩ := ob_some h
    have hG8 := hG1
    obtain ⟨hc9, h⟩ := chk_some h
    by_cases hc10 : q8 = 0
    · replace h := ite_t hc10 h
      obtain ⟨q11, h11, h⟩ := ob_some h
      have hG11 := (cg_X10_refused h11 a0 i0 (by omega)).trans hG8
      obtain ⟨hc12, h⟩ := chk_some h
      by_cases hc13 : q11.1 = 0
      · replace h := ite_t hc13 h
        obtain ⟨q14, h14, h⟩ := ob_some h
        have hG14 := hG11
        cases h
        exact hG14
      · replace h := ite_f hc13 h
        cases h
        exact hG11
    · replace h := ite_f hc10 h
      obtain ⟨q15, h15, h⟩ := ob_some h
      have hG15 := (cg_X10_refused h15 a0 i0 (by omega)).trans hG8
      obtain ⟨hc16, h⟩ := chk_some h
      by_cases hc17 : q15.1 = 0
      · replace h := ite_t hc17 h
        obtain ⟨q18, h18, h⟩ := ob_some h
        have hG18 := hG15
        cases h
        exact hG18
      · replace h := ite_f hc17 h
        cases h
        exact hG15
theorem cw_X10_runs_21 {res : Int × Mem} {F : Nat} (a0 : Nat) (i0 : Int) (ha : (a0 ≠ 64 ∨ i0 ≠ 3) ∧ (a0 ≠ 64 ∨ i0 ≠ 10) ∧ a0 ≠ 70 ∧ a0 ≠ 71) : ∀ (v1 : Int) (v2 : Int) (t0 : Int) (M : Mem), f_X10_runs_21 F v1 v2 t0 M = some res → res.2 a0 i0 = M a0 i0 := by
  intro v1 v2 t0 M h
  have hG : M a0 i0 = M a0 i0 := rfl
  rw [f_X10_runs_21] at h
  obtain ⟨hp_t0, h⟩ := chk_some h
  rcases (Decidable.em (t0 = 0)).symm with hc4 | hc4
  · replace h := ite_f hc4 h
    obtain ⟨q5, h5, h⟩ := ob_some h
    have hG5 := hG
    obtain ⟨hc6, h⟩ := chk_some h
    by_cases hc7 : q5 = 0
    · replace h := ite_t hc7 h
      obtain ⟨q8, h8, h⟩ := ob_some h
      have hG8 := (cg_X10_refused h8 a0 i0 (by omega)).trans hG5
      obtain ⟨hc9, h⟩ := chk_some h
      by_cases hc10 : q8.1 = 0
      · replace h := ite_t hc10 h
        obtain ⟨q11, h11, h⟩ := ob_some h
        have hG11 := (cg_X10_laysRing h11 a0 i0 (by omega)).trans hG8
        obtain ⟨q12, h12, h⟩ := ob_some h
        have hG12 := hG11
        cases h
        exact hG12
      · replace h := ite_f hc10 h
        cases h
        exact hG8
    · replace h := ite_f hc7 h
      obtain ⟨q13, h13, h⟩ := ob_some h
      have hG13 := (cg_X10_refused h13 a0 i0 (by omega)).trans hG5
      obtain ⟨hc14, h⟩ := chk_some h
      by_cases hc15 : q13.1 = 0
      · replace h := ite_t hc15 h
        obtain ⟨q16, h16, h⟩ := ob_some h
        have hG16 := (cg_X10_laysRing h16 a0 i0 (by omega)).trans hG13
        obtain ⟨q17, h17, h⟩ := ob_some h
        have hG17 := hG16
        cases h
        exact hG17
      · replace h := ite_f hc15 h
        cases h
        exact hG13
  · replace h := ite_t hc4 h
    obtain ⟨q18, h18, h⟩ := ob_some h
    have hG18 := (cg_X10_refused h18 a0 i0 (by omega)).trans hG
    obtain ⟨hc19, h⟩ := chk_some h
    by_cases hc20 : q18.1 = 0
    · replace h := ite_t hc20 h
      obtain ⟨q21, h21, h⟩ := ob_some h
      have hG21 := (cg_X10_laysRing h21 a0 i0 (by omega)).trans hG18
      obtain ⟨q22, h22, h⟩ := ob_some h
      have hG22 := hG21
      cases h
      exact hG22
    · replace h := ite_f hc20 h
      cases h
      exact hG18
theorem cg_X10_runs {F : Nat} {v1 : Int} {v2 : Int} {M : Mem} {res : Int × Mem} (h : f_X10_runs F v1 v2 M = some res) (a0 : Nat) (i0 : Int) (ha : (a0 ≠ 64 ∨ i0 ≠ 3) ∧ (a0 ≠ 64 ∨ i0 ≠ 10) ∧ a0 ≠ 70 ∧ a0 ≠ 71) : res.2 a0 i0 = M a0 i0 := by
  have hG : M a0 i0 = M a0 i0 := rfl
  rw [f_X10_runs] at h
  obtain ⟨q1, h1, h⟩ := ob_some h
  have hG1 := hG
  obtain ⟨hc2, h⟩ := chk_some h
  by_cases hc3 : q1 = 0
  · replace h := ite_t hc3 h
    exact (cw_X10_runs_21 a0 i0 ha v1 v2 0 M h).trans hG1
  · replace h := ite_f hc3 h
    obtain ⟨q23, h23, h⟩ := ob_some h
    have hG23 := hG1
    obtain ⟨hc24, h⟩ := chk_some h
    by_cases hc25 : q23 = 0
    · replace h := ite_t hc25 h
      exact (cw_X10_runs_21 a0 i0 ha v1 v2 0 M h).trans hG23
    · replace h := ite_f hc25 h
      exact (cw_X10_runs_21 a0 i0 ha v1 v2 1 M h).trans hG23
theorem cw_X10_runEnd_135 {res : Int × Mem} {F : Nat} (a0 : Nat) (i0 : Int) (ha : (a0 ≠ 64 ∨ i0 ≠ 3) ∧ (a0 ≠ 64 ∨ i0 ≠ 10) ∧ a0 ≠ 70 ∧ a0 ≠ 71) {k110 : Int → Int → Int → Int → Mem → Option (Int × Mem)} (hk110 : ∀ (v2 : Int) (v4 : Int) (v6 : Int) (v7 : Int) (M : Mem), k110 v2 v4 v6 v7 M = some res → res.2 a0 i0 = M a0 i0) : ∀ (v2 : Int) (v4 : Int) (v6 : Int) (v7 : Int) (M : Mem), f_X10_runEnd_135 F k110 v2 v4 v6 v7 M = some res → res.2 a0 i0 = M a0 i0 := by
  intro v2 v4 v6 v7 M h
  have hG : M a0 i0 = M a0 i0 := rfl
  rw [f_X10_runEnd_135] at h
  obtain ⟨hp_v2, h⟩ := chk_some h
  obtain ⟨hc14, h⟩ := chk_some h
  rcases (Decidable.em (M 70 v6 = v2)).symm with hc15 | hc15
  · replace h := ite_f hc15 h
    exact (hk110 v2 v4 (v6 + 1) (v7 - 0) M h).trans hG
  · replace h := ite_t hc15 h
    obtain ⟨q16, h16, h⟩ := ob_some h
    have hG16 := hG
    obtain ⟨hc17, h⟩ := chk_some h
    by_cases hc18 : q16 = 0
    · replace h := ite_t hc18 h
      exact (hk110 v2 v4 (v6 + 1) (v7 - 0) M h).trans hG16
    · replace h := ite_f hc18 h
      exact (hk110 v2 v4 (v6 + 1) (v7 - 1) M h).trans hG16
theorem cw_X10_runEnd_171 {res : Int × Mem} {F : Nat} (a0 : Nat) (i0 : Int) (ha : (a0 ≠ 64 ∨ i0 ≠ 3) ∧ (a0 ≠ 64 ∨ i0 ≠ 10) ∧ a0 ≠ 70 ∧ a0 ≠ 71) : ∀ (fu : Nat) (v2 : Int) (v4 : Int) (v6 : Int) (M : Mem), f_X10_runEnd_171 F fu v2 v4 v6 M = some res → res.2 a0 i0 = M a0 i0 := by
  intro fu
  induction fu with
  | zero => intro v2 v4 v6 M h; exact nomatch (show (none : Option (Int × Mem)) = some res from h)
  | succ fu ih =>
    intro v2 v4 v6 M h
    have hG : M a0 i0 = M a0 i0 := rfl
    rw [f_X10_runEnd_171] at h
    obtain ⟨⟨hp_v2, hp_v4⟩, h⟩ := chk_some h
    by_cases hc23 : v4 = 0
    · replace h := ite_t hc23 h
      obtain ⟨hc24, h⟩ := chk_some h
      cases h
      exact hG
    · replace h := ite_f hc23 h
      obtain ⟨hc25, h⟩ := chk_some h
      obtain ⟨hc26, h⟩ := chk_some h
      rcases (Decidable.em (M 70 ((v6 + 1) % (M 64 10)) = v2)).symm with hc27 | hc27
      · replace h := ite_f hc27 h
        obtain ⟨hc28, h⟩ := chk_some h
        cases h
        exact hG
      · replace h := ite_t hc27 h
        exact (ih v2 v4 ((v6 + 1) % (M 64 10)) M h).trans hG
theorem cw_X10_runEnd_110 {res : Int × Mem} {F : Nat} (a0 : Nat) (i0 : Int) (ha : (a0 ≠ 64 ∨ i0 ≠ 3) ∧ (a0 ≠ 64 ∨ i0 ≠ 10) ∧ a0 ≠ 70 ∧ a0 ≠ 71) : ∀ (fu : Nat) (v2 : Int) (v4 : Int) (v6 : Int) (v7 : Int) (M : Mem), f_X10_runEnd_110 F fu v2 v4 v6 v7 M = some res → res.2 a0 i0 = M a0 i0 := by
  intro fu
  induction fu with
  | zero => intro v2 v4 v6 v7 M h; exact nomatch (show (none : Option (Int × Mem)) = some res from h)
  | succ fu ih =>
    intro v2 v4 v6 v7 M h
    have hG : M a0 i0 = M a0 i0 := rfl
    rw [f_X10_runEnd_110] at h
    obtain ⟨⟨hp_v2, hp_v7⟩, h⟩ := chk_some h
    obtain ⟨hc12, h⟩ := chk_some h
    rcases (Decidable.em (M 70 v6 = v2)).symm with hc13 | hc13
    · replace h := ite_f hc13 h
      exact (cw_X10_runEnd_135 a0 i0 ha ih v2 v4 v6 v7 M h).trans hG
    · replace h := ite_t hc13 h
      obtain ⟨q19, h19, h⟩ := ob_some h
      have hG19 := hG
      obtain ⟨hc20, h⟩ := chk_some h
      by_cases hc21 : q19 = 0
      · replace h := ite_t hc21 h
        exact (cw_X10_runEnd_135 a0 i0 ha ih v2 v4 v6 v7 M h).trans hG19
      · replace h := ite_f hc21 h
        by_cases hc22 : v7 ≤ 0
        · replace h := ite_t hc22 h
          exact (cw_X10_runEnd_171 a0 i0 ha F v2 v4 v6 M h).trans hG19
        · replace h := ite_f hc22 h
          exact (cw_X10_runEnd_135 a0 i0 ha ih v2 v4 v6 v7 M h).trans hG19
theorem cw_X10_runEnd_67 {res : Int × Mem} {F : Nat} (a0 : Nat) (i0 : Int) (ha : (a0 ≠ 64 ∨ i0 ≠ 3) ∧ (a0 ≠ 64 ∨ i0 ≠ 10) ∧ a0 ≠ 70 ∧ a0 ≠ 71) : ∀ (v2 : Int) (v3 : Int) (v4 : Int) (M : Mem), f_X10_runEnd_67 F v2 v3 v4 M = some res → res.2 a0 i0 = M a0 i0 := by
  intro v2 v3 v4 M h
  have hG : M a0 i0 = M a0 i0 := rfl
  rw [f_X10_runEnd_67] at h
  obtain ⟨hp_v4, h⟩ := chk_some h
  obtain ⟨q6, h6, h⟩ := ob_some h
  have hG6 := (cg_X10_refused h6 a0 i0 (by omega)).trans hG
  obtain ⟨hc7, h⟩ := chk_some h
  by_cases hc8 : q6.1 = 0
  · replace h := ite_t hc8 h
    obtain ⟨q9, h9, h⟩ := ob_some h
    have hG9 := hG6
    obtain ⟨hc10, h⟩ := chk_some h
    by_cases hc11 : q9 = 0
    · replace h := ite_t hc11 h
      exact (cw_X10_runEnd_110 a0 i0 ha F v2 v4 0 v3 q6.2 h).trans hG9
    · replace h := ite_f hc11 h
      by_cases hc29 : v4 = 0
      · replace h := ite_t hc29 h
        cases h
        exact hG9
      · replace h := ite_f hc29 h
        obtain ⟨hc30, h⟩ := chk_some h
        cases h
        exact hG9
  · replace h := ite_f hc8 h
    cases h
    exact hG6
theorem cw_X10_runEnd_33 {res : Int × Mem} {F : Nat} (a0 : Nat) (i0 : Int) (ha : (a0 ≠ 64 ∨ i0 ≠ 3) ∧ (a0 ≠ 64 ∨ i0 ≠ 10) ∧ a0 ≠ 70 ∧ a0 ≠ 71) : ∀ (v1 : Int) (v2 : Int) (v3 : Int) (v4 : Int) (v5 : Int) (M : Mem), f_X10_runEnd_33 F v1 v2 v3 v4 v5 M = some res → res.2 a0 i0 = M a0 i0 := by
  intro v1 v2 v3 v4 v5 M h
  have hG : M a0 i0 = M a0 i0 := rfl
  rw [f_X10_runEnd_33] at h
  obtain ⟨⟨hp_v4, hp_v5⟩, h⟩ := chk_some h
  by_cases hc5 : v5 = 0
  · replace h := ite_t hc5 h
    exact (cw_X10_runEnd_67 a0 i0 ha v2 v3 v4 M h).trans hG
  · replace h := ite_f hc5 h
    obtain ⟨q31, h31, h⟩ := ob_some h
    have hG31 := hG
    obtain ⟨hc32, h⟩ := chk_some h
    by_cases hc33 : q31 = 0
    · replace h := ite_t hc33 h
      exact (cw_X10_runEnd_67 a0 i0 ha v2 v3 v4 M h).trans hG31
    · replace h := ite_f hc33 h
      obtain ⟨q34, h34, h⟩ := ob_some h
      have hG34 := hG31
      obtain ⟨q35, h35, h⟩ := ob_some h
      have hG35 := hG34
      obtain ⟨hc36, h⟩ := chk_some h
      by_cases hc37 : q35 = 0
      · replace h := ite_t hc37 h
        exact (cw_X10_runEnd_67 a0 i0 ha v2 v3 v4 M h).trans hG35
      · replace h := ite_f hc37 h
        obtain ⟨q38, h38, h⟩ := ob_some h
        have hG38 := (cg_X10_refused h38 a0 i0 (by omega)).trans hG35
        obtain ⟨hc39, h⟩ := chk_some h
        by_cases hc40 : q38.1 = 0
        · replace h := ite_t hc40 h
          obtain ⟨q41, h41, h⟩ := ob_some h
          have hG41 := hG38
          obtain ⟨hc42, h⟩ := chk_some h
          by_cases hc43 : q41 = 0
          · replace h := ite_t hc43 h
            exact (cw_X10_runEnd_110 a0 i0 ha F v2 v4 0 v3 q38.2 h).trans hG41
          · replace h := ite_f hc43 h
            by_cases hc44 : v4 = 0
            · replace h := ite_t hc44 h
              cases h
              exact hG41
            · replace h := ite_f hc44 h
              obtain ⟨hc45, h⟩ := chk_some h
              cases h
              exact hG41
        · replace h := ite_f hc40 h
          cases h
          exact hG38
theorem cg_X10_runEnd {F : Nat} {v1 : Int} {v2 : Int} {v3 : Int} {v4 : Int} {M : Mem} {res : Int × Mem} (h : f_X10_runEnd F v1 v2 v3 v4 M = some res) (a0 : Nat) (i0 : Int) (ha : (a0 ≠ 64 ∨ i0 ≠ 3) ∧ (a0 ≠ 64 ∨ i0 ≠ 10) ∧ a0 ≠ 70 ∧ a0 ≠ 71) : res.2 a0 i0 = M a0 i0 := by
  have hG : M a0 i0 = M a0 i0 := rfl
  rw [f_X10_runEnd] at h
  obtain ⟨q1, h1, h⟩ := ob_some h
  have hG1 := hG
  obtain ⟨hc2, h⟩ := chk_some h
  by_cases hc3 : q1 = 0
  · replace h := ite_t hc3 h
    exact (cw_X10_runEnd_33 a0 i0 ha v1 v2 v3 v4 0 M h).trans hG1
  · replace h := ite_f hc3 h
    obtain ⟨q46, h46, h⟩ := ob_some h
    have hG46 := hG1
    obtain ⟨hc47, h⟩ := chk_some h
    by_cases hc48 : q46 = 0
    · replace h := ite_t hc48 h
      exact (cw_X10_runEnd_33 a0 i0 ha v1 v2 v3 v4 0 M h).trans hG46
    · replace h := ite_f hc48 h
      obtain ⟨q51, h51, h⟩ := ob_some h
      have hG51 := (cg_X10_laysRing h51 a0 i0 (by omega)).trans hG46
      exact (cw_X10_runEnd_33 a0 i0 ha v1 v2 v3 v4 1 q51 h).trans hG51
theorem cg_X10_tableSize {F : Nat} {v1 : Int} {M : Mem} {res : Int × Mem} (h : f_X10_tableSize F v1 M = some res) (a0 : Nat) (i0 : Int) (ha : (a0 ≠ 64 ∨ i0 ≠ 3) ∧ (a0 ≠ 64 ∨ i0 ≠ 10) ∧ a0 ≠ 70 ∧ a0 ≠ 71) : res.2 a0 i0 = M a0 i0 := by
  have hG : M a0 i0 = M a0 i0 := rfl
  rw [f_X10_tableSize] at h
  obtain ⟨hp_v1, h⟩ := chk_some h
  by_cases hc1 : v1 = (-1)
  · replace h := ite_t hc1 h
    obtain ⟨q2, h2, h⟩ := ob_some h
    have hG2 := (cg_X10_refused h2 a0 i0 (by omega)).trans hG
    obtain ⟨hc3, h⟩ := chk_some h
    by_cases hc4 : q2.1 = 0
    · replace h := ite_t hc4 h
      rcases (Decidable.em (v1 = (-1))).symm with hc5 | hc5
      · replace h := ite_f hc5 h
        obtain ⟨q6, h6, h⟩ := ob_some h
        have hG6 := (cg_X10_laysRing h6 a0 i0 (by omega)).trans hG2
        obtain ⟨q7, h7, h⟩ := ob_some h
        have hG7 := hG6
        cases h
        exact hG7
      · replace h := ite_t hc5 h
        obtain ⟨q8, h8, h⟩ := ob_some h
        have hG8 := (cg_X10_netSize h8 a0 i0 (by omega)).trans hG2
        cases h
        exact hG8
    · replace h := ite_f hc4 h
      cases h
      exact hG2
  · replace h := ite_f hc1 h
    obtain ⟨q9, h9, h⟩ := ob_some h
    have hG9 := hG
    obtain ⟨hc10, h⟩ := chk_some h
    by_cases hc11 : q9 = 0
    · replace h := ite_t hc11 h
      obtain ⟨q12, h12, h⟩ := ob_some h
      have hG12 := (cg_X10_refused h12 a0 i0 (by omega)).trans hG9
      obtain ⟨hc13, h⟩ := chk_some h
      by_cases hc14 : q12.1 = 0
      · replace h := ite_t hc14 h
        rcases (Decidable.em (v1 = (-1))).symm with hc15 | hc15
        · replace h := ite_f hc15 h
          obtain ⟨q16, h16, h⟩ := ob_some h
          have hG16 := (cg_X10_laysRing h16 a0 i0 (by omega)).trans hG12
          obtain ⟨q17, h17, h⟩ := ob_some h
          have hG17 := hG16
          cases h
          exact hG17
        · replace h := ite_t hc15 h
          obtain ⟨q18, h18, h⟩ := ob_some h
          have hG18 := (cg_X10_netSize h18 a0 i0 (by omega)).trans hG12
          cases h
          exact hG18
      · replace h := ite_f hc14 h
        cases h
        exact hG12
    · replace h := ite_f hc11 h
      obtain ⟨q19, h19, h⟩ := ob_some h
      have hG19 := (cg_X10_refused h19 a0 i0 (by omega)).trans hG9
      obtain ⟨hc20, h⟩ := chk_some h
      by_cases hc21 : q19.1 = 0
      · replace h := ite_t hc21 h
        rcases (Decidable.em (v1 = (-1))).symm with hc22 | hc22
        · replace h := ite_f hc22 h
          obtain ⟨q23, h23, h⟩ := ob_some h
          have hG23 := (cg_X10_laysRing h23 a0 i0 (by omega)).trans hG19
          obtain ⟨q24, h24, h⟩ := ob_some h
          have hG24 := hG23
          cases h
          exact hG24
        · replace h := ite_t hc22 h
          obtain ⟨q25, h25, h⟩ := ob_some h
          have hG25 := (cg_X10_netSize h25 a0 i0 (by omega)).trans hG19
          cases h
          exact hG25
      · replace h := ite_f hc21 h
        cases h
        exact hG19
theorem cw_X10_mostRuns_4 {res : Int × Mem} {F : Nat} (a0 : Nat) (i0 : Int) (ha : (a0 ≠ 64 ∨ i0 ≠ 10) ∧ a0 ≠ 70 ∧ a0 ≠ 71) : ∀ (fu : Nat) (v1 : Int) (v2 : Int) (M : Mem), f_X10_mostRuns_4 F fu v1 v2 M = some res → res.2 a0 i0 = M a0 i0 := by
  intro fu
  induction fu with
  | zero => intro v1 v2 M h; exact nomatch (show (none : Option (Int × Mem)) = some res from h)
  | succ fu ih =>
    intro v1 v2 M h
    have hG : M a0 i0 = M a0 i0 := rfl
    rw [f_X10_mostRuns_4] at h
    obtain ⟨⟨hp_v1, hp_v2⟩, h⟩ := chk_some h
    by_cases hc1 : M 65 0 ≤ v2
    · replace h := ite_t hc1 h
      cases h
      exact hG
    · replace h := ite_f hc1 h
      obtain ⟨q2, h2, h⟩ := ob_some h
      have hG2 := (cg_X10_laysRing h2 a0 i0 (by omega)).trans hG
      obtain ⟨q3, h3, h⟩ := ob_some h
      have hG3 := hG2
      obtain ⟨hc4, h⟩ := chk_some h
      by_cases hc5 : q3 ≤ v1
      · replace h := ite_t hc5 h
        exact (ih v1 (v2 + 1) q2 h).trans hG3
      · replace h := ite_f hc5 h
        obtain ⟨q6, h6, h⟩ := ob_some h
        have hG6 := hG3
        exact (ih q6 (v2 + 1) q2 h).trans hG6
theorem cg_X10_mostRuns {F : Nat} {M : Mem} {res : Int × Mem} (h : f_X10_mostRuns F M = some res) (a0 : Nat) (i0 : Int) (ha : (a0 ≠ 64 ∨ i0 ≠ 10) ∧ a0 ≠ 70 ∧ a0 ≠ 71) : res.2 a0 i0 = M a0 i0 := by
  have hG : M a0 i0 = M a0 i0 := rfl
  rw [f_X10_mostRuns] at h
  exact (cw_X10_mostRuns_4 a0 i0 ha F 0 0 M h).trans hG
theorem cg_X10_compactness {F : Nat} {M : Mem} {res : Int × Mem} (h : f_X10_compactness F M = some res) (a0 : Nat) (i0 : Int) (ha : (a0 ≠ 64 ∨ i0 ≠ 3) ∧ (a0 ≠ 64 ∨ i0 ≠ 10) ∧ a0 ≠ 70 ∧ a0 ≠ 71) : res.2 a0 i0 = M a0 i0 := by
  have hG : M a0 i0 = M a0 i0 := rfl
  rw [f_X10_compactness] at h
  have hG1 : (mset M 64 3 0) a0 i0 = M a0 i0 := (mset_at (show a0 ≠ 64 ∨ i0 ≠ 3 from by omega)).trans hG
  obtain ⟨q2, h2, h⟩ := ob_some h
  have hG2 := (cg_X10_mostRuns h2 a0 i0 (by omega)).trans hG1
  cases h
  exact hG2
theorem cg_X10_bestSize {F : Nat} {v1 : Int} {M : Mem} {res : Int × Mem} (h : f_X10_bestSize F v1 M = some res) (a0 : Nat) (i0 : Int) (ha : (a0 ≠ 64 ∨ i0 ≠ 3) ∧ (a0 ≠ 64 ∨ i0 ≠ 10) ∧ a0 ≠ 68 ∧ a0 ≠ 70 ∧ a0 ≠ 71 ∧ a0 ≠ 72 ∧ a0 ≠ 73) : res.2 a0 i0 = M a0 i0 := by
  have hG : M a0 i0 = M a0 i0 := rfl
  rw [f_X10_bestSize] at h
  obtain ⟨q1, h1, h⟩ := ob_some h
  have hG1 := hG
  obtain ⟨hc2, h⟩ := chk_some h
  by_cases hc3 : q1 = 0
  · replace h := ite_t hc3 h
    obtain ⟨q4, h4, h⟩ := ob_some h
    have hG4 := (cg_X10_refused h4 a0 i0 (by omega)).trans hG1
    obtain ⟨hc5, h⟩ := chk_some h
    by_cases hc6 : q4.1 = 0
    · replace h := ite_t hc6 h
      obtain ⟨q7, h7, h⟩ := ob_some h
      have hG7 := (cg_X10_laysFar h7 a0 i0 (by omega)).trans hG4
      obtain ⟨q8, h8, h⟩ := ob_some h
      have hG8 := (cg_X10_laysBest h8 a0 i0 (by omega)).trans hG7
      obtain ⟨q9, h9, h⟩ := ob_some h
      have hG9 := hG8
      cases h
      exact hG9
    · replace h := ite_f hc6 h
      cases h
      exact hG4
  · replace h := ite_f hc3 h
    obtain ⟨q10, h10, h⟩ := ob_some h
    have hG10 := (cg_X10_refused h10 a0 i0 (by omega)).trans hG1
    obtain ⟨hc11, h⟩ := chk_some h
    by_cases hc12 : q10.1 = 0
    · replace h := ite_t hc12 h
      obtain ⟨q13, h13, h⟩ := ob_some h
      have hG13 := (cg_X10_laysFar h13 a0 i0 (by omega)).trans hG10
      obtain ⟨q14, h14, h⟩ := ob_some h
      have hG14 := (cg_X10_laysBest h14 a0 i0 (by omega)).trans hG13
      obtain ⟨q15, h15, h⟩ := ob_some h
      have hG15 := hG14
      cases h
      exact hG15
    · replace h := ite_f hc12 h
      cases h
      exact hG10
theorem cg_X10_check {F : Nat} {v1 : Int} {v2 : Int} {M : Mem} {res : Int × Mem} (h : f_X10_check F v1 v2 M = some res) (a0 : Nat) (i0 : Int) (ha : (a0 ≠ 64 ∨ i0 ≠ 3) ∧ a0 ≠ 68) : res.2 a0 i0 = M a0 i0 := by
  have hG : M a0 i0 = M a0 i0 := rfl
  rw [f_X10_check] at h
  obtain ⟨q1, h1, h⟩ := ob_some h
  have hG1 := hG
  obtain ⟨hc2, h⟩ := chk_some h
  by_cases hc3 : q1 = 0
  · replace h := ite_t hc3 h
    obtain ⟨q4, h4, h⟩ := ob_some h
    have hG4 := (cg_X10_refused h4 a0 i0 (by omega)).trans hG1
    obtain ⟨hc5, h⟩ := chk_some h
    by_cases hc6 : q4.1 = 0
    · replace h := ite_t hc6 h
      obtain ⟨q7, h7, h⟩ := ob_some h
      have hG7 := (cg_X10_laysFar h7 a0 i0 (by omega)).trans hG4
      obtain ⟨q8, h8, h⟩ := ob_some h
      have hG8 := hG7
      cases h
      exact hG8
    · replace h := ite_f hc6 h
      cases h
      exact hG4
  · replace h := ite_f hc3 h
    obtain ⟨q9, h9, h⟩ := ob_some h
    have hG9 := hG1
    obtain ⟨hc10, h⟩ := chk_some h
    by_cases hc11 : q9 = 0
    · replace h := ite_t hc11 h
      obtain ⟨q12, h12, h⟩ := ob_some h
      have hG12 := (cg_X10_refused h12 a0 i0 (by omega)).trans hG9
      obtain ⟨hc13, h⟩ := chk_some h
      by_cases hc14 : q12.1 = 0
      · replace h := ite_t hc14 h
        obtain ⟨q15, h15, h⟩ := ob_some h
        have hG15 := (cg_X10_laysFar h15 a0 i0 (by omega)).trans hG12
        obtain ⟨q16, h16, h⟩ := ob_some h
        have hG16 := hG15
        cases h
        exact hG16
      · replace h := ite_f hc14 h
        cases h
        exact hG12
    · replace h := ite_f hc11 h
      obtain ⟨q17, h17, h⟩ := ob_some h
      have hG17 := (cg_X10_refused h17 a0 i0 (by omega)).trans hG9
      obtain ⟨hc18, h⟩ := chk_some h
      by_cases hc19 : q17.1 = 0
      · replace h := ite_t hc19 h
        obtain ⟨q20, h20, h⟩ := ob_some h
        have hG20 := (cg_X10_laysFar h20 a0 i0 (by omega)).trans hG17
        obtain ⟨q21, h21, h⟩ := ob_some h
        have hG21 := hG20
        cases h
        exact hG21
      · replace h := ite_f hc19 h
        cases h
        exact hG17
theorem cg_X10_checked {F : Nat} {v1 : Int} {M : Mem} {res : Int × Mem} (h : f_X10_checked F v1 M = some res) (a0 : Nat) (i0 : Int) (ha : (a0 ≠ 64 ∨ i0 ≠ 3) ∧ a0 ≠ 68) : res.2 a0 i0 = M a0 i0 := by
  have hG : M a0 i0 = M a0 i0 := rfl
  rw [f_X10_checked] at h
  obtain ⟨q1, h1, h⟩ := ob_some h
  have hG1 := hG
  obtain ⟨hc2, h⟩ := chk_some h
  by_cases hc3 : q1 = 0
  · replace h := ite_t hc3 h
    obtain ⟨q4, h4, h⟩ := ob_some h
    have hG4 := (cg_X10_refused h4 a0 i0 (by omega)).trans hG1
    obtain ⟨hc5, h⟩ := chk_some h
    by_cases hc6 : q4.1 = 0
    · replace h := ite_t hc6 h
      obtain ⟨q7, h7, h⟩ := ob_some h
      have hG7 := (cg_X10_laysFar h7 a0 i0 (by omega)).trans hG4
      obtain ⟨q8, h8, h⟩ := ob_some h
      have hG8 := hG7
      cases h
      exact hG8
    · replace h := ite_f hc6 h
      cases h
      exact hG4
  · replace h := ite_f hc3 h
    obtain ⟨q9, h9, h⟩ := ob_some h
    have hG9 := (cg_X10_refused h9 a0 i0 (by omega)).trans hG1
    obtain ⟨hc10, h⟩ := chk_some h
    by_cases hc11 : q9.1 = 0
    · replace h := ite_t hc11 h
      obtain ⟨q12, h12, h⟩ := ob_some h
      have hG12 := (cg_X10_laysFar h12 a0 i0 (by omega)).trans hG9
      obtain ⟨q13, h13, h⟩ := ob_some h
      have hG13 := hG12
      cases h
      exact hG13
    · replace h := ite_f hc11 h
      cases h
      exact hG9
theorem cw_X10_goes_85 {res : Int × Mem} {F : Nat} (a0 : Nat) (i0 : Int) (ha : (a0 ≠ 64 ∨ i0 ≠ 14) ∧ (a0 ≠ 64 ∨ i0 ≠ 15) ∧ (a0 ≠ 64 ∨ i0 ≠ 16) ∧ a0 ≠ 74) {k25 : Int → Int → Int → Mem → Option (Int × Mem)} (hk25 : ∀ (v2 : Int) (v3 : Int) (v4 : Int) (M : Mem), k25 v2 v3 v4 M = some res → res.2 a0 i0 = M a0 i0) : ∀ (v2 : Int) (v3 : Int) (v4 : Int) (t0 : Int) (M : Mem), f_X10_goes_85 F k25 v2 v3 v4 t0 M = some res → res.2 a0 i0 = M a0 i0 := by
  intro v2 v3 v4 t0 M h
  have hG : M a0 i0 = M a0 i0 := rfl
  rw [f_X10_goes_85] at h
  obtain ⟨hp_t0, h⟩ := chk_some h
  rcases (Decidable.em (t0 = (-1))).symm with hc13 | hc13
  · replace h := ite_f hc13 h
    obtain ⟨q14, h14, h⟩ := ob_some h
    have hG14 := hG
    have hG15 : (mset M 64 15 (bor (M 64 15) (bshl 1 t0))) a0 i0 = M a0 i0 := (mset_at (show a0 ≠ 64 ∨ i0 ≠ 15 from by omega)).trans hG14
    obtain ⟨q16, h16, h⟩ := ob_some h
    have hG16 := hG15
    obtain ⟨hc17, h⟩ := chk_some h
    have hG18 : (mset (mset M 64 15 (bor (M 64 15) (bshl 1 t0))) 64 16 (((mset M 64 15 (bor (M 64 15) (bshl 1 t0))) 64 16) + q16)) a0 i0 = M a0 i0 := (mset_at (show a0 ≠ 64 ∨ i0 ≠ 16 from by omega)).trans hG16
    obtain ⟨hc19, h⟩ := chk_some h
    obtain ⟨hc20, h⟩ := chk_some h
    have hG21 : (mset (mset (mset M 64 15 (bor (M 64 15) (bshl 1 t0))) 64 16 (((mset M 64 15 (bor (M 64 15) (bshl 1 t0))) 64 16) + q16)) 74 ((mset (mset M 64 15 (bor (M 64 15) (bshl 1 t0))) 64 16 (((mset M 64 15 (bor (M 64 15) (bshl 1 t0))) 64 16) + q16)) 64 14) q14) a0 i0 = M a0 i0 := (mset_at (Or.inl (show a0 ≠ 74 from by omega))).trans hG18
    obtain ⟨hc22, h⟩ := chk_some h
    have hG23 : (mset (mset (mset (mset M 64 15 (bor (M 64 15) (bshl 1 t0))) 64 16 (((mset M 64 15 (bor (M 64 15) (bshl 1 t0))) 64 16) + q16)) 74 ((mset (mset M 64 15 (bor (M 64 15) (bshl 1 t0))) 64 16 (((mset M 64 15 (bor (M 64 15) (bshl 1 t0))) 64 16) + q16)) 64 14) q14) 64 14 (((mset (mset (mset M 64 15 (bor (M 64 15) (bshl 1 t0))) 64 16 (((mset M 64 15 (bor (M 64 15) (bshl 1 t0))) 64 16) + q16)) 74 ((mset (mset M 64 15 (bor (M 64 15) (bshl 1 t0))) 64 16 (((mset M 64 15 (bor (M 64 15) (bshl 1 t0))) 64 16) + q16)) 64 14) q14) 64 14) + 1)) a0 i0 = M a0 i0 := (mset_at (show a0 ≠ 64 ∨ i0 ≠ 14 from by omega)).trans hG21
    exact (hk25 v2 v3 q14 (mset (mset (mset (mset M 64 15 (bor (M 64 15) (bshl 1 t0))) 64 16 (((mset M 64 15 (bor (M 64 15) (bshl 1 t0))) 64 16) + q16)) 74 ((mset (mset M 64 15 (bor (M 64 15) (bshl 1 t0))) 64 16 (((mset M 64 15 (bor (M 64 15) (bshl 1 t0))) 64 16) + q16)) 64 14) q14) 64 14 (((mset (mset (mset M 64 15 (bor (M 64 15) (bshl 1 t0))) 64 16 (((mset M 64 15 (bor (M 64 15) (bshl 1 t0))) 64 16) + q16)) 74 ((mset (mset M 64 15 (bor (M 64 15) (bshl 1 t0))) 64 16 (((mset M 64 15 (bor (M 64 15) (bshl 1 t0))) 64 16) + q16)) 64 14) q14) 64 14) + 1)) h).trans hG23
  · replace h := ite_t hc13 h
    cases h
    exact hG
theorem cw_X10_goes_25 {res : Int × Mem} {F : Nat} (a0 : Nat) (i0 : Int) (ha : (a0 ≠ 64 ∨ i0 ≠ 14) ∧ (a0 ≠ 64 ∨ i0 ≠ 15) ∧ (a0 ≠ 64 ∨ i0 ≠ 16) ∧ a0 ≠ 74) : ∀ (fu : Nat) (v2 : Int) (v3 : Int) (v4 : Int) (M : Mem), f_X10_goes_25 F fu v2 v3 v4 M = some res → res.2 a0 i0 = M a0 i0 := by
  intro fu
  induction fu with
  | zero => intro v2 v3 v4 M h; exact nomatch (show (none : Option (Int × Mem)) = some res from h)
  | succ fu ih =>
    intro v2 v3 v4 M h
    have hG : M a0 i0 = M a0 i0 := rfl
    rw [f_X10_goes_25] at h
    obtain ⟨⟨hp_v2, hp_v3, hp_v4⟩, h⟩ := chk_some h
    by_cases hc5 : v4 = v2
    · replace h := ite_t hc5 h
      rcases (Decidable.em (v4 = v2)).symm with hc6 | hc6
      · replace h := ite_f hc6 h
        cases h
        exact hG
      · replace h := ite_t hc6 h
        cases h
        exact hG
    · replace h := ite_f hc5 h
      by_cases hc7 : M 65 0 < M 64 14
      · replace h := ite_t hc7 h
        rcases (Decidable.em (v4 = v2)).symm with hc8 | hc8
        · replace h := ite_f hc8 h
          cases h
          exact hG
        · replace h := ite_t hc8 h
          cases h
          exact hG
      · replace h := ite_f hc7 h
        obtain ⟨hc9, h⟩ := chk_some h
        obtain ⟨q10, h10, h⟩ := ob_some h
        have hG10 := hG
        obtain ⟨hc11, h⟩ := chk_some h
        by_cases hc12 : q10 = (-1)
        · replace h := ite_t hc12 h
          exact (cw_X10_goes_85 a0 i0 ha ih v2 v3 v4 q10 M h).trans hG10
        · replace h := ite_f hc12 h
          rcases (Decidable.em (q10 = v3)).symm with hc24 | hc24
          · replace h := ite_f hc24 h
            exact (cw_X10_goes_85 a0 i0 ha ih v2 v3 v4 q10 M h).trans hG10
          · replace h := ite_t hc24 h
            obtain ⟨q25, h25, h⟩ := ob_some h
            have hG25 := hG10
            exact (cw_X10_goes_85 a0 i0 ha ih v2 v3 v4 q25 M h).trans hG25
theorem cg_X10_goes {F : Nat} {v1 : Int} {v2 : Int} {v3 : Int} {M : Mem} {res : Int × Mem} (h : f_X10_goes F v1 v2 v3 M = some res) (a0 : Nat) (i0 : Int) (ha : (a0 ≠ 64 ∨ i0 ≠ 14) ∧ (a0 ≠ 64 ∨ i0 ≠ 15) ∧ (a0 ≠ 64 ∨ i0 ≠ 16) ∧ a0 ≠ 74) : res.2 a0 i0 = M a0 i0 := by
  have hG : M a0 i0 = M a0 i0 := rfl
  rw [f_X10_goes] at h
  obtain ⟨hp_v1, h⟩ := chk_some h
  have hG1 : (mset M 74 0 v1) a0 i0 = M a0 i0 := (mset_at (Or.inl (show a0 ≠ 74 from by omega))).trans hG
  have hG2 : (mset (mset M 74 0 v1) 64 14 1) a0 i0 = M a0 i0 := (mset_at (show a0 ≠ 64 ∨ i0 ≠ 14 from by omega)).trans hG1
  have hG3 : (mset (mset (mset M 74 0 v1) 64 14 1) 64 15 0) a0 i0 = M a0 i0 := (mset_at (show a0 ≠ 64 ∨ i0 ≠ 15 from by omega)).trans hG2
  have hG4 : (mset (mset (mset (mset M 74 0 v1) 64 14 1) 64 15 0) 64 16 0) a0 i0 = M a0 i0 := (mset_at (show a0 ≠ 64 ∨ i0 ≠ 16 from by omega)).trans hG3
  exact (cw_X10_goes_25 a0 i0 ha F v2 v3 v1 (mset (mset (mset (mset M 74 0 v1) 64 14 1) 64 15 0) 64 16 0) h).trans hG4
theorem cg_X10_send {F : Nat} {v1 : Int} {v2 : Int} {M : Mem} {res : Int × Mem} (h : f_X10_send F v1 v2 M = some res) (a0 : Nat) (i0 : Int) (ha : (a0 ≠ 64 ∨ i0 ≠ 3) ∧ (a0 ≠ 64 ∨ i0 ≠ 14) ∧ (a0 ≠ 64 ∨ i0 ≠ 15) ∧ (a0 ≠ 64 ∨ i0 ≠ 16) ∧ a0 ≠ 74) : res.2 a0 i0 = M a0 i0 := by
  have hG : M a0 i0 = M a0 i0 := rfl
  rw [f_X10_send] at h
  obtain ⟨q1, h1, h⟩ := ob_some h
  have hG1 := hG
  obtain ⟨hc2, h⟩ := chk_some h
  by_cases hc3 : q1 = 0
  · replace h := ite_t hc3 h
    obtain ⟨q4, h4, h⟩ := ob_some h
    have hG4 := (cg_X10_refused h4 a0 i0 (by omega)).trans hG1
    obtain ⟨hc5, h⟩ := chk_some h
    by_cases hc6 : q4.1 = 0
    · replace h := ite_t hc6 h
      obtain ⟨q7, h7, h⟩ := ob_some h
      have hG7 := (cg_X10_goes h7 a0 i0 (by omega)).trans hG4
      obtain ⟨hc8, h⟩ := chk_some h
      by_cases hc9 : q7.1 = 0
      · replace h := ite_t hc9 h
        cases h
        exact hG7
      · replace h := ite_f hc9 h
        cases h
        exact hG7
    · replace h := ite_f hc6 h
      cases h
      exact hG4
  · replace h := ite_f hc3 h
    obtain ⟨q10, h10, h⟩ := ob_some h
    have hG10 := hG1
    obtain ⟨hc11, h⟩ := chk_some h
    by_cases hc12 : q10 = 0
    · replace h := ite_t hc12 h
      obtain ⟨q13, h13, h⟩ := ob_some h
      have hG13 := (cg_X10_refused h13 a0 i0 (by omega)).trans hG10
      obtain ⟨hc14, h⟩ := chk_some h
      by_cases hc15 : q13.1 = 0
      · replace h := ite_t hc15 h
        obtain ⟨q16, h16, h⟩ := ob_some h
        have hG16 := (cg_X10_goes h16 a0 i0 (by omega)).trans hG13
        obtain ⟨hc17, h⟩ := chk_some h
        by_cases hc18 : q16.1 = 0
        · replace h := ite_t hc18 h
          cases h
          exact hG16
        · replace h := ite_f hc18 h
          cases h
          exact hG16
      · replace h := ite_f hc15 h
        cases h
        exact hG13
    · replace h := ite_f hc12 h
      obtain ⟨q19, h19, h⟩ := ob_some h
      have hG19 := (cg_X10_refused h19 a0 i0 (by omega)).trans hG10
      obtain ⟨hc20, h⟩ := chk_some h
      by_cases hc21 : q19.1 = 0
      · replace h := ite_t hc21 h
        obtain ⟨q22, h22, h⟩ := ob_some h
        have hG22 := (cg_X10_goes h22 a0 i0 (by omega)).trans hG19
        obtain ⟨hc23, h⟩ := chk_some h
        by_cases hc24 : q22.1 = 0
        · replace h := ite_t hc24 h
          cases h
          exact hG22
        · replace h := ite_f hc24 h
          cases h
          exact hG22
      · replace h := ite_f hc21 h
        cases h
        exact hG19
theorem cw_X10_wayNode_30 {res : Int × Mem} {F : Nat} (a0 : Nat) (i0 : Int) (ha : (a0 ≠ 64 ∨ i0 ≠ 3) ∧ (a0 ≠ 64 ∨ i0 ≠ 14) ∧ (a0 ≠ 64 ∨ i0 ≠ 15) ∧ (a0 ≠ 64 ∨ i0 ≠ 16) ∧ a0 ≠ 74) : ∀ (v1 : Int) (v2 : Int) (v3 : Int) (t1 : Int) (M : Mem), f_X10_wayNode_30 F v1 v2 v3 t1 M = some res → res.2 a0 i0 = M a0 i0 := by
  intro v1 v2 v3 t1 M h
  have hG : M a0 i0 = M a0 i0 := rfl
  rw [f_X10_wayNode_30] at h
  obtain ⟨hp_v3, h⟩ := chk_some h
  obtain ⟨q4, h4, h⟩ := ob_some h
  have hG4 := (cg_X10_refused h4 a0 i0 (by omega)).trans hG
  obtain ⟨hc5, h⟩ := chk_some h
  by_cases hc6 : q4.1 = 0
  · replace h := ite_t hc6 h
    obtain ⟨q7, h7, h⟩ := ob_some h
    have hG7 := (cg_X10_goes h7 a0 i0 (by omega)).trans hG4
    by_cases hc8 : q7.2 64 14 ≤ v3
    · replace h := ite_t hc8 h
      cases h
      exact hG7
    · replace h := ite_f hc8 h
      obtain ⟨hc9, h⟩ := chk_some h
      cases h
      exact hG7
  · replace h := ite_f hc6 h
    cases h
    exact hG4
theorem cg_X10_wayNode {F : Nat} {v1 : Int} {v2 : Int} {v3 : Int} {M : Mem} {res : Int × Mem} (h : f_X10_wayNode F v1 v2 v3 M = some res) (a0 : Nat) (i0 : Int) (ha : (a0 ≠ 64 ∨ i0 ≠ 3) ∧ (a0 ≠ 64 ∨ i0 ≠ 14) ∧ (a0 ≠ 64 ∨ i0 ≠ 15) ∧ (a0 ≠ 64 ∨ i0 ≠ 16) ∧ a0 ≠ 74) : res.2 a0 i0 = M a0 i0 := by
  have hG : M a0 i0 = M a0 i0 := rfl
  rw [f_X10_wayNode] at h
  obtain ⟨hp_v3, h⟩ := chk_some h
  obtain ⟨q1, h1, h⟩ := ob_some h
  have hG1 := hG
  obtain ⟨hc2, h⟩ := chk_some h
  by_cases hc3 : q1 = 0
  · replace h := ite_t hc3 h
    exact (cw_X10_wayNode_30 a0 i0 ha v1 v2 v3 1 M h).trans hG1
  · replace h := ite_f hc3 h
    obtain ⟨q10, h10, h⟩ := ob_some h
    have hG10 := hG1
    obtain ⟨hc11, h⟩ := chk_some h
    rcases (Decidable.em (q10 = 0)).symm with hc12 | hc12
    · replace h := ite_f hc12 h
      by_cases hc13 : 0 ≤ v3
      · replace h := ite_t hc13 h
        exact (cw_X10_wayNode_30 a0 i0 ha v1 v2 v3 0 M h).trans hG10
      · replace h := ite_f hc13 h
        exact (cw_X10_wayNode_30 a0 i0 ha v1 v2 v3 2 M h).trans hG10
    · replace h := ite_t hc12 h
      exact (cw_X10_wayNode_30 a0 i0 ha v1 v2 v3 1 M h).trans hG10
