theorem cw_X10_arrivals_16 {res : Int × Mem} {F : Nat} (a0 : Nat) (i0 : Int) (ha : (a0 ≠ 64 ∨ i0 ≠ 14) ∧ (a0 ≠ 64 ∨ i0 ≠ 15) ∧ (a0 ≠ 64 ∨ i0 ≠ 16) ∧ a0 ≠ 74) {k4 : Int → Int → Mem → Option (Int × Mem)} (hk4 : ∀ (v1 : Int) (v2 : Int) (M : Mem), k4 v1 v2 M = some res → res.2 a0 i0 = M a0 i0) : ∀ (fu : Nat) (v1 : Int) (v2 : Int) (v3 : Int) (M : Mem), f_X10_arrivals_16 F k4 fu v1 v2 v3 M = some res → res.2 a0 i0 = M a0 i0 := by
  intro fu
  induction fu with
  | zero => intro v1 v2 v3 M h; exact nomatch (show (none : Option (Int × Mem)) = some res from h)
  | succ fu ih =>
    intro v1 v2 v3 M h
    have hG : M a0 i0 = M a0 i0 := rfl
    rw [f_X10_arrivals_16] at h
    obtain ⟨⟨hp_v2, hp_v3⟩, h⟩ := chk_some h
    by_cases hc2 : M 65 0 ≤ v3
    · replace h := ite_t hc2 h
      exact (hk4 v1 (v2 + 1) M h).trans hG
    · replace h := ite_f hc2 h
      by_cases hc3 : v2 = v3
      · replace h := ite_t hc3 h
        exact (ih (v1 + 0) v2 (v3 + 1) M h).trans hG
      · replace h := ite_f hc3 h
        obtain ⟨q4, h4, h⟩ := ob_some h
        have hG4 := (cg_X10_goes h4 a0 i0 (by omega)).trans hG
        obtain ⟨hc5, h⟩ := chk_some h
        by_cases hc6 : q4.1 = 0
        · replace h := ite_t hc6 h
          exact (ih (v1 + 0) v2 (v3 + 1) q4.2 h).trans hG4
        · replace h := ite_f hc6 h
          exact (ih (v1 + 1) v2 (v3 + 1) q4.2 h).trans hG4
theorem cw_X10_arrivals_4 {res : Int × Mem} {F : Nat} (a0 : Nat) (i0 : Int) (ha : (a0 ≠ 64 ∨ i0 ≠ 14) ∧ (a0 ≠ 64 ∨ i0 ≠ 15) ∧ (a0 ≠ 64 ∨ i0 ≠ 16) ∧ a0 ≠ 74) : ∀ (fu : Nat) (v1 : Int) (v2 : Int) (M : Mem), f_X10_arrivals_4 F fu v1 v2 M = some res → res.2 a0 i0 = M a0 i0 := by
  intro fu
  induction fu with
  | zero => intro v1 v2 M h; exact nomatch (show (none : Option (Int × Mem)) = some res from h)
  | succ fu ih =>
    intro v1 v2 M h
    have hG : M a0 i0 = M a0 i0 := rfl
    rw [f_X10_arrivals_4] at h
    obtain ⟨hp_v2, h⟩ := chk_some h
    by_cases hc1 : M 65 0 ≤ v2
    · replace h := ite_t hc1 h
      cases h
      exact hG
    · replace h := ite_f hc1 h
      exact (cw_X10_arrivals_16 a0 i0 ha ih F v1 v2 0 M h).trans hG
theorem cg_X10_arrivals {F : Nat} {M : Mem} {res : Int × Mem} (h : f_X10_arrivals F M = some res) (a0 : Nat) (i0 : Int) (ha : (a0 ≠ 64 ∨ i0 ≠ 14) ∧ (a0 ≠ 64 ∨ i0 ≠ 15) ∧ (a0 ≠ 64 ∨ i0 ≠ 16) ∧ a0 ≠ 74) : res.2 a0 i0 = M a0 i0 := by
  have hG : M a0 i0 = M a0 i0 := rfl
  rw [f_X10_arrivals] at h
  exact (cw_X10_arrivals_4 a0 i0 ha F 0 0 M h).trans hG
theorem cg_X10_arriving {F : Nat} {M : Mem} {res : Int × Mem} (h : f_X10_arriving F M = some res) (a0 : Nat) (i0 : Int) (ha : (a0 ≠ 64 ∨ i0 ≠ 3) ∧ (a0 ≠ 64 ∨ i0 ≠ 14) ∧ (a0 ≠ 64 ∨ i0 ≠ 15) ∧ (a0 ≠ 64 ∨ i0 ≠ 16) ∧ a0 ≠ 74) : res.2 a0 i0 = M a0 i0 := by
  have hG : M a0 i0 = M a0 i0 := rfl
  rw [f_X10_arriving] at h
  have hG1 : (mset M 64 3 0) a0 i0 = M a0 i0 := (mset_at (show a0 ≠ 64 ∨ i0 ≠ 3 from by omega)).trans hG
  obtain ⟨q2, h2, h⟩ := ob_some h
  have hG2 := (cg_X10_arrivals h2 a0 i0 (by omega)).trans hG1
  cases h
  exact hG2
theorem cw_X10_stretch_26 {res : UInt64 × Mem} {F : Nat} (a0 : Nat) (i0 : Int) (ha : (a0 ≠ 64 ∨ i0 ≠ 3) ∧ (a0 ≠ 64 ∨ i0 ≠ 14) ∧ (a0 ≠ 64 ∨ i0 ≠ 15) ∧ (a0 ≠ 64 ∨ i0 ≠ 16) ∧ a0 ≠ 68 ∧ a0 ≠ 74) {k13 : UInt64 → Int → Mem → Option (UInt64 × Mem)} (hk13 : ∀ (v1 : UInt64) (v3 : Int) (M : Mem), k13 v1 v3 M = some res → res.2 a0 i0 = M a0 i0) : ∀ (fu : Nat) (v1 : UInt64) (v3 : Int) (v4 : Int) (M : Mem), f_X10_stretch_26 F k13 fu v1 v3 v4 M = some res → res.2 a0 i0 = M a0 i0 := by
  intro fu
  induction fu with
  | zero => intro v1 v3 v4 M h; exact nomatch (show (none : Option (UInt64 × Mem)) = some res from h)
  | succ fu ih =>
    intro v1 v3 v4 M h
    have hG : M a0 i0 = M a0 i0 := rfl
    rw [f_X10_stretch_26] at h
    obtain ⟨⟨hp_v3, hp_v4⟩, h⟩ := chk_some h
    by_cases hc4 : M 65 0 ≤ v4
    · replace h := ite_t hc4 h
      exact (hk13 v1 (v3 + 1) M h).trans hG
    · replace h := ite_f hc4 h
      by_cases hc5 : v3 = v4
      · replace h := ite_t hc5 h
        exact (ih v1 v3 (v4 + 1) M h).trans hG
      · replace h := ite_f hc5 h
        obtain ⟨q6, h6, h⟩ := ob_some h
        have hG6 := (cg_X10_goes h6 a0 i0 (by omega)).trans hG
        obtain ⟨hc7, h⟩ := chk_some h
        by_cases hc8 : q6.1 = 0
        · replace h := ite_t hc8 h
          exact (ih v1 v3 (v4 + 1) q6.2 h).trans hG6
        · replace h := ite_f hc8 h
          obtain ⟨q9, h9, h⟩ := ob_some h
          have hG9 := hG6
          obtain ⟨hc10, h⟩ := chk_some h
          by_cases hc11 : (Op.cmpValue (FP.dcmp (FP.ddiv (FP.i2d (iI (q6.2 64 16))) (FP.i2d (iI q9))) v1) .l).toInt ≤ 0
          · replace h := ite_t hc11 h
            exact (ih v1 v3 (v4 + 1) q6.2 h).trans hG9
          · replace h := ite_f hc11 h
            exact (ih (FP.ddiv (FP.i2d (iI (q6.2 64 16))) (FP.i2d (iI q9))) v3 (v4 + 1) q6.2 h).trans hG9
theorem cw_X10_stretch_13 {res : UInt64 × Mem} {F : Nat} (a0 : Nat) (i0 : Int) (ha : (a0 ≠ 64 ∨ i0 ≠ 3) ∧ (a0 ≠ 64 ∨ i0 ≠ 14) ∧ (a0 ≠ 64 ∨ i0 ≠ 15) ∧ (a0 ≠ 64 ∨ i0 ≠ 16) ∧ a0 ≠ 68 ∧ a0 ≠ 74) : ∀ (fu : Nat) (v1 : UInt64) (v3 : Int) (M : Mem), f_X10_stretch_13 F fu v1 v3 M = some res → res.2 a0 i0 = M a0 i0 := by
  intro fu
  induction fu with
  | zero => intro v1 v3 M h; exact nomatch (show (none : Option (UInt64 × Mem)) = some res from h)
  | succ fu ih =>
    intro v1 v3 M h
    have hG : M a0 i0 = M a0 i0 := rfl
    rw [f_X10_stretch_13] at h
    obtain ⟨hp_v3, h⟩ := chk_some h
    by_cases hc3 : M 65 0 ≤ v3
    · replace h := ite_t hc3 h
      cases h
      exact hG
    · replace h := ite_f hc3 h
      exact (cw_X10_stretch_26 a0 i0 ha ih F v1 v3 0 M h).trans hG
theorem cg_X10_stretch {F : Nat} {M : Mem} {res : UInt64 × Mem} (h : f_X10_stretch F M = some res) (a0 : Nat) (i0 : Int) (ha : (a0 ≠ 64 ∨ i0 ≠ 3) ∧ (a0 ≠ 64 ∨ i0 ≠ 14) ∧ (a0 ≠ 64 ∨ i0 ≠ 15) ∧ (a0 ≠ 64 ∨ i0 ≠ 16) ∧ a0 ≠ 68 ∧ a0 ≠ 74) : res.2 a0 i0 = M a0 i0 := by
  have hG : M a0 i0 = M a0 i0 := rfl
  rw [f_X10_stretch] at h
  have hG1 : (mset M 64 3 0) a0 i0 = M a0 i0 := (mset_at (show a0 ≠ 64 ∨ i0 ≠ 3 from by omega)).trans hG
  obtain ⟨q2, h2, h⟩ := ob_some h
  have hG2 := (cg_X10_laysFar h2 a0 i0 (by omega)).trans hG1
  exact (cw_X10_stretch_13 a0 i0 ha F 0 0 q2 h).trans hG2
theorem cw_X10_load_39 {res : Int × Mem} {F : Nat} (a0 : Nat) (i0 : Int) (ha : (a0 ≠ 64 ∨ i0 ≠ 3) ∧ (a0 ≠ 64 ∨ i0 ≠ 14) ∧ (a0 ≠ 64 ∨ i0 ≠ 15) ∧ (a0 ≠ 64 ∨ i0 ≠ 16) ∧ a0 ≠ 74) {k26 : Int → Int → Int → Mem → Option (Int × Mem)} (hk26 : ∀ (v1 : Int) (v2 : Int) (v3 : Int) (M : Mem), k26 v1 v2 v3 M = some res → res.2 a0 i0 = M a0 i0) : ∀ (fu : Nat) (v1 : Int) (v2 : Int) (v3 : Int) (v4 : Int) (M : Mem), f_X10_load_39 F k26 fu v1 v2 v3 v4 M = some res → res.2 a0 i0 = M a0 i0 := by
  intro fu
  induction fu with
  | zero => intro v1 v2 v3 v4 M h; exact nomatch (show (none : Option (Int × Mem)) = some res from h)
  | succ fu ih =>
    intro v1 v2 v3 v4 M h
    have hG : M a0 i0 = M a0 i0 := rfl
    rw [f_X10_load_39] at h
    obtain ⟨⟨hp_v3, hp_v4⟩, h⟩ := chk_some h
    by_cases hc8 : M 65 0 ≤ v4
    · replace h := ite_t hc8 h
      exact (hk26 v1 v2 (v3 + 1) M h).trans hG
    · replace h := ite_f hc8 h
      by_cases hc9 : v3 = v4
      · replace h := ite_t hc9 h
        exact (ih v1 (v2 + 0) v3 (v4 + 1) M h).trans hG
      · replace h := ite_f hc9 h
        obtain ⟨q10, h10, h⟩ := ob_some h
        have hG10 := (cg_X10_goes h10 a0 i0 (by omega)).trans hG
        obtain ⟨hc11, h⟩ := chk_some h
        by_cases hc12 : q10.1 = 0
        · replace h := ite_t hc12 h
          exact (ih v1 (v2 + 0) v3 (v4 + 1) q10.2 h).trans hG10
        · replace h := ite_f hc12 h
          obtain ⟨q13, h13, h⟩ := ob_some h
          have hG13 := hG10
          obtain ⟨hc14, h⟩ := chk_some h
          by_cases hc15 : q13 = 0
          · replace h := ite_t hc15 h
            exact (ih v1 (v2 + 0) v3 (v4 + 1) q10.2 h).trans hG13
          · replace h := ite_f hc15 h
            exact (ih v1 (v2 + 1) v3 (v4 + 1) q10.2 h).trans hG13
theorem cw_X10_load_26 {res : Int × Mem} {F : Nat} (a0 : Nat) (i0 : Int) (ha : (a0 ≠ 64 ∨ i0 ≠ 3) ∧ (a0 ≠ 64 ∨ i0 ≠ 14) ∧ (a0 ≠ 64 ∨ i0 ≠ 15) ∧ (a0 ≠ 64 ∨ i0 ≠ 16) ∧ a0 ≠ 74) : ∀ (fu : Nat) (v1 : Int) (v2 : Int) (v3 : Int) (M : Mem), f_X10_load_26 F fu v1 v2 v3 M = some res → res.2 a0 i0 = M a0 i0 := by
  intro fu
  induction fu with
  | zero => intro v1 v2 v3 M h; exact nomatch (show (none : Option (Int × Mem)) = some res from h)
  | succ fu ih =>
    intro v1 v2 v3 M h
    have hG : M a0 i0 = M a0 i0 := rfl
    rw [f_X10_load_26] at h
    obtain ⟨hp_v3, h⟩ := chk_some h
    by_cases hc7 : M 65 0 ≤ v3
    · replace h := ite_t hc7 h
      cases h
      exact hG
    · replace h := ite_f hc7 h
      exact (cw_X10_load_39 a0 i0 ha ih F v1 v2 v3 0 M h).trans hG
theorem cg_X10_load {F : Nat} {v1 : Int} {M : Mem} {res : Int × Mem} (h : f_X10_load F v1 M = some res) (a0 : Nat) (i0 : Int) (ha : (a0 ≠ 64 ∨ i0 ≠ 3) ∧ (a0 ≠ 64 ∨ i0 ≠ 14) ∧ (a0 ≠ 64 ∨ i0 ≠ 15) ∧ (a0 ≠ 64 ∨ i0 ≠ 16) ∧ a0 ≠ 74) : res.2 a0 i0 = M a0 i0 := by
  have hG : M a0 i0 = M a0 i0 := rfl
  rw [f_X10_load] at h
  obtain ⟨q1, h1, h⟩ := ob_some h
  have hG1 := hG
  obtain ⟨hc2, h⟩ := chk_some h
  by_cases hc3 : q1 = 0
  · replace h := ite_t hc3 h
    obtain ⟨q4, h4, h⟩ := ob_some h
    have hG4 := (cg_X10_refused h4 a0 i0 (by omega)).trans hG1
    obtain ⟨hc5, h⟩ := chk_some h
    by_cases hc6 : q4.1 = 0
    · replace h := ite_t hc6 h
      exact (cw_X10_load_26 a0 i0 ha F v1 0 0 q4.2 h).trans hG4
    · replace h := ite_f hc6 h
      cases h
      exact hG4
  · replace h := ite_f hc3 h
    obtain ⟨q16, h16, h⟩ := ob_some h
    have hG16 := (cg_X10_refused h16 a0 i0 (by omega)).trans hG1
    obtain ⟨hc17, h⟩ := chk_some h
    by_cases hc18 : q16.1 = 0
    · replace h := ite_t hc18 h
      exact (cw_X10_load_26 a0 i0 ha F v1 0 0 q16.2 h).trans hG16
    · replace h := ite_f hc18 h
      cases h
      exact hG16
theorem cw_X10_lostWithout_39 {res : Int × Mem} {F : Nat} (a0 : Nat) (i0 : Int) (ha : (a0 ≠ 64 ∨ i0 ≠ 3) ∧ (a0 ≠ 64 ∨ i0 ≠ 14) ∧ (a0 ≠ 64 ∨ i0 ≠ 15) ∧ (a0 ≠ 64 ∨ i0 ≠ 16) ∧ a0 ≠ 74) {k26 : Int → Int → Int → Mem → Option (Int × Mem)} (hk26 : ∀ (v1 : Int) (v2 : Int) (v3 : Int) (M : Mem), k26 v1 v2 v3 M = some res → res.2 a0 i0 = M a0 i0) : ∀ (fu : Nat) (v1 : Int) (v2 : Int) (v3 : Int) (v4 : Int) (M : Mem), f_X10_lostWithout_39 F k26 fu v1 v2 v3 v4 M = some res → res.2 a0 i0 = M a0 i0 := by
  intro fu
  induction fu with
  | zero => intro v1 v2 v3 v4 M h; exact nomatch (show (none : Option (Int × Mem)) = some res from h)
  | succ fu ih =>
    intro v1 v2 v3 v4 M h
    have hG : M a0 i0 = M a0 i0 := rfl
    rw [f_X10_lostWithout_39] at h
    obtain ⟨⟨hp_v3, hp_v4⟩, h⟩ := chk_some h
    by_cases hc8 : M 65 0 ≤ v4
    · replace h := ite_t hc8 h
      exact (hk26 v1 v2 (v3 + 1) M h).trans hG
    · replace h := ite_f hc8 h
      by_cases hc9 : v3 = v4
      · replace h := ite_t hc9 h
        exact (ih v1 (v2 + 0) v3 (v4 + 1) M h).trans hG
      · replace h := ite_f hc9 h
        obtain ⟨q10, h10, h⟩ := ob_some h
        have hG10 := (cg_X10_goes h10 a0 i0 (by omega)).trans hG
        obtain ⟨hc11, h⟩ := chk_some h
        by_cases hc12 : q10.1 = 0
        · replace h := ite_t hc12 h
          exact (ih v1 (v2 + 0) v3 (v4 + 1) q10.2 h).trans hG10
        · replace h := ite_f hc12 h
          obtain ⟨q13, h13, h⟩ := ob_some h
          have hG13 := (cg_X10_goes h13 a0 i0 (by omega)).trans hG10
          obtain ⟨hc14, h⟩ := chk_some h
          rcases (Decidable.em (q13.1 = 0)).symm with hc15 | hc15
          · replace h := ite_f hc15 h
            exact (ih v1 (v2 + 0) v3 (v4 + 1) q13.2 h).trans hG13
          · replace h := ite_t hc15 h
            exact (ih v1 (v2 + 1) v3 (v4 + 1) q13.2 h).trans hG13
theorem cw_X10_lostWithout_26 {res : Int × Mem} {F : Nat} (a0 : Nat) (i0 : Int) (ha : (a0 ≠ 64 ∨ i0 ≠ 3) ∧ (a0 ≠ 64 ∨ i0 ≠ 14) ∧ (a0 ≠ 64 ∨ i0 ≠ 15) ∧ (a0 ≠ 64 ∨ i0 ≠ 16) ∧ a0 ≠ 74) : ∀ (fu : Nat) (v1 : Int) (v2 : Int) (v3 : Int) (M : Mem), f_X10_lostWithout_26 F fu v1 v2 v3 M = some res → res.2 a0 i0 = M a0 i0 := by
  intro fu
  induction fu with
  | zero => intro v1 v2 v3 M h; exact nomatch (show (none : Option (Int × Mem)) = some res from h)
  | succ fu ih =>
    intro v1 v2 v3 M h
    have hG : M a0 i0 = M a0 i0 := rfl
    rw [f_X10_lostWithout_26] at h
    obtain ⟨hp_v3, h⟩ := chk_some h
    by_cases hc7 : M 65 0 ≤ v3
    · replace h := ite_t hc7 h
      cases h
      exact hG
    · replace h := ite_f hc7 h
      exact (cw_X10_lostWithout_39 a0 i0 ha ih F v1 v2 v3 0 M h).trans hG
theorem cg_X10_lostWithout {F : Nat} {v1 : Int} {M : Mem} {res : Int × Mem} (h : f_X10_lostWithout F v1 M = some res) (a0 : Nat) (i0 : Int) (ha : (a0 ≠ 64 ∨ i0 ≠ 3) ∧ (a0 ≠ 64 ∨ i0 ≠ 14) ∧ (a0 ≠ 64 ∨ i0 ≠ 15) ∧ (a0 ≠ 64 ∨ i0 ≠ 16) ∧ a0 ≠ 74) : res.2 a0 i0 = M a0 i0 := by
  have hG : M a0 i0 = M a0 i0 := rfl
  rw [f_X10_lostWithout] at h
  obtain ⟨q1, h1, h⟩ := ob_some h
  have hG1 := hG
  obtain ⟨hc2, h⟩ := chk_some h
  by_cases hc3 : q1 = 0
  · replace h := ite_t hc3 h
    obtain ⟨q4, h4, h⟩ := ob_some h
    have hG4 := (cg_X10_refused h4 a0 i0 (by omega)).trans hG1
    obtain ⟨hc5, h⟩ := chk_some h
    by_cases hc6 : q4.1 = 0
    · replace h := ite_t hc6 h
      exact (cw_X10_lostWithout_26 a0 i0 ha F v1 0 0 q4.2 h).trans hG4
    · replace h := ite_f hc6 h
      cases h
      exact hG4
  · replace h := ite_f hc3 h
    obtain ⟨q16, h16, h⟩ := ob_some h
    have hG16 := (cg_X10_refused h16 a0 i0 (by omega)).trans hG1
    obtain ⟨hc17, h⟩ := chk_some h
    by_cases hc18 : q16.1 = 0
    · replace h := ite_t hc18 h
      exact (cw_X10_lostWithout_26 a0 i0 ha F v1 0 0 q16.2 h).trans hG16
    · replace h := ite_f hc18 h
      cases h
      exact hG16
theorem cg_X10_bestCompactness {F : Nat} {M : Mem} {res : Int × Mem} (h : f_X10_bestCompactness F M = some res) (a0 : Nat) (i0 : Int) (ha : (a0 ≠ 64 ∨ i0 ≠ 3) ∧ (a0 ≠ 64 ∨ i0 ≠ 10) ∧ a0 ≠ 65 ∧ a0 ≠ 68 ∧ a0 ≠ 70 ∧ a0 ≠ 71 ∧ a0 ≠ 72 ∧ a0 ≠ 73 ∧ a0 ≠ 75 ∧ a0 ≠ 76 ∧ a0 ≠ 77) : res.2 a0 i0 = M a0 i0 := by
  have hG : M a0 i0 = M a0 i0 := rfl
  rw [f_X10_bestCompactness] at h
  by_cases hc1 : M 65 0 ≤ 6
  · replace h := ite_t hc1 h
    obtain ⟨q2, h2, h⟩ := ob_some h
    have hG2 := (cg_X10_refused h2 a0 i0 (by omega)).trans hG
    obtain ⟨hc3, h⟩ := chk_some h
    by_cases hc4 : q2.1 = 0
    · replace h := ite_t hc4 h
      obtain ⟨q5, h5, h⟩ := ob_some h
      have hG5 := (cg_X10_bestOf h5 a0 i0 (by omega)).trans hG2
      cases h
      exact hG5
    · replace h := ite_f hc4 h
      cases h
      exact hG2
  · replace h := ite_f hc1 h
    obtain ⟨q6, h6, h⟩ := ob_some h
    have hG6 := (cg_X10_refused h6 a0 i0 (by omega)).trans hG
    obtain ⟨hc7, h⟩ := chk_some h
    by_cases hc8 : q6.1 = 0
    · replace h := ite_t hc8 h
      obtain ⟨q9, h9, h⟩ := ob_some h
      have hG9 := (cg_X10_bestOf h9 a0 i0 (by omega)).trans hG6
      cases h
      exact hG9
    · replace h := ite_f hc8 h
      cases h
      exact hG6
theorem cw_X10_labelings_49 {res : Int × Mem} {F : Nat} (a0 : Nat) (i0 : Int) (ha : (a0 ≠ 64 ∨ i0 ≠ 3) ∧ (a0 ≠ 64 ∨ i0 ≠ 10) ∧ a0 ≠ 65 ∧ a0 ≠ 68 ∧ a0 ≠ 70 ∧ a0 ≠ 71 ∧ a0 ≠ 72 ∧ a0 ≠ 73 ∧ a0 ≠ 75 ∧ a0 ≠ 76 ∧ a0 ≠ 77) : ∀ (fu : Nat) (v1 : Int) (v3 : Int) (v4 : Int) (M : Mem), f_X10_labelings_49 F fu v1 v3 v4 M = some res → res.2 a0 i0 = M a0 i0 := by
  intro fu
  induction fu with
  | zero => intro v1 v3 v4 M h; exact nomatch (show (none : Option (Int × Mem)) = some res from h)
  | succ fu ih =>
    intro v1 v3 v4 M h
    have hG : M a0 i0 = M a0 i0 := rfl
    rw [f_X10_labelings_49] at h
    obtain ⟨⟨hp_v1, hp_v4⟩, h⟩ := chk_some h
    by_cases hc9 : v1 < v4
    · replace h := ite_t hc9 h
      cases h
      exact hG
    · replace h := ite_f hc9 h
      obtain ⟨hc10, h⟩ := chk_some h
      exact (ih v1 (v3 + (M 77 v4)) (v4 + 1) M h).trans hG
theorem cg_X10_labelings {F : Nat} {v1 : Int} {M : Mem} {res : Int × Mem} (h : f_X10_labelings F v1 M = some res) (a0 : Nat) (i0 : Int) (ha : (a0 ≠ 64 ∨ i0 ≠ 3) ∧ (a0 ≠ 64 ∨ i0 ≠ 10) ∧ a0 ≠ 65 ∧ a0 ≠ 68 ∧ a0 ≠ 70 ∧ a0 ≠ 71 ∧ a0 ≠ 72 ∧ a0 ≠ 73 ∧ a0 ≠ 75 ∧ a0 ≠ 76 ∧ a0 ≠ 77) : res.2 a0 i0 = M a0 i0 := by
  have hG : M a0 i0 = M a0 i0 := rfl
  rw [f_X10_labelings] at h
  obtain ⟨q1, h1, h⟩ := ob_some h
  have hG1 := hG
  obtain ⟨hc2, h⟩ := chk_some h
  rcases (Decidable.em (q1 = 0)).symm with hc3 | hc3
  · replace h := ite_f hc3 h
    by_cases hc4 : M 65 0 ≤ 6
    · replace h := ite_t hc4 h
      obtain ⟨q5, h5, h⟩ := ob_some h
      have hG5 := (cg_X10_refused h5 a0 i0 (by omega)).trans hG1
      obtain ⟨hc6, h⟩ := chk_some h
      by_cases hc7 : q5.1 = 0
      · replace h := ite_t hc7 h
        obtain ⟨q8, h8, h⟩ := ob_some h
        have hG8 := (cg_X10_bestOf h8 a0 i0 (by omega)).trans hG5
        exact (cw_X10_labelings_49 a0 i0 ha F v1 0 0 q8.2 h).trans hG8
      · replace h := ite_f hc7 h
        cases h
        exact hG5
    · replace h := ite_f hc4 h
      obtain ⟨q11, h11, h⟩ := ob_some h
      have hG11 := (cg_X10_refused h11 a0 i0 (by omega)).trans hG1
      obtain ⟨hc12, h⟩ := chk_some h
      by_cases hc13 : q11.1 = 0
      · replace h := ite_t hc13 h
        obtain ⟨q14, h14, h⟩ := ob_some h
        have hG14 := (cg_X10_bestOf h14 a0 i0 (by omega)).trans hG11
        exact (cw_X10_labelings_49 a0 i0 ha F v1 0 0 q14.2 h).trans hG14
      · replace h := ite_f hc13 h
        cases h
        exact hG11
  · replace h := ite_t hc3 h
    obtain ⟨q15, h15, h⟩ := ob_some h
    have hG15 := (cg_X10_refused h15 a0 i0 (by omega)).trans hG1
    obtain ⟨hc16, h⟩ := chk_some h
    by_cases hc17 : q15.1 = 0
    · replace h := ite_t hc17 h
      obtain ⟨q18, h18, h⟩ := ob_some h
      have hG18 := (cg_X10_bestOf h18 a0 i0 (by omega)).trans hG15
      exact (cw_X10_labelings_49 a0 i0 ha F v1 0 0 q18.2 h).trans hG18
    · replace h := ite_f hc17 h
      cases h
      exact hG15
theorem cg_X10_append {v1 : Int} {M : Mem} {res : Int × Mem} (h : f_X10_append v1 M = some res) (a0 : Nat) (i0 : Int) (ha : (a0 ≠ 64 ∨ i0 ≠ 3) ∧ (a0 ≠ 64 ∨ i0 ≠ 5) ∧ a0 ≠ 67) : res.2 a0 i0 = M a0 i0 := by
  have hG : M a0 i0 = M a0 i0 := rfl
  rw [f_X10_append] at h
  obtain ⟨hp_v1, h⟩ := chk_some h
  obtain ⟨q1, h1, h⟩ := ob_some h
  have hG1 := hG
  obtain ⟨hc2, h⟩ := chk_some h
  rcases (Decidable.em (q1 = 0)).symm with hc3 | hc3
  · replace h := ite_f hc3 h
    rcases (Decidable.em (M 64 5 = 100)).symm with hc4 | hc4
    · replace h := ite_f hc4 h
      obtain ⟨q5, h5, h⟩ := ob_some h
      have hG5 := (cg_X10_refused h5 a0 i0 (by omega)).trans hG1
      obtain ⟨hc6, h⟩ := chk_some h
      by_cases hc7 : q5.1 = 0
      · replace h := ite_t hc7 h
        obtain ⟨hc8, h⟩ := chk_some h
        have hG9 : (mset q5.2 67 (q5.2 64 5) v1) a0 i0 = M a0 i0 := (mset_at (Or.inl (show a0 ≠ 67 from by omega))).trans hG5
        obtain ⟨hc10, h⟩ := chk_some h
        have hG11 : (mset (mset q5.2 67 (q5.2 64 5) v1) 64 5 (((mset q5.2 67 (q5.2 64 5) v1) 64 5) + 1)) a0 i0 = M a0 i0 := (mset_at (show a0 ≠ 64 ∨ i0 ≠ 5 from by omega)).trans hG9
        cases h
        exact hG11
      · replace h := ite_f hc7 h
        cases h
        exact hG5
    · replace h := ite_t hc4 h
      obtain ⟨q12, h12, h⟩ := ob_some h
      have hG12 := (cg_X10_refused h12 a0 i0 (by omega)).trans hG1
      obtain ⟨hc13, h⟩ := chk_some h
      by_cases hc14 : q12.1 = 0
      · replace h := ite_t hc14 h
        obtain ⟨hc15, h⟩ := chk_some h
        have hG16 : (mset q12.2 67 (q12.2 64 5) v1) a0 i0 = M a0 i0 := (mset_at (Or.inl (show a0 ≠ 67 from by omega))).trans hG12
        obtain ⟨hc17, h⟩ := chk_some h
        have hG18 : (mset (mset q12.2 67 (q12.2 64 5) v1) 64 5 (((mset q12.2 67 (q12.2 64 5) v1) 64 5) + 1)) a0 i0 = M a0 i0 := (mset_at (show a0 ≠ 64 ∨ i0 ≠ 5 from by omega)).trans hG16
        cases h
        exact hG18
      · replace h := ite_f hc14 h
        cases h
        exact hG12
  · replace h := ite_t hc3 h
    obtain ⟨q19, h19, h⟩ := ob_some h
    have hG19 := (cg_X10_refused h19 a0 i0 (by omega)).trans hG1
    obtain ⟨hc20, h⟩ := chk_some h
    by_cases hc21 : q19.1 = 0
    · replace h := ite_t hc21 h
      obtain ⟨hc22, h⟩ := chk_some h
      have hG23 : (mset q19.2 67 (q19.2 64 5) v1) a0 i0 = M a0 i0 := (mset_at (Or.inl (show a0 ≠ 67 from by omega))).trans hG19
      obtain ⟨hc24, h⟩ := chk_some h
      have hG25 : (mset (mset q19.2 67 (q19.2 64 5) v1) 64 5 (((mset q19.2 67 (q19.2 64 5) v1) 64 5) + 1)) a0 i0 = M a0 i0 := (mset_at (show a0 ≠ 64 ∨ i0 ≠ 5 from by omega)).trans hG23
      cases h
      exact hG25
    · replace h := ite_f hc21 h
      cases h
      exact hG19
theorem cg_X10_clearText {M : Mem} {res : Int × Mem} (h : f_X10_clearText M = some res) (a0 : Nat) (i0 : Int) (ha : (a0 ≠ 64 ∨ i0 ≠ 3) ∧ (a0 ≠ 64 ∨ i0 ≠ 5)) : res.2 a0 i0 = M a0 i0 := by
  have hG : M a0 i0 = M a0 i0 := rfl
  rw [f_X10_clearText] at h
  have hG1 : (mset M 64 3 0) a0 i0 = M a0 i0 := (mset_at (show a0 ≠ 64 ∨ i0 ≠ 3 from by omega)).trans hG
  have hG2 : (mset (mset M 64 3 0) 64 5 0) a0 i0 = M a0 i0 := (mset_at (show a0 ≠ 64 ∨ i0 ≠ 5 from by omega)).trans hG1
  cases h
  exact hG2
theorem cg_X10_takes {v1 : Int} {v2 : Int} {M : Mem} {res : Int × Mem} (h : f_X10_takes v1 v2 M = some res) (a0 : Nat) (i0 : Int) (ha : (a0 ≠ 64 ∨ i0 ≠ 20)) : res.2 a0 i0 = M a0 i0 := by
  have hG : M a0 i0 = M a0 i0 := rfl
  rw [f_X10_takes] at h
  obtain ⟨q1, h1, h⟩ := ob_some h
  have hG1 := hG
  obtain ⟨hc2, h⟩ := chk_some h
  rcases (Decidable.em (q1 = 0)).symm with hc3 | hc3
  · replace h := ite_f hc3 h
    obtain ⟨hc4, h⟩ := chk_some h
    have hG5 : (mset M 64 20 ((M 64 20) + 1)) a0 i0 = M a0 i0 := (mset_at (show a0 ≠ 64 ∨ i0 ≠ 20 from by omega)).trans hG1
    obtain ⟨hc6, h⟩ := chk_some h
    cases h
    exact hG5
  · replace h := ite_t hc3 h
    cases h
    exact hG1
theorem cw_X10_reads_51 {res : Int × Mem} {F : Nat} (a0 : Nat) (i0 : Int) (ha : (a0 ≠ 64 ∨ i0 ≠ 20) ∧ a0 ≠ 65) : ∀ (t0 : Int) (M : Mem), f_X10_reads_51 F t0 M = some res → res.2 a0 i0 = M a0 i0 := by
  intro t0 M h
  have hG : M a0 i0 = M a0 i0 := rfl
  rw [f_X10_reads_51] at h
  obtain ⟨hp_t0, h⟩ := chk_some h
  rcases (Decidable.em (t0 = (-1))).symm with hc8 | hc8
  · replace h := ite_f hc8 h
    obtain ⟨q9, h9, h⟩ := ob_some h
    have hG9 := (cg_X10_takes h9 a0 i0 (by omega)).trans hG
    obtain ⟨hc10, h⟩ := chk_some h
    rcases (Decidable.em (q9.1 = (-1))).symm with hc11 | hc11
    · replace h := ite_f hc11 h
      by_cases hc12 : q9.1 = t0
      · replace h := ite_t hc12 h
        obtain ⟨hc13, h⟩ := chk_some h
        have hG14 : (mset q9.2 64 20 ((q9.2 64 20) - 1)) a0 i0 = M a0 i0 := (mset_at (show a0 ≠ 64 ∨ i0 ≠ 20 from by omega)).trans hG9
        cases h
        exact hG14
      · replace h := ite_f hc12 h
        obtain ⟨q15, h15, h⟩ := ob_some h
        have hG15 := hG9
        obtain ⟨hc16, h⟩ := chk_some h
        by_cases hc17 : q15 = 0
        · replace h := ite_t hc17 h
          obtain ⟨q18, h18, h⟩ := ob_some h
          have hG18 := (cg_X10_takes h18 a0 i0 (by omega)).trans hG15
          obtain ⟨hc19, h⟩ := chk_some h
          by_cases hc20 : q18.1 = (-1)
          · replace h := ite_t hc20 h
            by_cases hc21 : q18.1 = (-1)
            · replace h := ite_t hc21 h
              cases h
              exact hG18
            · replace h := ite_f hc21 h
              cases h
              exact hG18
          · replace h := ite_f hc20 h
            obtain ⟨q22, h22, h⟩ := ob_some h
            have hG22 := (cg_X10_joins h22 a0 i0 (by omega)).trans hG18
            by_cases hc23 : q18.1 = (-1)
            · replace h := ite_t hc23 h
              cases h
              exact hG22
            · replace h := ite_f hc23 h
              cases h
              exact hG22
        · replace h := ite_f hc17 h
          obtain ⟨hc24, h⟩ := chk_some h
          have hG25 : (mset q9.2 64 20 ((q9.2 64 20) - 1)) a0 i0 = M a0 i0 := (mset_at (show a0 ≠ 64 ∨ i0 ≠ 20 from by omega)).trans hG15
          cases h
          exact hG25
    · replace h := ite_t hc11 h
      cases h
      exact hG9
  · replace h := ite_t hc8 h
    cases h
    exact hG
theorem cg_X10_reads {F : Nat} {M : Mem} {res : Int × Mem} (h : f_X10_reads F M = some res) (a0 : Nat) (i0 : Int) (ha : (a0 ≠ 64 ∨ i0 ≠ 20) ∧ a0 ≠ 65) : res.2 a0 i0 = M a0 i0 := by
  have hG : M a0 i0 = M a0 i0 := rfl
  rw [f_X10_reads] at h
  obtain ⟨q1, h1, h⟩ := ob_some h
  have hG1 := hG
  obtain ⟨hc2, h⟩ := chk_some h
  rcases (Decidable.em (q1 = 0)).symm with hc3 | hc3
  · replace h := ite_f hc3 h
    obtain ⟨hc4, h⟩ := chk_some h
    have hG5 : (mset M 64 20 ((M 64 20) + 1)) a0 i0 = M a0 i0 := (mset_at (show a0 ≠ 64 ∨ i0 ≠ 20 from by omega)).trans hG1
    rcases (Decidable.em ((mset M 64 20 ((M 64 20) + 1)) 65 1 = 16)).symm with hc6 | hc6
    · replace h := ite_f hc6 h
      obtain ⟨q7, h7, h⟩ := ob_some h
      have hG7 := (cg_X10_takes h7 a0 i0 (by omega)).trans hG5
      exact (cw_X10_reads_51 a0 i0 ha q7.1 q7.2 h).trans hG7
    · replace h := ite_t hc6 h
      exact (cw_X10_reads_51 a0 i0 ha (-1) (mset M 64 20 ((M 64 20) + 1)) h).trans hG5
  · replace h := ite_t hc3 h
    cases h
    exact hG1
theorem cw_X10_parse_149 {res : Int × Mem} {F : Nat} (a0 : Nat) (i0 : Int) (ha : (a0 ≠ 64 ∨ i0 ≠ 2) ∧ (a0 ≠ 64 ∨ i0 ≠ 3) ∧ (a0 ≠ 64 ∨ i0 ≠ 20) ∧ a0 ≠ 65 ∧ a0 ≠ 66 ∧ a0 ≠ 78) : ∀ (fu : Nat) (v3 : Int) (M : Mem), f_X10_parse_149 F fu v3 M = some res → res.2 a0 i0 = M a0 i0 := by
  intro fu
  induction fu with
  | zero => intro v3 M h; exact nomatch (show (none : Option (Int × Mem)) = some res from h)
  | succ fu ih =>
    intro v3 M h
    have hG : M a0 i0 = M a0 i0 := rfl
    rw [f_X10_parse_149] at h
    obtain ⟨hp_v3, h⟩ := chk_some h
    by_cases hc12 : 140 ≤ v3
    · replace h := ite_t hc12 h
      cases h
      exact hG
    · replace h := ite_f hc12 h
      obtain ⟨hc13, h⟩ := chk_some h
      have hG14 : (mset M 65 v3 (M 78 v3)) a0 i0 = M a0 i0 := (mset_at (Or.inl (show a0 ≠ 65 from by omega))).trans hG
      exact (ih (v3 + 1) (mset M 65 v3 (M 78 v3)) h).trans hG14
theorem cw_X10_parse_90 {res : Int × Mem} {F : Nat} (a0 : Nat) (i0 : Int) (ha : (a0 ≠ 64 ∨ i0 ≠ 2) ∧ (a0 ≠ 64 ∨ i0 ≠ 3) ∧ (a0 ≠ 64 ∨ i0 ≠ 20) ∧ a0 ≠ 65 ∧ a0 ≠ 66 ∧ a0 ≠ 78) : ∀ (fu : Nat) (v2 : Int) (v3 : Int) (M : Mem), f_X10_parse_90 F fu v2 v3 M = some res → res.2 a0 i0 = M a0 i0 := by
  intro fu
  induction fu with
  | zero => intro v2 v3 M h; exact nomatch (show (none : Option (Int × Mem)) = some res from h)
  | succ fu ih =>
    intro v2 v3 M h
    have hG : M a0 i0 = M a0 i0 := rfl
    rw [f_X10_parse_90] at h
    obtain ⟨⟨hp_v2, hp_v3⟩, h⟩ := chk_some h
    by_cases hc9 : 140 ≤ v3
    · replace h := ite_t hc9 h
      rcases (Decidable.em (v2 = 0)).symm with hc10 | hc10
      · replace h := ite_f hc10 h
        obtain ⟨q11, h11, h⟩ := ob_some h
        have hG11 := (cg_X10_saves h11 a0 i0 (by omega)).trans hG
        exact (cw_X10_parse_149 a0 i0 ha F 0 q11 h).trans hG11
      · replace h := ite_t hc10 h
        cases h
        exact hG
    · replace h := ite_f hc9 h
      obtain ⟨hc15, h⟩ := chk_some h
      have hG16 : (mset M 65 v3 (M 78 v3)) a0 i0 = M a0 i0 := (mset_at (Or.inl (show a0 ≠ 65 from by omega))).trans hG
      have hG17 : (mset (mset M 65 v3 (M 78 v3)) 78 v3 (M 65 v3)) a0 i0 = M a0 i0 := (mset_at (Or.inl (show a0 ≠ 78 from by omega))).trans hG16
      exact (ih v2 (v3 + 1) (mset (mset M 65 v3 (M 78 v3)) 78 v3 (M 65 v3)) h).trans hG17
theorem cw_X10_parse_65 {res : Int × Mem} {F : Nat} (a0 : Nat) (i0 : Int) (ha : (a0 ≠ 64 ∨ i0 ≠ 2) ∧ (a0 ≠ 64 ∨ i0 ≠ 3) ∧ (a0 ≠ 64 ∨ i0 ≠ 20) ∧ a0 ≠ 65 ∧ a0 ≠ 66 ∧ a0 ≠ 78) : ∀ (fu : Nat) (v2 : Int) (M : Mem), f_X10_parse_65 F fu v2 M = some res → res.2 a0 i0 = M a0 i0 := by
  intro fu
  induction fu with
  | zero => intro v2 M h; exact nomatch (show (none : Option (Int × Mem)) = some res from h)
  | succ fu ih =>
    intro v2 M h
    have hG : M a0 i0 = M a0 i0 := rfl
    rw [f_X10_parse_65] at h
    obtain ⟨hp_v2, h⟩ := chk_some h
    by_cases hc8 : v2 = 0
    · replace h := ite_t hc8 h
      exact (cw_X10_parse_90 a0 i0 ha F v2 0 M h).trans hG
    · replace h := ite_f hc8 h
      by_cases hc18 : M 64 5 ≤ M 64 20
      · replace h := ite_t hc18 h
        exact (cw_X10_parse_90 a0 i0 ha F v2 0 M h).trans hG
      · replace h := ite_f hc18 h
        obtain ⟨q19, h19, h⟩ := ob_some h
        have hG19 := (cg_X10_reads h19 a0 i0 (by omega)).trans hG
        exact (ih q19.1 q19.2 h).trans hG19
theorem cw_X10_parse_7 {res : Int × Mem} {F : Nat} (a0 : Nat) (i0 : Int) (ha : (a0 ≠ 64 ∨ i0 ≠ 2) ∧ (a0 ≠ 64 ∨ i0 ≠ 3) ∧ (a0 ≠ 64 ∨ i0 ≠ 20) ∧ a0 ≠ 65 ∧ a0 ≠ 66 ∧ a0 ≠ 78) : ∀ (fu : Nat) (v1 : Int) (M : Mem), f_X10_parse_7 F fu v1 M = some res → res.2 a0 i0 = M a0 i0 := by
  intro fu
  induction fu with
  | zero => intro v1 M h; exact nomatch (show (none : Option (Int × Mem)) = some res from h)
  | succ fu ih =>
    intro v1 M h
    have hG : M a0 i0 = M a0 i0 := rfl
    rw [f_X10_parse_7] at h
    obtain ⟨hp_v1, h⟩ := chk_some h
    by_cases hc2 : 140 ≤ v1
    · replace h := ite_t hc2 h
      have hG3 : (mset M 64 20 0) a0 i0 = M a0 i0 := (mset_at (show a0 ≠ 64 ∨ i0 ≠ 20 from by omega)).trans hG
      obtain ⟨q4, h4, h⟩ := ob_some h
      have hG4 := (cg_X10_takes h4 a0 i0 (by omega)).trans hG3
      obtain ⟨hc5, h⟩ := chk_some h
      by_cases hc6 : q4.1 = (-1)
      · replace h := ite_t hc6 h
        exact (cw_X10_parse_65 a0 i0 ha F 0 q4.2 h).trans hG4
      · replace h := ite_f hc6 h
        obtain ⟨q21, h21, h⟩ := ob_some h
        have hG21 := (cg_X10_begins h21 a0 i0 (by omega)).trans hG4
        exact (cw_X10_parse_65 a0 i0 ha F 1 q21 h).trans hG21
    · replace h := ite_f hc2 h
      obtain ⟨hc22, h⟩ := chk_some h
      have hG23 : (mset M 78 v1 (M 65 v1)) a0 i0 = M a0 i0 := (mset_at (Or.inl (show a0 ≠ 78 from by omega))).trans hG
      exact (ih (v1 + 1) (mset M 78 v1 (M 65 v1)) h).trans hG23
theorem cg_X10_parse {F : Nat} {M : Mem} {res : Int × Mem} (h : f_X10_parse F M = some res) (a0 : Nat) (i0 : Int) (ha : (a0 ≠ 64 ∨ i0 ≠ 2) ∧ (a0 ≠ 64 ∨ i0 ≠ 3) ∧ (a0 ≠ 64 ∨ i0 ≠ 20) ∧ a0 ≠ 65 ∧ a0 ≠ 66 ∧ a0 ≠ 78) : res.2 a0 i0 = M a0 i0 := by
  have hG : M a0 i0 = M a0 i0 := rfl
  rw [f_X10_parse] at h
  have hG1 : (mset M 64 3 0) a0 i0 = M a0 i0 := (mset_at (show a0 ≠ 64 ∨ i0 ≠ 3 from by omega)).trans hG
  exact (cw_X10_parse_7 a0 i0 ha F 0 (mset M 64 3 0) h).trans hG1
theorem cg_X10_mix {v1 : Int} {M : Mem} {res : Mem} (h : f_X10_mix v1 M = some res) (a0 : Nat) (i0 : Int) (ha : (a0 ≠ 1064 ∨ i0 ≠ 22)) : res a0 i0 = M a0 i0 := by
  have hG : M a0 i0 = M a0 i0 := rfl
  rw [f_X10_mix] at h
  obtain ⟨hp_v1, h⟩ := chk_some h
  have hG1 : (mset M 1064 22 ((31 * (M 1064 22)) + v1)) a0 i0 = M a0 i0 := (mset_at (show a0 ≠ 1064 ∨ i0 ≠ 22 from by omega)).trans hG
  cases h
  exact hG1
theorem cw_X10_digest_171 {res : Int × Mem} {F : Nat} (a0 : Nat) (i0 : Int) (ha : (a0 ≠ 64 ∨ i0 ≠ 3) ∧ (a0 ≠ 64 ∨ i0 ≠ 10) ∧ (a0 ≠ 64 ∨ i0 ≠ 14) ∧ (a0 ≠ 64 ∨ i0 ≠ 15) ∧ (a0 ≠ 64 ∨ i0 ≠ 16) ∧ a0 ≠ 68 ∧ a0 ≠ 70 ∧ a0 ≠ 71 ∧ a0 ≠ 74 ∧ (a0 ≠ 1064 ∨ i0 ≠ 22)) : ∀ (fu : Nat) (v1 : Int) (M : Mem), f_X10_digest_171 F fu v1 M = some res → res.2 a0 i0 = M a0 i0 := by
  intro fu
  induction fu with
  | zero => intro v1 M h; exact nomatch (show (none : Option (Int × Mem)) = some res from h)
  | succ fu ih =>
    intro v1 M h
    have hG : M a0 i0 = M a0 i0 := rfl
    rw [f_X10_digest_171] at h
    obtain ⟨hp_v1, h⟩ := chk_some h
    by_cases hc15 : 5 ≤ v1
    · replace h := ite_t hc15 h
      obtain ⟨q16, h16, h⟩ := ob_some h
      have hG16 := (cg_X10_arrivals h16 a0 i0 (by omega)).trans hG
      obtain ⟨q17, h17, h⟩ := ob_some h
      have hG17 := (cg_X10_mix h17 a0 i0 (by omega)).trans hG16
      obtain ⟨q18, h18, h⟩ := ob_some h
      have hG18 := (cg_X10_mix h18 a0 i0 (by omega)).trans hG17
      cases h
      exact hG18
    · replace h := ite_f hc15 h
      obtain ⟨q19, h19, h⟩ := ob_some h
      have hG19 := hG
      obtain ⟨q20, h20, h⟩ := ob_some h
      have hG20 := (cg_X10_mix h20 a0 i0 (by omega)).trans hG19
      exact (ih (v1 + 1) q20 h).trans hG20
theorem cw_X10_digest_121 {res : Int × Mem} {F : Nat} (a0 : Nat) (i0 : Int) (ha : (a0 ≠ 64 ∨ i0 ≠ 3) ∧ (a0 ≠ 64 ∨ i0 ≠ 10) ∧ (a0 ≠ 64 ∨ i0 ≠ 14) ∧ (a0 ≠ 64 ∨ i0 ≠ 15) ∧ (a0 ≠ 64 ∨ i0 ≠ 16) ∧ a0 ≠ 68 ∧ a0 ≠ 70 ∧ a0 ≠ 71 ∧ a0 ≠ 74 ∧ (a0 ≠ 1064 ∨ i0 ≠ 22)) {k109 : Int → Mem → Option (Int × Mem)} (hk109 : ∀ (v1 : Int) (M : Mem), k109 v1 M = some res → res.2 a0 i0 = M a0 i0) : ∀ (fu : Nat) (v1 : Int) (v2 : Int) (M : Mem), f_X10_digest_121 F k109 fu v1 v2 M = some res → res.2 a0 i0 = M a0 i0 := by
  intro fu
  induction fu with
  | zero => intro v1 v2 M h; exact nomatch (show (none : Option (Int × Mem)) = some res from h)
  | succ fu ih =>
    intro v1 v2 M h
    have hG : M a0 i0 = M a0 i0 := rfl
    rw [f_X10_digest_121] at h
    obtain ⟨hp_v2, h⟩ := chk_some h
    by_cases hc21 : M 65 0 ≤ v2
    · replace h := ite_t hc21 h
      exact (hk109 (v1 + 1) M h).trans hG
    · replace h := ite_f hc21 h
      obtain ⟨q22, h22, h⟩ := ob_some h
      have hG22 := hG
      obtain ⟨q23, h23, h⟩ := ob_some h
      have hG23 := (cg_X10_mix h23 a0 i0 (by omega)).trans hG22
      exact (ih v1 (v2 + 1) q23 h).trans hG23
theorem cw_X10_digest_109 {res : Int × Mem} {F : Nat} (a0 : Nat) (i0 : Int) (ha : (a0 ≠ 64 ∨ i0 ≠ 3) ∧ (a0 ≠ 64 ∨ i0 ≠ 10) ∧ (a0 ≠ 64 ∨ i0 ≠ 14) ∧ (a0 ≠ 64 ∨ i0 ≠ 15) ∧ (a0 ≠ 64 ∨ i0 ≠ 16) ∧ a0 ≠ 68 ∧ a0 ≠ 70 ∧ a0 ≠ 71 ∧ a0 ≠ 74 ∧ (a0 ≠ 1064 ∨ i0 ≠ 22)) : ∀ (fu : Nat) (v1 : Int) (M : Mem), f_X10_digest_109 F fu v1 M = some res → res.2 a0 i0 = M a0 i0 := by
  intro fu
  induction fu with
  | zero => intro v1 M h; exact nomatch (show (none : Option (Int × Mem)) = some res from h)
  | succ fu ih =>
    intro v1 M h
    have hG : M a0 i0 = M a0 i0 := rfl
    rw [f_X10_digest_109] at h
    obtain ⟨hp_v1, h⟩ := chk_some h
    by_cases hc10 : M 65 0 ≤ v1
    · replace h := ite_t hc10 h
      obtain ⟨q11, h11, h⟩ := ob_some h
      have hG11 := (cg_X10_netSize h11 a0 i0 (by omega)).trans hG
      obtain ⟨q12, h12, h⟩ := ob_some h
      have hG12 := (cg_X10_mix h12 a0 i0 (by omega)).trans hG11
      obtain ⟨q13, h13, h⟩ := ob_some h
      have hG13 := (cg_X10_mostRuns h13 a0 i0 (by omega)).trans hG12
      obtain ⟨q14, h14, h⟩ := ob_some h
      have hG14 := (cg_X10_mix h14 a0 i0 (by omega)).trans hG13
      exact (cw_X10_digest_171 a0 i0 ha F 0 q14 h).trans hG14
    · replace h := ite_f hc10 h
      exact (cw_X10_digest_121 a0 i0 ha ih F v1 0 M h).trans hG
theorem cw_X10_digest_78 {res : Int × Mem} {F : Nat} (a0 : Nat) (i0 : Int) (ha : (a0 ≠ 64 ∨ i0 ≠ 3) ∧ (a0 ≠ 64 ∨ i0 ≠ 10) ∧ (a0 ≠ 64 ∨ i0 ≠ 14) ∧ (a0 ≠ 64 ∨ i0 ≠ 15) ∧ (a0 ≠ 64 ∨ i0 ≠ 16) ∧ a0 ≠ 68 ∧ a0 ≠ 70 ∧ a0 ≠ 71 ∧ a0 ≠ 74 ∧ (a0 ≠ 1064 ∨ i0 ≠ 22)) : ∀ (fu : Nat) (v1 : Int) (M : Mem), f_X10_digest_78 F fu v1 M = some res → res.2 a0 i0 = M a0 i0 := by
  intro fu
  induction fu with
  | zero => intro v1 M h; exact nomatch (show (none : Option (Int × Mem)) = some res from h)
  | succ fu ih =>
    intro v1 M h
    have hG : M a0 i0 = M a0 i0 := rfl
    rw [f_X10_digest_78] at h
    obtain ⟨hp_v1, h⟩ := chk_some h
    by_cases hc9 : M 65 0 ≤ v1
    · replace h := ite_t hc9 h
      exact (cw_X10_digest_109 a0 i0 ha F 0 M h).trans hG
    · replace h := ite_f hc9 h
      obtain ⟨hc24, h⟩ := chk_some h
      obtain ⟨q25, h25, h⟩ := ob_some h
      have hG25 := (cg_X10_mix h25 a0 i0 (by omega)).trans hG
      exact (ih (v1 + 1) q25 h).trans hG25
theorem cw_X10_digest_46 {res : Int × Mem} {F : Nat} (a0 : Nat) (i0 : Int) (ha : (a0 ≠ 64 ∨ i0 ≠ 3) ∧ (a0 ≠ 64 ∨ i0 ≠ 10) ∧ (a0 ≠ 64 ∨ i0 ≠ 14) ∧ (a0 ≠ 64 ∨ i0 ≠ 15) ∧ (a0 ≠ 64 ∨ i0 ≠ 16) ∧ a0 ≠ 68 ∧ a0 ≠ 70 ∧ a0 ≠ 71 ∧ a0 ≠ 74 ∧ (a0 ≠ 1064 ∨ i0 ≠ 22)) : ∀ (fu : Nat) (v1 : Int) (M : Mem), f_X10_digest_46 F fu v1 M = some res → res.2 a0 i0 = M a0 i0 := by
  intro fu
  induction fu with
  | zero => intro v1 M h; exact nomatch (show (none : Option (Int × Mem)) = some res from h)
  | succ fu ih =>
    intro v1 M h
    have hG : M a0 i0 = M a0 i0 := rfl
    rw [f_X10_digest_46] at h
    obtain ⟨hp_v1, h⟩ := chk_some h
    obtain ⟨hc7, h⟩ := chk_some h
    by_cases hc8 : 3 * (M 65 1) ≤ v1
    · replace h := ite_t hc8 h
      exact (cw_X10_digest_78 a0 i0 ha F 0 M h).trans hG
    · replace h := ite_f hc8 h
      obtain ⟨hc26, h⟩ := chk_some h
      obtain ⟨q27, h27, h⟩ := ob_some h
      have hG27 := (cg_X10_mix h27 a0 i0 (by omega)).trans hG
      exact (ih (v1 + 1) q27 h).trans hG27
theorem cg_X10_digest {F : Nat} {M : Mem} {res : Int × Mem} (h : f_X10_digest F M = some res) (a0 : Nat) (i0 : Int) (ha : (a0 ≠ 64 ∨ i0 ≠ 3) ∧ (a0 ≠ 64 ∨ i0 ≠ 10) ∧ (a0 ≠ 64 ∨ i0 ≠ 14) ∧ (a0 ≠ 64 ∨ i0 ≠ 15) ∧ (a0 ≠ 64 ∨ i0 ≠ 16) ∧ a0 ≠ 68 ∧ a0 ≠ 70 ∧ a0 ≠ 71 ∧ a0 ≠ 74 ∧ (a0 ≠ 1064 ∨ i0 ≠ 22)) : res.2 a0 i0 = M a0 i0 := by
  have hG : M a0 i0 = M a0 i0 := rfl
  rw [f_X10_digest] at h
  have hG1 : (mset M 64 3 0) a0 i0 = M a0 i0 := (mset_at (show a0 ≠ 64 ∨ i0 ≠ 3 from by omega)).trans hG
  obtain ⟨q2, h2, h⟩ := ob_some h
  have hG2 := (cg_X10_laysFar h2 a0 i0 (by omega)).trans hG1
  have hG3 : (mset q2 1064 22 3083) a0 i0 = M a0 i0 := (mset_at (show a0 ≠ 1064 ∨ i0 ≠ 22 from by omega)).trans hG2
  obtain ⟨q4, h4, h⟩ := ob_some h
  have hG4 := (cg_X10_mix h4 a0 i0 (by omega)).trans hG3
  obtain ⟨q5, h5, h⟩ := ob_some h
  have hG5 := (cg_X10_mix h5 a0 i0 (by omega)).trans hG4
  obtain ⟨q6, h6, h⟩ := ob_some h
  have hG6 := (cg_X10_mix h6 a0 i0 (by omega)).trans hG5
  exact (cw_X10_digest_46 a0 i0 ha F 0 q6 h).trans hG6
theorem cg_L_begin {F : Nat} {v1 : Int} {M : Mem} {res : Int × Mem} (h : f_L_begin F v1 M = some res) (a0 : Nat) (i0 : Int) (ha : a0 ≠ 40 ∧ a0 ≠ 41 ∧ a0 ≠ 42 ∧ a0 ≠ 43 ∧ (a0 ≠ 51 ∨ i0 ≠ 2) ∧ a0 ≠ 1079 ∧ (a0 < 1 ∨ 38 < a0)) : res.2 a0 i0 = M a0 i0 := by
  have hG : M a0 i0 = M a0 i0 := rfl
  rw [f_L_begin] at h
  obtain ⟨q1, h1, h⟩ := ob_some h
  have hG1 := (cg_X9_begin h1 a0 i0 (by omega)).trans hG
  rcases hz1 : q1.1 with e1 | r1
  · replace h := ox_l hz1 h
    by_cases hc2 : e1 = 0
    · replace h := ite_t hc2 h
      subst hc2
      cases h
      exact hG1
    · replace h := ite_f hc2 h
      cases h
  · replace h := ox_r hz1 h
    obtain ⟨hc3, h⟩ := chk_some h
    have hG4 : (mset q1.2 1079 0 r1) a0 i0 = M a0 i0 := (mset_at (Or.inl (show a0 ≠ 1079 from by omega))).trans hG1
    cases h
    exact hG4
theorem cg_L_addLink {F : Nat} {v1 : Int} {v2 : Int} {v3 : Int} {M : Mem} {res : Int × Mem} (h : f_L_addLink F v1 v2 v3 M = some res) (a0 : Nat) (i0 : Int) (ha : a0 ≠ 40 ∧ a0 ≠ 41 ∧ a0 ≠ 42 ∧ a0 ≠ 43 ∧ (a0 ≠ 51 ∨ i0 ≠ 2) ∧ a0 ≠ 1079 ∧ (a0 < 1 ∨ 38 < a0)) : res.2 a0 i0 = M a0 i0 := by
  have hG : M a0 i0 = M a0 i0 := rfl
  rw [f_L_addLink] at h
  obtain ⟨q1, h1, h⟩ := ob_some h
  have hG1 := (cg_X9_addLink h1 a0 i0 (by omega)).trans hG
  rcases hz1 : q1.1 with e1 | r1
  · replace h := ox_l hz1 h
    by_cases hc4 : e1 = 1
    · replace h := ite_t hc4 h
      subst hc4
      cases h
      exact hG1
    · replace h := ite_f hc4 h
      by_cases hc3 : e1 = 0
      · replace h := ite_t hc3 h
        subst hc3
        cases h
        exact hG1
      · replace h := ite_f hc3 h
        by_cases hc2 : e1 = 2
        · replace h := ite_t hc2 h
          subst hc2
          cases h
          exact hG1
        · replace h := ite_f hc2 h
          cases h
  · replace h := ox_r hz1 h
    obtain ⟨hc5, h⟩ := chk_some h
    have hG6 : (mset q1.2 1079 0 r1) a0 i0 = M a0 i0 := (mset_at (Or.inl (show a0 ≠ 1079 from by omega))).trans hG1
    cases h
    exact hG6
theorem cg_L_removeLink {F : Nat} {v1 : Int} {M : Mem} {res : Int × Mem} (h : f_L_removeLink F v1 M = some res) (a0 : Nat) (i0 : Int) (ha : a0 ≠ 40 ∧ a0 ≠ 41 ∧ a0 ≠ 42 ∧ a0 ≠ 43 ∧ (a0 ≠ 51 ∨ i0 ≠ 2) ∧ a0 ≠ 1079 ∧ (a0 < 1 ∨ 38 < a0)) : res.2 a0 i0 = M a0 i0 := by
  have hG : M a0 i0 = M a0 i0 := rfl
  rw [f_L_removeLink] at h
  obtain ⟨q1, h1, h⟩ := ob_some h
  have hG1 := (cg_X9_removeLink h1 a0 i0 (by omega)).trans hG
  rcases hz1 : q1.1 with e1 | r1
  · replace h := ox_l hz1 h
    by_cases hc2 : e1 = 1
    · replace h := ite_t hc2 h
      subst hc2
      cases h
      exact hG1
    · replace h := ite_f hc2 h
      cases h
  · replace h := ox_r hz1 h
    obtain ⟨hc3, h⟩ := chk_some h
    have hG4 : (mset q1.2 1079 0 r1) a0 i0 = M a0 i0 := (mset_at (Or.inl (show a0 ≠ 1079 from by omega))).trans hG1
    cases h
    exact hG4
theorem cg_L_setLength {F : Nat} {v1 : Int} {v2 : Int} {M : Mem} {res : Int × Mem} (h : f_L_setLength F v1 v2 M = some res) (a0 : Nat) (i0 : Int) (ha : a0 ≠ 40 ∧ a0 ≠ 41 ∧ a0 ≠ 42 ∧ a0 ≠ 43 ∧ (a0 ≠ 51 ∨ i0 ≠ 2) ∧ a0 ≠ 1079 ∧ (a0 < 1 ∨ 38 < a0)) : res.2 a0 i0 = M a0 i0 := by
  have hG : M a0 i0 = M a0 i0 := rfl
  rw [f_L_setLength] at h
  obtain ⟨q1, h1, h⟩ := ob_some h
  have hG1 := (cg_X9_setLength h1 a0 i0 (by omega)).trans hG
  rcases hz1 : q1.1 with e1 | r1
  · replace h := ox_l hz1 h
    by_cases hc3 : e1 = 1
    · replace h := ite_t hc3 h
      subst hc3
      cases h
      exact hG1
    · replace h := ite_f hc3 h
      by_cases hc2 : e1 = 0
      · replace h := ite_t hc2 h
        subst hc2
        cases h
        exact hG1
      · replace h := ite_f hc2 h
        cases h
  · replace h := ox_r hz1 h
    obtain ⟨hc4, h⟩ := chk_some h
    have hG5 : (mset q1.2 1079 0 r1) a0 i0 = M a0 i0 := (mset_at (Or.inl (show a0 ≠ 1079 from by omega))).trans hG1
    cases h
    exact hG5
theorem cg_L_link {v1 : Int} {v2 : Int} {M : Mem} {res : Int × Mem} (h : f_L_link v1 v2 M = some res) (a0 : Nat) (i0 : Int) (ha : a0 ≠ 1079) : res.2 a0 i0 = M a0 i0 := by
  have hG : M a0 i0 = M a0 i0 := rfl
  rw [f_L_link] at h
  obtain ⟨q1, h1, h⟩ := ob_some h
  have hG1 := hG
  rcases hz1 : q1 with e1 | r1
  · replace h := ox_l hz1 h
    by_cases hc3 : e1 = 1
    · replace h := ite_t hc3 h
      subst hc3
      cases h
      exact hG1
    · replace h := ite_f hc3 h
      by_cases hc2 : e1 = 0
      · replace h := ite_t hc2 h
        subst hc2
        cases h
        exact hG1
      · replace h := ite_f hc2 h
        cases h
  · replace h := ox_r hz1 h
    obtain ⟨hc4, h⟩ := chk_some h
    have hG5 : (mset M 1079 0 r1) a0 i0 = M a0 i0 := (mset_at (Or.inl (show a0 ≠ 1079 from by omega))).trans hG1
    cases h
    exact hG5
theorem cg_L_distance {v1 : Int} {v2 : Int} {M : Mem} {res : Int × Mem} (h : f_L_distance v1 v2 M = some res) (a0 : Nat) (i0 : Int) (ha : a0 ≠ 1079) : res.2 a0 i0 = M a0 i0 := by
  have hG : M a0 i0 = M a0 i0 := rfl
  rw [f_L_distance] at h
  obtain ⟨q1, h1, h⟩ := ob_some h
  have hG1 := hG
  rcases hz1 : q1 with e1 | r1
  · replace h := ox_l hz1 h
    by_cases hc2 : e1 = 1
    · replace h := ite_t hc2 h
      subst hc2
      cases h
      exact hG1
    · replace h := ite_f hc2 h
      cases h
  · replace h := ox_r hz1 h
    obtain ⟨hc3, h⟩ := chk_some h
    have hG4 : (mset M 1079 0 r1) a0 i0 = M a0 i0 := (mset_at (Or.inl (show a0 ≠ 1079 from by omega))).trans hG1
    cases h
    exact hG4
theorem cg_L_goodLinks {v1 : Int} {v2 : Int} {M : Mem} {res : Int × Mem} (h : f_L_goodLinks v1 v2 M = some res) (a0 : Nat) (i0 : Int) (ha : a0 ≠ 1079) : res.2 a0 i0 = M a0 i0 := by
  have hG : M a0 i0 = M a0 i0 := rfl
  rw [f_L_goodLinks] at h
  obtain ⟨q1, h1, h⟩ := ob_some h
  have hG1 := hG
  rcases hz1 : q1 with e1 | r1
  · replace h := ox_l hz1 h
    by_cases hc2 : e1 = 1
    · replace h := ite_t hc2 h
      subst hc2
      cases h
      exact hG1
    · replace h := ite_f hc2 h
      cases h
  · replace h := ox_r hz1 h
    obtain ⟨hc3, h⟩ := chk_some h
    have hG4 : (mset M 1079 0 r1) a0 i0 = M a0 i0 := (mset_at (Or.inl (show a0 ≠ 1079 from by omega))).trans hG1
    cases h
    exact hG4
theorem cg_L_label {v1 : Int} {M : Mem} {res : Int × Mem} (h : f_L_label v1 M = some res) (a0 : Nat) (i0 : Int) (ha : a0 ≠ 1079) : res.2 a0 i0 = M a0 i0 := by
  have hG : M a0 i0 = M a0 i0 := rfl
  rw [f_L_label] at h
  obtain ⟨q1, h1, h⟩ := ob_some h
  have hG1 := hG
  rcases hz1 : q1 with e1 | r1
  · replace h := ox_l hz1 h
    by_cases hc2 : e1 = 1
    · replace h := ite_t hc2 h
      subst hc2
      cases h
      exact hG1
    · replace h := ite_f hc2 h
      cases h
  · replace h := ox_r hz1 h
    obtain ⟨hc3, h⟩ := chk_some h
    have hG4 : (mset M 1079 0 r1) a0 i0 = M a0 i0 := (mset_at (Or.inl (show a0 ≠ 1079 from by omega))).trans hG1
    cases h
    exact hG4
theorem cg_L_nodeWith {F : Nat} {v1 : Int} {M : Mem} {res : Int × Mem} (h : f_L_nodeWith F v1 M = some res) (a0 : Nat) (i0 : Int) (ha : a0 ≠ 1079) : res.2 a0 i0 = M a0 i0 := by
  have hG : M a0 i0 = M a0 i0 := rfl
  rw [f_L_nodeWith] at h
  obtain ⟨q1, h1, h⟩ := ob_some h
  have hG1 := hG
  rcases hz1 : q1 with e1 | r1
  · replace h := ox_l hz1 h
    by_cases hc2 : e1 = 1
    · replace h := ite_t hc2 h
      subst hc2
      cases h
      exact hG1
    · replace h := ite_f hc2 h
      cases h
  · replace h := ox_r hz1 h
    obtain ⟨hc3, h⟩ := chk_some h
    have hG4 : (mset M 1079 0 r1) a0 i0 = M a0 i0 := (mset_at (Or.inl (show a0 ≠ 1079 from by omega))).trans hG1
    cases h
    exact hG4
theorem cg_L_setLabels {F : Nat} {v1 : Int} {v2 : Int} {M : Mem} {res : Int × Mem} (h : f_L_setLabels F v1 v2 M = some res) (a0 : Nat) (i0 : Int) (ha : (a0 ≠ 46 ∨ i0 ≠ 0) ∧ a0 ≠ 47 ∧ a0 ≠ 48 ∧ a0 ≠ 49 ∧ a0 ≠ 50 ∧ (a0 ≠ 51 ∨ i0 ≠ 0) ∧ (a0 ≠ 51 ∨ i0 ≠ 1) ∧ (a0 ≠ 51 ∨ i0 ≠ 2) ∧ (a0 ≠ 51 ∨ i0 ≠ 3) ∧ (a0 ≠ 51 ∨ i0 ≠ 4) ∧ a0 ≠ 52 ∧ a0 ≠ 53 ∧ a0 ≠ 54 ∧ (a0 ≠ 55 ∨ i0 ≠ 0) ∧ a0 ≠ 56 ∧ a0 ≠ 61 ∧ a0 ≠ 1079 ∧ (a0 < 1 ∨ 38 < a0)) : res.2 a0 i0 = M a0 i0 := by
  have hG : M a0 i0 = M a0 i0 := rfl
  rw [f_L_setLabels] at h
  obtain ⟨q1, h1, h⟩ := ob_some h
  have hG1 := (cg_X9_setLabels h1 a0 i0 (by omega)).trans hG
  rcases hz1 : q1.1 with e1 | r1
  · replace h := ox_l hz1 h
    by_cases hc4 : e1 = 0
    · replace h := ite_t hc4 h
      subst hc4
      cases h
      exact hG1
    · replace h := ite_f hc4 h
      by_cases hc3 : e1 = 1
      · replace h := ite_t hc3 h
        subst hc3
        cases h
        exact hG1
      · replace h := ite_f hc3 h
        by_cases hc2 : e1 = 2
        · replace h := ite_t hc2 h
          subst hc2
          cases h
          exact hG1
        · replace h := ite_f hc2 h
          cases h
  · replace h := ox_r hz1 h
    obtain ⟨hc5, h⟩ := chk_some h
    have hG6 : (mset q1.2 1079 0 r1) a0 i0 = M a0 i0 := (mset_at (Or.inl (show a0 ≠ 1079 from by omega))).trans hG1
    cases h
    exact hG6
theorem cg_L_swapLabels {F : Nat} {v1 : Int} {v2 : Int} {M : Mem} {res : Int × Mem} (h : f_L_swapLabels F v1 v2 M = some res) (a0 : Nat) (i0 : Int) (ha : a0 ≠ 1079 ∧ (a0 < 1 ∨ 38 < a0)) : res.2 a0 i0 = M a0 i0 := by
  have hG : M a0 i0 = M a0 i0 := rfl
  rw [f_L_swapLabels] at h
  obtain ⟨q1, h1, h⟩ := ob_some h
  have hG1 := (cg_X9_swapLabels h1 a0 i0 (by omega)).trans hG
  rcases hz1 : q1.1 with e1 | r1
  · replace h := ox_l hz1 h
    by_cases hc2 : e1 = 1
    · replace h := ite_t hc2 h
      subst hc2
      cases h
      exact hG1
    · replace h := ite_f hc2 h
      cases h
  · replace h := ox_r hz1 h
    obtain ⟨hc3, h⟩ := chk_some h
    have hG4 : (mset q1.2 1079 0 r1) a0 i0 = M a0 i0 := (mset_at (Or.inl (show a0 ≠ 1079 from by omega))).trans hG1
    cases h
    exact hG4
theorem cg_L_turn {F : Nat} {v1 : Int} {M : Mem} {res : Int × Mem} (h : f_L_turn F v1 M = some res) (a0 : Nat) (i0 : Int) (ha : a0 ≠ 1079 ∧ (a0 < 1 ∨ 38 < a0)) : res.2 a0 i0 = M a0 i0 := by
  have hG : M a0 i0 = M a0 i0 := rfl
  rw [f_L_turn] at h
  obtain ⟨q1, h1, h⟩ := ob_some h
  have hG1 := (cg_X9_turn h1 a0 i0 (by omega)).trans hG
  rcases hz1 : q1.1 with e1 | r1
  · replace h := ox_l hz1 h
    by_cases hc3 : e1 = 0
    · replace h := ite_t hc3 h
      subst hc3
      cases h
      exact hG1
    · replace h := ite_f hc3 h
      by_cases hc2 : e1 = 2
      · replace h := ite_t hc2 h
        subst hc2
        cases h
        exact hG1
      · replace h := ite_f hc2 h
        cases h
  · replace h := ox_r hz1 h
    obtain ⟨hc4, h⟩ := chk_some h
    have hG5 : (mset q1.2 1079 0 r1) a0 i0 = M a0 i0 := (mset_at (Or.inl (show a0 ≠ 1079 from by omega))).trans hG1
    cases h
    exact hG5
theorem cg_L_shuffle {F : Nat} {v1 : Int} {M : Mem} {res : Int × Mem} (h : f_L_shuffle F v1 M = some res) (a0 : Nat) (i0 : Int) (ha : a0 ≠ 1079 ∧ (a0 < 1 ∨ 38 < a0)) : res.2 a0 i0 = M a0 i0 := by
  have hG : M a0 i0 = M a0 i0 := rfl
  rw [f_L_shuffle] at h
  obtain ⟨q1, h1, h⟩ := ob_some h
  have hG1 := (cg_X9_shuffle h1 a0 i0 (by omega)).trans hG
  rcases hz1 : q1.1 with e1 | r1
  · replace h := ox_l hz1 h
    by_cases hc2 : e1 = 0
    · replace h := ite_t hc2 h
      subst hc2
      cases h
      exact hG1
    · replace h := ite_f hc2 h
      cases h
  · replace h := ox_r hz1 h
    obtain ⟨hc3, h⟩ := chk_some h
    have hG4 : (mset q1.2 1079 0 r1) a0 i0 = M a0 i0 := (mset_at (Or.inl (show a0 ≠ 1079 from by omega))).trans hG1
    cases h
    exact hG4
theorem cg_L_setRange {F : Nat} {v1 : Int} {v2 : Int} {v3 : Int} {v4 : Int} {M : Mem} {res : Int × Mem} (h : f_L_setRange F v1 v2 v3 v4 M = some res) (a0 : Nat) (i0 : Int) (ha : a0 ≠ 1079 ∧ (a0 < 1 ∨ 38 < a0)) : res.2 a0 i0 = M a0 i0 := by
  have hG : M a0 i0 = M a0 i0 := rfl
  rw [f_L_setRange] at h
  obtain ⟨q1, h1, h⟩ := ob_some h
  have hG1 := (cg_X9_setRange h1 a0 i0 (by omega)).trans hG
  rcases hz1 : q1.1 with e1 | r1
  · replace h := ox_l hz1 h
    by_cases hc3 : e1 = 1
    · replace h := ite_t hc3 h
      subst hc3
      cases h
      exact hG1
    · replace h := ite_f hc3 h
      by_cases hc2 : e1 = 0
      · replace h := ite_t hc2 h
        subst hc2
        cases h
        exact hG1
      · replace h := ite_f hc2 h
        cases h
  · replace h := ox_r hz1 h
    obtain ⟨hc4, h⟩ := chk_some h
    have hG5 : (mset q1.2 1079 0 r1) a0 i0 = M a0 i0 := (mset_at (Or.inl (show a0 ≠ 1079 from by omega))).trans hG1
    cases h
    exact hG5
theorem cg_L_entry {v1 : Int} {v2 : Int} {M : Mem} {res : Int × Mem} (h : f_L_entry v1 v2 M = some res) (a0 : Nat) (i0 : Int) (ha : a0 ≠ 1079) : res.2 a0 i0 = M a0 i0 := by
  have hG : M a0 i0 = M a0 i0 := rfl
  rw [f_L_entry] at h
  obtain ⟨q1, h1, h⟩ := ob_some h
  have hG1 := hG
  rcases hz1 : q1 with e1 | r1
  · replace h := ox_l hz1 h
    by_cases hc2 : e1 = 1
    · replace h := ite_t hc2 h
      subst hc2
      cases h
      exact hG1
    · replace h := ite_f hc2 h
      cases h
  · replace h := ox_r hz1 h
    obtain ⟨hc3, h⟩ := chk_some h
    have hG4 : (mset M 1079 0 r1) a0 i0 = M a0 i0 := (mset_at (Or.inl (show a0 ≠ 1079 from by omega))).trans hG1
    cases h
    exact hG4
theorem cg_L_runs {F : Nat} {v1 : Int} {v2 : Int} {M : Mem} {res : Int × Mem} (h : f_L_runs F v1 v2 M = some res) (a0 : Nat) (i0 : Int) (ha : (a0 ≠ 44 ∨ i0 ≠ 0) ∧ a0 ≠ 45 ∧ a0 ≠ 1079) : res.2 a0 i0 = M a0 i0 := by
  have hG : M a0 i0 = M a0 i0 := rfl
  rw [f_L_runs] at h
  obtain ⟨q1, h1, h⟩ := ob_some h
  have hG1 := (cg_X9_runs h1 a0 i0 (by omega)).trans hG
  rcases hz1 : q1.1 with e1 | r1
  · replace h := ox_l hz1 h
    by_cases hc3 : e1 = 1
    · replace h := ite_t hc3 h
      subst hc3
      cases h
      exact hG1
    · replace h := ite_f hc3 h
      by_cases hc2 : e1 = 0
      · replace h := ite_t hc2 h
        subst hc2
        cases h
        exact hG1
      · replace h := ite_f hc2 h
        cases h
  · replace h := ox_r hz1 h
    obtain ⟨hc4, h⟩ := chk_some h
    have hG5 : (mset q1.2 1079 0 r1) a0 i0 = M a0 i0 := (mset_at (Or.inl (show a0 ≠ 1079 from by omega))).trans hG1
    cases h
    exact hG5
theorem cg_L_runEnd {F : Nat} {v1 : Int} {v2 : Int} {v3 : Int} {v4 : Int} {M : Mem} {res : Int × Mem} (h : f_L_runEnd F v1 v2 v3 v4 M = some res) (a0 : Nat) (i0 : Int) (ha : (a0 ≠ 44 ∨ i0 ≠ 0) ∧ a0 ≠ 45 ∧ a0 ≠ 1079) : res.2 a0 i0 = M a0 i0 := by
  have hG : M a0 i0 = M a0 i0 := rfl
  rw [f_L_runEnd] at h
  obtain ⟨q1, h1, h⟩ := ob_some h
  have hG1 := (cg_X9_runEnd h1 a0 i0 (by omega)).trans hG
  rcases hz1 : q1.1 with e1 | r1
  · replace h := ox_l hz1 h
    by_cases hc2 : e1 = 1
    · replace h := ite_t hc2 h
      subst hc2
      cases h
      exact hG1
    · replace h := ite_f hc2 h
      cases h
  · replace h := ox_r hz1 h
    obtain ⟨hc3, h⟩ := chk_some h
    have hG4 : (mset q1.2 1079 0 r1) a0 i0 = M a0 i0 := (mset_at (Or.inl (show a0 ≠ 1079 from by omega))).trans hG1
    cases h
    exact hG4
theorem cg_L_tableSize {F : Nat} {v1 : Int} {M : Mem} {res : Int × Mem} (h : f_L_tableSize F v1 M = some res) (a0 : Nat) (i0 : Int) (ha : (a0 ≠ 44 ∨ i0 ≠ 0) ∧ a0 ≠ 45 ∧ a0 ≠ 1079) : res.2 a0 i0 = M a0 i0 := by
  have hG : M a0 i0 = M a0 i0 := rfl
  rw [f_L_tableSize] at h
  obtain ⟨q1, h1, h⟩ := ob_some h
  have hG1 := (cg_X9_tableSize h1 a0 i0 (by omega)).trans hG
  rcases hz1 : q1.1 with e1 | r1
  · replace h := ox_l hz1 h
    by_cases hc2 : e1 = 1
    · replace h := ite_t hc2 h
      subst hc2
      cases h
      exact hG1
    · replace h := ite_f hc2 h
      cases h
  · replace h := ox_r hz1 h
    obtain ⟨hc3, h⟩ := chk_some h
    have hG4 : (mset q1.2 1079 0 r1) a0 i0 = M a0 i0 := (mset_at (Or.inl (show a0 ≠ 1079 from by omega))).trans hG1
    cases h
    exact hG4
theorem cg_L_bestSize {F : Nat} {v1 : Int} {M : Mem} {res : Int × Mem} (h : f_L_bestSize F v1 M = some res) (a0 : Nat) (i0 : Int) (ha : (a0 ≠ 44 ∨ i0 ≠ 0) ∧ a0 ≠ 45 ∧ (a0 ≠ 46 ∨ i0 ≠ 0) ∧ a0 ≠ 47 ∧ a0 ≠ 48 ∧ a0 ≠ 49 ∧ a0 ≠ 50 ∧ a0 ≠ 1079) : res.2 a0 i0 = M a0 i0 := by
  have hG : M a0 i0 = M a0 i0 := rfl
  rw [f_L_bestSize] at h
  obtain ⟨q1, h1, h⟩ := ob_some h
  have hG1 := (cg_X9_bestSize h1 a0 i0 (by omega)).trans hG
  rcases hz1 : q1.1 with e1 | r1
  · replace h := ox_l hz1 h
    by_cases hc2 : e1 = 1
    · replace h := ite_t hc2 h
      subst hc2
      cases h
      exact hG1
    · replace h := ite_f hc2 h
      cases h
  · replace h := ox_r hz1 h
    obtain ⟨hc3, h⟩ := chk_some h
    have hG4 : (mset q1.2 1079 0 r1) a0 i0 = M a0 i0 := (mset_at (Or.inl (show a0 ≠ 1079 from by omega))).trans hG1
    cases h
    exact hG4
theorem cg_L_check {v1 : Int} {v2 : Int} {M : Mem} {res : Int × Mem} (h : f_L_check v1 v2 M = some res) (a0 : Nat) (i0 : Int) (ha : a0 ≠ 1079) : res.2 a0 i0 = M a0 i0 := by
  have hG : M a0 i0 = M a0 i0 := rfl
  rw [f_L_check] at h
  obtain ⟨q1, h1, h⟩ := ob_some h
  have hG1 := hG
  rcases hz1 : q1 with e1 | r1
  · replace h := ox_l hz1 h
    by_cases hc2 : e1 = 1
    · replace h := ite_t hc2 h
      subst hc2
      cases h
      exact hG1
    · replace h := ite_f hc2 h
      cases h
  · replace h := ox_r hz1 h
    obtain ⟨hc3, h⟩ := chk_some h
    have hG4 : (mset M 1079 0 r1) a0 i0 = M a0 i0 := (mset_at (Or.inl (show a0 ≠ 1079 from by omega))).trans hG1
    cases h
    exact hG4
theorem cg_L_checked {F : Nat} {v1 : Int} {M : Mem} {res : Int × Mem} (h : f_L_checked F v1 M = some res) (a0 : Nat) (i0 : Int) (ha : a0 ≠ 1079) : res.2 a0 i0 = M a0 i0 := by
  have hG : M a0 i0 = M a0 i0 := rfl
  rw [f_L_checked] at h
  obtain ⟨q1, h1, h⟩ := ob_some h
  have hG1 := hG
  rcases hz1 : q1 with e1 | r1
  · replace h := ox_l hz1 h
    by_cases hc2 : e1 = 0
    · replace h := ite_t hc2 h
      subst hc2
      cases h
      exact hG1
    · replace h := ite_f hc2 h
      cases h
  · replace h := ox_r hz1 h
    obtain ⟨hc3, h⟩ := chk_some h
    have hG4 : (mset M 1079 0 r1) a0 i0 = M a0 i0 := (mset_at (Or.inl (show a0 ≠ 1079 from by omega))).trans hG1
    cases h
    exact hG4
theorem cg_L_send {F : Nat} {v1 : Int} {v2 : Int} {M : Mem} {res : Int × Mem} (h : f_L_send F v1 v2 M = some res) (a0 : Nat) (i0 : Int) (ha : (a0 ≠ 57 ∨ i0 ≠ 0) ∧ (a0 ≠ 57 ∨ i0 ≠ 1) ∧ (a0 ≠ 57 ∨ i0 ≠ 2) ∧ a0 ≠ 58 ∧ a0 ≠ 59 ∧ a0 ≠ 1079) : res.2 a0 i0 = M a0 i0 := by
  have hG : M a0 i0 = M a0 i0 := rfl
  rw [f_L_send] at h
  obtain ⟨q1, h1, h⟩ := ob_some h
  have hG1 := (cg_X9_send h1 a0 i0 (by omega)).trans hG
  rcases hz1 : q1.1 with e1 | r1
  · replace h := ox_l hz1 h
    by_cases hc2 : e1 = 1
    · replace h := ite_t hc2 h
      subst hc2
      cases h
      exact hG1
    · replace h := ite_f hc2 h
      cases h
  · replace h := ox_r hz1 h
    obtain ⟨hc3, h⟩ := chk_some h
    have hG4 : (mset q1.2 1079 0 r1) a0 i0 = M a0 i0 := (mset_at (Or.inl (show a0 ≠ 1079 from by omega))).trans hG1
    cases h
    exact hG4
theorem cg_L_wayNode {F : Nat} {v1 : Int} {v2 : Int} {v3 : Int} {M : Mem} {res : Int × Mem} (h : f_L_wayNode F v1 v2 v3 M = some res) (a0 : Nat) (i0 : Int) (ha : (a0 ≠ 57 ∨ i0 ≠ 0) ∧ (a0 ≠ 57 ∨ i0 ≠ 1) ∧ (a0 ≠ 57 ∨ i0 ≠ 2) ∧ a0 ≠ 58 ∧ a0 ≠ 59 ∧ a0 ≠ 1079) : res.2 a0 i0 = M a0 i0 := by
  have hG : M a0 i0 = M a0 i0 := rfl
  rw [f_L_wayNode] at h
  obtain ⟨q1, h1, h⟩ := ob_some h
  have hG1 := (cg_X9_wayNode h1 a0 i0 (by omega)).trans hG
  rcases hz1 : q1.1 with e1 | r1
  · replace h := ox_l hz1 h
    by_cases hc3 : e1 = 1
    · replace h := ite_t hc3 h
      subst hc3
      cases h
      exact hG1
    · replace h := ite_f hc3 h
      by_cases hc2 : e1 = 0
      · replace h := ite_t hc2 h
        subst hc2
        cases h
        exact hG1
      · replace h := ite_f hc2 h
        cases h
  · replace h := ox_r hz1 h
    obtain ⟨hc4, h⟩ := chk_some h
    have hG5 : (mset q1.2 1079 0 r1) a0 i0 = M a0 i0 := (mset_at (Or.inl (show a0 ≠ 1079 from by omega))).trans hG1
    cases h
    exact hG5
theorem cg_L_load {F : Nat} {v1 : Int} {M : Mem} {res : Int × Mem} (h : f_L_load F v1 M = some res) (a0 : Nat) (i0 : Int) (ha : (a0 ≠ 57 ∨ i0 ≠ 0) ∧ (a0 ≠ 57 ∨ i0 ≠ 1) ∧ (a0 ≠ 57 ∨ i0 ≠ 2) ∧ a0 ≠ 58 ∧ a0 ≠ 59 ∧ a0 ≠ 1079) : res.2 a0 i0 = M a0 i0 := by
  have hG : M a0 i0 = M a0 i0 := rfl
  rw [f_L_load] at h
  obtain ⟨q1, h1, h⟩ := ob_some h
  have hG1 := (cg_X9_load h1 a0 i0 (by omega)).trans hG
  rcases hz1 : q1.1 with e1 | r1
  · replace h := ox_l hz1 h
    by_cases hc2 : e1 = 1
    · replace h := ite_t hc2 h
      subst hc2
      cases h
      exact hG1
    · replace h := ite_f hc2 h
      cases h
  · replace h := ox_r hz1 h
    obtain ⟨hc3, h⟩ := chk_some h
    have hG4 : (mset q1.2 1079 0 r1) a0 i0 = M a0 i0 := (mset_at (Or.inl (show a0 ≠ 1079 from by omega))).trans hG1
    cases h
    exact hG4
theorem cg_L_lostWithout {F : Nat} {v1 : Int} {M : Mem} {res : Int × Mem} (h : f_L_lostWithout F v1 M = some res) (a0 : Nat) (i0 : Int) (ha : (a0 ≠ 57 ∨ i0 ≠ 0) ∧ (a0 ≠ 57 ∨ i0 ≠ 1) ∧ (a0 ≠ 57 ∨ i0 ≠ 2) ∧ a0 ≠ 58 ∧ a0 ≠ 59 ∧ a0 ≠ 1079) : res.2 a0 i0 = M a0 i0 := by
  have hG : M a0 i0 = M a0 i0 := rfl
  rw [f_L_lostWithout] at h
  obtain ⟨q1, h1, h⟩ := ob_some h
  have hG1 := (cg_X9_lostWithout h1 a0 i0 (by omega)).trans hG
  rcases hz1 : q1.1 with e1 | r1
  · replace h := ox_l hz1 h
    by_cases hc2 : e1 = 1
    · replace h := ite_t hc2 h
      subst hc2
      cases h
      exact hG1
    · replace h := ite_f hc2 h
      cases h
  · replace h := ox_r hz1 h
    obtain ⟨hc3, h⟩ := chk_some h
    have hG4 : (mset q1.2 1079 0 r1) a0 i0 = M a0 i0 := (mset_at (Or.inl (show a0 ≠ 1079 from by omega))).trans hG1
    cases h
    exact hG4
theorem cg_L_bestCompactness {F : Nat} {M : Mem} {res : Int × Mem} (h : f_L_bestCompactness F M = some res) (a0 : Nat) (i0 : Int) (ha : (a0 ≠ 46 ∨ i0 ≠ 0) ∧ a0 ≠ 47 ∧ a0 ≠ 48 ∧ a0 ≠ 49 ∧ a0 ≠ 50 ∧ (a0 ≠ 51 ∨ i0 ≠ 0) ∧ (a0 ≠ 51 ∨ i0 ≠ 1) ∧ (a0 ≠ 51 ∨ i0 ≠ 2) ∧ (a0 ≠ 51 ∨ i0 ≠ 3) ∧ (a0 ≠ 51 ∨ i0 ≠ 4) ∧ a0 ≠ 52 ∧ a0 ≠ 53 ∧ a0 ≠ 54 ∧ (a0 ≠ 55 ∨ i0 ≠ 0) ∧ a0 ≠ 56 ∧ a0 ≠ 1079) : res.2 a0 i0 = M a0 i0 := by
  have hG : M a0 i0 = M a0 i0 := rfl
  rw [f_L_bestCompactness] at h
  obtain ⟨q1, h1, h⟩ := ob_some h
  have hG1 := (cg_X9_bestCompactness h1 a0 i0 (by omega)).trans hG
  rcases hz1 : q1.1 with e1 | r1
  · replace h := ox_l hz1 h
    by_cases hc2 : e1 = 2
    · replace h := ite_t hc2 h
      subst hc2
      cases h
      exact hG1
    · replace h := ite_f hc2 h
      cases h
  · replace h := ox_r hz1 h
    obtain ⟨hc3, h⟩ := chk_some h
    have hG4 : (mset q1.2 1079 0 r1) a0 i0 = M a0 i0 := (mset_at (Or.inl (show a0 ≠ 1079 from by omega))).trans hG1
    cases h
    exact hG4
theorem cg_L_labelings {F : Nat} {v1 : Int} {M : Mem} {res : Int × Mem} (h : f_L_labelings F v1 M = some res) (a0 : Nat) (i0 : Int) (ha : (a0 ≠ 46 ∨ i0 ≠ 0) ∧ a0 ≠ 47 ∧ a0 ≠ 48 ∧ a0 ≠ 49 ∧ a0 ≠ 50 ∧ (a0 ≠ 51 ∨ i0 ≠ 0) ∧ (a0 ≠ 51 ∨ i0 ≠ 1) ∧ (a0 ≠ 51 ∨ i0 ≠ 2) ∧ (a0 ≠ 51 ∨ i0 ≠ 3) ∧ (a0 ≠ 51 ∨ i0 ≠ 4) ∧ a0 ≠ 52 ∧ a0 ≠ 53 ∧ a0 ≠ 54 ∧ (a0 ≠ 55 ∨ i0 ≠ 0) ∧ a0 ≠ 56 ∧ a0 ≠ 1079) : res.2 a0 i0 = M a0 i0 := by
  have hG : M a0 i0 = M a0 i0 := rfl
  rw [f_L_labelings] at h
  obtain ⟨q1, h1, h⟩ := ob_some h
  have hG1 := (cg_X9_labelings h1 a0 i0 (by omega)).trans hG
  rcases hz1 : q1.1 with e1 | r1
  · replace h := ox_l hz1 h
    by_cases hc3 : e1 = 0
    · replace h := ite_t hc3 h
      subst hc3
      cases h
      exact hG1
    · replace h := ite_f hc3 h
      by_cases hc2 : e1 = 2
      · replace h := ite_t hc2 h
        subst hc2
        cases h
        exact hG1
      · replace h := ite_f hc2 h
        cases h
  · replace h := ox_r hz1 h
    obtain ⟨hc4, h⟩ := chk_some h
    have hG5 : (mset q1.2 1079 0 r1) a0 i0 = M a0 i0 := (mset_at (Or.inl (show a0 ≠ 1079 from by omega))).trans hG1
    cases h
    exact hG5
theorem cg_L_append {v1 : Int} {M : Mem} {res : Int × Mem} (h : f_L_append v1 M = some res) (a0 : Nat) (i0 : Int) (ha : (a0 ≠ 62 ∨ i0 ≠ 0) ∧ a0 ≠ 63 ∧ a0 ≠ 1079) : res.2 a0 i0 = M a0 i0 := by
  have hG : M a0 i0 = M a0 i0 := rfl
  rw [f_L_append] at h
  obtain ⟨q1, h1, h⟩ := ob_some h
  have hG1 := (cg_X9_append h1 a0 i0 (by omega)).trans hG
  rcases hz1 : q1.1 with e1 | r1
  · replace h := ox_l hz1 h
    by_cases hc3 : e1 = 0
    · replace h := ite_t hc3 h
      subst hc3
      cases h
      exact hG1
    · replace h := ite_f hc3 h
      by_cases hc2 : e1 = 2
      · replace h := ite_t hc2 h
        subst hc2
        cases h
        exact hG1
      · replace h := ite_f hc2 h
        cases h
  · replace h := ox_r hz1 h
    obtain ⟨hc4, h⟩ := chk_some h
    have hG5 : (mset q1.2 1079 0 r1) a0 i0 = M a0 i0 := (mset_at (Or.inl (show a0 ≠ 1079 from by omega))).trans hG1
    cases h
    exact hG5
theorem cg_L_undo {F : Nat} {M : Mem} {res : Int × Mem} (h : f_L_undo F M = some res) (a0 : Nat) (i0 : Int) (ha : (a0 ≠ 1 ∨ i0 ≠ 0) ∧ (a0 ≠ 1 ∨ i0 ≠ 1) ∧ a0 ≠ 2 ∧ a0 ≠ 3 ∧ a0 ≠ 4 ∧ a0 ≠ 5 ∧ a0 ≠ 6 ∧ (a0 ≠ 13 ∨ i0 ≠ 0) ∧ a0 ≠ 40 ∧ a0 ≠ 41 ∧ a0 ≠ 42 ∧ a0 ≠ 43 ∧ (a0 ≠ 51 ∨ i0 ≠ 2) ∧ a0 ≠ 1079) : res.2 a0 i0 = M a0 i0 := by
  have hG : M a0 i0 = M a0 i0 := rfl
  rw [f_L_undo] at h
  obtain ⟨q1, h1, h⟩ := ob_some h
  have hG1 := (cg_X9_undo h1 a0 i0 (by omega)).trans hG
  rcases hz1 : q1.1 with e1 | r1
  · replace h := ox_l hz1 h
    by_cases hc2 : e1 = 2
    · replace h := ite_t hc2 h
      subst hc2
      cases h
      exact hG1
    · replace h := ite_f hc2 h
      cases h
  · replace h := ox_r hz1 h
    obtain ⟨hc3, h⟩ := chk_some h
    have hG4 : (mset q1.2 1079 0 r1) a0 i0 = M a0 i0 := (mset_at (Or.inl (show a0 ≠ 1079 from by omega))).trans hG1
    cases h
    exact hG4
