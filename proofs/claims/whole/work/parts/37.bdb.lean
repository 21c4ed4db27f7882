theorem bd_X10_eases {v1 : Int} {v2 : Int} {v3 : Int} {M : Mem} (hB : Bd M) {res : Int × Mem} (h : f_X10_eases v1 v2 v3 M = some res) : Bd res.2 := by
  rw [f_X10_eases] at h
  obtain ⟨hc1, h⟩ := chk_some h
  obtain ⟨hc2, h⟩ := chk_some h
  obtain ⟨hc3, h⟩ := chk_some h
  by_cases hc4 : M 68 v2 ≤ (M 68 v1) + v3
  · replace h := ite_t hc4 h
    have hB6 := hB.set 68 v2 (x := M 68 v2) (hB 68 v2 (by decide))
    cases h
    exact hB6
  · replace h := ite_f hc4 h
    have hB8 := hB.set 68 v2 (x := (M 68 v1) + v3) hc3
    cases h
    exact hB8
theorem bw_X10_laysFar_114 {res : Mem} {F : Nat} {k60 : Int → Int → Int → Mem → Option (Mem)} (hk60 : ∀ (v1 : Int) (v2 : Int) (v3 : Int) (M : Mem), Bd M → k60 v1 v2 v3 M = some res → Bd res) : ∀ (v2 : Int) (v3 : Int) (t0 : Int) (M : Mem), Bd M → f_X10_laysFar_114 F k60 v2 v3 t0 M = some res → Bd res := by
  intro v2 v3 t0 M hB h
  rw [f_X10_laysFar_114] at h
  obtain ⟨hp_t0, h⟩ := chk_some h
  obtain ⟨q11, h11, h⟩ := ob_some h
  have hB11 := hB
  obtain ⟨q12, h12, h⟩ := ob_some h
  have hB12 := hB11
  obtain ⟨q13, h13, h⟩ := ob_some h
  have hB13 := hB12
  obtain ⟨q14, h14, h⟩ := ob_some h
  have hB14 := bd_X10_eases hB13 h14
  obtain ⟨hc15, h⟩ := chk_some h
  rcases (Decidable.em (q14.1 = 0)).symm with hc16 | hc16
  · replace h := ite_f hc16 h
    exact hk60 1 v2 (v3 + 1) q14.2 hB14 h
  · replace h := ite_t hc16 h
    by_cases hc17 : t0 = 0
    · replace h := ite_t hc17 h
      exact hk60 0 v2 (v3 + 1) q14.2 hB14 h
    · replace h := ite_f hc17 h
      exact hk60 1 v2 (v3 + 1) q14.2 hB14 h
theorem bw_X10_laysFar_60 {res : Mem} {F : Nat} {k48 : Int → Int → Mem → Option (Mem)} (hk48 : ∀ (v1 : Int) (v2 : Int) (M : Mem), Bd M → k48 v1 v2 M = some res → Bd res) : ∀ (fu : Nat) (v1 : Int) (v2 : Int) (v3 : Int) (M : Mem), Bd M → f_X10_laysFar_60 F k48 fu v1 v2 v3 M = some res → Bd res := by
  intro fu
  induction fu with
  | zero => intro v1 v2 v3 M hB h; exact nomatch (show (none : Option (Mem)) = some res from h)
  | succ fu ih =>
    intro v1 v2 v3 M hB h
    rw [f_X10_laysFar_60] at h
    obtain ⟨⟨hp_v1, hp_v3⟩, h⟩ := chk_some h
    by_cases hc4 : M 65 0 ≤ v3
    · replace h := ite_t hc4 h
      exact hk48 v1 (v2 + 1) M hB h
    · replace h := ite_f hc4 h
      obtain ⟨q5, h5, h⟩ := ob_some h
      have hB5 := hB
      obtain ⟨q6, h6, h⟩ := ob_some h
      have hB6 := hB5
      obtain ⟨q7, h7, h⟩ := ob_some h
      have hB7 := hB6
      obtain ⟨q8, h8, h⟩ := ob_some h
      have hB8 := bd_X10_eases hB7 h8
      obtain ⟨hc9, h⟩ := chk_some h
      rcases (Decidable.em (q8.1 = 0)).symm with hc10 | hc10
      · replace h := ite_f hc10 h
        exact bw_X10_laysFar_114 ih v2 v3 1 q8.2 hB8 h
      · replace h := ite_t hc10 h
        by_cases hc18 : v1 = 0
        · replace h := ite_t hc18 h
          exact bw_X10_laysFar_114 ih v2 v3 0 q8.2 hB8 h
        · replace h := ite_f hc18 h
          exact bw_X10_laysFar_114 ih v2 v3 1 q8.2 hB8 h
theorem bw_X10_laysFar_48 {res : Mem} {F : Nat} {k40 : Int → Mem → Option (Mem)} (hk40 : ∀ (v1 : Int) (M : Mem), Bd M → k40 v1 M = some res → Bd res) : ∀ (fu : Nat) (v1 : Int) (v2 : Int) (M : Mem), Bd M → f_X10_laysFar_48 F k40 fu v1 v2 M = some res → Bd res := by
  intro fu
  induction fu with
  | zero => intro v1 v2 M hB h; exact nomatch (show (none : Option (Mem)) = some res from h)
  | succ fu ih =>
    intro v1 v2 M hB h
    rw [f_X10_laysFar_48] at h
    obtain ⟨hp_v2, h⟩ := chk_some h
    by_cases hc3 : M 65 1 ≤ v2
    · replace h := ite_t hc3 h
      exact hk40 v1 M hB h
    · replace h := ite_f hc3 h
      exact bw_X10_laysFar_60 ih F v1 v2 0 M hB h
theorem bw_X10_laysFar_40 {res : Mem} {F : Nat} : ∀ (fu : Nat) (v1 : Int) (M : Mem), Bd M → f_X10_laysFar_40 F fu v1 M = some res → Bd res := by
  intro fu
  induction fu with
  | zero => intro v1 M hB h; exact nomatch (show (none : Option (Mem)) = some res from h)
  | succ fu ih =>
    intro v1 M hB h
    rw [f_X10_laysFar_40] at h
    obtain ⟨hp_v1, h⟩ := chk_some h
    by_cases hc2 : v1 = 0
    · replace h := ite_t hc2 h
      cases h
      exact hB
    · replace h := ite_f hc2 h
      exact bw_X10_laysFar_48 ih F 0 0 M hB h
theorem bw_X10_laysFar_2 {res : Mem} {F : Nat} : ∀ (fu : Nat) (v1 : Int) (M : Mem), Bd M → f_X10_laysFar_2 F fu v1 M = some res → Bd res := by
  intro fu
  induction fu with
  | zero => intro v1 M hB h; exact nomatch (show (none : Option (Mem)) = some res from h)
  | succ fu ih =>
    intro v1 M hB h
    rw [f_X10_laysFar_2] at h
    obtain ⟨hp_v1, h⟩ := chk_some h
    by_cases hc1 : 81 ≤ v1
    · replace h := ite_t hc1 h
      exact bw_X10_laysFar_40 F 1 M hB h
    · replace h := ite_f hc1 h
      obtain ⟨hc19, h⟩ := chk_some h
      obtain ⟨hc20, h⟩ := chk_some h
      obtain ⟨hc21, h⟩ := chk_some h
      rcases (Decidable.em (v1 / 9 = v1 % 9)).symm with hc22 | hc22
      · replace h := ite_f hc22 h
        obtain ⟨hc23, h⟩ := chk_some h
        have hB24 := hB.set 68 v1 (x := 1000) (by decide)
        exact ih (v1 + 1) (mset M 68 v1 1000) hB24 h
      · replace h := ite_t hc22 h
        obtain ⟨hc25, h⟩ := chk_some h
        have hB26 := hB.set 68 v1 (x := 0) (by decide)
        exact ih (v1 + 1) (mset M 68 v1 0) hB26 h
theorem bd_X10_laysFar {F : Nat} {M : Mem} (hB : Bd M) {res : Mem} (h : f_X10_laysFar F M = some res) : Bd res := by
  rw [f_X10_laysFar] at h
  exact bw_X10_laysFar_2 F 0 M hB h
theorem bd_X10_distance {F : Nat} {v1 : Int} {v2 : Int} {M : Mem} (hB : Bd M) {res : Int × Mem} (h : f_X10_distance F v1 v2 M = some res) : Bd res.2 := by
  rw [f_X10_distance] at h
  obtain ⟨q1, h1, h⟩ := ob_some h
  have hB1 := hB
  obtain ⟨hc2, h⟩ := chk_some h
  by_cases hc3 : q1 = 0
  · replace h := ite_t hc3 h
    obtain ⟨q4, h4, h⟩ := ob_some h
    have hB4 := bd_X10_refused hB1 h4
    obtain ⟨hc5, h⟩ := chk_some h
    by_cases hc6 : q4.1 = 0
    · replace h := ite_t hc6 h
      obtain ⟨q7, h7, h⟩ := ob_some h
      have hB7 := bd_X10_laysFar hB4 h7
      obtain ⟨q8, h8, h⟩ := ob_some h
      have hB8 := hB7
      obtain ⟨hc9, h⟩ := chk_some h
      rcases (Decidable.em (q8 = 1000)).symm with hc10 | hc10
      · replace h := ite_f hc10 h
        obtain ⟨q11, h11, h⟩ := ob_some h
        have hB11 := hB8
        cases h
        exact hB11
      · replace h := ite_t hc10 h
        cases h
        exact hB8
    · replace h := ite_f hc6 h
      cases h
      exact hB4
  · replace h := ite_f hc3 h
    obtain ⟨q12, h12, h⟩ := ob_some h
    have hB12 := hB1
    obtain ⟨hc13, h⟩ := chk_some h
    by_cases hc14 : q12 = 0
    · replace h := ite_t hc14 h
      obtain ⟨q15, h15, h⟩ := ob_some h
      have hB15 := bd_X10_refused hB12 h15
      obtain ⟨hc16, h⟩ := chk_some h
      by_cases hc17 : q15.1 = 0
      · replace h := ite_t hc17 h
        obtain ⟨q18, h18, h⟩ := ob_some h
        have hB18 := bd_X10_laysFar hB15 h18
        obtain ⟨q19, h19, h⟩ := ob_some h
        have hB19 := hB18
        obtain ⟨hc20, h⟩ := chk_some h
        rcases (Decidable.em (q19 = 1000)).symm with hc21 | hc21
        · replace h := ite_f hc21 h
          obtain ⟨q22, h22, h⟩ := ob_some h
          have hB22 := hB19
          cases h
          exact hB22
        · replace h := ite_t hc21 h
          cases h
          exact hB19
      · replace h := ite_f hc17 h
        cases h
        exact hB15
    · replace h := ite_f hc14 h
      obtain ⟨q23, h23, h⟩ := ob_some h
      have hB23 := bd_X10_refused hB12 h23
      obtain ⟨hc24, h⟩ := chk_some h
      by_cases hc25 : q23.1 = 0
      · replace h := ite_t hc25 h
        obtain ⟨q26, h26, h⟩ := ob_some h
        have hB26 := bd_X10_laysFar hB23 h26
        obtain ⟨q27, h27, h⟩ := ob_some h
        have hB27 := hB26
        obtain ⟨hc28, h⟩ := chk_some h
        rcases (Decidable.em (q27 = 1000)).symm with hc29 | hc29
        · replace h := ite_f hc29 h
          obtain ⟨q30, h30, h⟩ := ob_some h
          have hB30 := hB27
          cases h
          exact hB30
        · replace h := ite_t hc29 h
          cases h
          exact hB27
      · replace h := ite_f hc25 h
        cases h
        exact hB23
theorem bd_X10_goodLinks {F : Nat} {v1 : Int} {v2 : Int} {M : Mem} (hB : Bd M) {res : Int × Mem} (h : f_X10_goodLinks F v1 v2 M = some res) : Bd res.2 := by
  rw [f_X10_goodLinks] at h
  obtain ⟨q1, h1, h⟩ := ob_some h
  have hB1 := hB
  obtain ⟨hc2, h⟩ := chk_some h
  by_cases hc3 : q1 = 0
  · replace h := ite_t hc3 h
    obtain ⟨q4, h4, h⟩ := ob_some h
    have hB4 := bd_X10_refused hB1 h4
    obtain ⟨hc5, h⟩ := chk_some h
    by_cases hc6 : q4.1 = 0
    · replace h := ite_t hc6 h
      obtain ⟨q7, h7, h⟩ := ob_some h
      have hB7 := bd_X10_laysFar hB4 h7
      obtain ⟨q8, h8, h⟩ := ob_some h
      have hB8 := hB7
      cases h
      exact hB8
    · replace h := ite_f hc6 h
      cases h
      exact hB4
  · replace h := ite_f hc3 h
    obtain ⟨q9, h9, h⟩ := ob_some h
    have hB9 := hB1
    obtain ⟨hc10, h⟩ := chk_some h
    by_cases hc11 : q9 = 0
    · replace h := ite_t hc11 h
      obtain ⟨q12, h12, h⟩ := ob_some h
      have hB12 := bd_X10_refused hB9 h12
      obtain ⟨hc13, h⟩ := chk_some h
      by_cases hc14 : q12.1 = 0
      · replace h := ite_t hc14 h
        obtain ⟨q15, h15, h⟩ := ob_some h
        have hB15 := bd_X10_laysFar hB12 h15
        obtain ⟨q16, h16, h⟩ := ob_some h
        have hB16 := hB15
        cases h
        exact hB16
      · replace h := ite_f hc14 h
        cases h
        exact hB12
    · replace h := ite_f hc11 h
      obtain ⟨q17, h17, h⟩ := ob_some h
      have hB17 := bd_X10_refused hB9 h17
      obtain ⟨hc18, h⟩ := chk_some h
      by_cases hc19 : q17.1 = 0
      · replace h := ite_t hc19 h
        obtain ⟨q20, h20, h⟩ := ob_some h
        have hB20 := bd_X10_laysFar hB17 h20
        obtain ⟨q21, h21, h⟩ := ob_some h
        have hB21 := hB20
        cases h
        exact hB21
      · replace h := ite_f hc19 h
        cases h
        exact hB17
theorem bw_X10_kind_42 {res : Int × Mem} {F : Nat} : ∀ (fu : Nat) (v1 : Int) (v2 : Int) (v3 : Int) (M : Mem), Bd M → f_X10_kind_42 F fu v1 v2 v3 M = some res → Bd res.2 := by
  intro fu
  induction fu with
  | zero => intro v1 v2 v3 M hB h; exact nomatch (show (none : Option (Int × Mem)) = some res from h)
  | succ fu ih =>
    intro v1 v2 v3 M hB h
    rw [f_X10_kind_42] at h
    obtain ⟨⟨hp_v1, hp_v2, hp_v3⟩, h⟩ := chk_some h
    by_cases hc5 : M 65 0 ≤ v3
    · replace h := ite_t hc5 h
      rcases (Decidable.em (v1 = 0)).symm with hc6 | hc6
      · replace h := ite_f hc6 h
        obtain ⟨hc7, h⟩ := chk_some h
        rcases (Decidable.em (M 65 1 = (M 65 0) - 1)).symm with hc8 | hc8
        · replace h := ite_f hc8 h
          by_cases hc9 : v2 = 0
          · replace h := ite_t hc9 h
            cases h
            exact hB
          · replace h := ite_f hc9 h
            cases h
            exact hB
        · replace h := ite_t hc8 h
          cases h
          exact hB
      · replace h := ite_t hc6 h
        cases h
        exact hB
    · replace h := ite_f hc5 h
      by_cases hc10 : v1 = 0
      · replace h := ite_t hc10 h
        by_cases hc11 : v2 = 0
        · replace h := ite_t hc11 h
          exact ih 0 0 (v3 + 1) M hB h
        · replace h := ite_f hc11 h
          obtain ⟨q12, h12, h⟩ := ob_some h
          have hB12 := hB
          obtain ⟨hc13, h⟩ := chk_some h
          rcases (Decidable.em (q12 = 2)).symm with hc14 | hc14
          · replace h := ite_f hc14 h
            exact ih 0 0 (v3 + 1) M hB12 h
          · replace h := ite_t hc14 h
            exact ih 0 1 (v3 + 1) M hB12 h
      · replace h := ite_f hc10 h
        obtain ⟨q15, h15, h⟩ := ob_some h
        have hB15 := hB
        obtain ⟨hc16, h⟩ := chk_some h
        by_cases hc17 : 1000 ≤ q15
        · replace h := ite_t hc17 h
          by_cases hc18 : v2 = 0
          · replace h := ite_t hc18 h
            exact ih 0 0 (v3 + 1) M hB15 h
          · replace h := ite_f hc18 h
            obtain ⟨q19, h19, h⟩ := ob_some h
            have hB19 := hB15
            obtain ⟨hc20, h⟩ := chk_some h
            rcases (Decidable.em (q19 = 2)).symm with hc21 | hc21
            · replace h := ite_f hc21 h
              exact ih 0 0 (v3 + 1) M hB19 h
            · replace h := ite_t hc21 h
              exact ih 0 1 (v3 + 1) M hB19 h
        · replace h := ite_f hc17 h
          by_cases hc22 : v2 = 0
          · replace h := ite_t hc22 h
            exact ih 1 0 (v3 + 1) M hB15 h
          · replace h := ite_f hc22 h
            obtain ⟨q23, h23, h⟩ := ob_some h
            have hB23 := hB15
            obtain ⟨hc24, h⟩ := chk_some h
            rcases (Decidable.em (q23 = 2)).symm with hc25 | hc25
            · replace h := ite_f hc25 h
              exact ih 1 0 (v3 + 1) M hB23 h
            · replace h := ite_t hc25 h
              exact ih 1 1 (v3 + 1) M hB23 h
theorem bd_X10_kind {F : Nat} {M : Mem} (hB : Bd M) {res : Int × Mem} (h : f_X10_kind F M = some res) : Bd res.2 := by
  rw [f_X10_kind] at h
  have hB1 := hB.set 64 3 (x := 0) (by decide)
  obtain ⟨q2, h2, h⟩ := ob_some h
  have hB2 := bd_X10_laysFar hB1 h2
  by_cases hc3 : q2 65 0 ≤ 0
  · replace h := ite_t hc3 h
    by_cases hc4 : q2 65 0 ≤ 2
    · replace h := ite_t hc4 h
      exact bw_X10_kind_42 F 0 0 0 q2 hB2 h
    · replace h := ite_f hc4 h
      exact bw_X10_kind_42 F 0 1 0 q2 hB2 h
  · replace h := ite_f hc3 h
    by_cases hc26 : q2 65 0 ≤ 2
    · replace h := ite_t hc26 h
      exact bw_X10_kind_42 F 1 0 0 q2 hB2 h
    · replace h := ite_f hc26 h
      exact bw_X10_kind_42 F 1 1 0 q2 hB2 h
theorem bd_X10_label {v1 : Int} {M : Mem} (hB : Bd M) {res : Int × Mem} (h : f_X10_label v1 M = some res) : Bd res.2 := by
  rw [f_X10_label] at h
  obtain ⟨q1, h1, h⟩ := ob_some h
  have hB1 := hB
  obtain ⟨hc2, h⟩ := chk_some h
  by_cases hc3 : q1 = 0
  · replace h := ite_t hc3 h
    obtain ⟨q4, h4, h⟩ := ob_some h
    have hB4 := bd_X10_refused hB1 h4
    obtain ⟨hc5, h⟩ := chk_some h
    by_cases hc6 : q4.1 = 0
    · replace h := ite_t hc6 h
      obtain ⟨hc7, h⟩ := chk_some h
      cases h
      exact hB4
    · replace h := ite_f hc6 h
      cases h
      exact hB4
  · replace h := ite_f hc3 h
    obtain ⟨q8, h8, h⟩ := ob_some h
    have hB8 := bd_X10_refused hB1 h8
    obtain ⟨hc9, h⟩ := chk_some h
    by_cases hc10 : q8.1 = 0
    · replace h := ite_t hc10 h
      obtain ⟨hc11, h⟩ := chk_some h
      cases h
      exact hB8
    · replace h := ite_f hc10 h
      cases h
      exact hB8
theorem bd_X10_nodeWith {F : Nat} {v1 : Int} {M : Mem} (hB : Bd M) {res : Int × Mem} (h : f_X10_nodeWith F v1 M = some res) : Bd res.2 := by
  rw [f_X10_nodeWith] at h
  obtain ⟨q1, h1, h⟩ := ob_some h
  have hB1 := hB
  obtain ⟨hc2, h⟩ := chk_some h
  by_cases hc3 : q1 = 0
  · replace h := ite_t hc3 h
    obtain ⟨q4, h4, h⟩ := ob_some h
    have hB4 := bd_X10_refused hB1 h4
    obtain ⟨hc5, h⟩ := chk_some h
    by_cases hc6 : q4.1 = 0
    · replace h := ite_t hc6 h
      obtain ⟨q7, h7, h⟩ := ob_some h
      have hB7 := hB4
      cases h
      exact hB7
    · replace h := ite_f hc6 h
      cases h
      exact hB4
  · replace h := ite_f hc3 h
    obtain ⟨q8, h8, h⟩ := ob_some h
    have hB8 := bd_X10_refused hB1 h8
    obtain ⟨hc9, h⟩ := chk_some h
    by_cases hc10 : q8.1 = 0
    · replace h := ite_t hc10 h
      obtain ⟨q11, h11, h⟩ := ob_some h
      have hB11 := hB8
      cases h
      exact hB11
    · replace h := ite_f hc10 h
      cases h
      exact hB8
theorem bw_X10_visits_158 {res : Mem} {F : Nat} : ∀ (fu : Nat) (v2 : Int) (v3 : Int) (v5 : Int) (M : Mem), Bd M → f_X10_visits_158 F fu v2 v3 v5 M = some res → Bd res := by
  intro fu
  induction fu with
  | zero => intro v2 v3 v5 M hB h; exact nomatch (show (none : Option (Mem)) = some res from h)
  | succ fu ih =>
    intro v2 v3 v5 M hB h
    rw [f_X10_visits_158] at h
    obtain ⟨⟨hp_v3, hp_v5⟩, h⟩ := chk_some h
    by_cases hc5 : M 65 0 ≤ v5
    · replace h := ite_t hc5 h
      cases h
      exact hB
    · replace h := ite_f hc5 h
      obtain ⟨q6, h6, h⟩ := ob_some h
      have hB6 := hB
      obtain ⟨hc7, h⟩ := chk_some h
      rcases (Decidable.em (q6 = 0)).symm with hc8 | hc8
      · replace h := ite_f hc8 h
        exact ih v2 v3 (v5 + 1) M hB6 h
      · replace h := ite_t hc8 h
        obtain ⟨hc9, h⟩ := chk_some h
        have hB10 := hB6.set 65 (50 + v5) (x := v3) hp_v3
        exact ih v2 (v3 + 1) (v5 + 1) (mset M 65 (50 + v5) v3) hB10 h
theorem bw_X10_visits_55 {res : Mem} {F : Nat} {k26 : Int → Int → Int → Mem → Option (Mem)} (hk26 : ∀ (v2 : Int) (v3 : Int) (v4 : Int) (M : Mem), Bd M → k26 v2 v3 v4 M = some res → Bd res) : ∀ (fu : Nat) (v2 : Int) (v3 : Int) (v4 : Int) (v5 : Int) (v6 : Int) (v7 : Int) (M : Mem), Bd M → f_X10_visits_55 F k26 fu v2 v3 v4 v5 v6 v7 M = some res → Bd res := by
  intro fu
  induction fu with
  | zero => intro v2 v3 v4 v5 v6 v7 M hB h; exact nomatch (show (none : Option (Mem)) = some res from h)
  | succ fu ih =>
    intro v2 v3 v4 v5 v6 v7 M hB h
    rw [f_X10_visits_55] at h
    obtain ⟨⟨hp_v3, hp_v6, hp_v7⟩, h⟩ := chk_some h
    by_cases hc12 : v7 < 0
    · replace h := ite_t hc12 h
      rcases (Decidable.em (v6 = (-1))).symm with hc13 | hc13
      · replace h := ite_f hc13 h
        obtain ⟨hc14, h⟩ := chk_some h
        have hB15 := hB.set 65 (50 + v6) (x := v3) hp_v3
        obtain ⟨hc16, h⟩ := chk_some h
        have hB17 := hB15.set 69 v4 (x := v6) hp_v6
        exact hk26 (bor v2 (bshl 1 v6)) (v3 + 1) (v4 + 1) (mset (mset M 65 (50 + v6) v3) 69 v4 v6) hB17 h
      · replace h := ite_t hc13 h
        exact hk26 v2 v3 (v4 + (-1)) M hB h
    · replace h := ite_f hc12 h
      obtain ⟨q18, h18, h⟩ := ob_some h
      have hB18 := hB
      obtain ⟨hc19, h⟩ := chk_some h
      by_cases hc20 : q18 = 0
      · replace h := ite_t hc20 h
        exact ih v2 v3 v4 v5 v6 (v7 + (-1)) M hB18 h
      · replace h := ite_f hc20 h
        obtain ⟨q21, h21, h⟩ := ob_some h
        have hB21 := hB18
        obtain ⟨q22, h22, h⟩ := ob_some h
        have hB22 := hB21
        obtain ⟨hc23, h⟩ := chk_some h
        rcases (Decidable.em (q22 = 0)).symm with hc24 | hc24
        · replace h := ite_f hc24 h
          exact ih v2 v3 v4 v5 v6 (v7 + (-1)) M hB22 h
        · replace h := ite_t hc24 h
          obtain ⟨q25, h25, h⟩ := ob_some h
          have hB25 := hB22
          exact ih v2 v3 v4 v5 q25 (v7 + (-1)) M hB25 h
theorem bw_X10_visits_26 {res : Mem} {F : Nat} : ∀ (fu : Nat) (v2 : Int) (v3 : Int) (v4 : Int) (M : Mem), Bd M → f_X10_visits_26 F fu v2 v3 v4 M = some res → Bd res := by
  intro fu
  induction fu with
  | zero => intro v2 v3 v4 M hB h; exact nomatch (show (none : Option (Mem)) = some res from h)
  | succ fu ih =>
    intro v2 v3 v4 M hB h
    rw [f_X10_visits_26] at h
    obtain ⟨hp_v4, h⟩ := chk_some h
    by_cases hc4 : v4 ≤ 0
    · replace h := ite_t hc4 h
      exact bw_X10_visits_158 F v2 v3 0 M hB h
    · replace h := ite_f hc4 h
      obtain ⟨hc11, h⟩ := chk_some h
      exact bw_X10_visits_55 ih F v2 v3 v4 (M 69 (v4 - 1)) (-1) ((M 65 1) - 1) M hB h
theorem bd_X10_visits {F : Nat} {v1 : Int} {M : Mem} (hB : Bd M) {res : Mem} (h : f_X10_visits F v1 M = some res) : Bd res := by
  rw [f_X10_visits] at h
  obtain ⟨hp_v1, h⟩ := chk_some h
  have hB1 := hB.set 69 0 (x := v1) hp_v1
  obtain ⟨hc2, h⟩ := chk_some h
  have hB3 := hB1.set 65 (50 + v1) (x := 0) (by decide)
  exact bw_X10_visits_26 F (bshl 1 v1) 1 1 (mset (mset M 69 0 v1) 65 (50 + v1) 0) hB3 h
theorem bw_X10_ranks_21 {res : Mem} {F : Nat} {k6 : Int → Int → Mem → Option (Mem)} (hk6 : ∀ (v1 : Int) (v2 : Int) (M : Mem), Bd M → k6 v1 v2 M = some res → Bd res) : ∀ (fu : Nat) (v1 : Int) (v2 : Int) (v3 : Int) (v4 : Int) (M : Mem), Bd M → f_X10_ranks_21 F k6 fu v1 v2 v3 v4 M = some res → Bd res := by
  intro fu
  induction fu with
  | zero => intro v1 v2 v3 v4 M hB h; exact nomatch (show (none : Option (Mem)) = some res from h)
  | succ fu ih =>
    intro v1 v2 v3 v4 M hB h
    rw [f_X10_ranks_21] at h
    obtain ⟨⟨hp_v2, hp_v3, hp_v4⟩, h⟩ := chk_some h
    by_cases hc3 : M 65 0 ≤ v4
    · replace h := ite_t hc3 h
      obtain ⟨hc4, h⟩ := chk_some h
      have hB5 := hB.set 65 (50 + v2) (x := v3) hp_v3
      exact hk6 v1 (v2 + 1) (mset M 65 (50 + v2) v3) hB5 h
    · replace h := ite_f hc3 h
      obtain ⟨q6, h6, h⟩ := ob_some h
      have hB6 := hB
      obtain ⟨q7, h7, h⟩ := ob_some h
      have hB7 := hB6
      obtain ⟨hc8, h⟩ := chk_some h
      obtain ⟨hc9, h⟩ := chk_some h
      by_cases hc10 : q6 < q7
      · replace h := ite_t hc10 h
        exact ih v1 v2 (v3 + 1) (v4 + 1) M hB7 h
      · replace h := ite_f hc10 h
        obtain ⟨q11, h11, h⟩ := ob_some h
        have hB11 := hB7
        obtain ⟨q12, h12, h⟩ := ob_some h
        have hB12 := hB11
        obtain ⟨hc13, h⟩ := chk_some h
        obtain ⟨hc14, h⟩ := chk_some h
        rcases (Decidable.em (q11 = q12)).symm with hc15 | hc15
        · replace h := ite_f hc15 h
          exact ih v1 v2 (v3 + 0) (v4 + 1) M hB12 h
        · replace h := ite_t hc15 h
          by_cases hc16 : v2 ≤ v4
          · replace h := ite_t hc16 h
            exact ih v1 v2 (v3 + 0) (v4 + 1) M hB12 h
          · replace h := ite_f hc16 h
            exact ih v1 v2 (v3 + 1) (v4 + 1) M hB12 h
theorem bw_X10_ranks_6 {res : Mem} {F : Nat} : ∀ (fu : Nat) (v1 : Int) (v2 : Int) (M : Mem), Bd M → f_X10_ranks_6 F fu v1 v2 M = some res → Bd res := by
  intro fu
  induction fu with
  | zero => intro v1 v2 M hB h; exact nomatch (show (none : Option (Mem)) = some res from h)
  | succ fu ih =>
    intro v1 v2 M hB h
    rw [f_X10_ranks_6] at h
    obtain ⟨hp_v2, h⟩ := chk_some h
    by_cases hc2 : M 65 0 ≤ v2
    · replace h := ite_t hc2 h
      cases h
      exact hB
    · replace h := ite_f hc2 h
      exact bw_X10_ranks_21 ih F v1 v2 0 0 M hB h
theorem bd_X10_ranks {F : Nat} {v1 : Int} {M : Mem} (hB : Bd M) {res : Mem} (h : f_X10_ranks F v1 M = some res) : Bd res := by
  rw [f_X10_ranks] at h
  obtain ⟨q1, h1, h⟩ := ob_some h
  have hB1 := bd_X10_laysFar hB h1
  exact bw_X10_ranks_6 F v1 0 q1 hB1 h
theorem bw_X10_laysRing_7 {res : Mem} {F : Nat} : ∀ (fu : Nat) (v1 : Int) (v2 : Int) (M : Mem), Bd M → f_X10_laysRing_7 F fu v1 v2 M = some res → Bd res := by
  intro fu
  induction fu with
  | zero => intro v1 v2 M hB h; exact nomatch (show (none : Option (Mem)) = some res from h)
  | succ fu ih =>
    intro v1 v2 M hB h
    rw [f_X10_laysRing_7] at h
    obtain ⟨hp_v2, h⟩ := chk_some h
    by_cases hc2 : M 65 0 ≤ v2
    · replace h := ite_t hc2 h
      cases h
      exact hB
    · replace h := ite_f hc2 h
      obtain ⟨hc3, h⟩ := chk_some h
      by_cases hc4 : v2 = M 65 (50 + v1)
      · replace h := ite_t hc4 h
        exact ih v1 (v2 + 1) M hB h
      · replace h := ite_f hc4 h
        obtain ⟨hc5, h⟩ := chk_some h
        have hB6 := hB.set 71 (M 64 10) (x := v2) hp_v2
        obtain ⟨q7, h7, h⟩ := ob_some h
        have hB7 := hB6
        obtain ⟨hc8, h⟩ := chk_some h
        obtain ⟨hc9, h⟩ := chk_some h
        have hB10 := hB7.set 70 ((mset M 71 (M 64 10) v2) 64 10) (x := q7) hc9
        obtain ⟨hc11, h⟩ := chk_some h
        have hB12 := hB10.set 64 10 (x := ((mset (mset M 71 (M 64 10) v2) 70 ((mset M 71 (M 64 10) v2) 64 10) q7) 64 10) + 1) hc11
        exact ih v1 (v2 + 1) (mset (mset (mset M 71 (M 64 10) v2) 70 ((mset M 71 (M 64 10) v2) 64 10) q7) 64 10 (((mset (mset M 71 (M 64 10) v2) 70 ((mset M 71 (M 64 10) v2) 64 10) q7) 64 10) + 1)) hB12 h
theorem bd_X10_laysRing {F : Nat} {v1 : Int} {M : Mem} (hB : Bd M) {res : Mem} (h : f_X10_laysRing F v1 M = some res) : Bd res := by
  rw [f_X10_laysRing] at h
  have hB1 := hB.set 64 10 (x := 0) (by decide)
  exact bw_X10_laysRing_7 F v1 0 (mset M 64 10 0) hB1 h
theorem bw_X10_laysRest_60 {res : Mem} {F : Nat} {k46 : Int → Int → Mem → Option (Mem)} (hk46 : ∀ (v2 : Int) (v3 : Int) (M : Mem), Bd M → k46 v2 v3 M = some res → Bd res) : ∀ (fu : Nat) (v2 : Int) (v3 : Int) (v4 : Int) (v5 : Int) (M : Mem), Bd M → f_X10_laysRest_60 F k46 fu v2 v3 v4 v5 M = some res → Bd res := by
  intro fu
  induction fu with
  | zero => intro v2 v3 v4 v5 M hB h; exact nomatch (show (none : Option (Mem)) = some res from h)
  | succ fu ih =>
    intro v2 v3 v4 v5 M hB h
    rw [f_X10_laysRest_60] at h
    obtain ⟨⟨hp_v4, hp_v5⟩, h⟩ := chk_some h
    by_cases hc4 : 16 < v5
    · replace h := ite_t hc4 h
      obtain ⟨hc5, h⟩ := chk_some h
      have hB6 := hB.set 73 ((17 * v2) + v3) (x := v4) hp_v4
      exact hk46 v2 (v3 + 1) (mset M 73 ((17 * v2) + v3) v4) hB6 h
    · replace h := ite_f hc4 h
      obtain ⟨hc7, h⟩ := chk_some h
      obtain ⟨q8, h8, h⟩ := ob_some h
      have hB8 := hB
      obtain ⟨hc9, h⟩ := chk_some h
      by_cases hc10 : q8 = 0
      · replace h := ite_t hc10 h
        by_cases hc11 : v4 ≤ 1000
        · replace h := ite_t hc11 h
          exact ih v2 v3 v4 (v5 + 1) M hB8 h
        · replace h := ite_f hc11 h
          exact ih v2 v3 1000 (v5 + 1) M hB8 h
      · replace h := ite_f hc10 h
        obtain ⟨q12, h12, h⟩ := ob_some h
        have hB12 := hB8
        obtain ⟨hc13, h⟩ := chk_some h
        obtain ⟨hc14, h⟩ := chk_some h
        by_cases hc15 : v4 ≤ q12 + (M 73 ((17 * (v2 + 1)) + v5))
        · replace h := ite_t hc15 h
          exact ih v2 v3 v4 (v5 + 1) M hB12 h
        · replace h := ite_f hc15 h
          exact ih v2 v3 (q12 + (M 73 ((17 * (v2 + 1)) + v5))) (v5 + 1) M hB12 h
theorem bw_X10_laysRest_46 {res : Mem} {F : Nat} {k40 : Int → Mem → Option (Mem)} (hk40 : ∀ (v2 : Int) (M : Mem), Bd M → k40 v2 M = some res → Bd res) : ∀ (fu : Nat) (v2 : Int) (v3 : Int) (M : Mem), Bd M → f_X10_laysRest_46 F k40 fu v2 v3 M = some res → Bd res := by
  intro fu
  induction fu with
  | zero => intro v2 v3 M hB h; exact nomatch (show (none : Option (Mem)) = some res from h)
  | succ fu ih =>
    intro v2 v3 M hB h
    rw [f_X10_laysRest_46] at h
    obtain ⟨hp_v3, h⟩ := chk_some h
    by_cases hc3 : 16 < v3
    · replace h := ite_t hc3 h
      exact hk40 (v2 + (-1)) M hB h
    · replace h := ite_f hc3 h
      exact bw_X10_laysRest_60 ih F v2 v3 1000 0 M hB h
theorem bw_X10_laysRest_40 {res : Mem} {F : Nat} : ∀ (fu : Nat) (v2 : Int) (M : Mem), Bd M → f_X10_laysRest_40 F fu v2 M = some res → Bd res := by
  intro fu
  induction fu with
  | zero => intro v2 M hB h; exact nomatch (show (none : Option (Mem)) = some res from h)
  | succ fu ih =>
    intro v2 M hB h
    rw [f_X10_laysRest_40] at h
    obtain ⟨hp_v2, h⟩ := chk_some h
    by_cases hc2 : v2 ≤ 0
    · replace h := ite_t hc2 h
      cases h
      exact hB
    · replace h := ite_f hc2 h
      exact bw_X10_laysRest_46 ih F v2 0 M hB h
theorem bw_X10_laysRest_2 {res : Mem} {F : Nat} : ∀ (fu : Nat) (v1 : Int) (v2 : Int) (M : Mem), Bd M → f_X10_laysRest_2 F fu v1 v2 M = some res → Bd res := by
  intro fu
  induction fu with
  | zero => intro v1 v2 M hB h; exact nomatch (show (none : Option (Mem)) = some res from h)
  | succ fu ih =>
    intro v1 v2 M hB h
    rw [f_X10_laysRest_2] at h
    obtain ⟨hp_v2, h⟩ := chk_some h
    by_cases hc1 : 16 < v2
    · replace h := ite_t hc1 h
      exact bw_X10_laysRest_40 F ((M 64 10) - 1) M hB h
    · replace h := ite_f hc1 h
      obtain ⟨q16, h16, h⟩ := ob_some h
      have hB16 := hB
      obtain ⟨hc17, h⟩ := chk_some h
      obtain ⟨hc18, h⟩ := chk_some h
      have hB19 := hB16.set 73 ((17 * (M 64 10)) + v2) (x := q16) hc18
      exact ih v1 (v2 + 1) (mset M 73 ((17 * (M 64 10)) + v2) q16) hB19 h
theorem bd_X10_laysRest {F : Nat} {v1 : Int} {M : Mem} (hB : Bd M) {res : Mem} (h : f_X10_laysRest F v1 M = some res) : Bd res := by
  rw [f_X10_laysRest] at h
  exact bw_X10_laysRest_2 F v1 0 M hB h
theorem bw_X10_laysBest_278 {res : Mem} {F : Nat} : ∀ (fu : Nat) (v4 : Int) (M : Mem), Bd M → f_X10_laysBest_278 F fu v4 M = some res → Bd res := by
  intro fu
  induction fu with
  | zero => intro v4 M hB h; exact nomatch (show (none : Option (Mem)) = some res from h)
  | succ fu ih =>
    intro v4 M hB h
    rw [f_X10_laysBest_278] at h
    obtain ⟨hp_v4, h⟩ := chk_some h
    by_cases hc6 : M 64 10 ≤ v4
    · replace h := ite_t hc6 h
      cases h
      exact hB
    · replace h := ite_f hc6 h
      obtain ⟨hc7, h⟩ := chk_some h
      rcases (Decidable.em (M 70 v4 = 16)).symm with hc8 | hc8
      · replace h := ite_f hc8 h
        have hB9 := hB.set 70 v4 (x := M 70 v4) (hB 70 v4 (by decide))
        exact ih (v4 + 1) (mset M 70 v4 (M 70 v4)) hB9 h
      · replace h := ite_t hc8 h
        have hB10 := hB.set 70 v4 (x := (-1)) (by decide)
        exact ih (v4 + 1) (mset M 70 v4 (-1)) hB10 h
theorem bw_X10_laysBest_186 {res : Mem} {F : Nat} {k174 : Int → Mem → Option (Mem)} (hk174 : ∀ (v4 : Int) (M : Mem), Bd M → k174 v4 M = some res → Bd res) : ∀ (fu : Nat) (v4 : Int) (v5 : Int) (M : Mem), Bd M → f_X10_laysBest_186 F k174 fu v4 v5 M = some res → Bd res := by
  intro fu
  induction fu with
  | zero => intro v4 v5 M hB h; exact nomatch (show (none : Option (Mem)) = some res from h)
  | succ fu ih =>
    intro v4 v5 M hB h
    rw [f_X10_laysBest_186] at h
    obtain ⟨hp_v5, h⟩ := chk_some h
    obtain ⟨hc11, h⟩ := chk_some h
    obtain ⟨q12, h12, h⟩ := ob_some h
    have hB12 := hB
    obtain ⟨hc13, h⟩ := chk_some h
    by_cases hc14 : q12 = 0
    · replace h := ite_t hc14 h
      exact ih v4 (v5 + 1) M hB12 h
    · replace h := ite_f hc14 h
      obtain ⟨hc15, h⟩ := chk_some h
      obtain ⟨q16, h16, h⟩ := ob_some h
      have hB16 := hB12
      obtain ⟨hc17, h⟩ := chk_some h
      obtain ⟨hc18, h⟩ := chk_some h
      obtain ⟨hc19, h⟩ := chk_some h
      by_cases hc20 : q16 + (M 73 ((17 * (v4 + 1)) + v5)) = M 73 ((17 * v4) + (M 70 (v4 - 1)))
      · replace h := ite_t hc20 h
        have hB21 := hB16.set 70 v4 (x := v5) hp_v5
        exact hk174 (v4 + 1) (mset M 70 v4 v5) hB21 h
      · replace h := ite_f hc20 h
        exact ih v4 (v5 + 1) M hB16 h
theorem bw_X10_laysBest_174 {res : Mem} {F : Nat} : ∀ (fu : Nat) (v4 : Int) (M : Mem), Bd M → f_X10_laysBest_174 F fu v4 M = some res → Bd res := by
  intro fu
  induction fu with
  | zero => intro v4 M hB h; exact nomatch (show (none : Option (Mem)) = some res from h)
  | succ fu ih =>
    intro v4 M hB h
    rw [f_X10_laysBest_174] at h
    obtain ⟨hp_v4, h⟩ := chk_some h
    by_cases hc5 : M 64 10 ≤ v4
    · replace h := ite_t hc5 h
      exact bw_X10_laysBest_278 F 0 M hB h
    · replace h := ite_f hc5 h
      exact bw_X10_laysBest_186 ih F v4 0 M hB h
theorem bw_X10_laysBest_62 {res : Mem} {F : Nat} : ∀ (fu : Nat) (v2 : Int) (v3 : Int) (v4 : Int) (M : Mem), Bd M → f_X10_laysBest_62 F fu v2 v3 v4 M = some res → Bd res := by
  intro fu
  induction fu with
  | zero => intro v2 v3 v4 M hB h; exact nomatch (show (none : Option (Mem)) = some res from h)
  | succ fu ih =>
    intro v2 v3 v4 M hB h
    rw [f_X10_laysBest_62] at h
    obtain ⟨⟨hp_v2, hp_v3, hp_v4⟩, h⟩ := chk_some h
    by_cases hc3 : 16 < v4
    · replace h := ite_t hc3 h
      by_cases hc4 : M 64 10 ≤ 0
      · replace h := ite_t hc4 h
        exact bw_X10_laysBest_174 F 1 M hB h
      · replace h := ite_f hc4 h
        obtain ⟨q22, h22, h⟩ := ob_some h
        have hB22 := bd_X10_laysRest hB h22
        have hB23 := hB22.set 70 0 (x := v2) hp_v2
        exact bw_X10_laysBest_174 F 1 (mset q22 70 0 v2) hB23 h
    · replace h := ite_f hc3 h
      by_cases hc24 : M 64 10 ≤ 0
      · replace h := ite_t hc24 h
        by_cases hc25 : M 64 10 ≤ 0
        · replace h := ite_t hc25 h
          exact bw_X10_laysBest_174 F 1 M hB h
        · replace h := ite_f hc25 h
          obtain ⟨q26, h26, h⟩ := ob_some h
          have hB26 := bd_X10_laysRest hB h26
          have hB27 := hB26.set 70 0 (x := v2) hp_v2
          exact bw_X10_laysBest_174 F 1 (mset q26 70 0 v2) hB27 h
      · replace h := ite_f hc24 h
        obtain ⟨q28, h28, h⟩ := ob_some h
        have hB28 := hB
        obtain ⟨hc29, h⟩ := chk_some h
        by_cases hc30 : q28 = 0
        · replace h := ite_t hc30 h
          exact ih v2 v3 (v4 + 1) M hB28 h
        · replace h := ite_f hc30 h
          obtain ⟨q31, h31, h⟩ := ob_some h
          have hB31 := bd_X10_laysRest hB28 h31
          obtain ⟨hc32, h⟩ := chk_some h
          by_cases hc33 : v3 ≤ q31 73 (17 + v4)
          · replace h := ite_t hc33 h
            by_cases hc34 : v3 ≤ q31 73 (17 + v4)
            · replace h := ite_t hc34 h
              exact ih v2 v3 (v4 + 1) q31 hB31 h
            · replace h := ite_f hc34 h
              exact ih v2 (q31 73 (17 + v4)) (v4 + 1) q31 hB31 h
          · replace h := ite_f hc33 h
            by_cases hc35 : v3 ≤ q31 73 (17 + v4)
            · replace h := ite_t hc35 h
              exact ih v4 v3 (v4 + 1) q31 hB31 h
            · replace h := ite_f hc35 h
              exact ih v4 (q31 73 (17 + v4)) (v4 + 1) q31 hB31 h
theorem bw_X10_laysBest_7 {res : Mem} {F : Nat} : ∀ (fu : Nat) (v1 : Int) (v2 : Int) (M : Mem), Bd M → f_X10_laysBest_7 F fu v1 v2 M = some res → Bd res := by
  intro fu
  induction fu with
  | zero => intro v1 v2 M hB h; exact nomatch (show (none : Option (Mem)) = some res from h)
  | succ fu ih =>
    intro v1 v2 M hB h
    rw [f_X10_laysBest_7] at h
    obtain ⟨hp_v2, h⟩ := chk_some h
    by_cases hc2 : M 64 10 ≤ v2
    · replace h := ite_t hc2 h
      exact bw_X10_laysBest_62 F (-1) 1000 0 M hB h
    · replace h := ite_f hc2 h
      obtain ⟨hc36, h⟩ := chk_some h
      obtain ⟨q37, h37, h⟩ := ob_some h
      have hB37 := hB
      obtain ⟨q38, h38, h⟩ := ob_some h
      have hB38 := hB37
      obtain ⟨hc39, h⟩ := chk_some h
      rcases (Decidable.em (q38 = 0)).symm with hc40 | hc40
      · replace h := ite_f hc40 h
        have hB41 := hB38.set 72 v2 (x := q38) hc39
        exact ih v1 (v2 + 1) (mset M 72 v2 q38) hB41 h
      · replace h := ite_t hc40 h
        have hB42 := hB38.set 72 v2 (x := 65536) (by decide)
        exact ih v1 (v2 + 1) (mset M 72 v2 65536) hB42 h
theorem bd_X10_laysBest {F : Nat} {v1 : Int} {M : Mem} (hB : Bd M) {res : Mem} (h : f_X10_laysBest F v1 M = some res) : Bd res := by
  rw [f_X10_laysBest] at h
  obtain ⟨q1, h1, h⟩ := ob_some h
  have hB1 := bd_X10_laysRing hB h1
  exact bw_X10_laysBest_7 F v1 0 q1 hB1 h
theorem bd_X10_swaps {v1 : Int} {v2 : Int} {M : Mem} (hB : Bd M) {res : Mem} (h : f_X10_swaps v1 v2 M = some res) : Bd res := by
  rw [f_X10_swaps] at h
  obtain ⟨hc1, h⟩ := chk_some h
  obtain ⟨hc2, h⟩ := chk_some h
  have hB3 := hB.set 65 (50 + v1) (x := M 65 (50 + v2)) (hB 65 (50 + v2) (by decide))
  have hB4 := hB3.set 65 (50 + v2) (x := M 65 (50 + v1)) (hB 65 (50 + v1) (by decide))
  cases h
  exact hB4
theorem bw_X10_follows_104 {res : Int × Mem} {F : Nat} : ∀ (fu : Nat) (v3 : Int) (v4 : Int) (M : Mem), Bd M → f_X10_follows_104 F fu v3 v4 M = some res → Bd res.2 := by
  intro fu
  induction fu with
  | zero => intro v3 v4 M hB h; exact nomatch (show (none : Option (Int × Mem)) = some res from h)
  | succ fu ih =>
    intro v3 v4 M hB h
    rw [f_X10_follows_104] at h
    obtain ⟨⟨hp_v3, hp_v4⟩, h⟩ := chk_some h
    by_cases hc7 : v4 ≤ v3
    · replace h := ite_t hc7 h
      cases h
      exact hB
    · replace h := ite_f hc7 h
      obtain ⟨q8, h8, h⟩ := ob_some h
      have hB8 := bd_X10_swaps hB h8
      exact ih (v3 + 1) (v4 + (-1)) q8 hB8 h
theorem bw_X10_follows_57 {res : Int × Mem} {F : Nat} : ∀ (fu : Nat) (v1 : Int) (v2 : Int) (M : Mem), Bd M → f_X10_follows_57 F fu v1 v2 M = some res → Bd res.2 := by
  intro fu
  induction fu with
  | zero => intro v1 v2 M hB h; exact nomatch (show (none : Option (Int × Mem)) = some res from h)
  | succ fu ih =>
    intro v1 v2 M hB h
    rw [f_X10_follows_57] at h
    obtain ⟨hc3, h⟩ := chk_some h
    obtain ⟨hc4, h⟩ := chk_some h
    by_cases hc5 : M 65 (50 + v1) ≤ M 65 (50 + v2)
    · replace h := ite_t hc5 h
      obtain ⟨q6, h6, h⟩ := ob_some h
      have hB6 := bd_X10_swaps hB h6
      exact bw_X10_follows_104 F (v1 + 1) ((q6 65 0) - 1) q6 hB6 h
    · replace h := ite_f hc5 h
      exact ih v1 (v2 + (-1)) M hB h
theorem bw_X10_follows_9 {res : Int × Mem} {F : Nat} : ∀ (fu : Nat) (v1 : Int) (M : Mem), Bd M → f_X10_follows_9 F fu v1 M = some res → Bd res.2 := by
  intro fu
  induction fu with
  | zero => intro v1 M hB h; exact nomatch (show (none : Option (Int × Mem)) = some res from h)
  | succ fu ih =>
    intro v1 M hB h
    rw [f_X10_follows_9] at h
    obtain ⟨hp_v1, h⟩ := chk_some h
    by_cases hc1 : v1 < 0
    · replace h := ite_t hc1 h
      by_cases hc2 : 0 ≤ v1
      · replace h := ite_t hc2 h
        exact bw_X10_follows_57 F v1 ((M 65 0) - 1) M hB h
      · replace h := ite_f hc2 h
        cases h
        exact hB
    · replace h := ite_f hc1 h
      obtain ⟨hc9, h⟩ := chk_some h
      obtain ⟨hc10, h⟩ := chk_some h
      by_cases hc11 : M 65 (50 + v1) ≤ M 65 ((50 + v1) + 1)
      · replace h := ite_t hc11 h
        by_cases hc12 : 0 ≤ v1
        · replace h := ite_t hc12 h
          exact bw_X10_follows_57 F v1 ((M 65 0) - 1) M hB h
        · replace h := ite_f hc12 h
          cases h
          exact hB
      · replace h := ite_f hc11 h
        exact ih (v1 + (-1)) M hB h
theorem bd_X10_follows {F : Nat} {M : Mem} (hB : Bd M) {res : Int × Mem} (h : f_X10_follows F M = some res) : Bd res.2 := by
  rw [f_X10_follows] at h
  exact bw_X10_follows_9 F ((M 65 0) - 2) M hB h
theorem bw_X10_bestOf_248 {res : Int × Mem} {F : Nat} : ∀ (fu : Nat) (v1 : Int) (v4 : Int) (M : Mem), Bd M → f_X10_bestOf_248 F fu v1 v4 M = some res → Bd res.2 := by
  intro fu
  induction fu with
  | zero => intro v1 v4 M hB h; exact nomatch (show (none : Option (Int × Mem)) = some res from h)
  | succ fu ih =>
    intro v1 v4 M hB h
    rw [f_X10_bestOf_248] at h
    obtain ⟨hp_v4, h⟩ := chk_some h
    by_cases hc5 : 9 ≤ v4
    · replace h := ite_t hc5 h
      cases h
      exact hB
    · replace h := ite_f hc5 h
      obtain ⟨hc6, h⟩ := chk_some h
      obtain ⟨hc7, h⟩ := chk_some h
      have hB8 := hB.set 65 (50 + v4) (x := M 76 v4) (hB 76 v4 (by decide))
      exact ih v1 (v4 + 1) (mset M 65 (50 + v4) (M 76 v4)) hB8 h
theorem bw_X10_bestOf_213 {res : Int × Mem} {F : Nat} {k74 : Int → Int → Int → Mem → Option (Int × Mem)} (hk74 : ∀ (v1 : Int) (v2 : Int) (v3 : Int) (M : Mem), Bd M → k74 v1 v2 v3 M = some res → Bd res.2) : ∀ (v1 : Int) (v2 : Int) (v4 : Int) (v5 : Int) (v6 : Int) (M : Mem), Bd M → f_X10_bestOf_213 F k74 v1 v2 v4 v5 v6 M = some res → Bd res.2 := by
  intro v1 v2 v4 v5 v6 M hB h
  rw [f_X10_bestOf_213] at h
  obtain ⟨hp_v6, h⟩ := chk_some h
  by_cases hc15 : v6 = 0
  · replace h := ite_t hc15 h
    by_cases hc16 : v6 = 0
    · replace h := ite_t hc16 h
      obtain ⟨q17, h17, h⟩ := ob_some h
      have hB17 := bd_X10_follows hB h17
      exact hk74 v1 v2 q17.1 q17.2 hB17 h
    · replace h := ite_f hc16 h
      obtain ⟨q18, h18, h⟩ := ob_some h
      have hB18 := bd_X10_follows hB h18
      exact hk74 v1 v5 q18.1 q18.2 hB18 h
  · replace h := ite_f hc15 h
    by_cases hc19 : v6 = 0
    · replace h := ite_t hc19 h
      obtain ⟨q20, h20, h⟩ := ob_some h
      have hB20 := bd_X10_follows hB h20
      exact hk74 v4 v2 q20.1 q20.2 hB20 h
    · replace h := ite_f hc19 h
      obtain ⟨q21, h21, h⟩ := ob_some h
      have hB21 := bd_X10_follows hB h21
      exact hk74 v4 v5 q21.1 q21.2 hB21 h
theorem bw_X10_bestOf_178 {res : Int × Mem} {F : Nat} {k74 : Int → Int → Int → Mem → Option (Int × Mem)} (hk74 : ∀ (v1 : Int) (v2 : Int) (v3 : Int) (M : Mem), Bd M → k74 v1 v2 v3 M = some res → Bd res.2) : ∀ (fu : Nat) (v1 : Int) (v2 : Int) (v4 : Int) (v5 : Int) (v6 : Int) (v7 : Int) (M : Mem), Bd M → f_X10_bestOf_178 F k74 fu v1 v2 v4 v5 v6 v7 M = some res → Bd res.2 := by
  intro fu
  induction fu with
  | zero => intro v1 v2 v4 v5 v6 v7 M hB h; exact nomatch (show (none : Option (Int × Mem)) = some res from h)
  | succ fu ih =>
    intro v1 v2 v4 v5 v6 v7 M hB h
    rw [f_X10_bestOf_178] at h
    obtain ⟨⟨hp_v6, hp_v7⟩, h⟩ := chk_some h
    by_cases hc14 : 9 ≤ v7
    · replace h := ite_t hc14 h
      exact bw_X10_bestOf_213 hk74 v1 v2 v4 v5 v6 M hB h
    · replace h := ite_f hc14 h
      by_cases hc22 : v6 = 0
      · replace h := ite_t hc22 h
        exact bw_X10_bestOf_213 hk74 v1 v2 v4 v5 v6 M hB h
      · replace h := ite_f hc22 h
        obtain ⟨hc23, h⟩ := chk_some h
        obtain ⟨hc24, h⟩ := chk_some h
        have hB25 := hB.set 75 v7 (x := M 65 (50 + v7)) (hB 65 (50 + v7) (by decide))
        exact ih v1 v2 v4 v5 v6 (v7 + 1) (mset M 75 v7 (M 65 (50 + v7))) hB25 h
theorem bw_X10_bestOf_87 {res : Int × Mem} {F : Nat} {k74 : Int → Int → Int → Mem → Option (Int × Mem)} (hk74 : ∀ (v1 : Int) (v2 : Int) (v3 : Int) (M : Mem), Bd M → k74 v1 v2 v3 M = some res → Bd res.2) : ∀ (fu : Nat) (v1 : Int) (v2 : Int) (v4 : Int) (v5 : Int) (v6 : Int) (M : Mem), Bd M → f_X10_bestOf_87 F k74 fu v1 v2 v4 v5 v6 M = some res → Bd res.2 := by
  intro fu
  induction fu with
  | zero => intro v1 v2 v4 v5 v6 M hB h; exact nomatch (show (none : Option (Int × Mem)) = some res from h)
  | succ fu ih =>
    intro v1 v2 v4 v5 v6 M hB h
    rw [f_X10_bestOf_87] at h
    obtain ⟨⟨hp_v1, hp_v2, hp_v4, hp_v5, hp_v6⟩, h⟩ := chk_some h
    by_cases hc9 : M 65 0 ≤ v6
    · replace h := ite_t hc9 h
      obtain ⟨hc10, h⟩ := chk_some h
      obtain ⟨hc11, h⟩ := chk_some h
      have hB12 := hB.set 77 v4 (x := (M 77 v4) + 1) hc11
      by_cases hc13 : v4 < v1
      · replace h := ite_t hc13 h
        exact bw_X10_bestOf_178 hk74 F v1 v2 v4 v5 1 0 (mset M 77 v4 ((M 77 v4) + 1)) hB12 h
      · replace h := ite_f hc13 h
        rcases (Decidable.em (v4 = v1)).symm with hc26 | hc26
        · replace h := ite_f hc26 h
          exact bw_X10_bestOf_178 hk74 F v1 v2 v4 v5 0 0 (mset M 77 v4 ((M 77 v4) + 1)) hB12 h
        · replace h := ite_t hc26 h
          by_cases hc27 : v2 ≤ v5
          · replace h := ite_t hc27 h
            exact bw_X10_bestOf_178 hk74 F v1 v2 v4 v5 0 0 (mset M 77 v4 ((M 77 v4) + 1)) hB12 h
          · replace h := ite_f hc27 h
            exact bw_X10_bestOf_178 hk74 F v1 v2 v4 v5 1 0 (mset M 77 v4 ((M 77 v4) + 1)) hB12 h
    · replace h := ite_f hc9 h
      obtain ⟨q28, h28, h⟩ := ob_some h
      have hB28 := bd_X10_laysBest hB h28
      obtain ⟨q29, h29, h⟩ := ob_some h
      have hB29 := hB28
      obtain ⟨hc30, h⟩ := chk_some h
      by_cases hc31 : q29 ≤ v4
      · replace h := ite_t hc31 h
        obtain ⟨q32, h32, h⟩ := ob_some h
        have hB32 := hB29
        exact ih v1 v2 v4 (v5 + q32) (v6 + 1) q28 hB32 h
      · replace h := ite_f hc31 h
        obtain ⟨q33, h33, h⟩ := ob_some h
        have hB33 := hB29
        obtain ⟨q34, h34, h⟩ := ob_some h
        have hB34 := hB33
        exact ih v1 v2 q33 (v5 + q34) (v6 + 1) q28 hB34 h
theorem bw_X10_bestOf_74 {res : Int × Mem} {F : Nat} : ∀ (fu : Nat) (v1 : Int) (v2 : Int) (v3 : Int) (M : Mem), Bd M → f_X10_bestOf_74 F fu v1 v2 v3 M = some res → Bd res.2 := by
  intro fu
  induction fu with
  | zero => intro v1 v2 v3 M hB h; exact nomatch (show (none : Option (Int × Mem)) = some res from h)
  | succ fu ih =>
    intro v1 v2 v3 M hB h
    rw [f_X10_bestOf_74] at h
    obtain ⟨hp_v3, h⟩ := chk_some h
    by_cases hc4 : v3 = 0
    · replace h := ite_t hc4 h
      exact bw_X10_bestOf_248 F v1 0 M hB h
    · replace h := ite_f hc4 h
      exact bw_X10_bestOf_87 ih F v1 v2 0 0 0 M hB h
theorem bw_X10_bestOf_27 {res : Int × Mem} {F : Nat} : ∀ (fu : Nat) (v1 : Int) (M : Mem), Bd M → f_X10_bestOf_27 F fu v1 M = some res → Bd res.2 := by
  intro fu
  induction fu with
  | zero => intro v1 M hB h; exact nomatch (show (none : Option (Int × Mem)) = some res from h)
  | succ fu ih =>
    intro v1 M hB h
    rw [f_X10_bestOf_27] at h
    obtain ⟨hp_v1, h⟩ := chk_some h
    by_cases hc3 : 9 ≤ v1
    · replace h := ite_t hc3 h
      exact bw_X10_bestOf_74 F 1000 1000 1 M hB h
    · replace h := ite_f hc3 h
      obtain ⟨hc35, h⟩ := chk_some h
      obtain ⟨hc36, h⟩ := chk_some h
      have hB37 := hB.set 76 v1 (x := M 65 (50 + v1)) (hB 65 (50 + v1) (by decide))
      have hB38 := hB37.set 65 (50 + v1) (x := v1) hp_v1
      exact ih (v1 + 1) (mset (mset M 76 v1 (M 65 (50 + v1))) 65 (50 + v1) v1) hB38 h
theorem bw_X10_bestOf_6 {res : Int × Mem} {F : Nat} : ∀ (fu : Nat) (v1 : Int) (M : Mem), Bd M → f_X10_bestOf_6 F fu v1 M = some res → Bd res.2 := by
  intro fu
  induction fu with
  | zero => intro v1 M hB h; exact nomatch (show (none : Option (Int × Mem)) = some res from h)
  | succ fu ih =>
    intro v1 M hB h
    rw [f_X10_bestOf_6] at h
    obtain ⟨hp_v1, h⟩ := chk_some h
    by_cases hc2 : 10 ≤ v1
    · replace h := ite_t hc2 h
      exact bw_X10_bestOf_27 F 0 M hB h
    · replace h := ite_f hc2 h
      obtain ⟨hc39, h⟩ := chk_some h
      have hB40 := hB.set 77 v1 (x := 0) (by decide)
      exact ih (v1 + 1) (mset M 77 v1 0) hB40 h
theorem bd_X10_bestOf {F : Nat} {M : Mem} (hB : Bd M) {res : Int × Mem} (h : f_X10_bestOf F M = some res) : Bd res.2 := by
  rw [f_X10_bestOf] at h
  obtain ⟨q1, h1, h⟩ := ob_some h
  have hB1 := bd_X10_laysFar hB h1
  exact bw_X10_bestOf_6 F 0 q1 hB1 h
theorem bw_X10_setLabels_102 {res : Int × Mem} {F : Nat} : ∀ (fu : Nat) (v1 : Int) (v4 : Int) (M : Mem), Bd M → f_X10_setLabels_102 F fu v1 v4 M = some res → Bd res.2 := by
  intro fu
  induction fu with
  | zero => intro v1 v4 M hB h; exact nomatch (show (none : Option (Int × Mem)) = some res from h)
  | succ fu ih =>
    intro v1 v4 M hB h
    rw [f_X10_setLabels_102] at h
    obtain ⟨⟨hp_v1, hp_v4⟩, h⟩ := chk_some h
    by_cases hc15 : M 65 0 ≤ v4
    · replace h := ite_t hc15 h
      obtain ⟨q16, h16, h⟩ := ob_some h
      have hB16 := bd_X10_empties hB h16
      obtain ⟨hc17, h⟩ := chk_some h
      cases h
      exact hB16
    · replace h := ite_f hc15 h
      rcases (Decidable.em (v1 = 3)).symm with hc18 | hc18
      · replace h := ite_f hc18 h
        obtain ⟨hc19, h⟩ := chk_some h
        have hB20 := hB.set 65 (50 + v4) (x := v4) hp_v4
        exact ih v1 (v4 + 1) (mset M 65 (50 + v4) v4) hB20 h
      · replace h := ite_t hc18 h
        obtain ⟨hc21, h⟩ := chk_some h
        obtain ⟨hc22, h⟩ := chk_some h
        have hB23 := hB.set 65 (50 + v4) (x := M 75 v4) (hB 75 v4 (by decide))
        exact ih v1 (v4 + 1) (mset M 65 (50 + v4) (M 75 v4)) hB23 h
theorem bw_X10_setLabels_47 {res : Int × Mem} {F : Nat} : ∀ (v1 : Int) (v2 : Int) (t1 : Int) (M : Mem), Bd M → f_X10_setLabels_47 F v1 v2 t1 M = some res → Bd res.2 := by
  intro v1 v2 t1 M hB h
  rw [f_X10_setLabels_47] at h
  obtain ⟨hp_v1, h⟩ := chk_some h
  obtain ⟨q8, h8, h⟩ := ob_some h
  have hB8 := bd_X10_refused hB h8
  obtain ⟨hc9, h⟩ := chk_some h
  by_cases hc10 : q8.1 = 0
  · replace h := ite_t hc10 h
    obtain ⟨q11, h11, h⟩ := ob_some h
    have hB11 := bd_X10_saves hB8 h11
    rcases (Decidable.em (v1 = 1)).symm with hc12 | hc12
    · replace h := ite_f hc12 h
      rcases (Decidable.em (v1 = 2)).symm with hc13 | hc13
      · replace h := ite_f hc13 h
        rcases (Decidable.em (v1 = 3)).symm with hc14 | hc14
        · replace h := ite_f hc14 h
          exact bw_X10_setLabels_102 F v1 0 q11 hB11 h
        · replace h := ite_t hc14 h
          obtain ⟨q24, h24, h⟩ := ob_some h
          have hB24 := bd_X10_bestOf hB11 h24
          exact bw_X10_setLabels_102 F v1 0 q24.2 hB24 h
      · replace h := ite_t hc13 h
        obtain ⟨q25, h25, h⟩ := ob_some h
        have hB25 := bd_X10_ranks hB11 h25
        obtain ⟨q26, h26, h⟩ := ob_some h
        have hB26 := bd_X10_empties hB25 h26
        obtain ⟨hc27, h⟩ := chk_some h
        cases h
        exact hB26
    · replace h := ite_t hc12 h
      obtain ⟨q28, h28, h⟩ := ob_some h
      have hB28 := bd_X10_visits hB11 h28
      obtain ⟨q29, h29, h⟩ := ob_some h
      have hB29 := bd_X10_empties hB28 h29
      obtain ⟨hc30, h⟩ := chk_some h
      cases h
      exact hB29
  · replace h := ite_f hc10 h
    cases h
    exact hB8
theorem bd_X10_setLabels {F : Nat} {v1 : Int} {v2 : Int} {M : Mem} (hB : Bd M) {res : Int × Mem} (h : f_X10_setLabels F v1 v2 M = some res) : Bd res.2 := by
  rw [f_X10_setLabels] at h
  obtain ⟨hp_v1, h⟩ := chk_some h
  obtain ⟨q1, h1, h⟩ := ob_some h
  have hB1 := hB
  obtain ⟨hc2, h⟩ := chk_some h
  rcases (Decidable.em (q1 = 0)).symm with hc3 | hc3
  · replace h := ite_f hc3 h
    obtain ⟨q4, h4, h⟩ := ob_some h
    have hB4 := hB1
    obtain ⟨hc5, h⟩ := chk_some h
    rcases (Decidable.em (q4 = 0)).symm with hc6 | hc6
    · replace h := ite_f hc6 h
      rcases (Decidable.em (v1 = 3)).symm with hc7 | hc7
      · replace h := ite_f hc7 h
        exact bw_X10_setLabels_47 v1 v2 0 M hB4 h
      · replace h := ite_t hc7 h
        by_cases hc31 : M 65 0 ≤ 6
        · replace h := ite_t hc31 h
          exact bw_X10_setLabels_47 v1 v2 0 M hB4 h
        · replace h := ite_f hc31 h
          exact bw_X10_setLabels_47 v1 v2 3 M hB4 h
    · replace h := ite_t hc6 h
      exact bw_X10_setLabels_47 v1 v2 2 M hB4 h
  · replace h := ite_t hc3 h
    exact bw_X10_setLabels_47 v1 v2 1 M hB1 h
theorem bd_X10_swapLabels {F : Nat} {v1 : Int} {v2 : Int} {M : Mem} (hB : Bd M) {res : Int × Mem} (h : f_X10_swapLabels F v1 v2 M = some res) : Bd res.2 := by
  rw [f_X10_swapLabels] at h
  obtain ⟨q1, h1, h⟩ := ob_some h
  have hB1 := hB
  obtain ⟨hc2, h⟩ := chk_some h
  by_cases hc3 : q1 = 0
  · replace h := ite_t hc3 h
    obtain ⟨q4, h4, h⟩ := ob_some h
    have hB4 := bd_X10_refused hB1 h4
    obtain ⟨hc5, h⟩ := chk_some h
    by_cases hc6 : q4.1 = 0
    · replace h := ite_t hc6 h
      obtain ⟨q7, h7, h⟩ := ob_some h
      have hB7 := bd_X10_saves hB4 h7
      obtain ⟨q8, h8, h⟩ := ob_some h
      have hB8 := bd_X10_swaps hB7 h8
      obtain ⟨q9, h9, h⟩ := ob_some h
      have hB9 := bd_X10_empties hB8 h9
      obtain ⟨hc10, h⟩ := chk_some h
      cases h
      exact hB9
    · replace h := ite_f hc6 h
      cases h
      exact hB4
  · replace h := ite_f hc3 h
    obtain ⟨q11, h11, h⟩ := ob_some h
    have hB11 := hB1
    obtain ⟨hc12, h⟩ := chk_some h
    by_cases hc13 : q11 = 0
    · replace h := ite_t hc13 h
      obtain ⟨q14, h14, h⟩ := ob_some h
      have hB14 := bd_X10_refused hB11 h14
      obtain ⟨hc15, h⟩ := chk_some h
      by_cases hc16 : q14.1 = 0
      · replace h := ite_t hc16 h
        obtain ⟨q17, h17, h⟩ := ob_some h
        have hB17 := bd_X10_saves hB14 h17
        obtain ⟨q18, h18, h⟩ := ob_some h
        have hB18 := bd_X10_swaps hB17 h18
        obtain ⟨q19, h19, h⟩ := ob_some h
        have hB19 := bd_X10_empties hB18 h19
        obtain ⟨hc20, h⟩ := chk_some h
        cases h
        exact hB19
      · replace h := ite_f hc16 h
        cases h
        exact hB14
    · replace h := ite_f hc13 h
      obtain ⟨q21, h21, h⟩ := ob_some h
      have hB21 := bd_X10_refused hB11 h21
      obtain ⟨hc22, h⟩ := chk_some h
      by_cases hc23 : q21.1 = 0
      · replace h := ite_t hc23 h
        obtain ⟨q24, h24, h⟩ := ob_some h
        have hB24 := bd_X10_saves hB21 h24
        obtain ⟨q25, h25, h⟩ := ob_some h
        have hB25 := bd_X10_swaps hB24 h25
        obtain ⟨q26, h26, h⟩ := ob_some h
        have hB26 := bd_X10_empties hB25 h26
        obtain ⟨hc27, h⟩ := chk_some h
        cases h
        exact hB26
      · replace h := ite_f hc23 h
        cases h
        exact hB21
theorem bw_X10_turn_43 {res : Int × Mem} {F : Nat} : ∀ (fu : Nat) (v1 : Int) (v2 : Int) (M : Mem), Bd M → f_X10_turn_43 F fu v1 v2 M = some res → Bd res.2 := by
  intro fu
  induction fu with
  | zero => intro v1 v2 M hB h; exact nomatch (show (none : Option (Int × Mem)) = some res from h)
  | succ fu ih =>
    intro v1 v2 M hB h
    rw [f_X10_turn_43] at h
    obtain ⟨hp_v2, h⟩ := chk_some h
    by_cases hc9 : M 65 0 ≤ v2
    · replace h := ite_t hc9 h
      obtain ⟨q10, h10, h⟩ := ob_some h
      have hB10 := bd_X10_empties hB h10
      cases h
      exact hB10
    · replace h := ite_f hc9 h
      obtain ⟨hc11, h⟩ := chk_some h
      obtain ⟨hc12, h⟩ := chk_some h
      obtain ⟨hc13, h⟩ := chk_some h
      have hB14 := hB.set 65 (50 + v2) (x := ((M 65 (50 + v2)) + v1) % (M 65 0)) hc13
      exact ih v1 (v2 + 1) (mset M 65 (50 + v2) (((M 65 (50 + v2)) + v1) % (M 65 0))) hB14 h
theorem bd_X10_turn {F : Nat} {v1 : Int} {M : Mem} (hB : Bd M) {res : Int × Mem} (h : f_X10_turn F v1 M = some res) : Bd res.2 := by
  rw [f_X10_turn] at h
  obtain ⟨q1, h1, h⟩ := ob_some h
  have hB1 := hB
  obtain ⟨hc2, h⟩ := chk_some h
  rcases (Decidable.em (q1 = 0)).symm with hc3 | hc3
  · replace h := ite_f hc3 h
    rcases (Decidable.em (M 65 0 = 0)).symm with hc4 | hc4
    · replace h := ite_f hc4 h
      obtain ⟨q5, h5, h⟩ := ob_some h
      have hB5 := bd_X10_refused hB1 h5
      obtain ⟨hc6, h⟩ := chk_some h
      by_cases hc7 : q5.1 = 0
      · replace h := ite_t hc7 h
        obtain ⟨q8, h8, h⟩ := ob_some h
        have hB8 := bd_X10_saves hB5 h8
        exact bw_X10_turn_43 F v1 0 q8 hB8 h
      · replace h := ite_f hc7 h
        cases h
        exact hB5
    · replace h := ite_t hc4 h
      obtain ⟨q15, h15, h⟩ := ob_some h
      have hB15 := bd_X10_refused hB1 h15
      obtain ⟨hc16, h⟩ := chk_some h
      by_cases hc17 : q15.1 = 0
      · replace h := ite_t hc17 h
        obtain ⟨q18, h18, h⟩ := ob_some h
        have hB18 := bd_X10_saves hB15 h18
        exact bw_X10_turn_43 F v1 0 q18 hB18 h
      · replace h := ite_f hc17 h
        cases h
        exact hB15
  · replace h := ite_t hc3 h
    obtain ⟨q19, h19, h⟩ := ob_some h
    have hB19 := bd_X10_refused hB1 h19
    obtain ⟨hc20, h⟩ := chk_some h
    by_cases hc21 : q19.1 = 0
    · replace h := ite_t hc21 h
      obtain ⟨q22, h22, h⟩ := ob_some h
      have hB22 := bd_X10_saves hB19 h22
      exact bw_X10_turn_43 F v1 0 q22 hB22 h
    · replace h := ite_f hc21 h
      cases h
      exact hB19
theorem bw_X10_shuffle_69 {res : Int × Mem} {F : Nat} : ∀ (fu : Nat) (v2 : Int) (v4 : Int) (M : Mem), Bd M → f_X10_shuffle_69 F fu v2 v4 M = some res → Bd res.2 := by
  intro fu
  induction fu with
  | zero => intro v2 v4 M hB h; exact nomatch (show (none : Option (Int × Mem)) = some res from h)
  | succ fu ih =>
    intro v2 v4 M hB h
    rw [f_X10_shuffle_69] at h
    obtain ⟨hp_v4, h⟩ := chk_some h
    by_cases hc9 : v4 ≤ 0
    · replace h := ite_t hc9 h
      obtain ⟨q10, h10, h⟩ := ob_some h
      have hB10 := bd_X10_empties hB h10
      rcases (Decidable.em (q10 65 0 = 0)).symm with hc11 | hc11
      · replace h := ite_f hc11 h
        cases h
        exact hB10
      · replace h := ite_t hc11 h
        cases h
        exact hB10
    · replace h := ite_f hc9 h
      obtain ⟨hc12, h⟩ := chk_some h
      obtain ⟨hc13, h⟩ := chk_some h
      obtain ⟨hc14, h⟩ := chk_some h
      obtain ⟨q15, h15, h⟩ := ob_some h
      have hB15 := bd_X10_swaps hB h15
      exact ih (((1103515245 * v2) + 12345) % 2147483648) (v4 + (-1)) q15 hB15 h
theorem bw_X10_shuffle_30 {res : Int × Mem} {F : Nat} : ∀ (fu : Nat) (v1 : Int) (v2 : Int) (M : Mem), Bd M → f_X10_shuffle_30 F fu v1 v2 M = some res → Bd res.2 := by
  intro fu
  induction fu with
  | zero => intro v1 v2 M hB h; exact nomatch (show (none : Option (Int × Mem)) = some res from h)
  | succ fu ih =>
    intro v1 v2 M hB h
    rw [f_X10_shuffle_30] at h
    obtain ⟨⟨hp_v1, hp_v2⟩, h⟩ := chk_some h
    by_cases hc8 : M 65 0 ≤ v2
    · replace h := ite_t hc8 h
      exact bw_X10_shuffle_69 F v1 ((M 65 0) - 1) M hB h
    · replace h := ite_f hc8 h
      obtain ⟨hc16, h⟩ := chk_some h
      have hB17 := hB.set 65 (50 + v2) (x := v2) hp_v2
      exact ih v1 (v2 + 1) (mset M 65 (50 + v2) v2) hB17 h
theorem bd_X10_shuffle {F : Nat} {v1 : Int} {M : Mem} (hB : Bd M) {res : Int × Mem} (h : f_X10_shuffle F v1 M = some res) : Bd res.2 := by
  rw [f_X10_shuffle] at h
  obtain ⟨q1, h1, h⟩ := ob_some h
  have hB1 := hB
  obtain ⟨hc2, h⟩ := chk_some h
  by_cases hc3 : q1 = 0
  · replace h := ite_t hc3 h
    obtain ⟨q4, h4, h⟩ := ob_some h
    have hB4 := bd_X10_refused hB1 h4
    obtain ⟨hc5, h⟩ := chk_some h
    by_cases hc6 : q4.1 = 0
    · replace h := ite_t hc6 h
      obtain ⟨q7, h7, h⟩ := ob_some h
      have hB7 := bd_X10_saves hB4 h7
      exact bw_X10_shuffle_30 F v1 0 q7 hB7 h
    · replace h := ite_f hc6 h
      cases h
      exact hB4
  · replace h := ite_f hc3 h
    obtain ⟨q18, h18, h⟩ := ob_some h
    have hB18 := bd_X10_refused hB1 h18
    obtain ⟨hc19, h⟩ := chk_some h
    by_cases hc20 : q18.1 = 0
    · replace h := ite_t hc20 h
      obtain ⟨q21, h21, h⟩ := ob_some h
      have hB21 := bd_X10_saves hB18 h21
      exact bw_X10_shuffle_30 F v1 0 q21 hB21 h
    · replace h := ite_f hc20 h
      cases h
      exact hB18
theorem bw_X10_netSize_4 {res : Int × Mem} {F : Nat} : ∀ (fu : Nat) (v1 : Int) (v2 : Int) (M : Mem), Bd M → f_X10_netSize_4 F fu v1 v2 M = some res → Bd res.2 := by
  intro fu
  induction fu with
  | zero => intro v1 v2 M hB h; exact nomatch (show (none : Option (Int × Mem)) = some res from h)
  | succ fu ih =>
    intro v1 v2 M hB h
    rw [f_X10_netSize_4] at h
    obtain ⟨hp_v2, h⟩ := chk_some h
    by_cases hc1 : M 65 0 ≤ v2
    · replace h := ite_t hc1 h
      cases h
      exact hB
    · replace h := ite_f hc1 h
      obtain ⟨q2, h2, h⟩ := ob_some h
      have hB2 := bd_X10_laysRing hB h2
      obtain ⟨q3, h3, h⟩ := ob_some h
      have hB3 := hB2
      exact ih (v1 + q3) (v2 + 1) q2 hB3 h
theorem bd_X10_netSize {F : Nat} {M : Mem} (hB : Bd M) {res : Int × Mem} (h : f_X10_netSize F M = some res) : Bd res.2 := by
  rw [f_X10_netSize] at h
  exact bw_X10_netSize_4 F 0 0 M hB h
theorem bw_X10_makeTables_32 {res : Int × Mem} {F : Nat} {k15 : Int → Mem → Option (Int × Mem)} (hk15 : ∀ (v1 : Int) (M : Mem), Bd M → k15 v1 M = some res → Bd res.2) : ∀ (fu : Nat) (v1 : Int) (v2 : Int) (M : Mem), Bd M → f_X10_makeTables_32 F k15 fu v1 v2 M = some res → Bd res.2 := by
  intro fu
  induction fu with
  | zero => intro v1 v2 M hB h; exact nomatch (show (none : Option (Int × Mem)) = some res from h)
  | succ fu ih =>
    intro v1 v2 M hB h
    rw [f_X10_makeTables_32] at h
    obtain ⟨hp_v2, h⟩ := chk_some h
    by_cases hc7 : M 64 10 ≤ v2
    · replace h := ite_t hc7 h
      exact hk15 (v1 + 1) M hB h
    · replace h := ite_f hc7 h
      obtain ⟨hc8, h⟩ := chk_some h
      obtain ⟨hc9, h⟩ := chk_some h
      obtain ⟨hc10, h⟩ := chk_some h
      have hB11 := hB.set 65 ((59 + (9 * v1)) + (M 71 v2)) (x := (M 70 v2) + 1) hc10
      exact ih v1 (v2 + 1) (mset M 65 ((59 + (9 * v1)) + (M 71 v2)) ((M 70 v2) + 1)) hB11 h
theorem bw_X10_makeTables_15 {res : Int × Mem} {F : Nat} : ∀ (fu : Nat) (v1 : Int) (M : Mem), Bd M → f_X10_makeTables_15 F fu v1 M = some res → Bd res.2 := by
  intro fu
  induction fu with
  | zero => intro v1 M hB h; exact nomatch (show (none : Option (Int × Mem)) = some res from h)
  | succ fu ih =>
    intro v1 M hB h
    rw [f_X10_makeTables_15] at h
    obtain ⟨hp_v1, h⟩ := chk_some h
    by_cases hc4 : M 65 0 ≤ v1
    · replace h := ite_t hc4 h
      obtain ⟨q5, h5, h⟩ := ob_some h
      have hB5 := bd_X10_netSize hB h5
      cases h
      exact hB5
    · replace h := ite_f hc4 h
      obtain ⟨q6, h6, h⟩ := ob_some h
      have hB6 := bd_X10_laysBest hB h6
      exact bw_X10_makeTables_32 ih F v1 0 q6 hB6 h
theorem bd_X10_makeTables {F : Nat} {M : Mem} (hB : Bd M) {res : Int × Mem} (h : f_X10_makeTables F M = some res) : Bd res.2 := by
  rw [f_X10_makeTables] at h
  have hB1 := hB.set 64 3 (x := 0) (by decide)
  obtain ⟨q2, h2, h⟩ := ob_some h
  have hB2 := bd_X10_saves hB1 h2
  obtain ⟨q3, h3, h⟩ := ob_some h
  have hB3 := bd_X10_laysFar hB2 h3
  exact bw_X10_makeTables_15 F 0 q3 hB3 h
theorem bw_X10_setRange_112 {res : Int × Mem} {F : Nat} {k95 : Int → Int → Int → Int → Int → Int → Mem → Option (Int × Mem)} (hk95 : ∀ (v1 : Int) (v2 : Int) (v4 : Int) (v6 : Int) (v7 : Int) (v8 : Int) (M : Mem), Bd M → k95 v1 v2 v4 v6 v7 v8 M = some res → Bd res.2) : ∀ (v1 : Int) (v2 : Int) (v4 : Int) (v6 : Int) (v7 : Int) (t0 : Int) (M : Mem), Bd M → f_X10_setRange_112 F k95 v1 v2 v4 v6 v7 t0 M = some res → Bd res.2 := by
  intro v1 v2 v4 v6 v7 t0 M hB h
  rw [f_X10_setRange_112] at h
  obtain ⟨⟨hp_v2, hp_v7⟩, h⟩ := chk_some h
  obtain ⟨hc12, h⟩ := chk_some h
  by_cases hc13 : v7 = M 65 (50 + v1)
  · replace h := ite_t hc13 h
    obtain ⟨hc14, h⟩ := chk_some h
    exact hk95 v1 v2 v4 v6 ((v7 + 1) % (M 65 0)) t0 M hB h
  · replace h := ite_f hc13 h
    obtain ⟨q15, h15, h⟩ := ob_some h
    have hB15 := hB
    obtain ⟨hc16, h⟩ := chk_some h
    rcases (Decidable.em (q15 = v2)).symm with hc17 | hc17
    · replace h := ite_f hc17 h
      obtain ⟨hc18, h⟩ := chk_some h
      obtain ⟨hc19, h⟩ := chk_some h
      have hB20 := hB15.set 65 ((59 + (9 * v1)) + v7) (x := v2 + 1) hc19
      obtain ⟨hc21, h⟩ := chk_some h
      exact hk95 v1 v2 v4 (v6 + 1) ((v7 + 1) % ((mset M 65 ((59 + (9 * v1)) + v7) (v2 + 1)) 65 0)) t0 (mset M 65 ((59 + (9 * v1)) + v7) (v2 + 1)) hB20 h
    · replace h := ite_t hc17 h
      obtain ⟨hc22, h⟩ := chk_some h
      obtain ⟨hc23, h⟩ := chk_some h
      have hB24 := hB15.set 65 ((59 + (9 * v1)) + v7) (x := v2 + 1) hc23
      obtain ⟨hc25, h⟩ := chk_some h
      exact hk95 v1 v2 v4 (v6 + 0) ((v7 + 1) % ((mset M 65 ((59 + (9 * v1)) + v7) (v2 + 1)) 65 0)) t0 (mset M 65 ((59 + (9 * v1)) + v7) (v2 + 1)) hB24 h
theorem bw_X10_setRange_95 {res : Int × Mem} {F : Nat} : ∀ (fu : Nat) (v1 : Int) (v2 : Int) (v4 : Int) (v6 : Int) (v7 : Int) (v8 : Int) (M : Mem), Bd M → f_X10_setRange_95 F fu v1 v2 v4 v6 v7 v8 M = some res → Bd res.2 := by
  intro fu
  induction fu with
  | zero => intro v1 v2 v4 v6 v7 v8 M hB h; exact nomatch (show (none : Option (Int × Mem)) = some res from h)
  | succ fu ih =>
    intro v1 v2 v4 v6 v7 v8 M hB h
    rw [f_X10_setRange_95] at h
    obtain ⟨⟨hp_v4, hp_v7, hp_v8⟩, h⟩ := chk_some h
    by_cases hc10 : v8 = 0
    · replace h := ite_t hc10 h
      cases h
      exact hB
    · replace h := ite_f hc10 h
      by_cases hc11 : v7 = v4
      · replace h := ite_t hc11 h
        exact bw_X10_setRange_112 ih v1 v2 v4 v6 v7 0 M hB h
      · replace h := ite_f hc11 h
        exact bw_X10_setRange_112 ih v1 v2 v4 v6 v7 1 M hB h
theorem bw_X10_setRange_43 {res : Int × Mem} {F : Nat} : ∀ (v1 : Int) (v2 : Int) (v3 : Int) (v4 : Int) (t0 : Int) (M : Mem), Bd M → f_X10_setRange_43 F v1 v2 v3 v4 t0 M = some res → Bd res.2 := by
  intro v1 v2 v3 v4 t0 M hB h
  rw [f_X10_setRange_43] at h
  obtain ⟨⟨hp_v2, hp_t0⟩, h⟩ := chk_some h
  rcases (Decidable.em (t0 = 0)).symm with hc4 | hc4
  · replace h := ite_f hc4 h
    by_cases hc5 : v2 = (-1)
    · replace h := ite_t hc5 h
      obtain ⟨q6, h6, h⟩ := ob_some h
      have hB6 := bd_X10_refused hB h6
      obtain ⟨hc7, h⟩ := chk_some h
      by_cases hc8 : q6.1 = 0
      · replace h := ite_t hc8 h
        obtain ⟨q9, h9, h⟩ := ob_some h
        have hB9 := bd_X10_saves hB6 h9
        exact bw_X10_setRange_95 F v1 v2 v4 0 v3 1 q9 hB9 h
      · replace h := ite_f hc8 h
        cases h
        exact hB6
    · replace h := ite_f hc5 h
      obtain ⟨q26, h26, h⟩ := ob_some h
      have hB26 := hB
      obtain ⟨hc27, h⟩ := chk_some h
      by_cases hc28 : q26 = 0
      · replace h := ite_t hc28 h
        obtain ⟨q29, h29, h⟩ := ob_some h
        have hB29 := bd_X10_refused hB26 h29
        obtain ⟨hc30, h⟩ := chk_some h
        by_cases hc31 : q29.1 = 0
        · replace h := ite_t hc31 h
          obtain ⟨q32, h32, h⟩ := ob_some h
          have hB32 := bd_X10_saves hB29 h32
          exact bw_X10_setRange_95 F v1 v2 v4 0 v3 1 q32 hB32 h
        · replace h := ite_f hc31 h
          cases h
          exact hB29
      · replace h := ite_f hc28 h
        obtain ⟨q33, h33, h⟩ := ob_some h
        have hB33 := bd_X10_refused hB26 h33
        obtain ⟨hc34, h⟩ := chk_some h
        by_cases hc35 : q33.1 = 0
        · replace h := ite_t hc35 h
          obtain ⟨q36, h36, h⟩ := ob_some h
          have hB36 := bd_X10_saves hB33 h36
          exact bw_X10_setRange_95 F v1 v2 v4 0 v3 1 q36 hB36 h
        · replace h := ite_f hc35 h
          cases h
          exact hB33
  · replace h := ite_t hc4 h
    obtain ⟨q37, h37, h⟩ := ob_some h
    have hB37 := bd_X10_refused hB h37
    obtain ⟨hc38, h⟩ := chk_some h
    by_cases hc39 : q37.1 = 0
    · replace h := ite_t hc39 h
      obtain ⟨q40, h40, h⟩ := ob_some h
      have hB40 := bd_X10_saves hB37 h40
      exact bw_X10_setRange_95 F v1 v2 v4 0 v3 1 q40 hB40 h
    · replace h := ite_f hc39 h
      cases h
      exact hB37
theorem bd_X10_setRange {F : Nat} {v1 : Int} {v2 : Int} {v3 : Int} {v4 : Int} {M : Mem} (hB : Bd M) {res : Int × Mem} (h : f_X10_setRange F v1 v2 v3 v4 M = some res) : Bd res.2 := by
  rw [f_X10_setRange] at h
  obtain ⟨hp_v2, h⟩ := chk_some h
  obtain ⟨q1, h1, h⟩ := ob_some h
  have hB1 := hB
  obtain ⟨hc2, h⟩ := chk_some h
  by_cases hc3 : q1 = 0
  · replace h := ite_t hc3 h
    exact bw_X10_setRange_43 v1 v2 v3 v4 0 M hB1 h
  · replace h := ite_f hc3 h
    by_cases hc41 : v2 = (-1)
    · replace h := ite_t hc41 h
      obtain ⟨q42, h42, h⟩ := ob_some h
      have hB42 := hB1
      obtain ⟨hc43, h⟩ := chk_some h
      by_cases hc44 : q42 = 0
      · replace h := ite_t hc44 h
        exact bw_X10_setRange_43 v1 v2 v3 v4 0 M hB42 h
      · replace h := ite_f hc44 h
        obtain ⟨q45, h45, h⟩ := ob_some h
        have hB45 := hB42
        obtain ⟨hc46, h⟩ := chk_some h
        by_cases hc47 : q45 = 0
        · replace h := ite_t hc47 h
          exact bw_X10_setRange_43 v1 v2 v3 v4 0 M hB45 h
        · replace h := ite_f hc47 h
          exact bw_X10_setRange_43 v1 v2 v3 v4 1 M hB45 h
    · replace h := ite_f hc41 h
      obtain ⟨q48, h48, h⟩ := ob_some h
      have hB48 := hB1
      obtain ⟨hc49, h⟩ := chk_some h
      by_cases hc50 : q48 = 0
      · replace h := ite_t hc50 h
        exact bw_X10_setRange_43 v1 v2 v3 v4 0 M hB48 h
      · replace h := ite_f hc50 h
        obtain ⟨q51, h51, h⟩ := ob_some h
        have hB51 := hB48
        obtain ⟨hc52, h⟩ := chk_some h
        by_cases hc53 : q51 = 0
        · replace h := ite_t hc53 h
          exact bw_X10_setRange_43 v1 v2 v3 v4 0 M hB51 h
        · replace h := ite_f hc53 h
          obtain ⟨q54, h54, h⟩ := ob_some h
          have hB54 := hB51
          obtain ⟨hc55, h⟩ := chk_some h
          by_cases hc56 : q54 = 0
          · replace h := ite_t hc56 h
            exact bw_X10_setRange_43 v1 v2 v3 v4 0 M hB54 h
          · replace h := ite_f hc56 h
            exact bw_X10_setRange_43 v1 v2 v3 v4 1 M hB54 h
theorem bd_X10_entry {v1 : Int} {v2 : Int} {M : Mem} (hB : Bd M) {res : Int × Mem} (h : f_X10_entry v1 v2 M = some res) : Bd res.2 := by
  rw [f_X10_entry] at h
  obtain ⟨q1, h1, h⟩ := ob_some h
  have hB1 := hB
  obtain ⟨hc2, h⟩ := chk_some h
  by_cases hc3 : q1 = 0
  · replace h := ite_t hc3 h
    obtain ⟨q4, h4, h⟩ := ob_some h
    have hB4 := bd_X10_refused hB1 h4
    obtain ⟨hc5, h⟩ := chk_some h
    by_cases hc6 : q4.1 = 0
    · replace h := ite_t hc6 h
      obtain ⟨q7, h7, h⟩ := ob_some h
      have hB7 := hB4
      cases h
      exact hB7
    · replace h := ite_f hc6 h
      cases h
      exact hB4
  · replace h := ite_f hc3 h
    obtain ⟨q8, h8, h⟩ := ob_some h
    have hB8 := hB1
    obtain ⟨hc9, h⟩ := chk_some h
    by_cases hc10 : q8 = 0
    · replace h := ite_t hc10 h
      obtain ⟨q11, h11, h⟩ := ob_some h
      have hB11 := bd_X10_refused hB8 h11
      obtain ⟨hc12, h⟩ := chk_some h
      by_cases hc13 : q11.1 = 0
      · replace h := ite_t hc13 h
        obtain ⟨q14, h14, h⟩ := ob_some h
        have hB14 := hB11
        cases h
        exact hB14
      · replace h := ite_f hc13 h
        cases h
        exact hB11
    · replace h := ite_f hc10 h
      obtain ⟨q15, h15, h⟩ := ob_some h
      have hB15 := bd_X10_refused hB8 h15
      obtain ⟨hc16, h⟩ := chk_some h
      by_cases hc17 : q15.1 = 0
      · replace h := ite_t hc17 h
        obtain ⟨q18, h18, h⟩ := ob_some h
        have hB18 := hB15
        cases h
        exact hB18
      · replace h := ite_f hc17 h
        cases h
        exact hB15
theorem bw_X10_runs_21 {res : Int × Mem} {F : Nat} : ∀ (v1 : Int) (v2 : Int) (t0 : Int) (M : Mem), Bd M → f_X10_runs_21 F v1 v2 t0 M = some res → Bd res.2 := by
  intro v1 v2 t0 M hB h
  rw [f_X10_runs_21] at h
  obtain ⟨hp_t0, h⟩ := chk_some h
  rcases (Decidable.em (t0 = 0)).symm with hc4 | hc4
  · replace h := ite_f hc4 h
    obtain ⟨q5, h5, h⟩ := ob_some h
    have hB5 := hB
    obtain ⟨hc6, h⟩ := chk_some h
    by_cases hc7 : q5 = 0
    · replace h := ite_t hc7 h
      obtain ⟨q8, h8, h⟩ := ob_some h
      have hB8 := bd_X10_refused hB5 h8
      obtain ⟨hc9, h⟩ := chk_some h
      by_cases hc10 : q8.1 = 0
      · replace h := ite_t hc10 h
        obtain ⟨q11, h11, h⟩ := ob_some h
        have hB11 := bd_X10_laysRing hB8 h11
        obtain ⟨q12, h12, h⟩ := ob_some h
        have hB12 := hB11
        cases h
        exact hB12
      · replace h := ite_f hc10 h
        cases h
        exact hB8
    · replace h := ite_f hc7 h
      obtain ⟨q13, h13, h⟩ := ob_some h
      have hB13 := bd_X10_refused hB5 h13
      obtain ⟨hc14, h⟩ := chk_some h
      by_cases hc15 : q13.1 = 0
      · replace h := ite_t hc15 h
        obtain ⟨q16, h16, h⟩ := ob_some h
        have hB16 := bd_X10_laysRing hB13 h16
        obtain ⟨q17, h17, h⟩ := ob_some h
        have hB17 := hB16
        cases h
        exact hB17
      · replace h := ite_f hc15 h
        cases h
        exact hB13
  · replace h := ite_t hc4 h
    obtain ⟨q18, h18, h⟩ := ob_some h
    have hB18 := bd_X10_refused hB h18
    obtain ⟨hc19, h⟩ := chk_some h
    by_cases hc20 : q18.1 = 0
    · replace h := ite_t hc20 h
      obtain ⟨q21, h21, h⟩ := ob_some h
      have hB21 := bd_X10_laysRing hB18 h21
      obtain ⟨q22, h22, h⟩ := ob_some h
      have hB22 := hB21
      cases h
      exact hB22
    · replace h := ite_f hc20 h
      cases h
      exact hB18
theorem bd_X10_runs {F : Nat} {v1 : Int} {v2 : Int} {M : Mem} (hB : Bd M) {res : Int × Mem} (h : f_X10_runs F v1 v2 M = some res) : Bd res.2 := by
  rw [f_X10_runs] at h
  obtain ⟨q1, h1, h⟩ := ob_some h
  have hB1 := hB
  obtain ⟨hc2, h⟩ := chk_some h
  by_cases hc3 : q1 = 0
  · replace h := ite_t hc3 h
    exact bw_X10_runs_21 v1 v2 0 M hB1 h
  · replace h := ite_f hc3 h
    obtain ⟨q23, h23, h⟩ := ob_some h
    have hB23 := hB1
    obtain ⟨hc24, h⟩ := chk_some h
    by_cases hc25 : q23 = 0
    · replace h := ite_t hc25 h
      exact bw_X10_runs_21 v1 v2 0 M hB23 h
    · replace h := ite_f hc25 h
      exact bw_X10_runs_21 v1 v2 1 M hB23 h
theorem bw_X10_runEnd_135 {res : Int × Mem} {F : Nat} {k110 : Int → Int → Int → Int → Mem → Option (Int × Mem)} (hk110 : ∀ (v2 : Int) (v4 : Int) (v6 : Int) (v7 : Int) (M : Mem), Bd M → k110 v2 v4 v6 v7 M = some res → Bd res.2) : ∀ (v2 : Int) (v4 : Int) (v6 : Int) (v7 : Int) (M : Mem), Bd M → f_X10_runEnd_135 F k110 v2 v4 v6 v7 M = some res → Bd res.2 := by
  intro v2 v4 v6 v7 M hB h
  rw [f_X10_runEnd_135] at h
  obtain ⟨hp_v2, h⟩ := chk_some h
  obtain ⟨hc14, h⟩ := chk_some h
  rcases (Decidable.em (M 70 v6 = v2)).symm with hc15 | hc15
  · replace h := ite_f hc15 h
    exact hk110 v2 v4 (v6 + 1) (v7 - 0) M hB h
  · replace h := ite_t hc15 h
    obtain ⟨q16, h16, h⟩ := ob_some h
    have hB16 := hB
    obtain ⟨hc17, h⟩ := chk_some h
    by_cases hc18 : q16 = 0
    · replace h := ite_t hc18 h
      exact hk110 v2 v4 (v6 + 1) (v7 - 0) M hB16 h
    · replace h := ite_f hc18 h
      exact hk110 v2 v4 (v6 + 1) (v7 - 1) M hB16 h
theorem bw_X10_runEnd_171 {res : Int × Mem} {F : Nat} : ∀ (fu : Nat) (v2 : Int) (v4 : Int) (v6 : Int) (M : Mem), Bd M → f_X10_runEnd_171 F fu v2 v4 v6 M = some res → Bd res.2 := by
  intro fu
  induction fu with
  | zero => intro v2 v4 v6 M hB h; exact nomatch (show (none : Option (Int × Mem)) = some res from h)
  | succ fu ih =>
    intro v2 v4 v6 M hB h
    rw [f_X10_runEnd_171] at h
    obtain ⟨⟨hp_v2, hp_v4⟩, h⟩ := chk_some h
    by_cases hc23 : v4 = 0
    · replace h := ite_t hc23 h
      obtain ⟨hc24, h⟩ := chk_some h
      cases h
      exact hB
    · replace h := ite_f hc23 h
      obtain ⟨hc25, h⟩ := chk_some h
      obtain ⟨hc26, h⟩ := chk_some h
      rcases (Decidable.em (M 70 ((v6 + 1) % (M 64 10)) = v2)).symm with hc27 | hc27
      · replace h := ite_f hc27 h
        obtain ⟨hc28, h⟩ := chk_some h
        cases h
        exact hB
      · replace h := ite_t hc27 h
        exact ih v2 v4 ((v6 + 1) % (M 64 10)) M hB h
theorem bw_X10_runEnd_110 {res : Int × Mem} {F : Nat} : ∀ (fu : Nat) (v2 : Int) (v4 : Int) (v6 : Int) (v7 : Int) (M : Mem), Bd M → f_X10_runEnd_110 F fu v2 v4 v6 v7 M = some res → Bd res.2 := by
  intro fu
  induction fu with
  | zero => intro v2 v4 v6 v7 M hB h; exact nomatch (show (none : Option (Int × Mem)) = some res from h)
  | succ fu ih =>
    intro v2 v4 v6 v7 M hB h
    rw [f_X10_runEnd_110] at h
    obtain ⟨⟨hp_v2, hp_v7⟩, h⟩ := chk_some h
    obtain ⟨hc12, h⟩ := chk_some h
    rcases (Decidable.em (M 70 v6 = v2)).symm with hc13 | hc13
    · replace h := ite_f hc13 h
      exact bw_X10_runEnd_135 ih v2 v4 v6 v7 M hB h
    · replace h := ite_t hc13 h
      obtain ⟨q19, h19, h⟩ := ob_some h
      have hB19 := hB
      obtain ⟨hc20, h⟩ := chk_some h
      by_cases hc21 : q19 = 0
      · replace h := ite_t hc21 h
        exact bw_X10_runEnd_135 ih v2 v4 v6 v7 M hB19 h
      · replace h := ite_f hc21 h
        by_cases hc22 : v7 ≤ 0
        · replace h := ite_t hc22 h
          exact bw_X10_runEnd_171 F v2 v4 v6 M hB19 h
        · replace h := ite_f hc22 h
          exact bw_X10_runEnd_135 ih v2 v4 v6 v7 M hB19 h
theorem bw_X10_runEnd_67 {res : Int × Mem} {F : Nat} : ∀ (v2 : Int) (v3 : Int) (v4 : Int) (M : Mem), Bd M → f_X10_runEnd_67 F v2 v3 v4 M = some res → Bd res.2 := by
  intro v2 v3 v4 M hB h
  rw [f_X10_runEnd_67] at h
  obtain ⟨hp_v4, h⟩ := chk_some h
  obtain ⟨q6, h6, h⟩ := ob_some h
  have hB6 := bd_X10_refused hB h6
  obtain ⟨hc7, h⟩ := chk_some h
  by_cases hc8 : q6.1 = 0
  · replace h := ite_t hc8 h
    obtain ⟨q9, h9, h⟩ := ob_some h
    have hB9 := hB6
    obtain ⟨hc10, h⟩ := chk_some h
    by_cases hc11 : q9 = 0
    · replace h := ite_t hc11 h
      exact bw_X10_runEnd_110 F v2 v4 0 v3 q6.2 hB9 h
    · replace h := ite_f hc11 h
      by_cases hc29 : v4 = 0
      · replace h := ite_t hc29 h
        cases h
        exact hB9
      · replace h := ite_f hc29 h
        obtain ⟨hc30, h⟩ := chk_some h
        cases h
        exact hB9
  · replace h := ite_f hc8 h
    cases h
    exact hB6
theorem bw_X10_runEnd_33 {res : Int × Mem} {F : Nat} : ∀ (v1 : Int) (v2 : Int) (v3 : Int) (v4 : Int) (v5 : Int) (M : Mem), Bd M → f_X10_runEnd_33 F v1 v2 v3 v4 v5 M = some res → Bd res.2 := by
  intro v1 v2 v3 v4 v5 M hB h
  rw [f_X10_runEnd_33] at h
  obtain ⟨⟨hp_v4, hp_v5⟩, h⟩ := chk_some h
  by_cases hc5 : v5 = 0
  · replace h := ite_t hc5 h
    exact bw_X10_runEnd_67 v2 v3 v4 M hB h
  · replace h := ite_f hc5 h
    obtain ⟨q31, h31, h⟩ := ob_some h
    have hB31 := hB
    obtain ⟨hc32, h⟩ := chk_some h
    by_cases hc33 : q31 = 0
    · replace h := ite_t hc33 h
      exact bw_X10_runEnd_67 v2 v3 v4 M hB31 h
    · replace h := ite_f hc33 h
      obtain ⟨q34, h34, h⟩ := ob_some h
      have hB34 := hB31
      obtain ⟨q35, h35, h⟩ := ob_some h
      have hB35 := hB34
      obtain ⟨hc36, h⟩ := chk_some h
      by_cases hc37 : q35 = 0
      · replace h := ite_t hc37 h
        exact bw_X10_runEnd_67 v2 v3 v4 M hB35 h
      · replace h := ite_f hc37 h
        obtain ⟨q38, h38, h⟩ := ob_some h
        have hB38 := bd_X10_refused hB35 h38
        obtain ⟨hc39, h⟩ := chk_some h
        by_cases hc40 : q38.1 = 0
        · replace h := ite_t hc40 h
          obtain ⟨q41, h41, h⟩ := ob_some h
          have hB41 := hB38
          obtain ⟨hc42, h⟩ := chk_some h
          by_cases hc43 : q41 = 0
          · replace h := ite_t hc43 h
            exact bw_X10_runEnd_110 F v2 v4 0 v3 q38.2 hB41 h
          · replace h := ite_f hc43 h
            by_cases hc44 : v4 = 0
            · replace h := ite_t hc44 h
              cases h
              exact hB41
            · replace h := ite_f hc44 h
              obtain ⟨hc45, h⟩ := chk_some h
              cases h
              exact hB41
        · replace h := ite_f hc40 h
          cases h
          exact hB38
theorem bd_X10_runEnd {F : Nat} {v1 : Int} {v2 : Int} {v3 : Int} {v4 : Int} {M : Mem} (hB : Bd M) {res : Int × Mem} (h : f_X10_runEnd F v1 v2 v3 v4 M = some res) : Bd res.2 := by
  rw [f_X10_runEnd] at h
  obtain ⟨q1, h1, h⟩ := ob_some h
  have hB1 := hB
  obtain ⟨hc2, h⟩ := chk_some h
  by_cases hc3 : q1 = 0
  · replace h := ite_t hc3 h
    exact bw_X10_runEnd_33 v1 v2 v3 v4 0 M hB1 h
  · replace h := ite_f hc3 h
    obtain ⟨q46, h46, h⟩ := ob_some h
    have hB46 := hB1
    obtain ⟨hc47, h⟩ := chk_some h
    by_cases hc48 : q46 = 0
    · replace h := ite_t hc48 h
      exact bw_X10_runEnd_33 v1 v2 v3 v4 0 M hB46 h
    · replace h := ite_f hc48 h
      obtain ⟨q51, h51, h⟩ := ob_some h
      have hB51 := bd_X10_laysRing hB46 h51
      exact bw_X10_runEnd_33 v1 v2 v3 v4 1 q51 hB51 h
theorem bd_X10_tableSize {F : Nat} {v1 : Int} {M : Mem} (hB : Bd M) {res : Int × Mem} (h : f_X10_tableSize F v1 M = some res) : Bd res.2 := by
  rw [f_X10_tableSize] at h
  obtain ⟨hp_v1, h⟩ := chk_some h
  by_cases hc1 : v1 = (-1)
  · replace h := ite_t hc1 h
    obtain ⟨q2, h2, h⟩ := ob_some h
    have hB2 := bd_X10_refused hB h2
    obtain ⟨hc3, h⟩ := chk_some h
    by_cases hc4 : q2.1 = 0
    · replace h := ite_t hc4 h
      rcases (Decidable.em (v1 = (-1))).symm with hc5 | hc5
      · replace h := ite_f hc5 h
        obtain ⟨q6, h6, h⟩ := ob_some h
        have hB6 := bd_X10_laysRing hB2 h6
        obtain ⟨q7, h7, h⟩ := ob_some h
        have hB7 := hB6
        cases h
        exact hB7
      · replace h := ite_t hc5 h
        obtain ⟨q8, h8, h⟩ := ob_some h
        have hB8 := bd_X10_netSize hB2 h8
        cases h
        exact hB8
    · replace h := ite_f hc4 h
      cases h
      exact hB2
  · replace h := ite_f hc1 h
    obtain ⟨q9, h9, h⟩ := ob_some h
    have hB9 := hB
    obtain ⟨hc10, h⟩ := chk_some h
    by_cases hc11 : q9 = 0
    · replace h := ite_t hc11 h
      obtain ⟨q12, h12, h⟩ := ob_some h
      have hB12 := bd_X10_refused hB9 h12
      obtain ⟨hc13, h⟩ := chk_some h
      by_cases hc14 : q12.1 = 0
      · replace h := ite_t hc14 h
        rcases (Decidable.em (v1 = (-1))).symm with hc15 | hc15
        · replace h := ite_f hc15 h
          obtain ⟨q16, h16, h⟩ := ob_some h
          have hB16 := bd_X10_laysRing hB12 h16
          obtain ⟨q17, h17, h⟩ := ob_some h
          have hB17 := hB16
          cases h
          exact hB17
        · replace h := ite_t hc15 h
          obtain ⟨q18, h18, h⟩ := ob_some h
          have hB18 := bd_X10_netSize hB12 h18
          cases h
          exact hB18
      · replace h := ite_f hc14 h
        cases h
        exact hB12
    · replace h := ite_f hc11 h
      obtain ⟨q19, h19, h⟩ := ob_some h
      have hB19 := bd_X10_refused hB9 h19
      obtain ⟨hc20, h⟩ := chk_some h
      by_cases hc21 : q19.1 = 0
      · replace h := ite_t hc21 h
        rcases (Decidable.em (v1 = (-1))).symm with hc22 | hc22
        · replace h := ite_f hc22 h
          obtain ⟨q23, h23, h⟩ := ob_some h
          have hB23 := bd_X10_laysRing hB19 h23
          obtain ⟨q24, h24, h⟩ := ob_some h
          have hB24 := hB23
          cases h
          exact hB24
        · replace h := ite_t hc22 h
          obtain ⟨q25, h25, h⟩ := ob_some h
          have hB25 := bd_X10_netSize hB19 h25
          cases h
          exact hB25
      · replace h := ite_f hc21 h
        cases h
        exact hB19
theorem bw_X10_mostRuns_4 {res : Int × Mem} {F : Nat} : ∀ (fu : Nat) (v1 : Int) (v2 : Int) (M : Mem), Bd M → f_X10_mostRuns_4 F fu v1 v2 M = some res → Bd res.2 := by
  intro fu
  induction fu with
  | zero => intro v1 v2 M hB h; exact nomatch (show (none : Option (Int × Mem)) = some res from h)
  | succ fu ih =>
    intro v1 v2 M hB h
    rw [f_X10_mostRuns_4] at h
    obtain ⟨⟨hp_v1, hp_v2⟩, h⟩ := chk_some h
    by_cases hc1 : M 65 0 ≤ v2
    · replace h := ite_t hc1 h
      cases h
      exact hB
    · replace h := ite_f hc1 h
      obtain ⟨q2, h2, h⟩ := ob_some h
      have hB2 := bd_X10_laysRing hB h2
      obtain ⟨q3, h3, h⟩ := ob_some h
      have hB3 := hB2
      obtain ⟨hc4, h⟩ := chk_some h
      by_cases hc5 : q3 ≤ v1
      · replace h := ite_t hc5 h
        exact ih v1 (v2 + 1) q2 hB3 h
      · replace h := ite_f hc5 h
        obtain ⟨q6, h6, h⟩ := ob_some h
        have hB6 := hB3
        exact ih q6 (v2 + 1) q2 hB6 h
theorem bd_X10_mostRuns {F : Nat} {M : Mem} (hB : Bd M) {res : Int × Mem} (h : f_X10_mostRuns F M = some res) : Bd res.2 := by
  rw [f_X10_mostRuns] at h
  exact bw_X10_mostRuns_4 F 0 0 M hB h
theorem bd_X10_compactness {F : Nat} {M : Mem} (hB : Bd M) {res : Int × Mem} (h : f_X10_compactness F M = some res) : Bd res.2 := by
  rw [f_X10_compactness] at h
  have hB1 := hB.set 64 3 (x := 0) (by decide)
  obtain ⟨q2, h2, h⟩ := ob_some h
  have hB2 := bd_X10_mostRuns hB1 h2
  cases h
  exact hB2
theorem bd_X10_bestSize {F : Nat} {v1 : Int} {M : Mem} (hB : Bd M) {res : Int × Mem} (h : f_X10_bestSize F v1 M = some res) : Bd res.2 := by
  rw [f_X10_bestSize] at h
  obtain ⟨q1, h1, h⟩ := ob_some h
  have hB1 := hB
  obtain ⟨hc2, h⟩ := chk_some h
  by_cases hc3 : q1 = 0
  · replace h := ite_t hc3 h
    obtain ⟨q4, h4, h⟩ := ob_some h
    have hB4 := bd_X10_refused hB1 h4
    obtain ⟨hc5, h⟩ := chk_some h
    by_cases hc6 : q4.1 = 0
    · replace h := ite_t hc6 h
      obtain ⟨q7, h7, h⟩ := ob_some h
      have hB7 := bd_X10_laysFar hB4 h7
      obtain ⟨q8, h8, h⟩ := ob_some h
      have hB8 := bd_X10_laysBest hB7 h8
      obtain ⟨q9, h9, h⟩ := ob_some h
      have hB9 := hB8
      cases h
      exact hB9
    · replace h := ite_f hc6 h
      cases h
      exact hB4
  · replace h := ite_f hc3 h
    obtain ⟨q10, h10, h⟩ := ob_some h
    have hB10 := bd_X10_refused hB1 h10
    obtain ⟨hc11, h⟩ := chk_some h
    by_cases hc12 : q10.1 = 0
    · replace h := ite_t hc12 h
      obtain ⟨q13, h13, h⟩ := ob_some h
      have hB13 := bd_X10_laysFar hB10 h13
      obtain ⟨q14, h14, h⟩ := ob_some h
      have hB14 := bd_X10_laysBest hB13 h14
      obtain ⟨q15, h15, h⟩ := ob_some h
      have hB15 := hB14
      cases h
      exact hB15
    · replace h := ite_f hc12 h
      cases h
      exact hB10
theorem bd_X10_check {F : Nat} {v1 : Int} {v2 : Int} {M : Mem} (hB : Bd M) {res : Int × Mem} (h : f_X10_check F v1 v2 M = some res) : Bd res.2 := by
  rw [f_X10_check] at h
  obtain ⟨q1, h1, h⟩ := ob_some h
  have hB1 := hB
  obtain ⟨hc2, h⟩ := chk_some h
  by_cases hc3 : q1 = 0
  · replace h := ite_t hc3 h
    obtain ⟨q4, h4, h⟩ := ob_some h
    have hB4 := bd_X10_refused hB1 h4
    obtain ⟨hc5, h⟩ := chk_some h
    by_cases hc6 : q4.1 = 0
    · replace h := ite_t hc6 h
      obtain ⟨q7, h7, h⟩ := ob_some h
      have hB7 := bd_X10_laysFar hB4 h7
      obtain ⟨q8, h8, h⟩ := ob_some h
      have hB8 := hB7
      cases h
      exact hB8
    · replace h := ite_f hc6 h
      cases h
      exact hB4
  · replace h := ite_f hc3 h
    obtain ⟨q9, h9, h⟩ := ob_some h
    have hB9 := hB1
    obtain ⟨hc10, h⟩ := chk_some h
    by_cases hc11 : q9 = 0
    · replace h := ite_t hc11 h
      obtain ⟨q12, h12, h⟩ := ob_some h
      have hB12 := bd_X10_refused hB9 h12
      obtain ⟨hc13, h⟩ := chk_some h
      by_cases hc14 : q12.1 = 0
      · replace h := ite_t hc14 h
        obtain ⟨q15, h15, h⟩ := ob_some h
        have hB15 := bd_X10_laysFar hB12 h15
        obtain ⟨q16, h16, h⟩ := ob_some h
        have hB16 := hB15
        cases h
        exact hB16
      · replace h := ite_f hc14 h
        cases h
        exact hB12
    · replace h := ite_f hc11 h
      obtain ⟨q17, h17, h⟩ := ob_some h
      have hB17 := bd_X10_refused hB9 h17
      obtain ⟨hc18, h⟩ := chk_some h
      by_cases hc19 : q17.1 = 0
      · replace h := ite_t hc19 h
        obtain ⟨q20, h20, h⟩ := ob_some h
        have hB20 := bd_X10_laysFar hB17 h20
        obtain ⟨q21, h21, h⟩ := ob_some h
        have hB21 := hB20
        cases h
        exact hB21
      · replace h := ite_f hc19 h
        cases h
        exact hB17
theorem bd_X10_checked {F : Nat} {v1 : Int} {M : Mem} (hB : Bd M) {res : Int × Mem} (h : f_X10_checked F v1 M = some res) : Bd res.2 := by
  rw [f_X10_checked] at h
  obtain ⟨q1, h1, h⟩ := ob_some h
  have hB1 := hB
  obtain ⟨hc2, h⟩ := chk_some h
  by_cases hc3 : q1 = 0
  · replace h := ite_t hc3 h
    obtain ⟨q4, h4, h⟩ := ob_some h
    have hB4 := bd_X10_refused hB1 h4
    obtain ⟨hc5, h⟩ := chk_some h
    by_cases hc6 : q4.1 = 0
    · replace h := ite_t hc6 h
      obtain ⟨q7, h7, h⟩ := ob_some h
      have hB7 := bd_X10_laysFar hB4 h7
      obtain ⟨q8, h8, h⟩ := ob_some h
      have hB8 := hB7
      cases h
      exact hB8
    · replace h := ite_f hc6 h
      cases h
      exact hB4
  · replace h := ite_f hc3 h
    obtain ⟨q9, h9, h⟩ := ob_some h
    have hB9 := bd_X10_refused hB1 h9
    obtain ⟨hc10, h⟩ := chk_some h
    by_cases hc11 : q9.1 = 0
    · replace h := ite_t hc11 h
      obtain ⟨q12, h12, h⟩ := ob_some h
      have hB12 := bd_X10_laysFar hB9 h12
      obtain ⟨q13, h13, h⟩ := ob_some h
      have hB13 := hB12
      cases h
      exact hB13
    · replace h := ite_f hc11 h
      cases h
      exact hB9
theorem bw_X10_goes_85 {res : Int × Mem} {F : Nat} {k25 : Int → Int → Int → Mem → Option (Int × Mem)} (hk25 : ∀ (v2 : Int) (v3 : Int) (v4 : Int) (M : Mem), Bd M → k25 v2 v3 v4 M = some res → Bd res.2) : ∀ (v2 : Int) (v3 : Int) (v4 : Int) (t0 : Int) (M : Mem), Bd M → f_X10_goes_85 F k25 v2 v3 v4 t0 M = some res → Bd res.2 := by
  intro v2 v3 v4 t0 M hB h
  rw [f_X10_goes_85] at h
  obtain ⟨hp_t0, h⟩ := chk_some h
  rcases (Decidable.em (t0 = (-1))).symm with hc13 | hc13
  · replace h := ite_f hc13 h
    obtain ⟨q14, h14, h⟩ := ob_some h
    have hB14 := hB
    have hB15 := hB14.set 64 15 (x := bor (M 64 15) (bshl 1 t0)) (bor_R _ _)
    obtain ⟨q16, h16, h⟩ := ob_some h
    have hB16 := hB15
    obtain ⟨hc17, h⟩ := chk_some h
    have hB18 := hB16.set 64 16 (x := ((mset M 64 15 (bor (M 64 15) (bshl 1 t0))) 64 16) + q16) hc17
    obtain ⟨hc19, h⟩ := chk_some h
    obtain ⟨hc20, h⟩ := chk_some h
    have hB21 := hB18.set 74 ((mset (mset M 64 15 (bor (M 64 15) (bshl 1 t0))) 64 16 (((mset M 64 15 (bor (M 64 15) (bshl 1 t0))) 64 16) + q16)) 64 14) (x := q14) hc20
    obtain ⟨hc22, h⟩ := chk_some h
    have hB23 := hB21.set 64 14 (x := ((mset (mset (mset M 64 15 (bor (M 64 15) (bshl 1 t0))) 64 16 (((mset M 64 15 (bor (M 64 15) (bshl 1 t0))) 64 16) + q16)) 74 ((mset (mset M 64 15 (bor (M 64 15) (bshl 1 t0))) 64 16 (((mset M 64 15 (bor (M 64 15) (bshl 1 t0))) 64 16) + q16)) 64 14) q14) 64 14) + 1) hc22
    exact hk25 v2 v3 q14 (mset (mset (mset (mset M 64 15 (bor (M 64 15) (bshl 1 t0))) 64 16 (((mset M 64 15 (bor (M 64 15) (bshl 1 t0))) 64 16) + q16)) 74 ((mset (mset M 64 15 (bor (M 64 15) (bshl 1 t0))) 64 16 (((mset M 64 15 (bor (M 64 15) (bshl 1 t0))) 64 16) + q16)) 64 14) q14) 64 14 (((mset (mset (mset M 64 15 (bor (M 64 15) (bshl 1 t0))) 64 16 (((mset M 64 15 (bor (M 64 15) (bshl 1 t0))) 64 16) + q16)) 74 ((mset (mset M 64 15 (bor (M 64 15) (bshl 1 t0))) 64 16 (((mset M 64 15 (bor (M 64 15) (bshl 1 t0))) 64 16) + q16)) 64 14) q14) 64 14) + 1)) hB23 h
  · replace h := ite_t hc13 h
    cases h
    exact hB
theorem bw_X10_goes_25 {res : Int × Mem} {F : Nat} : ∀ (fu : Nat) (v2 : Int) (v3 : Int) (v4 : Int) (M : Mem), Bd M → f_X10_goes_25 F fu v2 v3 v4 M = some res → Bd res.2 := by
  intro fu
  induction fu with
  | zero => intro v2 v3 v4 M hB h; exact nomatch (show (none : Option (Int × Mem)) = some res from h)
  | succ fu ih =>
    intro v2 v3 v4 M hB h
    rw [f_X10_goes_25] at h
    obtain ⟨⟨hp_v2, hp_v3, hp_v4⟩, h⟩ := chk_some h
    by_cases hc5 : v4 = v2
    · replace h := ite_t hc5 h
      rcases (Decidable.em (v4 = v2)).symm with hc6 | hc6
      · replace h := ite_f hc6 h
        cases h
        exact hB
      · replace h := ite_t hc6 h
        cases h
        exact hB
    · replace h := ite_f hc5 h
      by_cases hc7 : M 65 0 < M 64 14
      · replace h := ite_t hc7 h
        rcases (Decidable.em (v4 = v2)).symm with hc8 | hc8
        · replace h := ite_f hc8 h
          cases h
          exact hB
        · replace h := ite_t hc8 h
          cases h
          exact hB
      · replace h := ite_f hc7 h
        obtain ⟨hc9, h⟩ := chk_some h
        obtain ⟨q10, h10, h⟩ := ob_some h
        have hB10 := hB
        obtain ⟨hc11, h⟩ := chk_some h
        by_cases hc12 : q10 = (-1)
        · replace h := ite_t hc12 h
          exact bw_X10_goes_85 ih v2 v3 v4 q10 M hB10 h
        · replace h := ite_f hc12 h
          rcases (Decidable.em (q10 = v3)).symm with hc24 | hc24
          · replace h := ite_f hc24 h
            exact bw_X10_goes_85 ih v2 v3 v4 q10 M hB10 h
          · replace h := ite_t hc24 h
            obtain ⟨q25, h25, h⟩ := ob_some h
            have hB25 := hB10
            exact bw_X10_goes_85 ih v2 v3 v4 q25 M hB25 h
theorem bd_X10_goes {F : Nat} {v1 : Int} {v2 : Int} {v3 : Int} {M : Mem} (hB : Bd M) {res : Int × Mem} (h : f_X10_goes F v1 v2 v3 M = some res) : Bd res.2 := by
  rw [f_X10_goes] at h
  obtain ⟨hp_v1, h⟩ := chk_some h
  have hB1 := hB.set 74 0 (x := v1) hp_v1
  have hB2 := hB1.set 64 14 (x := 1) (by decide)
  have hB3 := hB2.set 64 15 (x := 0) (by decide)
  have hB4 := hB3.set 64 16 (x := 0) (by decide)
  exact bw_X10_goes_25 F v2 v3 v1 (mset (mset (mset (mset M 74 0 v1) 64 14 1) 64 15 0) 64 16 0) hB4 h
theorem bd_X10_send {F : Nat} {v1 : Int} {v2 : Int} {M : Mem} (hB : Bd M) {res : Int × Mem} (h : f_X10_send F v1 v2 M = some res) : Bd res.2 := by
  rw [f_X10_send] at h
  obtain ⟨q1, h1, h⟩ := ob_some h
  have hB1 := hB
  obtain ⟨hc2, h⟩ := chk_some h
  by_cases hc3 : q1 = 0
  · replace h := ite_t hc3 h
    obtain ⟨q4, h4, h⟩ := ob_some h
    have hB4 := bd_X10_refused hB1 h4
    obtain ⟨hc5, h⟩ := chk_some h
    by_cases hc6 : q4.1 = 0
    · replace h := ite_t hc6 h
      obtain ⟨q7, h7, h⟩ := ob_some h
      have hB7 := bd_X10_goes hB4 h7
      obtain ⟨hc8, h⟩ := chk_some h
      by_cases hc9 : q7.1 = 0
      · replace h := ite_t hc9 h
        cases h
        exact hB7
      · replace h := ite_f hc9 h
        cases h
        exact hB7
    · replace h := ite_f hc6 h
      cases h
      exact hB4
  · replace h := ite_f hc3 h
    obtain ⟨q10, h10, h⟩ := ob_some h
    have hB10 := hB1
    obtain ⟨hc11, h⟩ := chk_some h
    by_cases hc12 : q10 = 0
    · replace h := ite_t hc12 h
      obtain ⟨q13, h13, h⟩ := ob_some h
      have hB13 := bd_X10_refused hB10 h13
      obtain ⟨hc14, h⟩ := chk_some h
      by_cases hc15 : q13.1 = 0
      · replace h := ite_t hc15 h
        obtain ⟨q16, h16, h⟩ := ob_some h
        have hB16 := bd_X10_goes hB13 h16
        obtain ⟨hc17, h⟩ := chk_some h
        by_cases hc18 : q16.1 = 0
        · replace h := ite_t hc18 h
          cases h
          exact hB16
        · replace h := ite_f hc18 h
          cases h
          exact hB16
      · replace h := ite_f hc15 h
        cases h
        exact hB13
    · replace h := ite_f hc12 h
      obtain ⟨q19, h19, h⟩ := ob_some h
      have hB19 := bd_X10_refused hB10 h19
      obtain ⟨hc20, h⟩ := chk_some h
      by_cases hc21 : q19.1 = 0
      · replace h := ite_t hc21 h
        obtain ⟨q22, h22, h⟩ := ob_some h
        have hB22 := bd_X10_goes hB19 h22
        obtain ⟨hc23, h⟩ := chk_some h
        by_cases hc24 : q22.1 = 0
        · replace h := ite_t hc24 h
          cases h
          exact hB22
        · replace h := ite_f hc24 h
          cases h
          exact hB22
      · replace h := ite_f hc21 h
        cases h
        exact hB19
theorem bw_X10_wayNode_30 {res : Int × Mem} {F : Nat} : ∀ (v1 : Int) (v2 : Int) (v3 : Int) (t1 : Int) (M : Mem), Bd M → f_X10_wayNode_30 F v1 v2 v3 t1 M = some res → Bd res.2 := by
  intro v1 v2 v3 t1 M hB h
  rw [f_X10_wayNode_30] at h
  obtain ⟨hp_v3, h⟩ := chk_some h
  obtain ⟨q4, h4, h⟩ := ob_some h
  have hB4 := bd_X10_refused hB h4
  obtain ⟨hc5, h⟩ := chk_some h
  by_cases hc6 : q4.1 = 0
  · replace h := ite_t hc6 h
    obtain ⟨q7, h7, h⟩ := ob_some h
    have hB7 := bd_X10_goes hB4 h7
    by_cases hc8 : q7.2 64 14 ≤ v3
    · replace h := ite_t hc8 h
      cases h
      exact hB7
    · replace h := ite_f hc8 h
      obtain ⟨hc9, h⟩ := chk_some h
      cases h
      exact hB7
  · replace h := ite_f hc6 h
    cases h
    exact hB4
theorem bd_X10_wayNode {F : Nat} {v1 : Int} {v2 : Int} {v3 : Int} {M : Mem} (hB : Bd M) {res : Int × Mem} (h : f_X10_wayNode F v1 v2 v3 M = some res) : Bd res.2 := by
  rw [f_X10_wayNode] at h
  obtain ⟨hp_v3, h⟩ := chk_some h
  obtain ⟨q1, h1, h⟩ := ob_some h
  have hB1 := hB
  obtain ⟨hc2, h⟩ := chk_some h
  by_cases hc3 : q1 = 0
  · replace h := ite_t hc3 h
    exact bw_X10_wayNode_30 v1 v2 v3 1 M hB1 h
  · replace h := ite_f hc3 h
    obtain ⟨q10, h10, h⟩ := ob_some h
    have hB10 := hB1
    obtain ⟨hc11, h⟩ := chk_some h
    rcases (Decidable.em (q10 = 0)).symm with hc12 | hc12
    · replace h := ite_f hc12 h
      by_cases hc13 : 0 ≤ v3
      · replace h := ite_t hc13 h
        exact bw_X10_wayNode_30 v1 v2 v3 0 M hB10 h
      · replace h := ite_f hc13 h
        exact bw_X10_wayNode_30 v1 v2 v3 2 M hB10 h
    · replace h := ite_t hc12 h
      exact bw_X10_wayNode_30 v1 v2 v3 1 M hB10 h
theorem bw_X10_arrivals_16 {res : Int × Mem} {F : Nat} {k4 : Int → Int → Mem → Option (Int × Mem)} (hk4 : ∀ (v1 : Int) (v2 : Int) (M : Mem), Bd M → k4 v1 v2 M = some res → Bd res.2) : ∀ (fu : Nat) (v1 : Int) (v2 : Int) (v3 : Int) (M : Mem), Bd M → f_X10_arrivals_16 F k4 fu v1 v2 v3 M = some res → Bd res.2 := by
  intro fu
  induction fu with
  | zero => intro v1 v2 v3 M hB h; exact nomatch (show (none : Option (Int × Mem)) = some res from h)
  | succ fu ih =>
    intro v1 v2 v3 M hB h
    rw [f_X10_arrivals_16] at h
    obtain ⟨⟨hp_v2, hp_v3⟩, h⟩ := chk_some h
    by_cases hc2 : M 65 0 ≤ v3
    · replace h := ite_t hc2 h
      exact hk4 v1 (v2 + 1) M hB h
    · replace h := ite_f hc2 h
      by_cases hc3 : v2 = v3
      · replace h := ite_t hc3 h
        exact ih (v1 + 0) v2 (v3 + 1) M hB h
      · replace h := ite_f hc3 h
        obtain ⟨q4, h4, h⟩ := ob_some h
        have hB4 := bd_X10_goes hB h4
        obtain ⟨hc5, h⟩ := chk_some h
        by_cases hc6 : q4.1 = 0
        · replace h := ite_t hc6 h
          exact ih (v1 + 0) v2 (v3 + 1) q4.2 hB4 h
        · replace h := ite_f hc6 h
          exact ih (v1 + 1) v2 (v3 + 1) q4.2 hB4 h
theorem bw_X10_arrivals_4 {res : Int × Mem} {F : Nat} : ∀ (fu : Nat) (v1 : Int) (v2 : Int) (M : Mem), Bd M → f_X10_arrivals_4 F fu v1 v2 M = some res → Bd res.2 := by
  intro fu
  induction fu with
  | zero => intro v1 v2 M hB h; exact nomatch (show (none : Option (Int × Mem)) = some res from h)
  | succ fu ih =>
    intro v1 v2 M hB h
    rw [f_X10_arrivals_4] at h
    obtain ⟨hp_v2, h⟩ := chk_some h
    by_cases hc1 : M 65 0 ≤ v2
    · replace h := ite_t hc1 h
      cases h
      exact hB
    · replace h := ite_f hc1 h
      exact bw_X10_arrivals_16 ih F v1 v2 0 M hB h
theorem bd_X10_arrivals {F : Nat} {M : Mem} (hB : Bd M) {res : Int × Mem} (h : f_X10_arrivals F M = some res) : Bd res.2 := by
  rw [f_X10_arrivals] at h
  exact bw_X10_arrivals_4 F 0 0 M hB h
theorem bd_X10_arriving {F : Nat} {M : Mem} (hB : Bd M) {res : Int × Mem} (h : f_X10_arriving F M = some res) : Bd res.2 := by
  rw [f_X10_arriving] at h
  have hB1 := hB.set 64 3 (x := 0) (by decide)
  obtain ⟨q2, h2, h⟩ := ob_some h
  have hB2 := bd_X10_arrivals hB1 h2
  cases h
  exact hB2
theorem bw_X10_stretch_26 {res : UInt64 × Mem} {F : Nat} {k13 : UInt64 → Int → Mem → Option (UInt64 × Mem)} (hk13 : ∀ (v1 : UInt64) (v3 : Int) (M : Mem), Bd M → k13 v1 v3 M = some res → Bd res.2) : ∀ (fu : Nat) (v1 : UInt64) (v3 : Int) (v4 : Int) (M : Mem), Bd M → f_X10_stretch_26 F k13 fu v1 v3 v4 M = some res → Bd res.2 := by
  intro fu
  induction fu with
  | zero => intro v1 v3 v4 M hB h; exact nomatch (show (none : Option (UInt64 × Mem)) = some res from h)
  | succ fu ih =>
    intro v1 v3 v4 M hB h
    rw [f_X10_stretch_26] at h
    obtain ⟨⟨hp_v3, hp_v4⟩, h⟩ := chk_some h
    by_cases hc4 : M 65 0 ≤ v4
    · replace h := ite_t hc4 h
      exact hk13 v1 (v3 + 1) M hB h
    · replace h := ite_f hc4 h
      by_cases hc5 : v3 = v4
      · replace h := ite_t hc5 h
        exact ih v1 v3 (v4 + 1) M hB h
      · replace h := ite_f hc5 h
        obtain ⟨q6, h6, h⟩ := ob_some h
        have hB6 := bd_X10_goes hB h6
        obtain ⟨hc7, h⟩ := chk_some h
        by_cases hc8 : q6.1 = 0
        · replace h := ite_t hc8 h
          exact ih v1 v3 (v4 + 1) q6.2 hB6 h
        · replace h := ite_f hc8 h
          obtain ⟨q9, h9, h⟩ := ob_some h
          have hB9 := hB6
          obtain ⟨hc10, h⟩ := chk_some h
          by_cases hc11 : (Op.cmpValue (FP.dcmp (FP.ddiv (FP.i2d (iI (q6.2 64 16))) (FP.i2d (iI q9))) v1) .l).toInt ≤ 0
          · replace h := ite_t hc11 h
            exact ih v1 v3 (v4 + 1) q6.2 hB9 h
          · replace h := ite_f hc11 h
            exact ih (FP.ddiv (FP.i2d (iI (q6.2 64 16))) (FP.i2d (iI q9))) v3 (v4 + 1) q6.2 hB9 h
theorem bw_X10_stretch_13 {res : UInt64 × Mem} {F : Nat} : ∀ (fu : Nat) (v1 : UInt64) (v3 : Int) (M : Mem), Bd M → f_X10_stretch_13 F fu v1 v3 M = some res → Bd res.2 := by
  intro fu
  induction fu with
  | zero => intro v1 v3 M hB h; exact nomatch (show (none : Option (UInt64 × Mem)) = some res from h)
  | succ fu ih =>
    intro v1 v3 M hB h
    rw [f_X10_stretch_13] at h
    obtain ⟨hp_v3, h⟩ := chk_some h
    by_cases hc3 : M 65 0 ≤ v3
    · replace h := ite_t hc3 h
      cases h
      exact hB
    · replace h := ite_f hc3 h
      exact bw_X10_stretch_26 ih F v1 v3 0 M hB h
theorem bd_X10_stretch {F : Nat} {M : Mem} (hB : Bd M) {res : UInt64 × Mem} (h : f_X10_stretch F M = some res) : Bd res.2 := by
  rw [f_X10_stretch] at h
  have hB1 := hB.set 64 3 (x := 0) (by decide)
  obtain ⟨q2, h2, h⟩ := ob_some h
  have hB2 := bd_X10_laysFar hB1 h2
  exact bw_X10_stretch_13 F 0 0 q2 hB2 h
theorem bw_X10_load_39 {res : Int × Mem} {F : Nat} {k26 : Int → Int → Int → Mem → Option (Int × Mem)} (hk26 : ∀ (v1 : Int) (v2 : Int) (v3 : Int) (M : Mem), Bd M → k26 v1 v2 v3 M = some res → Bd res.2) : ∀ (fu : Nat) (v1 : Int) (v2 : Int) (v3 : Int) (v4 : Int) (M : Mem), Bd M → f_X10_load_39 F k26 fu v1 v2 v3 v4 M = some res → Bd res.2 := by
  intro fu
  induction fu with
  | zero => intro v1 v2 v3 v4 M hB h; exact nomatch (show (none : Option (Int × Mem)) = some res from h)
  | succ fu ih =>
    intro v1 v2 v3 v4 M hB h
    rw [f_X10_load_39] at h
    obtain ⟨⟨hp_v3, hp_v4⟩, h⟩ := chk_some h
    by_cases hc8 : M 65 0 ≤ v4
    · replace h := ite_t hc8 h
      exact hk26 v1 v2 (v3 + 1) M hB h
    · replace h := ite_f hc8 h
      by_cases hc9 : v3 = v4
      · replace h := ite_t hc9 h
        exact ih v1 (v2 + 0) v3 (v4 + 1) M hB h
      · replace h := ite_f hc9 h
        obtain ⟨q10, h10, h⟩ := ob_some h
        have hB10 := bd_X10_goes hB h10
        obtain ⟨hc11, h⟩ := chk_some h
        by_cases hc12 : q10.1 = 0
        · replace h := ite_t hc12 h
          exact ih v1 (v2 + 0) v3 (v4 + 1) q10.2 hB10 h
        · replace h := ite_f hc12 h
          obtain ⟨q13, h13, h⟩ := ob_some h
          have hB13 := hB10
          obtain ⟨hc14, h⟩ := chk_some h
          by_cases hc15 : q13 = 0
          · replace h := ite_t hc15 h
            exact ih v1 (v2 + 0) v3 (v4 + 1) q10.2 hB13 h
          · replace h := ite_f hc15 h
            exact ih v1 (v2 + 1) v3 (v4 + 1) q10.2 hB13 h
theorem bw_X10_load_26 {res : Int × Mem} {F : Nat} : ∀ (fu : Nat) (v1 : Int) (v2 : Int) (v3 : Int) (M : Mem), Bd M → f_X10_load_26 F fu v1 v2 v3 M = some res → Bd res.2 := by
  intro fu
  induction fu with
  | zero => intro v1 v2 v3 M hB h; exact nomatch (show (none : Option (Int × Mem)) = some res from h)
  | succ fu ih =>
    intro v1 v2 v3 M hB h
    rw [f_X10_load_26] at h
    obtain ⟨hp_v3, h⟩ := chk_some h
    by_cases hc7 : M 65 0 ≤ v3
    · replace h := ite_t hc7 h
      cases h
      exact hB
    · replace h := ite_f hc7 h
      exact bw_X10_load_39 ih F v1 v2 v3 0 M hB h
theorem bd_X10_load {F : Nat} {v1 : Int} {M : Mem} (hB : Bd M) {res : Int × Mem} (h : f_X10_load F v1 M = some res) : Bd res.2 := by
  rw [f_X10_load] at h
  obtain ⟨q1, h1, h⟩ := ob_some h
  have hB1 := hB
  obtain ⟨hc2, h⟩ := chk_some h
  by_cases hc3 : q1 = 0
  · replace h := ite_t hc3 h
    obtain ⟨q4, h4, h⟩ := ob_some h
    have hB4 := bd_X10_refused hB1 h4
    obtain ⟨hc5, h⟩ := chk_some h
    by_cases hc6 : q4.1 = 0
    · replace h := ite_t hc6 h
      exact bw_X10_load_26 F v1 0 0 q4.2 hB4 h
    · replace h := ite_f hc6 h
      cases h
      exact hB4
  · replace h := ite_f hc3 h
    obtain ⟨q16, h16, h⟩ := ob_some h
    have hB16 := bd_X10_refused hB1 h16
    obtain ⟨hc17, h⟩ := chk_some h
    by_cases hc18 : q16.1 = 0
    · replace h := ite_t hc18 h
      exact bw_X10_load_26 F v1 0 0 q16.2 hB16 h
    · replace h := ite_f hc18 h
      cases h
      exact hB16
theorem bw_X10_lostWithout_39 {res : Int × Mem} {F : Nat} {k26 : Int → Int → Int → Mem → Option (Int × Mem)} (hk26 : ∀ (v1 : Int) (v2 : Int) (v3 : Int) (M : Mem), Bd M → k26 v1 v2 v3 M = some res → Bd res.2) : ∀ (fu : Nat) (v1 : Int) (v2 : Int) (v3 : Int) (v4 : Int) (M : Mem), Bd M → f_X10_lostWithout_39 F k26 fu v1 v2 v3 v4 M = some res → Bd res.2 := by
  intro fu
  induction fu with
  | zero => intro v1 v2 v3 v4 M hB h; exact nomatch (show (none : Option (Int × Mem)) = some res from h)
  | succ fu ih =>
    intro v1 v2 v3 v4 M hB h
    rw [f_X10_lostWithout_39] at h
    obtain ⟨⟨hp_v3, hp_v4⟩, h⟩ := chk_some h
    by_cases hc8 : M 65 0 ≤ v4
    · replace h := ite_t hc8 h
      exact hk26 v1 v2 (v3 + 1) M hB h
    · replace h := ite_f hc8 h
      by_cases hc9 : v3 = v4
      · replace h := ite_t hc9 h
        exact ih v1 (v2 + 0) v3 (v4 + 1) M hB h
      · replace h := ite_f hc9 h
        obtain ⟨q10, h10, h⟩ := ob_some h
        have hB10 := bd_X10_goes hB h10
        obtain ⟨hc11, h⟩ := chk_some h
        by_cases hc12 : q10.1 = 0
        · replace h := ite_t hc12 h
          exact ih v1 (v2 + 0) v3 (v4 + 1) q10.2 hB10 h
        · replace h := ite_f hc12 h
          obtain ⟨q13, h13, h⟩ := ob_some h
          have hB13 := bd_X10_goes hB10 h13
          obtain ⟨hc14, h⟩ := chk_some h
          rcases (Decidable.em (q13.1 = 0)).symm with hc15 | hc15
          · replace h := ite_f hc15 h
            exact ih v1 (v2 + 0) v3 (v4 + 1) q13.2 hB13 h
          · replace h := ite_t hc15 h
            exact ih v1 (v2 + 1) v3 (v4 + 1) q13.2 hB13 h
theorem bw_X10_lostWithout_26 {res : Int × Mem} {F : Nat} : ∀ (fu : Nat) (v1 : Int) (v2 : Int) (v3 : Int) (M : Mem), Bd M → f_X10_lostWithout_26 F fu v1 v2 v3 M = some res → Bd res.2 := by
  intro fu
  induction fu with
  | zero => intro v1 v2 v3 M hB h; exact nomatch (show (none : Option (Int × Mem)) = some res from h)
  | succ fu ih =>
    intro v1 v2 v3 M hB h
    rw [f_X10_lostWithout_26] at h
    obtain ⟨hp_v3, h⟩ := chk_some h
    by_cases hc7 : M 65 0 ≤ v3
    · replace h := ite_t hc7 h
      cases h
      exact hB
    · replace h := ite_f hc7 h
      exact bw_X10_lostWithout_39 ih F v1 v2 v3 0 M hB h
theorem bd_X10_lostWithout {F : Nat} {v1 : Int} {M : Mem} (hB : Bd M) {res : Int × Mem} (h : f_X10_lostWithout F v1 M = some res) : Bd res.2 := by
  rw [f_X10_lostWithout] at h
  obtain ⟨q1, h1, h⟩ := ob_some h
  have hB1 := hB
  obtain ⟨hc2, h⟩ := chk_some h
  by_cases hc3 : q1 = 0
  · replace h := ite_t hc3 h
    obtain ⟨q4, h4, h⟩ := ob_some h
    have hB4 := bd_X10_refused hB1 h4
    obtain ⟨hc5, h⟩ := chk_some h
    by_cases hc6 : q4.1 = 0
    · replace h := ite_t hc6 h
      exact bw_X10_lostWithout_26 F v1 0 0 q4.2 hB4 h
    · replace h := ite_f hc6 h
      cases h
      exact hB4
  · replace h := ite_f hc3 h
    obtain ⟨q16, h16, h⟩ := ob_some h
    have hB16 := bd_X10_refused hB1 h16
    obtain ⟨hc17, h⟩ := chk_some h
    by_cases hc18 : q16.1 = 0
    · replace h := ite_t hc18 h
      exact bw_X10_lostWithout_26 F v1 0 0 q16.2 hB16 h
    · replace h := ite_f hc18 h
      cases h
      exact hB16
theorem bd_X10_bestCompactness {F : Nat} {M : Mem} (hB : Bd M) {res : Int × Mem} (h : f_X10_bestCompactness F M = some res) : Bd res.2 := by
  rw [f_X10_bestCompactness] at h
  by_cases hc1 : M 65 0 ≤ 6
  · replace h := ite_t hc1 h
    obtain ⟨q2, h2, h⟩ := ob_some h
    have hB2 := bd_X10_refused hB h2
    obtain ⟨hc3, h⟩ := chk_some h
    by_cases hc4 : q2.1 = 0
    · replace h := ite_t hc4 h
      obtain ⟨q5, h5, h⟩ := ob_some h
      have hB5 := bd_X10_bestOf hB2 h5
      cases h
      exact hB5
    · replace h := ite_f hc4 h
      cases h
      exact hB2
  · replace h := ite_f hc1 h
    obtain ⟨q6, h6, h⟩ := ob_some h
    have hB6 := bd_X10_refused hB h6
    obtain ⟨hc7, h⟩ := chk_some h
    by_cases hc8 : q6.1 = 0
    · replace h := ite_t hc8 h
      obtain ⟨q9, h9, h⟩ := ob_some h
      have hB9 := bd_X10_bestOf hB6 h9
      cases h
      exact hB9
    · replace h := ite_f hc8 h
      cases h
      exact hB6
