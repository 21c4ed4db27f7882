theorem bw_X10_labelings_49 {res : Int × Mem} {F : Nat} : ∀ (fu : Nat) (v1 : Int) (v3 : Int) (v4 : Int) (M : Mem), Bd M → f_X10_labelings_49 F fu v1 v3 v4 M = some res → Bd res.2 := by
  intro fu
  induction fu with
  | zero => intro v1 v3 v4 M hB h; exact nomatch (show (none : Option (Int × Mem)) = some res from h)
  | succ fu ih =>
    intro v1 v3 v4 M hB h
    rw [f_X10_labelings_49] at h
    obtain ⟨⟨hp_v1, hp_v4⟩, h⟩ := chk_some h
    by_cases hc9 : v1 < v4
    · replace h := ite_t hc9 h
      cases h
      exact hB
    · replace h := ite_f hc9 h
      obtain ⟨hc10, h⟩ := chk_some h
      exact ih v1 (v3 + (M 77 v4)) (v4 + 1) M hB h
theorem bd_X10_labelings {F : Nat} {v1 : Int} {M : Mem} (hB : Bd M) {res : Int × Mem} (h : f_X10_labelings F v1 M = some res) : Bd res.2 := by
  rw [f_X10_labelings] at h
  obtain ⟨q1, h1, h⟩ := ob_some h
  have hB1 := hB
  obtain ⟨hc2, h⟩ := chk_some h
  rcases (Decidable.em (q1 = 0)).symm with hc3 | hc3
  · replace h := ite_f hc3 h
    by_cases hc4 : M 65 0 ≤ 6
    · replace h := ite_t hc4 h
      obtain ⟨q5, h5, h⟩ := ob_some h
      have hB5 := bd_X10_refused hB1 h5
      obtain ⟨hc6, h⟩ := chk_some h
      by_cases hc7 : q5.1 = 0
      · replace h := ite_t hc7 h
        obtain ⟨q8, h8, h⟩ := ob_some h
        have hB8 := bd_X10_bestOf hB5 h8
        exact bw_X10_labelings_49 F v1 0 0 q8.2 hB8 h
      · replace h := ite_f hc7 h
        cases h
        exact hB5
    · replace h := ite_f hc4 h
      obtain ⟨q11, h11, h⟩ := ob_some h
      have hB11 := bd_X10_refused hB1 h11
      obtain ⟨hc12, h⟩ := chk_some h
      by_cases hc13 : q11.1 = 0
      · replace h := ite_t hc13 h
        obtain ⟨q14, h14, h⟩ := ob_some h
        have hB14 := bd_X10_bestOf hB11 h14
        exact bw_X10_labelings_49 F v1 0 0 q14.2 hB14 h
      · replace h := ite_f hc13 h
        cases h
        exact hB11
  · replace h := ite_t hc3 h
    obtain ⟨q15, h15, h⟩ := ob_some h
    have hB15 := bd_X10_refused hB1 h15
    obtain ⟨hc16, h⟩ := chk_some h
    by_cases hc17 : q15.1 = 0
    · replace h := ite_t hc17 h
      obtain ⟨q18, h18, h⟩ := ob_some h
      have hB18 := bd_X10_bestOf hB15 h18
      exact bw_X10_labelings_49 F v1 0 0 q18.2 hB18 h
    · replace h := ite_f hc17 h
      cases h
      exact hB15
theorem bd_X10_append {v1 : Int} {M : Mem} (hB : Bd M) {res : Int × Mem} (h : f_X10_append v1 M = some res) : Bd res.2 := by
  rw [f_X10_append] at h
  obtain ⟨hp_v1, h⟩ := chk_some h
  obtain ⟨q1, h1, h⟩ := ob_some h
  have hB1 := hB
  obtain ⟨hc2, h⟩ := chk_some h
  rcases (Decidable.em (q1 = 0)).symm with hc3 | hc3
  · replace h := ite_f hc3 h
    rcases (Decidable.em (M 64 5 = 100)).symm with hc4 | hc4
    · replace h := ite_f hc4 h
      obtain ⟨q5, h5, h⟩ := ob_some h
      have hB5 := bd_X10_refused hB1 h5
      obtain ⟨hc6, h⟩ := chk_some h
      by_cases hc7 : q5.1 = 0
      · replace h := ite_t hc7 h
        obtain ⟨hc8, h⟩ := chk_some h
        have hB9 := hB5.set 67 (q5.2 64 5) (x := v1) hp_v1
        obtain ⟨hc10, h⟩ := chk_some h
        have hB11 := hB9.set 64 5 (x := ((mset q5.2 67 (q5.2 64 5) v1) 64 5) + 1) hc10
        cases h
        exact hB11
      · replace h := ite_f hc7 h
        cases h
        exact hB5
    · replace h := ite_t hc4 h
      obtain ⟨q12, h12, h⟩ := ob_some h
      have hB12 := bd_X10_refused hB1 h12
      obtain ⟨hc13, h⟩ := chk_some h
      by_cases hc14 : q12.1 = 0
      · replace h := ite_t hc14 h
        obtain ⟨hc15, h⟩ := chk_some h
        have hB16 := hB12.set 67 (q12.2 64 5) (x := v1) hp_v1
        obtain ⟨hc17, h⟩ := chk_some h
        have hB18 := hB16.set 64 5 (x := ((mset q12.2 67 (q12.2 64 5) v1) 64 5) + 1) hc17
        cases h
        exact hB18
      · replace h := ite_f hc14 h
        cases h
        exact hB12
  · replace h := ite_t hc3 h
    obtain ⟨q19, h19, h⟩ := ob_some h
    have hB19 := bd_X10_refused hB1 h19
    obtain ⟨hc20, h⟩ := chk_some h
    by_cases hc21 : q19.1 = 0
    · replace h := ite_t hc21 h
      obtain ⟨hc22, h⟩ := chk_some h
      have hB23 := hB19.set 67 (q19.2 64 5) (x := v1) hp_v1
      obtain ⟨hc24, h⟩ := chk_some h
      have hB25 := hB23.set 64 5 (x := ((mset q19.2 67 (q19.2 64 5) v1) 64 5) + 1) hc24
      cases h
      exact hB25
    · replace h := ite_f hc21 h
      cases h
      exact hB19
theorem bd_X10_clearText {M : Mem} (hB : Bd M) {res : Int × Mem} (h : f_X10_clearText M = some res) : Bd res.2 := by
  rw [f_X10_clearText] at h
  have hB1 := hB.set 64 3 (x := 0) (by decide)
  have hB2 := hB1.set 64 5 (x := 0) (by decide)
  cases h
  exact hB2
theorem bd_X10_takes {v1 : Int} {v2 : Int} {M : Mem} (hB : Bd M) {res : Int × Mem} (h : f_X10_takes v1 v2 M = some res) : Bd res.2 := by
  rw [f_X10_takes] at h
  obtain ⟨q1, h1, h⟩ := ob_some h
  have hB1 := hB
  obtain ⟨hc2, h⟩ := chk_some h
  rcases (Decidable.em (q1 = 0)).symm with hc3 | hc3
  · replace h := ite_f hc3 h
    obtain ⟨hc4, h⟩ := chk_some h
    have hB5 := hB1.set 64 20 (x := (M 64 20) + 1) hc4
    obtain ⟨hc6, h⟩ := chk_some h
    cases h
    exact hB5
  · replace h := ite_t hc3 h
    cases h
    exact hB1
theorem bw_X10_reads_51 {res : Int × Mem} {F : Nat} : ∀ (t0 : Int) (M : Mem), Bd M → f_X10_reads_51 F t0 M = some res → Bd res.2 := by
  intro t0 M hB h
  rw [f_X10_reads_51] at h
  obtain ⟨hp_t0, h⟩ := chk_some h
  rcases (Decidable.em (t0 = (-1))).symm with hc8 | hc8
  · replace h := ite_f hc8 h
    obtain ⟨q9, h9, h⟩ := ob_some h
    have hB9 := bd_X10_takes hB h9
    obtain ⟨hc10, h⟩ := chk_some h
    rcases (Decidable.em (q9.1 = (-1))).symm with hc11 | hc11
    · replace h := ite_f hc11 h
      by_cases hc12 : q9.1 = t0
      · replace h := ite_t hc12 h
        obtain ⟨hc13, h⟩ := chk_some h
        have hB14 := hB9.set 64 20 (x := (q9.2 64 20) - 1) hc13
        cases h
        exact hB14
      · replace h := ite_f hc12 h
        obtain ⟨q15, h15, h⟩ := ob_some h
        have hB15 := hB9
        obtain ⟨hc16, h⟩ := chk_some h
        by_cases hc17 : q15 = 0
        · replace h := ite_t hc17 h
          obtain ⟨q18, h18, h⟩ := ob_some h
          have hB18 := bd_X10_takes hB15 h18
          obtain ⟨hc19, h⟩ := chk_some h
          by_cases hc20 : q18.1 = (-1)
          · replace h := ite_t hc20 h
            by_cases hc21 : q18.1 = (-1)
            · replace h := ite_t hc21 h
              cases h
              exact hB18
            · replace h := ite_f hc21 h
              cases h
              exact hB18
          · replace h := ite_f hc20 h
            obtain ⟨q22, h22, h⟩ := ob_some h
            have hB22 := bd_X10_joins hB18 h22
            by_cases hc23 : q18.1 = (-1)
            · replace h := ite_t hc23 h
              cases h
              exact hB22
            · replace h := ite_f hc23 h
              cases h
              exact hB22
        · replace h := ite_f hc17 h
          obtain ⟨hc24, h⟩ := chk_some h
          have hB25 := hB15.set 64 20 (x := (q9.2 64 20) - 1) hc24
          cases h
          exact hB25
    · replace h := ite_t hc11 h
      cases h
      exact hB9
  · replace h := ite_t hc8 h
    cases h
    exact hB
theorem bd_X10_reads {F : Nat} {M : Mem} (hB : Bd M) {res : Int × Mem} (h : f_X10_reads F M = some res) : Bd res.2 := by
  rw [f_X10_reads] at h
  obtain ⟨q1, h1, h⟩ := ob_some h
  have hB1 := hB
  obtain ⟨hc2, h⟩ := chk_some h
  rcases (Decidable.em (q1 = 0)).symm with hc3 | hc3
  · replace h := ite_f hc3 h
    obtain ⟨hc4, h⟩ := chk_some h
    have hB5 := hB1.set 64 20 (x := (M 64 20) + 1) hc4
    rcases (Decidable.em ((mset M 64 20 ((M 64 20) + 1)) 65 1 = 16)).symm with hc6 | hc6
    · replace h := ite_f hc6 h
      obtain ⟨q7, h7, h⟩ := ob_some h
      have hB7 := bd_X10_takes hB5 h7
      exact bw_X10_reads_51 q7.1 q7.2 hB7 h
    · replace h := ite_t hc6 h
      exact bw_X10_reads_51 (-1) (mset M 64 20 ((M 64 20) + 1)) hB5 h
  · replace h := ite_t hc3 h
    cases h
    exact hB1
theorem bw_X10_parse_149 {res : Int × Mem} {F : Nat} : ∀ (fu : Nat) (v3 : Int) (M : Mem), Bd M → f_X10_parse_149 F fu v3 M = some res → Bd res.2 := by
  intro fu
  induction fu with
  | zero => intro v3 M hB h; exact nomatch (show (none : Option (Int × Mem)) = some res from h)
  | succ fu ih =>
    intro v3 M hB h
    rw [f_X10_parse_149] at h
    obtain ⟨hp_v3, h⟩ := chk_some h
    by_cases hc12 : 140 ≤ v3
    · replace h := ite_t hc12 h
      cases h
      exact hB
    · replace h := ite_f hc12 h
      obtain ⟨hc13, h⟩ := chk_some h
      have hB14 := hB.set 65 v3 (x := M 78 v3) (hB 78 v3 (by decide))
      exact ih (v3 + 1) (mset M 65 v3 (M 78 v3)) hB14 h
theorem bw_X10_parse_90 {res : Int × Mem} {F : Nat} : ∀ (fu : Nat) (v2 : Int) (v3 : Int) (M : Mem), Bd M → f_X10_parse_90 F fu v2 v3 M = some res → Bd res.2 := by
  intro fu
  induction fu with
  | zero => intro v2 v3 M hB h; exact nomatch (show (none : Option (Int × Mem)) = some res from h)
  | succ fu ih =>
    intro v2 v3 M hB h
    rw [f_X10_parse_90] at h
    obtain ⟨⟨hp_v2, hp_v3⟩, h⟩ := chk_some h
    by_cases hc9 : 140 ≤ v3
    · replace h := ite_t hc9 h
      rcases (Decidable.em (v2 = 0)).symm with hc10 | hc10
      · replace h := ite_f hc10 h
        obtain ⟨q11, h11, h⟩ := ob_some h
        have hB11 := bd_X10_saves hB h11
        exact bw_X10_parse_149 F 0 q11 hB11 h
      · replace h := ite_t hc10 h
        cases h
        exact hB
    · replace h := ite_f hc9 h
      obtain ⟨hc15, h⟩ := chk_some h
      have hB16 := hB.set 65 v3 (x := M 78 v3) (hB 78 v3 (by decide))
      have hB17 := hB16.set 78 v3 (x := M 65 v3) (hB 65 v3 (by decide))
      exact ih v2 (v3 + 1) (mset (mset M 65 v3 (M 78 v3)) 78 v3 (M 65 v3)) hB17 h
theorem bw_X10_parse_65 {res : Int × Mem} {F : Nat} : ∀ (fu : Nat) (v2 : Int) (M : Mem), Bd M → f_X10_parse_65 F fu v2 M = some res → Bd res.2 := by
  intro fu
  induction fu with
  | zero => intro v2 M hB h; exact nomatch (show (none : Option (Int × Mem)) = some res from h)
  | succ fu ih =>
    intro v2 M hB h
    rw [f_X10_parse_65] at h
    obtain ⟨hp_v2, h⟩ := chk_some h
    by_cases hc8 : v2 = 0
    · replace h := ite_t hc8 h
      exact bw_X10_parse_90 F v2 0 M hB h
    · replace h := ite_f hc8 h
      by_cases hc18 : M 64 5 ≤ M 64 20
      · replace h := ite_t hc18 h
        exact bw_X10_parse_90 F v2 0 M hB h
      · replace h := ite_f hc18 h
        obtain ⟨q19, h19, h⟩ := ob_some h
        have hB19 := bd_X10_reads hB h19
        exact ih q19.1 q19.2 hB19 h
theorem bw_X10_parse_7 {res : Int × Mem} {F : Nat} : ∀ (fu : Nat) (v1 : Int) (M : Mem), Bd M → f_X10_parse_7 F fu v1 M = some res → Bd res.2 := by
  intro fu
  induction fu with
  | zero => intro v1 M hB h; exact nomatch (show (none : Option (Int × Mem)) = some res from h)
  | succ fu ih =>
    intro v1 M hB h
    rw [f_X10_parse_7] at h
    obtain ⟨hp_v1, h⟩ := chk_some h
    by_cases hc2 : 140 ≤ v1
    · replace h := ite_t hc2 h
      have hB3 := hB.set 64 20 (x := 0) (by decide)
      obtain ⟨q4, h4, h⟩ := ob_some h
      have hB4 := bd_X10_takes hB3 h4
      obtain ⟨hc5, h⟩ := chk_some h
      by_cases hc6 : q4.1 = (-1)
      · replace h := ite_t hc6 h
        exact bw_X10_parse_65 F 0 q4.2 hB4 h
      · replace h := ite_f hc6 h
        obtain ⟨q21, h21, h⟩ := ob_some h
        have hB21 := bd_X10_begins hB4 h21
        exact bw_X10_parse_65 F 1 q21 hB21 h
    · replace h := ite_f hc2 h
      obtain ⟨hc22, h⟩ := chk_some h
      have hB23 := hB.set 78 v1 (x := M 65 v1) (hB 65 v1 (by decide))
      exact ih (v1 + 1) (mset M 78 v1 (M 65 v1)) hB23 h
theorem bd_X10_parse {F : Nat} {M : Mem} (hB : Bd M) {res : Int × Mem} (h : f_X10_parse F M = some res) : Bd res.2 := by
  rw [f_X10_parse] at h
  have hB1 := hB.set 64 3 (x := 0) (by decide)
  exact bw_X10_parse_7 F 0 (mset M 64 3 0) hB1 h
theorem bd_X10_mix {v1 : Int} {M : Mem} (hB : Bd M) {res : Mem} (h : f_X10_mix v1 M = some res) : Bd res := by
  rw [f_X10_mix] at h
  obtain ⟨hp_v1, h⟩ := chk_some h
  have hB1 := hB.setL 64 22 ((31 * (M 1064 22)) + v1)
  cases h
  exact hB1
theorem bw_X10_digest_171 {res : Int × Mem} {F : Nat} : ∀ (fu : Nat) (v1 : Int) (M : Mem), Bd M → f_X10_digest_171 F fu v1 M = some res → Bd res.2 := by
  intro fu
  induction fu with
  | zero => intro v1 M hB h; exact nomatch (show (none : Option (Int × Mem)) = some res from h)
  | succ fu ih =>
    intro v1 M hB h
    rw [f_X10_digest_171] at h
    obtain ⟨hp_v1, h⟩ := chk_some h
    by_cases hc15 : 5 ≤ v1
    · replace h := ite_t hc15 h
      obtain ⟨q16, h16, h⟩ := ob_some h
      have hB16 := bd_X10_arrivals hB h16
      obtain ⟨q17, h17, h⟩ := ob_some h
      have hB17 := bd_X10_mix hB16 h17
      obtain ⟨q18, h18, h⟩ := ob_some h
      have hB18 := bd_X10_mix hB17 h18
      cases h
      exact hB18
    · replace h := ite_f hc15 h
      obtain ⟨q19, h19, h⟩ := ob_some h
      have hB19 := hB
      obtain ⟨q20, h20, h⟩ := ob_some h
      have hB20 := bd_X10_mix hB19 h20
      exact ih (v1 + 1) q20 hB20 h
theorem bw_X10_digest_121 {res : Int × Mem} {F : Nat} {k109 : Int → Mem → Option (Int × Mem)} (hk109 : ∀ (v1 : Int) (M : Mem), Bd M → k109 v1 M = some res → Bd res.2) : ∀ (fu : Nat) (v1 : Int) (v2 : Int) (M : Mem), Bd M → f_X10_digest_121 F k109 fu v1 v2 M = some res → Bd res.2 := by
  intro fu
  induction fu with
  | zero => intro v1 v2 M hB h; exact nomatch (show (none : Option (Int × Mem)) = some res from h)
  | succ fu ih =>
    intro v1 v2 M hB h
    rw [f_X10_digest_121] at h
    obtain ⟨hp_v2, h⟩ := chk_some h
    by_cases hc21 : M 65 0 ≤ v2
    · replace h := ite_t hc21 h
      exact hk109 (v1 + 1) M hB h
    · replace h := ite_f hc21 h
      obtain ⟨q22, h22, h⟩ := ob_some h
      have hB22 := hB
      obtain ⟨q23, h23, h⟩ := ob_some h
      have hB23 := bd_X10_mix hB22 h23
      exact ih v1 (v2 + 1) q23 hB23 h
theorem bw_X10_digest_109 {res : Int × Mem} {F : Nat} : ∀ (fu : Nat) (v1 : Int) (M : Mem), Bd M → f_X10_digest_109 F fu v1 M = some res → Bd res.2 := by
  intro fu
  induction fu with
  | zero => intro v1 M hB h; exact nomatch (show (none : Option (Int × Mem)) = some res from h)
  | succ fu ih =>
    intro v1 M hB h
    rw [f_X10_digest_109] at h
    obtain ⟨hp_v1, h⟩ := chk_some h
    by_cases hc10 : M 65 0 ≤ v1
    · replace h := ite_t hc10 h
      obtain ⟨q11, h11, h⟩ := ob_some h
      have hB11 := bd_X10_netSize hB h11
      obtain ⟨q12, h12, h⟩ := ob_some h
      have hB12 := bd_X10_mix hB11 h12
      obtain ⟨q13, h13, h⟩ := ob_some h
      have hB13 := bd_X10_mostRuns hB12 h13
      obtain ⟨q14, h14, h⟩ := ob_some h
      have hB14 := bd_X10_mix hB13 h14
      exact bw_X10_digest_171 F 0 q14 hB14 h
    · replace h := ite_f hc10 h
      exact bw_X10_digest_121 ih F v1 0 M hB h
theorem bw_X10_digest_78 {res : Int × Mem} {F : Nat} : ∀ (fu : Nat) (v1 : Int) (M : Mem), Bd M → f_X10_digest_78 F fu v1 M = some res → Bd res.2 := by
  intro fu
  induction fu with
  | zero => intro v1 M hB h; exact nomatch (show (none : Option (Int × Mem)) = some res from h)
  | succ fu ih =>
    intro v1 M hB h
    rw [f_X10_digest_78] at h
    obtain ⟨hp_v1, h⟩ := chk_some h
    by_cases hc9 : M 65 0 ≤ v1
    · replace h := ite_t hc9 h
      exact bw_X10_digest_109 F 0 M hB h
    · replace h := ite_f hc9 h
      obtain ⟨hc24, h⟩ := chk_some h
      obtain ⟨q25, h25, h⟩ := ob_some h
      have hB25 := bd_X10_mix hB h25
      exact ih (v1 + 1) q25 hB25 h
theorem bw_X10_digest_46 {res : Int × Mem} {F : Nat} : ∀ (fu : Nat) (v1 : Int) (M : Mem), Bd M → f_X10_digest_46 F fu v1 M = some res → Bd res.2 := by
  intro fu
  induction fu with
  | zero => intro v1 M hB h; exact nomatch (show (none : Option (Int × Mem)) = some res from h)
  | succ fu ih =>
    intro v1 M hB h
    rw [f_X10_digest_46] at h
    obtain ⟨hp_v1, h⟩ := chk_some h
    obtain ⟨hc7, h⟩ := chk_some h
    by_cases hc8 : 3 * (M 65 1) ≤ v1
    · replace h := ite_t hc8 h
      exact bw_X10_digest_78 F 0 M hB h
    · replace h := ite_f hc8 h
      obtain ⟨hc26, h⟩ := chk_some h
      obtain ⟨q27, h27, h⟩ := ob_some h
      have hB27 := bd_X10_mix hB h27
      exact ih (v1 + 1) q27 hB27 h
theorem bd_X10_digest {F : Nat} {M : Mem} (hB : Bd M) {res : Int × Mem} (h : f_X10_digest F M = some res) : Bd res.2 := by
  rw [f_X10_digest] at h
  have hB1 := hB.set 64 3 (x := 0) (by decide)
  obtain ⟨q2, h2, h⟩ := ob_some h
  have hB2 := bd_X10_laysFar hB1 h2
  have hB3 := hB2.setL 64 22 3083
  obtain ⟨q4, h4, h⟩ := ob_some h
  have hB4 := bd_X10_mix hB3 h4
  obtain ⟨q5, h5, h⟩ := ob_some h
  have hB5 := bd_X10_mix hB4 h5
  obtain ⟨q6, h6, h⟩ := ob_some h
  have hB6 := bd_X10_mix hB5 h6
  exact bw_X10_digest_46 F 0 q6 hB6 h
theorem bd_L_begin {F : Nat} {v1 : Int} {M : Mem} (hB : Bd M) {res : Int × Mem} (h : f_L_begin F v1 M = some res) : Bd res.2 := by
  rw [f_L_begin] at h
  obtain ⟨q1, h1, h⟩ := ob_some h
  have hB1 := bd_X9_begin hB h1
  rcases hz1 : q1.1 with e1 | r1
  · replace h := ox_l hz1 h
    by_cases hc2 : e1 = 0
    · replace h := ite_t hc2 h
      subst hc2
      cases h
      exact hB1
    · replace h := ite_f hc2 h
      cases h
  · replace h := ox_r hz1 h
    obtain ⟨hc3, h⟩ := chk_some h
    have hB4 := hB1.setL 79 0 r1
    cases h
    exact hB4
theorem bd_L_addLink {F : Nat} {v1 : Int} {v2 : Int} {v3 : Int} {M : Mem} (hB : Bd M) {res : Int × Mem} (h : f_L_addLink F v1 v2 v3 M = some res) : Bd res.2 := by
  rw [f_L_addLink] at h
  obtain ⟨q1, h1, h⟩ := ob_some h
  have hB1 := bd_X9_addLink hB h1
  rcases hz1 : q1.1 with e1 | r1
  · replace h := ox_l hz1 h
    by_cases hc4 : e1 = 1
    · replace h := ite_t hc4 h
      subst hc4
      cases h
      exact hB1
    · replace h := ite_f hc4 h
      by_cases hc3 : e1 = 0
      · replace h := ite_t hc3 h
        subst hc3
        cases h
        exact hB1
      · replace h := ite_f hc3 h
        by_cases hc2 : e1 = 2
        · replace h := ite_t hc2 h
          subst hc2
          cases h
          exact hB1
        · replace h := ite_f hc2 h
          cases h
  · replace h := ox_r hz1 h
    obtain ⟨hc5, h⟩ := chk_some h
    have hB6 := hB1.setL 79 0 r1
    cases h
    exact hB6
theorem bd_L_removeLink {F : Nat} {v1 : Int} {M : Mem} (hB : Bd M) {res : Int × Mem} (h : f_L_removeLink F v1 M = some res) : Bd res.2 := by
  rw [f_L_removeLink] at h
  obtain ⟨q1, h1, h⟩ := ob_some h
  have hB1 := bd_X9_removeLink hB h1
  rcases hz1 : q1.1 with e1 | r1
  · replace h := ox_l hz1 h
    by_cases hc2 : e1 = 1
    · replace h := ite_t hc2 h
      subst hc2
      cases h
      exact hB1
    · replace h := ite_f hc2 h
      cases h
  · replace h := ox_r hz1 h
    obtain ⟨hc3, h⟩ := chk_some h
    have hB4 := hB1.setL 79 0 r1
    cases h
    exact hB4
theorem bd_L_setLength {F : Nat} {v1 : Int} {v2 : Int} {M : Mem} (hB : Bd M) {res : Int × Mem} (h : f_L_setLength F v1 v2 M = some res) : Bd res.2 := by
  rw [f_L_setLength] at h
  obtain ⟨q1, h1, h⟩ := ob_some h
  have hB1 := bd_X9_setLength hB h1
  rcases hz1 : q1.1 with e1 | r1
  · replace h := ox_l hz1 h
    by_cases hc3 : e1 = 1
    · replace h := ite_t hc3 h
      subst hc3
      cases h
      exact hB1
    · replace h := ite_f hc3 h
      by_cases hc2 : e1 = 0
      · replace h := ite_t hc2 h
        subst hc2
        cases h
        exact hB1
      · replace h := ite_f hc2 h
        cases h
  · replace h := ox_r hz1 h
    obtain ⟨hc4, h⟩ := chk_some h
    have hB5 := hB1.setL 79 0 r1
    cases h
    exact hB5
theorem bd_L_link {v1 : Int} {v2 : Int} {M : Mem} (hB : Bd M) {res : Int × Mem} (h : f_L_link v1 v2 M = some res) : Bd res.2 := by
  rw [f_L_link] at h
  obtain ⟨q1, h1, h⟩ := ob_some h
  have hB1 := hB
  rcases hz1 : q1 with e1 | r1
  · replace h := ox_l hz1 h
    by_cases hc3 : e1 = 1
    · replace h := ite_t hc3 h
      subst hc3
      cases h
      exact hB1
    · replace h := ite_f hc3 h
      by_cases hc2 : e1 = 0
      · replace h := ite_t hc2 h
        subst hc2
        cases h
        exact hB1
      · replace h := ite_f hc2 h
        cases h
  · replace h := ox_r hz1 h
    obtain ⟨hc4, h⟩ := chk_some h
    have hB5 := hB1.setL 79 0 r1
    cases h
    exact hB5
theorem bd_L_distance {v1 : Int} {v2 : Int} {M : Mem} (hB : Bd M) {res : Int × Mem} (h : f_L_distance v1 v2 M = some res) : Bd res.2 := by
  rw [f_L_distance] at h
  obtain ⟨q1, h1, h⟩ := ob_some h
  have hB1 := hB
  rcases hz1 : q1 with e1 | r1
  · replace h := ox_l hz1 h
    by_cases hc2 : e1 = 1
    · replace h := ite_t hc2 h
      subst hc2
      cases h
      exact hB1
    · replace h := ite_f hc2 h
      cases h
  · replace h := ox_r hz1 h
    obtain ⟨hc3, h⟩ := chk_some h
    have hB4 := hB1.setL 79 0 r1
    cases h
    exact hB4
theorem bd_L_goodLinks {v1 : Int} {v2 : Int} {M : Mem} (hB : Bd M) {res : Int × Mem} (h : f_L_goodLinks v1 v2 M = some res) : Bd res.2 := by
  rw [f_L_goodLinks] at h
  obtain ⟨q1, h1, h⟩ := ob_some h
  have hB1 := hB
  rcases hz1 : q1 with e1 | r1
  · replace h := ox_l hz1 h
    by_cases hc2 : e1 = 1
    · replace h := ite_t hc2 h
      subst hc2
      cases h
      exact hB1
    · replace h := ite_f hc2 h
      cases h
  · replace h := ox_r hz1 h
    obtain ⟨hc3, h⟩ := chk_some h
    have hB4 := hB1.setL 79 0 r1
    cases h
    exact hB4
theorem bd_L_label {v1 : Int} {M : Mem} (hB : Bd M) {res : Int × Mem} (h : f_L_label v1 M = some res) : Bd res.2 := by
  rw [f_L_label] at h
  obtain ⟨q1, h1, h⟩ := ob_some h
  have hB1 := hB
  rcases hz1 : q1 with e1 | r1
  · replace h := ox_l hz1 h
    by_cases hc2 : e1 = 1
    · replace h := ite_t hc2 h
      subst hc2
      cases h
      exact hB1
    · replace h := ite_f hc2 h
      cases h
  · replace h := ox_r hz1 h
    obtain ⟨hc3, h⟩ := chk_some h
    have hB4 := hB1.setL 79 0 r1
    cases h
    exact hB4
theorem bd_L_nodeWith {F : Nat} {v1 : Int} {M : Mem} (hB : Bd M) {res : Int × Mem} (h : f_L_nodeWith F v1 M = some res) : Bd res.2 := by
  rw [f_L_nodeWith] at h
  obtain ⟨q1, h1, h⟩ := ob_some h
  have hB1 := hB
  rcases hz1 : q1 with e1 | r1
  · replace h := ox_l hz1 h
    by_cases hc2 : e1 = 1
    · replace h := ite_t hc2 h
      subst hc2
      cases h
      exact hB1
    · replace h := ite_f hc2 h
      cases h
  · replace h := ox_r hz1 h
    obtain ⟨hc3, h⟩ := chk_some h
    have hB4 := hB1.setL 79 0 r1
    cases h
    exact hB4
theorem bd_L_setLabels {F : Nat} {v1 : Int} {v2 : Int} {M : Mem} (hB : Bd M) {res : Int × Mem} (h : f_L_setLabels F v1 v2 M = some res) : Bd res.2 := by
  rw [f_L_setLabels] at h
  obtain ⟨q1, h1, h⟩ := ob_some h
  have hB1 := bd_X9_setLabels hB h1
  rcases hz1 : q1.1 with e1 | r1
  · replace h := ox_l hz1 h
    by_cases hc4 : e1 = 0
    · replace h := ite_t hc4 h
      subst hc4
      cases h
      exact hB1
    · replace h := ite_f hc4 h
      by_cases hc3 : e1 = 1
      · replace h := ite_t hc3 h
        subst hc3
        cases h
        exact hB1
      · replace h := ite_f hc3 h
        by_cases hc2 : e1 = 2
        · replace h := ite_t hc2 h
          subst hc2
          cases h
          exact hB1
        · replace h := ite_f hc2 h
          cases h
  · replace h := ox_r hz1 h
    obtain ⟨hc5, h⟩ := chk_some h
    have hB6 := hB1.setL 79 0 r1
    cases h
    exact hB6
theorem bd_L_swapLabels {F : Nat} {v1 : Int} {v2 : Int} {M : Mem} (hB : Bd M) {res : Int × Mem} (h : f_L_swapLabels F v1 v2 M = some res) : Bd res.2 := by
  rw [f_L_swapLabels] at h
  obtain ⟨q1, h1, h⟩ := ob_some h
  have hB1 := bd_X9_swapLabels hB h1
  rcases hz1 : q1.1 with e1 | r1
  · replace h := ox_l hz1 h
    by_cases hc2 : e1 = 1
    · replace h := ite_t hc2 h
      subst hc2
      cases h
      exact hB1
    · replace h := ite_f hc2 h
      cases h
  · replace h := ox_r hz1 h
    obtain ⟨hc3, h⟩ := chk_some h
    have hB4 := hB1.setL 79 0 r1
    cases h
    exact hB4
theorem bd_L_turn {F : Nat} {v1 : Int} {M : Mem} (hB : Bd M) {res : Int × Mem} (h : f_L_turn F v1 M = some res) : Bd res.2 := by
  rw [f_L_turn] at h
  obtain ⟨q1, h1, h⟩ := ob_some h
  have hB1 := bd_X9_turn hB h1
  rcases hz1 : q1.1 with e1 | r1
  · replace h := ox_l hz1 h
    by_cases hc3 : e1 = 0
    · replace h := ite_t hc3 h
      subst hc3
      cases h
      exact hB1
    · replace h := ite_f hc3 h
      by_cases hc2 : e1 = 2
      · replace h := ite_t hc2 h
        subst hc2
        cases h
        exact hB1
      · replace h := ite_f hc2 h
        cases h
  · replace h := ox_r hz1 h
    obtain ⟨hc4, h⟩ := chk_some h
    have hB5 := hB1.setL 79 0 r1
    cases h
    exact hB5
theorem bd_L_shuffle {F : Nat} {v1 : Int} {M : Mem} (hB : Bd M) {res : Int × Mem} (h : f_L_shuffle F v1 M = some res) : Bd res.2 := by
  rw [f_L_shuffle] at h
  obtain ⟨q1, h1, h⟩ := ob_some h
  have hB1 := bd_X9_shuffle hB h1
  rcases hz1 : q1.1 with e1 | r1
  · replace h := ox_l hz1 h
    by_cases hc2 : e1 = 0
    · replace h := ite_t hc2 h
      subst hc2
      cases h
      exact hB1
    · replace h := ite_f hc2 h
      cases h
  · replace h := ox_r hz1 h
    obtain ⟨hc3, h⟩ := chk_some h
    have hB4 := hB1.setL 79 0 r1
    cases h
    exact hB4
theorem bd_L_setRange {F : Nat} {v1 : Int} {v2 : Int} {v3 : Int} {v4 : Int} {M : Mem} (hB : Bd M) {res : Int × Mem} (h : f_L_setRange F v1 v2 v3 v4 M = some res) : Bd res.2 := by
  rw [f_L_setRange] at h
  obtain ⟨q1, h1, h⟩ := ob_some h
  have hB1 := bd_X9_setRange hB h1
  rcases hz1 : q1.1 with e1 | r1
  · replace h := ox_l hz1 h
    by_cases hc3 : e1 = 1
    · replace h := ite_t hc3 h
      subst hc3
      cases h
      exact hB1
    · replace h := ite_f hc3 h
      by_cases hc2 : e1 = 0
      · replace h := ite_t hc2 h
        subst hc2
        cases h
        exact hB1
      · replace h := ite_f hc2 h
        cases h
  · replace h := ox_r hz1 h
    obtain ⟨hc4, h⟩ := chk_some h
    have hB5 := hB1.setL 79 0 r1
    cases h
    exact hB5
theorem bd_L_entry {v1 : Int} {v2 : Int} {M : Mem} (hB : Bd M) {res : Int × Mem} (h : f_L_entry v1 v2 M = some res) : Bd res.2 := by
  rw [f_L_entry] at h
  obtain ⟨q1, h1, h⟩ := ob_some h
  have hB1 := hB
  rcases hz1 : q1 with e1 | r1
  · replace h := ox_l hz1 h
    by_cases hc2 : e1 = 1
    · replace h := ite_t hc2 h
      subst hc2
      cases h
      exact hB1
    · replace h := ite_f hc2 h
      cases h
  · replace h := ox_r hz1 h
    obtain ⟨hc3, h⟩ := chk_some h
    have hB4 := hB1.setL 79 0 r1
    cases h
    exact hB4
theorem bd_L_runs {F : Nat} {v1 : Int} {v2 : Int} {M : Mem} (hB : Bd M) {res : Int × Mem} (h : f_L_runs F v1 v2 M = some res) : Bd res.2 := by
  rw [f_L_runs] at h
  obtain ⟨q1, h1, h⟩ := ob_some h
  have hB1 := bd_X9_runs hB h1
  rcases hz1 : q1.1 with e1 | r1
  · replace h := ox_l hz1 h
    by_cases hc3 : e1 = 1
    · replace h := ite_t hc3 h
      subst hc3
      cases h
      exact hB1
    · replace h := ite_f hc3 h
      by_cases hc2 : e1 = 0
      · replace h := ite_t hc2 h
        subst hc2
        cases h
        exact hB1
      · replace h := ite_f hc2 h
        cases h
  · replace h := ox_r hz1 h
    obtain ⟨hc4, h⟩ := chk_some h
    have hB5 := hB1.setL 79 0 r1
    cases h
    exact hB5
theorem bd_L_runEnd {F : Nat} {v1 : Int} {v2 : Int} {v3 : Int} {v4 : Int} {M : Mem} (hB : Bd M) {res : Int × Mem} (h : f_L_runEnd F v1 v2 v3 v4 M = some res) : Bd res.2 := by
  rw [f_L_runEnd] at h
  obtain ⟨q1, h1, h⟩ := ob_some h
  have hB1 := bd_X9_runEnd hB h1
  rcases hz1 : q1.1 with e1 | r1
  · replace h := ox_l hz1 h
    by_cases hc2 : e1 = 1
    · replace h := ite_t hc2 h
      subst hc2
      cases h
      exact hB1
    · replace h := ite_f hc2 h
      cases h
  · replace h := ox_r hz1 h
    obtain ⟨hc3, h⟩ := chk_some h
    have hB4 := hB1.setL 79 0 r1
    cases h
    exact hB4
theorem bd_L_tableSize {F : Nat} {v1 : Int} {M : Mem} (hB : Bd M) {res : Int × Mem} (h : f_L_tableSize F v1 M = some res) : Bd res.2 := by
  rw [f_L_tableSize] at h
  obtain ⟨q1, h1, h⟩ := ob_some h
  have hB1 := bd_X9_tableSize hB h1
  rcases hz1 : q1.1 with e1 | r1
  · replace h := ox_l hz1 h
    by_cases hc2 : e1 = 1
    · replace h := ite_t hc2 h
      subst hc2
      cases h
      exact hB1
    · replace h := ite_f hc2 h
      cases h
  · replace h := ox_r hz1 h
    obtain ⟨hc3, h⟩ := chk_some h
    have hB4 := hB1.setL 79 0 r1
    cases h
    exact hB4
theorem bd_L_bestSize {F : Nat} {v1 : Int} {M : Mem} (hB : Bd M) {res : Int × Mem} (h : f_L_bestSize F v1 M = some res) : Bd res.2 := by
  rw [f_L_bestSize] at h
  obtain ⟨q1, h1, h⟩ := ob_some h
  have hB1 := bd_X9_bestSize hB h1
  rcases hz1 : q1.1 with e1 | r1
  · replace h := ox_l hz1 h
    by_cases hc2 : e1 = 1
    · replace h := ite_t hc2 h
      subst hc2
      cases h
      exact hB1
    · replace h := ite_f hc2 h
      cases h
  · replace h := ox_r hz1 h
    obtain ⟨hc3, h⟩ := chk_some h
    have hB4 := hB1.setL 79 0 r1
    cases h
    exact hB4
theorem bd_L_check {v1 : Int} {v2 : Int} {M : Mem} (hB : Bd M) {res : Int × Mem} (h : f_L_check v1 v2 M = some res) : Bd res.2 := by
  rw [f_L_check] at h
  obtain ⟨q1, h1, h⟩ := ob_some h
  have hB1 := hB
  rcases hz1 : q1 with e1 | r1
  · replace h := ox_l hz1 h
    by_cases hc2 : e1 = 1
    · replace h := ite_t hc2 h
      subst hc2
      cases h
      exact hB1
    · replace h := ite_f hc2 h
      cases h
  · replace h := ox_r hz1 h
    obtain ⟨hc3, h⟩ := chk_some h
    have hB4 := hB1.setL 79 0 r1
    cases h
    exact hB4
theorem bd_L_checked {F : Nat} {v1 : Int} {M : Mem} (hB : Bd M) {res : Int × Mem} (h : f_L_checked F v1 M = some res) : Bd res.2 := by
  rw [f_L_checked] at h
  obtain ⟨q1, h1, h⟩ := ob_some h
  have hB1 := hB
  rcases hz1 : q1 with e1 | r1
  · replace h := ox_l hz1 h
    by_cases hc2 : e1 = 0
    · replace h := ite_t hc2 h
      subst hc2
      cases h
      exact hB1
    · replace h := ite_f hc2 h
      cases h
  · replace h := ox_r hz1 h
    obtain ⟨hc3, h⟩ := chk_some h
    have hB4 := hB1.setL 79 0 r1
    cases h
    exact hB4
theorem bd_L_send {F : Nat} {v1 : Int} {v2 : Int} {M : Mem} (hB : Bd M) {res : Int × Mem} (h : f_L_send F v1 v2 M = some res) : Bd res.2 := by
  rw [f_L_send] at h
  obtain ⟨q1, h1, h⟩ := ob_some h
  have hB1 := bd_X9_send hB h1
  rcases hz1 : q1.1 with e1 | r1
  · replace h := ox_l hz1 h
    by_cases hc2 : e1 = 1
    · replace h := ite_t hc2 h
      subst hc2
      cases h
      exact hB1
    · replace h := ite_f hc2 h
      cases h
  · replace h := ox_r hz1 h
    obtain ⟨hc3, h⟩ := chk_some h
    have hB4 := hB1.setL 79 0 r1
    cases h
    exact hB4
theorem bd_L_wayNode {F : Nat} {v1 : Int} {v2 : Int} {v3 : Int} {M : Mem} (hB : Bd M) {res : Int × Mem} (h : f_L_wayNode F v1 v2 v3 M = some res) : Bd res.2 := by
  rw [f_L_wayNode] at h
  obtain ⟨q1, h1, h⟩ := ob_some h
  have hB1 := bd_X9_wayNode hB h1
  rcases hz1 : q1.1 with e1 | r1
  · replace h := ox_l hz1 h
    by_cases hc3 : e1 = 1
    · replace h := ite_t hc3 h
      subst hc3
      cases h
      exact hB1
    · replace h := ite_f hc3 h
      by_cases hc2 : e1 = 0
      · replace h := ite_t hc2 h
        subst hc2
        cases h
        exact hB1
      · replace h := ite_f hc2 h
        cases h
  · replace h := ox_r hz1 h
    obtain ⟨hc4, h⟩ := chk_some h
    have hB5 := hB1.setL 79 0 r1
    cases h
    exact hB5
theorem bd_L_load {F : Nat} {v1 : Int} {M : Mem} (hB : Bd M) {res : Int × Mem} (h : f_L_load F v1 M = some res) : Bd res.2 := by
  rw [f_L_load] at h
  obtain ⟨q1, h1, h⟩ := ob_some h
  have hB1 := bd_X9_load hB h1
  rcases hz1 : q1.1 with e1 | r1
  · replace h := ox_l hz1 h
    by_cases hc2 : e1 = 1
    · replace h := ite_t hc2 h
      subst hc2
      cases h
      exact hB1
    · replace h := ite_f hc2 h
      cases h
  · replace h := ox_r hz1 h
    obtain ⟨hc3, h⟩ := chk_some h
    have hB4 := hB1.setL 79 0 r1
    cases h
    exact hB4
theorem bd_L_lostWithout {F : Nat} {v1 : Int} {M : Mem} (hB : Bd M) {res : Int × Mem} (h : f_L_lostWithout F v1 M = some res) : Bd res.2 := by
  rw [f_L_lostWithout] at h
  obtain ⟨q1, h1, h⟩ := ob_some h
  have hB1 := bd_X9_lostWithout hB h1
  rcases hz1 : q1.1 with e1 | r1
  · replace h := ox_l hz1 h
    by_cases hc2 : e1 = 1
    · replace h := ite_t hc2 h
      subst hc2
      cases h
      exact hB1
    · replace h := ite_f hc2 h
      cases h
  · replace h := ox_r hz1 h
    obtain ⟨hc3, h⟩ := chk_some h
    have hB4 := hB1.setL 79 0 r1
    cases h
    exact hB4
theorem bd_L_bestCompactness {F : Nat} {M : Mem} (hB : Bd M) {res : Int × Mem} (h : f_L_bestCompactness F M = some res) : Bd res.2 := by
  rw [f_L_bestCompactness] at h
  obtain ⟨q1, h1, h⟩ := ob_some h
  have hB1 := bd_X9_bestCompactness hB h1
  rcases hz1 : q1.1 with e1 | r1
  · replace h := ox_l hz1 h
    by_cases hc2 : e1 = 2
    · replace h := ite_t hc2 h
      subst hc2
      cases h
      exact hB1
    · replace h := ite_f hc2 h
      cases h
  · replace h := ox_r hz1 h
    obtain ⟨hc3, h⟩ := chk_some h
    have hB4 := hB1.setL 79 0 r1
    cases h
    exact hB4
theorem bd_L_labelings {F : Nat} {v1 : Int} {M : Mem} (hB : Bd M) {res : Int × Mem} (h : f_L_labelings F v1 M = some res) : Bd res.2 := by
  rw [f_L_labelings] at h
  obtain ⟨q1, h1, h⟩ := ob_some h
  have hB1 := bd_X9_labelings hB h1
  rcases hz1 : q1.1 with e1 | r1
  · replace h := ox_l hz1 h
    by_cases hc3 : e1 = 0
    · replace h := ite_t hc3 h
      subst hc3
      cases h
      exact hB1
    · replace h := ite_f hc3 h
      by_cases hc2 : e1 = 2
      · replace h := ite_t hc2 h
        subst hc2
        cases h
        exact hB1
      · replace h := ite_f hc2 h
        cases h
  · replace h := ox_r hz1 h
    obtain ⟨hc4, h⟩ := chk_some h
    have hB5 := hB1.setL 79 0 r1
    cases h
    exact hB5
theorem bd_L_append {v1 : Int} {M : Mem} (hB : Bd M) {res : Int × Mem} (h : f_L_append v1 M = some res) : Bd res.2 := by
  rw [f_L_append] at h
  obtain ⟨q1, h1, h⟩ := ob_some h
  have hB1 := bd_X9_append hB h1
  rcases hz1 : q1.1 with e1 | r1
  · replace h := ox_l hz1 h
    by_cases hc3 : e1 = 0
    · replace h := ite_t hc3 h
      subst hc3
      cases h
      exact hB1
    · replace h := ite_f hc3 h
      by_cases hc2 : e1 = 2
      · replace h := ite_t hc2 h
        subst hc2
        cases h
        exact hB1
      · replace h := ite_f hc2 h
        cases h
  · replace h := ox_r hz1 h
    obtain ⟨hc4, h⟩ := chk_some h
    have hB5 := hB1.setL 79 0 r1
    cases h
    exact hB5
theorem bd_L_undo {F : Nat} {M : Mem} (hB : Bd M) {res : Int × Mem} (h : f_L_undo F M = some res) : Bd res.2 := by
  rw [f_L_undo] at h
  obtain ⟨q1, h1, h⟩ := ob_some h
  have hB1 := bd_X9_undo hB h1
  rcases hz1 : q1.1 with e1 | r1
  · replace h := ox_l hz1 h
    by_cases hc2 : e1 = 2
    · replace h := ite_t hc2 h
      subst hc2
      cases h
      exact hB1
    · replace h := ite_f hc2 h
      cases h
  · replace h := ox_r hz1 h
    obtain ⟨hc3, h⟩ := chk_some h
    have hB4 := hB1.setL 79 0 r1
    cases h
    exact hB4
