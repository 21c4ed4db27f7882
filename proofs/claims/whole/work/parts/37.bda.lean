theorem bw_X0_dropOldest_9 {res : Mem} {F : Nat} : ∀ (fu : Nat) (a1 : Nat) (v2 : Int) (M : Mem), Bd M → f_X0_dropOldest_9 F fu a1 v2 M = some res → Bd res := by
  intro fu
  induction fu with
  | zero => intro a1 v2 M hB h; exact nomatch (show (none : Option (Mem)) = some res from h)
  | succ fu ih =>
    intro a1 v2 M hB h
    rw [f_X0_dropOldest_9] at h
    obtain ⟨hc1, h⟩ := chk_some h
    by_cases hc2 : 4 ≤ v2 + 1
    · replace h := ite_t hc2 h
      obtain ⟨hc3, h⟩ := chk_some h
      have hB4 := hB.set 14 3 (sh_R hc3)
      obtain ⟨hc5, h⟩ := chk_some h
      have hB6 := hB4.set 13 0 (x := ((mset M 14 3 ((a1 : Nat) : Int)) 13 0) - 1) hc5
      cases h
      exact hB6
    · replace h := ite_f hc2 h
      obtain ⟨hc7, h⟩ := chk_some h
      obtain ⟨hc8, h⟩ := chk_some h
      obtain ⟨hc9, h⟩ := chk_some h
      have hB10 := hB.set 14 v2 (sh_R hc9)
      exact ih a1 (v2 + 1) (mset M 14 v2 (((M 14 (v2 + 1)).toNat : Nat) : Int)) hB10 h
theorem bd_X0_dropOldest {F : Nat} {M : Mem} (hB : Bd M) {res : Mem} (h : f_X0_dropOldest F M = some res) : Bd res := by
  rw [f_X0_dropOldest] at h
  exact bw_X0_dropOldest_9 F ((M 14 0).toNat) 0 M hB h
theorem bd_X6_copyFrom {M : Mem} (hB : Bd M) {r : Nat} (hr : shT[r]? = some (.inl 6)) {o : Nat} (ho : shT[o]? = some (.inl 6)) {res : Mem} (h : f_X6_copyFrom r o M = some res) : Bd res := by
  rw [f_X6_copyFrom] at h
  have hB1 := hB.set r 0 (x := M o 0) (hB o 0 (Nat.lt_of_lt_of_le (sh_lt ho) (by decide)))
  have hB2 := hB1.set r 1 (x := (mset M r 0 (M o 0)) o 1) (hB1 o 1 (Nat.lt_of_lt_of_le (sh_lt ho) (by decide)))
  have hB3 := hB2.cpy (o + 1) (Nat.lt_of_lt_of_le (sh_lt (so_6_2 ho)) (by decide)) 0 (r + 1) 0 16
  have hB4 := hB3.cpy (o + 2) (Nat.lt_of_lt_of_le (sh_lt (so_6_3 ho)) (by decide)) 0 (r + 2) 0 16
  have hB5 := hB4.cpy (o + 3) (Nat.lt_of_lt_of_le (sh_lt (so_6_4 ho)) (by decide)) 0 (r + 3) 0 16
  have hB6 := hB5.cpy (o + 4) (Nat.lt_of_lt_of_le (sh_lt (so_6_5 ho)) (by decide)) 0 (r + 4) 0 9
  have hB7 := hB6.cpy (o + 5) (Nat.lt_of_lt_of_le (sh_lt (so_6_6 ho)) (by decide)) 0 (r + 5) 0 81
  cases h
  exact hB7
theorem bd_X0_save {F : Nat} {M : Mem} (hB : Bd M) {res : Mem} (h : f_X0_save F M = some res) : Bd res := by
  rw [f_X0_save] at h
  rcases (Decidable.em (M 13 0 = 4)).symm with hc1 | hc1
  · replace h := ite_f hc1 h
    obtain ⟨hc2, h⟩ := chk_some h
    obtain ⟨hc3, h⟩ := chk_some h
    obtain ⟨q4, h4, h⟩ := ob_some h
    have hB4 := bd_X6_copyFrom hB hc3 sh_1 h4
    obtain ⟨hc5, h⟩ := chk_some h
    have hB6 := hB4.set 13 0 (x := (q4 13 0) + 1) hc5
    cases h
    exact hB6
  · replace h := ite_t hc1 h
    obtain ⟨q7, h7, h⟩ := ob_some h
    have hB7 := bd_X0_dropOldest hB h7
    obtain ⟨hc8, h⟩ := chk_some h
    obtain ⟨hc9, h⟩ := chk_some h
    obtain ⟨q10, h10, h⟩ := ob_some h
    have hB10 := bd_X6_copyFrom hB7 hc9 sh_1 h10
    obtain ⟨hc11, h⟩ := chk_some h
    have hB12 := hB10.set 13 0 (x := (q10 13 0) + 1) hc11
    cases h
    exact hB12
theorem bd_X0_restore {M : Mem} (hB : Bd M) {res : Mem} (h : f_X0_restore M = some res) : Bd res := by
  rw [f_X0_restore] at h
  obtain ⟨hc1, h⟩ := chk_some h
  have hB2 := hB.set 13 0 (x := (M 13 0) - 1) hc1
  obtain ⟨hc3, h⟩ := chk_some h
  obtain ⟨hc4, h⟩ := chk_some h
  obtain ⟨q5, h5, h⟩ := ob_some h
  have hB5 := bd_X6_copyFrom hB2 sh_1 hc4 h5
  cases h
  exact hB5
theorem bw_X1_labelTheRest_4 {res : Mem} {F : Nat} : ∀ (fu : Nat) (v2 : Int) (v3 : Int) (M : Mem), Bd M → f_X1_labelTheRest_4 F fu v2 v3 M = some res → Bd res := by
  intro fu
  induction fu with
  | zero => intro v2 v3 M hB h; exact nomatch (show (none : Option (Mem)) = some res from h)
  | succ fu ih =>
    intro v2 v3 M hB h
    rw [f_X1_labelTheRest_4] at h
    obtain ⟨⟨hp_v2, hp_v3⟩, h⟩ := chk_some h
    by_cases hc1 : M 1 0 ≤ v3
    · replace h := ite_t hc1 h
      cases h
      exact hB
    · replace h := ite_f hc1 h
      obtain ⟨hc2, h⟩ := chk_some h
      rcases (Decidable.em (M 5 v3 = (-1))).symm with hc3 | hc3
      · replace h := ite_f hc3 h
        exact ih v2 (v3 + 1) M hB h
      · replace h := ite_t hc3 h
        have hB4 := hB.set 5 v3 (x := v2) hp_v2
        exact ih (v2 + 1) (v3 + 1) (mset M 5 v3 v2) hB4 h
theorem bd_X1_labelTheRest {F : Nat} {v1 : Int} {M : Mem} (hB : Bd M) {res : Mem} (h : f_X1_labelTheRest F v1 M = some res) : Bd res := by
  rw [f_X1_labelTheRest] at h
  exact bw_X1_labelTheRest_4 F v1 0 M hB h
theorem bw_X1_depthFirst_45 {res : Mem} {F : Nat} : ∀ (fu : Nat) (v3 : Int) (v4 : Int) (v5 : Int) (M : Mem), Bd M → f_X1_depthFirst_45 F fu v3 v4 v5 M = some res → Bd res := by
  intro fu
  induction fu with
  | zero => intro v3 v4 v5 M hB h; exact nomatch (show (none : Option (Mem)) = some res from h)
  | succ fu ih =>
    intro v3 v4 v5 M hB h
    rw [f_X1_depthFirst_45] at h
    obtain ⟨⟨hp_v3, hp_v4, hp_v5⟩, h⟩ := chk_some h
    by_cases hc5 : 18 ≤ v5
    · replace h := ite_t hc5 h
      obtain ⟨q6, h6, h⟩ := ob_some h
      have hB6 := bd_X1_labelTheRest hB h6
      cases h
      exact hB6
    · replace h := ite_f hc5 h
      by_cases hc7 : v4 = (-1)
      · replace h := ite_t hc7 h
        obtain ⟨q8, h8, h⟩ := ob_some h
        have hB8 := bd_X1_labelTheRest hB h8
        cases h
        exact hB8
      · replace h := ite_f hc7 h
        obtain ⟨q9, h9, h⟩ := ob_some h
        have hB9 := hB
        obtain ⟨hc10, h⟩ := chk_some h
        rcases (Decidable.em (q9 = (-1))).symm with hc11 | hc11
        · replace h := ite_f hc11 h
          obtain ⟨hc12, h⟩ := chk_some h
          have hB13 := hB9.set 61 q9 (x := v4) hp_v4
          have hB14 := hB13.set 5 q9 (x := v3) hp_v3
          exact ih (v3 + 1) q9 (v5 + 1) (mset (mset M 61 q9 v4) 5 q9 v3) hB14 h
        · replace h := ite_t hc11 h
          obtain ⟨hc15, h⟩ := chk_some h
          exact ih v3 (M 61 v4) (v5 + 1) M hB9 h
theorem bw_X1_depthFirst_2 {res : Mem} {F : Nat} : ∀ (fu : Nat) (v2 : Int) (v3 : Int) (M : Mem), Bd M → f_X1_depthFirst_2 F fu v2 v3 M = some res → Bd res := by
  intro fu
  induction fu with
  | zero => intro v2 v3 M hB h; exact nomatch (show (none : Option (Mem)) = some res from h)
  | succ fu ih =>
    intro v2 v3 M hB h
    rw [f_X1_depthFirst_2] at h
    obtain ⟨hp_v3, h⟩ := chk_some h
    by_cases hc1 : M 1 0 ≤ v3
    · replace h := ite_t hc1 h
      obtain ⟨hc2, h⟩ := chk_some h
      have hB3 := hB.set 5 v2 (x := 0) (by decide)
      have hB4 := hB3.set 61 v2 (x := (-1)) (by decide)
      exact bw_X1_depthFirst_45 F 1 v2 0 (mset (mset M 5 v2 0) 61 v2 (-1)) hB4 h
    · replace h := ite_f hc1 h
      obtain ⟨hc16, h⟩ := chk_some h
      have hB17 := hB.set 5 v3 (x := (-1)) (by decide)
      exact ih v2 (v3 + 1) (mset M 5 v3 (-1)) hB17 h
theorem bd_X1_depthFirst {F : Nat} {v2 : Int} {M : Mem} (hB : Bd M) {res : Mem} (h : f_X1_depthFirst F v2 M = some res) : Bd res := by
  rw [f_X1_depthFirst] at h
  exact bw_X1_depthFirst_2 F v2 0 M hB h
theorem bw_X1_byRank_18 {res : Mem} {F : Nat} {k3 : Int → Int → Mem → Option (Mem)} (hk3 : ∀ (v3 : Int) (v4 : Int) (M : Mem), Bd M → k3 v3 v4 M = some res → Bd res) : ∀ (fu : Nat) (v3 : Int) (v4 : Int) (v5 : Int) (v6 : Int) (M : Mem), Bd M → f_X1_byRank_18 F k3 fu v3 v4 v5 v6 M = some res → Bd res := by
  intro fu
  induction fu with
  | zero => intro v3 v4 v5 v6 M hB h; exact nomatch (show (none : Option (Mem)) = some res from h)
  | succ fu ih =>
    intro v3 v4 v5 v6 M hB h
    rw [f_X1_byRank_18] at h
    obtain ⟨⟨hp_v4, hp_v5, hp_v6⟩, h⟩ := chk_some h
    by_cases hc2 : M 1 0 ≤ v6
    · replace h := ite_t hc2 h
      obtain ⟨hc3, h⟩ := chk_some h
      have hB4 := hB.set 5 v4 (x := v5) hp_v5
      exact hk3 v3 (v4 + 1) (mset M 5 v4 v5) hB4 h
    · replace h := ite_f hc2 h
      obtain ⟨q5, h5, h⟩ := ob_some h
      have hB5 := hB
      obtain ⟨q6, h6, h⟩ := ob_some h
      have hB6 := hB5
      obtain ⟨hc7, h⟩ := chk_some h
      by_cases hc8 : q5 - q6 < 0
      · replace h := ite_t hc8 h
        exact ih v3 v4 (v5 + 1) (v6 + 1) M hB6 h
      · replace h := ite_f hc8 h
        rcases (Decidable.em (q5 - q6 = 0)).symm with hc9 | hc9
        · replace h := ite_f hc9 h
          exact ih v3 v4 v5 (v6 + 1) M hB6 h
        · replace h := ite_t hc9 h
          by_cases hc10 : v4 ≤ v6
          · replace h := ite_t hc10 h
            exact ih v3 v4 v5 (v6 + 1) M hB6 h
          · replace h := ite_f hc10 h
            exact ih v3 v4 (v5 + 1) (v6 + 1) M hB6 h
theorem bw_X1_byRank_3 {res : Mem} {F : Nat} : ∀ (fu : Nat) (v3 : Int) (v4 : Int) (M : Mem), Bd M → f_X1_byRank_3 F fu v3 v4 M = some res → Bd res := by
  intro fu
  induction fu with
  | zero => intro v3 v4 M hB h; exact nomatch (show (none : Option (Mem)) = some res from h)
  | succ fu ih =>
    intro v3 v4 M hB h
    rw [f_X1_byRank_3] at h
    obtain ⟨hp_v4, h⟩ := chk_some h
    by_cases hc1 : M 1 0 ≤ v4
    · replace h := ite_t hc1 h
      cases h
      exact hB
    · replace h := ite_f hc1 h
      exact bw_X1_byRank_18 ih F v3 v4 0 0 M hB h
theorem bd_X1_byRank {F : Nat} {v3 : Int} {M : Mem} (hB : Bd M) {res : Mem} (h : f_X1_byRank F v3 M = some res) : Bd res := by
  rw [f_X1_byRank] at h
  exact bw_X1_byRank_3 F v3 0 M hB h
theorem bw_X6_resetLabels_2 {res : Mem} {F : Nat} {r : Nat} (hr : shT[r]? = some (.inl 6)) : ∀ (fu : Nat) (v1 : Int) (M : Mem), Bd M → f_X6_resetLabels_2 F r fu v1 M = some res → Bd res := by
  intro fu
  induction fu with
  | zero => intro v1 M hB h; exact nomatch (show (none : Option (Mem)) = some res from h)
  | succ fu ih =>
    intro v1 M hB h
    rw [f_X6_resetLabels_2] at h
    obtain ⟨hp_v1, h⟩ := chk_some h
    by_cases hc1 : M r 0 ≤ v1
    · replace h := ite_t hc1 h
      cases h
      exact hB
    · replace h := ite_f hc1 h
      obtain ⟨hc2, h⟩ := chk_some h
      have hB3 := hB.set (r + 4) v1 (x := v1) hp_v1
      exact ih (v1 + 1) (mset M (r + 4) v1 v1) hB3 h
theorem bd_X6_resetLabels {F : Nat} {M : Mem} (hB : Bd M) {r : Nat} (hr : shT[r]? = some (.inl 6)) {res : Mem} (h : f_X6_resetLabels F r M = some res) : Bd res := by
  rw [f_X6_resetLabels] at h
  exact bw_X6_resetLabels_2 hr F 0 M hB h
theorem bd_X6_exchangeLabels {v1 : Int} {v2 : Int} {M : Mem} (hB : Bd M) {r : Nat} (hr : shT[r]? = some (.inl 6)) {res : Mem} (h : f_X6_exchangeLabels r v1 v2 M = some res) : Bd res := by
  rw [f_X6_exchangeLabels] at h
  obtain ⟨hc1, h⟩ := chk_some h
  obtain ⟨hc2, h⟩ := chk_some h
  have hB3 := hB.set (r + 4) v1 (x := M (r + 4) v2) (hB (r + 4) v2 (Nat.lt_of_lt_of_le (sh_lt (so_6_5 hr)) (by decide)))
  have hB4 := hB3.set (r + 4) v2 (x := M (r + 4) v1) (hB (r + 4) v1 (Nat.lt_of_lt_of_le (sh_lt (so_6_5 hr)) (by decide)))
  cases h
  exact hB4
theorem bw_X1_atRandom_15 {res : Mem} {F : Nat} : ∀ (fu : Nat) (v3 : Int) (v5 : Int) (M : Mem), Bd M → f_X1_atRandom_15 F fu v3 v5 M = some res → Bd res := by
  intro fu
  induction fu with
  | zero => intro v3 v5 M hB h; exact nomatch (show (none : Option (Mem)) = some res from h)
  | succ fu ih =>
    intro v3 v5 M hB h
    rw [f_X1_atRandom_15] at h
    obtain ⟨hp_v5, h⟩ := chk_some h
    by_cases hc2 : v5 < 1
    · replace h := ite_t hc2 h
      cases h
      exact hB
    · replace h := ite_f hc2 h
      obtain ⟨hc3, h⟩ := chk_some h
      obtain ⟨hc4, h⟩ := chk_some h
      obtain ⟨hc5, h⟩ := chk_some h
      obtain ⟨hc6, h⟩ := chk_some h
      obtain ⟨q7, h7, h⟩ := ob_some h
      have hB7 := bd_X6_exchangeLabels hB sh_1 h7
      exact ih (((1103515245 * v3) + 12345) % 2147483648) (v5 + (-1)) q7 hB7 h
theorem bd_X1_atRandom {F : Nat} {v2 : Int} {M : Mem} (hB : Bd M) {res : Mem} (h : f_X1_atRandom F v2 M = some res) : Bd res := by
  rw [f_X1_atRandom] at h
  obtain ⟨hp_v2, h⟩ := chk_some h
  obtain ⟨q1, h1, h⟩ := ob_some h
  have hB1 := bd_X6_resetLabels hB sh_1 h1
  exact bw_X1_atRandom_15 F v2 ((q1 1 0) - 1) q1 hB1 h
theorem bw_X2_travel_75 {res : Mem} {F : Nat} {k23 : Int → Int → Int → Int → Mem → Option (Mem)} (hk23 : ∀ (v3 : Int) (v4 : Int) (v5 : Int) (v6 : Int) (M : Mem), Bd M → k23 v3 v4 v5 v6 M = some res → Bd res) : ∀ (v3 : Int) (v4 : Int) (v5 : Int) (v6 : Int) (v7 : Int) (M : Mem), Bd M → f_X2_travel_75 F k23 v3 v4 v5 v6 v7 M = some res → Bd res := by
  intro v3 v4 v5 v6 v7 M hB h
  rw [f_X2_travel_75] at h
  obtain ⟨⟨hp_v3, hp_v5, hp_v7⟩, h⟩ := chk_some h
  rcases (Decidable.em (v7 = (-1))).symm with hc16 | hc16
  · replace h := ite_f hc16 h
    obtain ⟨q17, h17, h⟩ := ob_some h
    have hB17 := hB
    obtain ⟨hc18, h⟩ := chk_some h
    have hB19 := hB17.set 59 v6 (x := v7) hp_v7
    obtain ⟨hc20, h⟩ := chk_some h
    obtain ⟨hc21, h⟩ := chk_some h
    have hB22 := hB19.set 58 (v6 + 1) (x := q17) hc21
    obtain ⟨hc23, h⟩ := chk_some h
    have hB24 := hB22.set 57 2 (x := ((mset (mset M 59 v6 v7) 58 (v6 + 1) q17) 57 2) + 1) hc23
    obtain ⟨hc25, h⟩ := chk_some h
    obtain ⟨hc26, h⟩ := chk_some h
    have hB27 := hB24.set 57 1 (x := ((mset (mset (mset M 59 v6 v7) 58 (v6 + 1) q17) 57 2 (((mset (mset M 59 v6 v7) 58 (v6 + 1) q17) 57 2) + 1)) 57 1) + ((mset (mset (mset M 59 v6 v7) 58 (v6 + 1) q17) 57 2 (((mset (mset M 59 v6 v7) 58 (v6 + 1) q17) 57 2) + 1)) 4 v7)) hc26
    exact hk23 v3 v4 q17 (v6 + 1) (mset (mset (mset (mset M 59 v6 v7) 58 (v6 + 1) q17) 57 2 (((mset (mset M 59 v6 v7) 58 (v6 + 1) q17) 57 2) + 1)) 57 1 (((mset (mset (mset M 59 v6 v7) 58 (v6 + 1) q17) 57 2 (((mset (mset M 59 v6 v7) 58 (v6 + 1) q17) 57 2) + 1)) 57 1) + ((mset (mset (mset M 59 v6 v7) 58 (v6 + 1) q17) 57 2 (((mset (mset M 59 v6 v7) 58 (v6 + 1) q17) 57 2) + 1)) 4 v7))) hB27 h
  · replace h := ite_t hc16 h
    rcases (Decidable.em (v5 = v3)).symm with hc28 | hc28
    · replace h := ite_f hc28 h
      have hB29 := hB.set 57 0 (x := 0) (by decide)
      cases h
      exact hB29
    · replace h := ite_t hc28 h
      have hB30 := hB.set 57 0 (x := 1) (by decide)
      cases h
      exact hB30
theorem bw_X2_travel_23 {res : Mem} {F : Nat} : ∀ (fu : Nat) (v3 : Int) (v4 : Int) (v5 : Int) (v6 : Int) (M : Mem), Bd M → f_X2_travel_23 F fu v3 v4 v5 v6 M = some res → Bd res := by
  intro fu
  induction fu with
  | zero => intro v3 v4 v5 v6 M hB h; exact nomatch (show (none : Option (Mem)) = some res from h)
  | succ fu ih =>
    intro v3 v4 v5 v6 M hB h
    rw [f_X2_travel_23] at h
    obtain ⟨⟨hp_v3, hp_v4, hp_v5, hp_v6⟩, h⟩ := chk_some h
    by_cases hc4 : M 1 0 ≤ v6
    · replace h := ite_t hc4 h
      rcases (Decidable.em (v5 = v3)).symm with hc5 | hc5
      · replace h := ite_f hc5 h
        have hB6 := hB.set 57 0 (x := 0) (by decide)
        cases h
        exact hB6
      · replace h := ite_t hc5 h
        have hB7 := hB.set 57 0 (x := 1) (by decide)
        cases h
        exact hB7
    · replace h := ite_f hc4 h
      by_cases hc8 : v5 = v3
      · replace h := ite_t hc8 h
        rcases (Decidable.em (v5 = v3)).symm with hc9 | hc9
        · replace h := ite_f hc9 h
          have hB10 := hB.set 57 0 (x := 0) (by decide)
          cases h
          exact hB10
        · replace h := ite_t hc9 h
          have hB11 := hB.set 57 0 (x := 1) (by decide)
          cases h
          exact hB11
      · replace h := ite_f hc8 h
        obtain ⟨hc12, h⟩ := chk_some h
        obtain ⟨q13, h13, h⟩ := ob_some h
        have hB13 := hB
        obtain ⟨hc14, h⟩ := chk_some h
        by_cases hc15 : q13 = (-1)
        · replace h := ite_t hc15 h
          exact bw_X2_travel_75 ih v3 v4 v5 v6 q13 M hB13 h
        · replace h := ite_f hc15 h
          rcases (Decidable.em (q13 = v4)).symm with hc31 | hc31
          · replace h := ite_f hc31 h
            exact bw_X2_travel_75 ih v3 v4 v5 v6 q13 M hB13 h
          · replace h := ite_t hc31 h
            obtain ⟨q32, h32, h⟩ := ob_some h
            have hB32 := hB13
            exact bw_X2_travel_75 ih v3 v4 v5 v6 q32 M hB32 h
theorem bd_X2_travel {F : Nat} {v2 : Int} {v3 : Int} {v4 : Int} {M : Mem} (hB : Bd M) {res : Mem} (h : f_X2_travel F v2 v3 v4 M = some res) : Bd res := by
  rw [f_X2_travel] at h
  obtain ⟨hp_v2, h⟩ := chk_some h
  have hB1 := hB.set 58 0 (x := v2) hp_v2
  have hB2 := hB1.set 57 2 (x := 1) (by decide)
  have hB3 := hB2.set 57 1 (x := 0) (by decide)
  exact bw_X2_travel_23 F v3 v4 v2 0 (mset (mset (mset M 58 0 v2) 57 2 1) 57 1 0) hB3 h
theorem bd_X3_put {v1 : Int} {M : Mem} (hB : Bd M) {res : Mem} (h : f_X3_put v1 M = some res) : Bd res := by
  rw [f_X3_put] at h
  obtain ⟨hp_v1, h⟩ := chk_some h
  obtain ⟨hc1, h⟩ := chk_some h
  have hB2 := hB.set 63 (M 62 0) (x := v1) hp_v1
  obtain ⟨hc3, h⟩ := chk_some h
  have hB4 := hB2.set 62 0 (x := ((mset M 63 (M 62 0) v1) 62 0) + 1) hc3
  cases h
  exact hB4
theorem bw_J7_fill_53178_5 {res : Mem} {F : Nat} {a : Nat} (ha : shT[a]? = some (.inr (0, (alen a)))) : ∀ (fu : Nat) (v1 : Int) (v2 : Int) (v3 : Int) (M : Mem), Bd M → f_J7_fill_53178_5 F a fu v1 v2 v3 M = some res → Bd res := by
  intro fu
  induction fu with
  | zero => intro v1 v2 v3 M hB h; exact nomatch (show (none : Option (Mem)) = some res from h)
  | succ fu ih =>
    intro v1 v2 v3 M hB h
    rw [f_J7_fill_53178_5] at h
    obtain ⟨⟨hp_v1, hp_v2, hp_v3⟩, h⟩ := chk_some h
    by_cases hc1 : v3 ≤ v2
    · replace h := ite_t hc1 h
      cases h
      exact hB
    · replace h := ite_f hc1 h
      obtain ⟨hc2, h⟩ := chk_some h
      have hB3 := hB.set a v2 (x := v1) hp_v1
      exact ih v1 (v2 + 1) v3 (mset M a v2 v1) hB3 h
theorem bd_J7_fill_53178 {F : Nat} {v1 : Int} {M : Mem} (hB : Bd M) {a : Nat} (ha : shT[a]? = some (.inr (0, (alen a)))) {res : Mem} (h : f_J7_fill_53178 F a v1 M = some res) : Bd res := by
  rw [f_J7_fill_53178] at h
  exact bw_J7_fill_53178_5 ha F v1 0 (alen a : Int) M hB h
theorem bd_X6_clearEntries {F : Nat} {M : Mem} (hB : Bd M) {r : Nat} (hr : shT[r]? = some (.inl 6)) {res : Mem} (h : f_X6_clearEntries F r M = some res) : Bd res := by
  rw [f_X6_clearEntries] at h
  obtain ⟨q1, h1, h⟩ := ob_some h
  have hB1 := bd_J7_fill_53178 hB (ia_of (so_6_6 hr)) h1
  cases h
  exact hB1
theorem bd_X6_start {F : Nat} {v1 : Int} {M : Mem} (hB : Bd M) {r : Nat} (hr : shT[r]? = some (.inl 6)) {res : Mem} (h : f_X6_start F r v1 M = some res) : Bd res := by
  rw [f_X6_start] at h
  obtain ⟨hp_v1, h⟩ := chk_some h
  have hB1 := hB.set r 0 (x := v1) hp_v1
  have hB2 := hB1.set r 1 (x := 0) (by decide)
  obtain ⟨q3, h3, h⟩ := ob_some h
  have hB3 := bd_X6_resetLabels hB2 hr h3
  obtain ⟨q4, h4, h⟩ := ob_some h
  have hB4 := bd_X6_clearEntries hB3 hr h4
  cases h
  exact hB4
theorem bd_X6_join {v1 : Int} {v2 : Int} {v3 : Int} {M : Mem} (hB : Bd M) {r : Nat} (hr : shT[r]? = some (.inl 6)) {res : Mem} (h : f_X6_join r v1 v2 v3 M = some res) : Bd res := by
  rw [f_X6_join] at h
  obtain ⟨⟨hp_v1, hp_v2, hp_v3⟩, h⟩ := chk_some h
  obtain ⟨hc1, h⟩ := chk_some h
  have hB2 := hB.set (r + 1) (M r 1) (x := v1) hp_v1
  obtain ⟨hc3, h⟩ := chk_some h
  have hB4 := hB2.set (r + 2) ((mset M (r + 1) (M r 1) v1) r 1) (x := v2) hp_v2
  obtain ⟨hc5, h⟩ := chk_some h
  have hB6 := hB4.set (r + 3) ((mset (mset M (r + 1) (M r 1) v1) (r + 2) ((mset M (r + 1) (M r 1) v1) r 1) v2) r 1) (x := v3) hp_v3
  obtain ⟨hc7, h⟩ := chk_some h
  have hB8 := hB6.set r 1 (x := ((mset (mset (mset M (r + 1) (M r 1) v1) (r + 2) ((mset M (r + 1) (M r 1) v1) r 1) v2) (r + 3) ((mset (mset M (r + 1) (M r 1) v1) (r + 2) ((mset M (r + 1) (M r 1) v1) r 1) v2) r 1) v3) r 1) + 1) hc7
  cases h
  exact hB8
theorem bd_X3_readLink {F : Nat} {v2 : Int} {M : Mem} (hB : Bd M) {res : Int × Mem} (h : f_X3_readLink F v2 M = some res) : Bd res.2 := by
  rw [f_X3_readLink] at h
  obtain ⟨hc1, h⟩ := chk_some h
  by_cases hc2 : M 63 v2 = 59
  · replace h := ite_t hc2 h
    obtain ⟨q3, h3, h⟩ := ob_some h
    have hB3 := hB
    obtain ⟨hc4, h⟩ := chk_some h
    by_cases hc5 : q3 = (-1)
    · replace h := ite_t hc5 h
      cases h
      exact hB3
    · replace h := ite_f hc5 h
      by_cases hc6 : M 7 0 ≤ q3
      · replace h := ite_t hc6 h
        cases h
        exact hB3
      · replace h := ite_f hc6 h
        by_cases hc7 : M 7 1 < 16
        · replace h := ite_t hc7 h
          obtain ⟨q8, h8, h⟩ := ob_some h
          have hB8 := hB3
          obtain ⟨hc9, h⟩ := chk_some h
          by_cases hc10 : q8 = (-1)
          · replace h := ite_t hc10 h
            cases h
            exact hB8
          · replace h := ite_f hc10 h
            by_cases hc11 : M 7 0 ≤ q8
            · replace h := ite_t hc11 h
              cases h
              exact hB8
            · replace h := ite_f hc11 h
              by_cases hc12 : q8 = q3
              · replace h := ite_t hc12 h
                cases h
                exact hB8
              · replace h := ite_f hc12 h
                obtain ⟨q13, h13, h⟩ := ob_some h
                have hB13 := hB8
                obtain ⟨hc14, h⟩ := chk_some h
                by_cases hc15 : q13 = 0
                · replace h := ite_t hc15 h
                  obtain ⟨q16, h16, h⟩ := ob_some h
                  have hB16 := hB13
                  obtain ⟨hc17, h⟩ := chk_some h
                  by_cases hc18 : 1 ≤ q16
                  · replace h := ite_t hc18 h
                    obtain ⟨q19, h19, h⟩ := ob_some h
                    have hB19 := bd_X6_join hB16 sh_7 h19
                    cases h
                    exact hB19
                  · replace h := ite_f hc18 h
                    cases h
                    exact hB16
                · replace h := ite_f hc15 h
                  cases h
                  exact hB13
        · replace h := ite_f hc7 h
          cases h
          exact hB3
  · replace h := ite_f hc2 h
    cases h
    exact hB
theorem bw_X3_readInto_20 {res : Int × Mem} {F : Nat} : ∀ (fu : Nat) (v3 : Int) (M : Mem), Bd M → f_X3_readInto_20 F fu v3 M = some res → Bd res.2 := by
  intro fu
  induction fu with
  | zero => intro v3 M hB h; exact nomatch (show (none : Option (Int × Mem)) = some res from h)
  | succ fu ih =>
    intro v3 M hB h
    rw [f_X3_readInto_20] at h
    obtain ⟨hp_v3, h⟩ := chk_some h
    by_cases hc5 : M 62 0 ≤ v3
    · replace h := ite_t hc5 h
      cases h
      exact hB
    · replace h := ite_f hc5 h
      obtain ⟨q6, h6, h⟩ := ob_some h
      have hB6 := bd_X3_readLink hB h6
      obtain ⟨hc7, h⟩ := chk_some h
      by_cases hc8 : q6.1 = (-1)
      · replace h := ite_t hc8 h
        exact ih (v3 + 4) q6.2 hB6 h
      · replace h := ite_f hc8 h
        cases h
        exact hB6
theorem bd_X3_readInto {F : Nat} {M : Mem} (hB : Bd M) {res : Int × Mem} (h : f_X3_readInto F M = some res) : Bd res.2 := by
  rw [f_X3_readInto] at h
  obtain ⟨q1, h1, h⟩ := ob_some h
  have hB1 := hB
  obtain ⟨hc2, h⟩ := chk_some h
  rcases (Decidable.em (q1 = (-1))).symm with hc3 | hc3
  · replace h := ite_f hc3 h
    obtain ⟨q4, h4, h⟩ := ob_some h
    have hB4 := bd_X6_start hB1 sh_7 h4
    exact bw_X3_readInto_20 F 1 q4 hB4 h
  · replace h := ite_t hc3 h
    cases h
    exact hB1
theorem bw_X4_read_12 {res : Mem} {F : Nat} {r : Nat} (hr : shT[r]? = some (.inl 4)) : ∀ (fu : Nat) (v2 : Int) (v3 : Int) (M : Mem), Bd M → f_X4_read_12 F r fu v2 v3 M = some res → Bd res := by
  intro fu
  induction fu with
  | zero => intro v2 v3 M hB h; exact nomatch (show (none : Option (Mem)) = some res from h)
  | succ fu ih =>
    intro v2 v3 M hB h
    rw [f_X4_read_12] at h
    obtain ⟨hp_v3, h⟩ := chk_some h
    by_cases hc3 : M r 0 ≤ v3
    · replace h := ite_t hc3 h
      cases h
      exact hB
    · replace h := ite_f hc3 h
      obtain ⟨hc4, h⟩ := chk_some h
      obtain ⟨q5, h5, h⟩ := ob_some h
      have hB5 := hB
      obtain ⟨q6, h6, h⟩ := ob_some h
      have hB6 := hB5
      obtain ⟨hc7, h⟩ := chk_some h
      obtain ⟨hc8, h⟩ := chk_some h
      have hB9 := hB6.set (r + 1) v3 (x := q6) hc8
      exact ih v2 (v3 + 1) (mset M (r + 1) v3 q6) hB9 h
theorem bd_X4_read {F : Nat} {v2 : Int} {M : Mem} (hB : Bd M) {r : Nat} (hr : shT[r]? = some (.inl 4)) {res : Mem} (h : f_X4_read F r v2 M = some res) : Bd res := by
  rw [f_X4_read] at h
  obtain ⟨hc1, h⟩ := chk_some h
  have hB2 := hB.set r 0 (x := (M 1 0) - 1) hc1
  exact bw_X4_read_12 hr F v2 0 (mset M r 0 ((M 1 0) - 1)) hB2 h
theorem bd_X5_forget {M : Mem} (hB : Bd M) {res : Mem} (h : f_X5_forget M = some res) : Bd res := by
  rw [f_X5_forget] at h
  have hB1 := hB.set 51 2 (x := 0) (by decide)
  cases h
  exact hB1
theorem bw_X7_seat_7 {res : Mem} {F : Nat} {a : Nat} (ha : shT[a]? = some (.inr (0, (alen a)))) : ∀ (fu : Nat) (v2 : Int) (v3 : Int) (M : Mem), Bd M → f_X7_seat_7 F a fu v2 v3 M = some res → Bd res := by
  intro fu
  induction fu with
  | zero => intro v2 v3 M hB h; exact nomatch (show (none : Option (Mem)) = some res from h)
  | succ fu ih =>
    intro v2 v3 M hB h
    rw [f_X7_seat_7] at h
    obtain ⟨⟨hp_v2, hp_v3⟩, h⟩ := chk_some h
    by_cases hc2 : v2 ≤ v3
    · replace h := ite_t hc2 h
      cases h
      exact hB
    · replace h := ite_f hc2 h
      obtain ⟨hc3, h⟩ := chk_some h
      obtain ⟨hc4, h⟩ := chk_some h
      have hB5 := hB.set 47 (M a v3) (x := v3) hp_v3
      exact ih v2 (v3 + 1) (mset M 47 (M a v3) v3) hB5 h
theorem bd_X7_seat {F : Nat} {v2 : Int} {M : Mem} (hB : Bd M) {a : Nat} (ha : shT[a]? = some (.inr (0, (alen a)))) {res : Mem} (h : f_X7_seat F a v2 M = some res) : Bd res := by
  rw [f_X7_seat] at h
  obtain ⟨hp_v2, h⟩ := chk_some h
  have hB1 := hB.set 46 0 (x := v2) hp_v2
  exact bw_X7_seat_7 ha F v2 0 (mset M 46 0 v2) hB1 h
theorem bw_X8_copyChoices_11 {res : Int × Mem} {F : Nat} : ∀ (fu : Nat) (v4 : Int) (v5 : Int) (v6 : Int) (M : Mem), Bd M → f_X8_copyChoices_11 F fu v4 v5 v6 M = some res → Bd res.2 := by
  intro fu
  induction fu with
  | zero => intro v4 v5 v6 M hB h; exact nomatch (show (none : Option (Int × Mem)) = some res from h)
  | succ fu ih =>
    intro v4 v5 v6 M hB h
    rw [f_X8_copyChoices_11] at h
    obtain ⟨hp_v6, h⟩ := chk_some h
    obtain ⟨hc1, h⟩ := chk_some h
    by_cases hc2 : M 43 v5 ≤ v6
    · replace h := ite_t hc2 h
      cases h
      exact hB
    · replace h := ite_f hc2 h
      obtain ⟨hc3, h⟩ := chk_some h
      obtain ⟨hc4, h⟩ := chk_some h
      have hB5 := hB.set 49 (v4 + v6) (x := M 42 ((v5 * 8) + v6)) (hB 42 ((v5 * 8) + v6) (by decide))
      exact ih v4 v5 (v6 + 1) (mset M 49 (v4 + v6) (M 42 ((v5 * 8) + v6))) hB5 h
theorem bd_X8_copyChoices {F : Nat} {v1 : Int} {v2 : Int} {v4 : Int} {M : Mem} (hB : Bd M) {res : Int × Mem} (h : f_X8_copyChoices F v1 v2 v4 M = some res) : Bd res.2 := by
  rw [f_X8_copyChoices] at h
  exact bw_X8_copyChoices_11 F v4 ((v1 * 9) + v2) 0 M hB h
theorem bw_X7_priceBeginningWith_11 {res : Mem} {F : Nat} {k4 : Int → Int → Int → Mem → Option (Mem)} (hk4 : ∀ (v1 : Int) (v2 : Int) (v3 : Int) (M : Mem), Bd M → k4 v1 v2 v3 M = some res → Bd res) : ∀ (fu : Nat) (v1 : Int) (v2 : Int) (v3 : Int) (v4 : Int) (M : Mem), Bd M → f_X7_priceBeginningWith_11 F k4 fu v1 v2 v3 v4 M = some res → Bd res := by
  intro fu
  induction fu with
  | zero => intro v1 v2 v3 v4 M hB h; exact nomatch (show (none : Option (Mem)) = some res from h)
  | succ fu ih =>
    intro v1 v2 v3 v4 M hB h
    rw [f_X7_priceBeginningWith_11] at h
    obtain ⟨⟨hp_v3, hp_v4⟩, h⟩ := chk_some h
    obtain ⟨hc2, h⟩ := chk_some h
    by_cases hc3 : M 48 v3 ≤ v4
    · replace h := ite_t hc3 h
      exact hk4 v1 v2 (v3 + (-1)) M hB h
    · replace h := ite_f hc3 h
      obtain ⟨hc4, h⟩ := chk_some h
      rcases (Decidable.em (v3 = v2 - 1)).symm with hc5 | hc5
      · replace h := ite_f hc5 h
        obtain ⟨hc6, h⟩ := chk_some h
        obtain ⟨q7, h7, h⟩ := ob_some h
        have hB7 := hB
        obtain ⟨hc8, h⟩ := chk_some h
        have hB9 := hB7.set 50 ((v3 * 8) + v4) (x := q7) hc8
        exact ih v1 v2 v3 (v4 + 1) (mset M 50 ((v3 * 8) + v4) q7) hB9 h
      · replace h := ite_t hc5 h
        obtain ⟨hc10, h⟩ := chk_some h
        obtain ⟨q11, h11, h⟩ := ob_some h
        have hB11 := hB
        obtain ⟨hc12, h⟩ := chk_some h
        have hB13 := hB11.set 50 ((v3 * 8) + v4) (x := q11) hc12
        exact ih v1 v2 v3 (v4 + 1) (mset M 50 ((v3 * 8) + v4) q11) hB13 h
theorem bw_X7_priceBeginningWith_4 {res : Mem} {F : Nat} : ∀ (fu : Nat) (v1 : Int) (v2 : Int) (v3 : Int) (M : Mem), Bd M → f_X7_priceBeginningWith_4 F fu v1 v2 v3 M = some res → Bd res := by
  intro fu
  induction fu with
  | zero => intro v1 v2 v3 M hB h; exact nomatch (show (none : Option (Mem)) = some res from h)
  | succ fu ih =>
    intro v1 v2 v3 M hB h
    rw [f_X7_priceBeginningWith_4] at h
    obtain ⟨hp_v3, h⟩ := chk_some h
    by_cases hc1 : v3 < 0
    · replace h := ite_t hc1 h
      cases h
      exact hB
    · replace h := ite_f hc1 h
      exact bw_X7_priceBeginningWith_11 ih F v1 v2 v3 0 M hB h
theorem bd_X7_priceBeginningWith {F : Nat} {v1 : Int} {v2 : Int} {M : Mem} (hB : Bd M) {res : Mem} (h : f_X7_priceBeginningWith F v1 v2 M = some res) : Bd res := by
  rw [f_X7_priceBeginningWith] at h
  exact bw_X7_priceBeginningWith_4 F v1 v2 (v2 - 1) M hB h
theorem bw_X7_follow_45 {res : Mem} {F : Nat} {t : Nat} (ht : shT[t]? = some (.inl 4)) {k22 : Int → Int → Mem → Option (Mem)} (hk22 : ∀ (v3 : Int) (v4 : Int) (M : Mem), Bd M → k22 v3 v4 M = some res → Bd res) : ∀ (fu : Nat) (v3 : Int) (v4 : Int) (v5 : Int) (v6 : Int) (M : Mem), Bd M → f_X7_follow_45 F t k22 fu v3 v4 v5 v6 M = some res → Bd res := by
  intro fu
  induction fu with
  | zero => intro v3 v4 v5 v6 M hB h; exact nomatch (show (none : Option (Mem)) = some res from h)
  | succ fu ih =>
    intro v3 v4 v5 v6 M hB h
    rw [f_X7_follow_45] at h
    obtain ⟨⟨hp_v3, hp_v6⟩, h⟩ := chk_some h
    obtain ⟨hc5, h⟩ := chk_some h
    by_cases hc6 : M 48 v4 ≤ v6
    · replace h := ite_t hc6 h
      exact hk22 v3 (v4 + 1) M hB h
    · replace h := ite_f hc6 h
      obtain ⟨hc7, h⟩ := chk_some h
      obtain ⟨q8, h8, h⟩ := ob_some h
      have hB8 := hB
      obtain ⟨hc9, h⟩ := chk_some h
      rcases (Decidable.em (q8 + (M 50 ((v4 * 8) + v6)) = v3)).symm with hc10 | hc10
      · replace h := ite_f hc10 h
        exact ih v3 v4 v5 (v6 + 1) M hB8 h
      · replace h := ite_t hc10 h
        have hB11 := hB8.set (t + 1) v4 (x := M 49 ((v4 * 8) + v6)) (hB8 49 ((v4 * 8) + v6) (by decide))
        exact hk22 ((mset M (t + 1) v4 (M 49 ((v4 * 8) + v6))) 50 ((v4 * 8) + v6)) (v4 + 1) (mset M (t + 1) v4 (M 49 ((v4 * 8) + v6))) hB11 h
theorem bw_X7_follow_22 {res : Mem} {F : Nat} {t : Nat} (ht : shT[t]? = some (.inl 4)) : ∀ (fu : Nat) (v3 : Int) (v4 : Int) (M : Mem), Bd M → f_X7_follow_22 F t fu v3 v4 M = some res → Bd res := by
  intro fu
  induction fu with
  | zero => intro v3 v4 M hB h; exact nomatch (show (none : Option (Mem)) = some res from h)
  | succ fu ih =>
    intro v3 v4 M hB h
    rw [f_X7_follow_22] at h
    obtain ⟨hp_v4, h⟩ := chk_some h
    by_cases hc3 : M t 0 ≤ v4
    · replace h := ite_t hc3 h
      cases h
      exact hB
    · replace h := ite_f hc3 h
      obtain ⟨hc4, h⟩ := chk_some h
      exact bw_X7_follow_45 ht ih F v3 v4 (M (t + 1) (v4 - 1)) 0 M hB h
theorem bd_X7_follow {F : Nat} {v1 : Int} {M : Mem} (hB : Bd M) {t : Nat} (ht : shT[t]? = some (.inl 4)) {res : Mem} (h : f_X7_follow F t v1 M = some res) : Bd res := by
  rw [f_X7_follow] at h
  obtain ⟨hc1, h⟩ := chk_some h
  have hB2 := hB.set (t + 1) 0 (x := M 49 v1) (hB 49 v1 (by decide))
  exact bw_X7_follow_22 ht F ((mset M (t + 1) 0 (M 49 v1)) 50 v1) 1 (mset M (t + 1) 0 (M 49 v1)) hB2 h
theorem bw_X7_fill_83 {res : Mem} {F : Nat} {t : Nat} (ht : shT[t]? = some (.inl 4)) : ∀ (fu : Nat) (v5 : Int) (v6 : Int) (M : Mem), Bd M → f_X7_fill_83 F t fu v5 v6 M = some res → Bd res := by
  intro fu
  induction fu with
  | zero => intro v5 v6 M hB h; exact nomatch (show (none : Option (Mem)) = some res from h)
  | succ fu ih =>
    intro v5 v6 M hB h
    rw [f_X7_fill_83] at h
    obtain ⟨⟨hp_v5, hp_v6⟩, h⟩ := chk_some h
    by_cases hc5 : M 48 0 ≤ v6
    · replace h := ite_t hc5 h
      cases h
      exact hB
    · replace h := ite_f hc5 h
      obtain ⟨hc6, h⟩ := chk_some h
      obtain ⟨q7, h7, h⟩ := ob_some h
      have hB7 := bd_X7_priceBeginningWith hB h7
      by_cases hc8 : v5 ≤ q7 50 v6
      · replace h := ite_t hc8 h
        exact ih v5 (v6 + 1) q7 hB7 h
      · replace h := ite_f hc8 h
        obtain ⟨q9, h9, h⟩ := ob_some h
        have hB9 := bd_X7_follow hB7 ht h9
        exact ih (q7 50 v6) (v6 + 1) q9 hB9 h
theorem bw_X7_fill_23 {res : Mem} {F : Nat} {t : Nat} (ht : shT[t]? = some (.inl 4)) : ∀ (fu : Nat) (v2 : Int) (v3 : Int) (v5 : Int) (M : Mem), Bd M → f_X7_fill_23 F t fu v2 v3 v5 M = some res → Bd res := by
  intro fu
  induction fu with
  | zero => intro v2 v3 v5 M hB h; exact nomatch (show (none : Option (Mem)) = some res from h)
  | succ fu ih =>
    intro v2 v3 v5 M hB h
    rw [f_X7_fill_23] at h
    obtain ⟨hp_v5, h⟩ := chk_some h
    by_cases hc4 : M t 0 ≤ v5
    · replace h := ite_t hc4 h
      exact bw_X7_fill_83 ht F 1000 0 M hB h
    · replace h := ite_f hc4 h
      obtain ⟨q10, h10, h⟩ := ob_some h
      have hB10 := hB
      obtain ⟨hc11, h⟩ := chk_some h
      obtain ⟨q12, h12, h⟩ := ob_some h
      have hB12 := bd_X8_copyChoices hB10 h12
      obtain ⟨hc13, h⟩ := chk_some h
      obtain ⟨hc14, h⟩ := chk_some h
      have hB15 := hB12.set 48 v5 (x := q12.1) hc14
      exact ih v2 v3 (v5 + 1) (mset q12.2 48 v5 q12.1) hB15 h
theorem bd_X7_fill {F : Nat} {v2 : Int} {v3 : Int} {M : Mem} (hB : Bd M) {t : Nat} (ht : shT[t]? = some (.inl 4)) {res : Mem} (h : f_X7_fill F t v2 v3 M = some res) : Bd res := by
  rw [f_X7_fill] at h
  obtain ⟨hc1, h⟩ := chk_some h
  have hB2 := hB.set t 0 (x := (M 46 0) - 1) hc1
  by_cases hc3 : 0 < (mset M t 0 ((M 46 0) - 1)) t 0
  · replace h := ite_t hc3 h
    exact bw_X7_fill_23 ht F v2 v3 0 (mset M t 0 ((M 46 0) - 1)) hB2 h
  · replace h := ite_f hc3 h
    cases h
    exact hB2
theorem bw_X5_evaluate_22 {res : Mem} {F : Nat} : ∀ (fu : Nat) (v2 : Int) (v4 : Int) (M : Mem), Bd M → f_X5_evaluate_22 F fu v2 v4 M = some res → Bd res := by
  intro fu
  induction fu with
  | zero => intro v2 v4 M hB h; exact nomatch (show (none : Option (Mem)) = some res from h)
  | succ fu ih =>
    intro v2 v4 M hB h
    rw [f_X5_evaluate_22] at h
    obtain ⟨⟨hp_v2, hp_v4⟩, h⟩ := chk_some h
    by_cases hc4 : v2 ≤ v4
    · replace h := ite_t hc4 h
      cases h
      exact hB
    · replace h := ite_f hc4 h
      obtain ⟨hc5, h⟩ := chk_some h
      obtain ⟨q6, h6, h⟩ := ob_some h
      have hB6 := bd_X7_fill hB sh_55 h6
      obtain ⟨q7, h7, h⟩ := ob_some h
      have hB7 := hB6
      obtain ⟨hc8, h⟩ := chk_some h
      have hB9 := hB7.set 51 3 (x := imax (q6 51 3) q7) (imax_R (hB6 51 3 (by decide)) hc8)
      obtain ⟨q10, h10, h⟩ := ob_some h
      have hB10 := hB9
      obtain ⟨hc11, h⟩ := chk_some h
      have hB12 := hB10.set 51 4 (x := ((mset q6 51 3 (imax (q6 51 3) q7)) 51 4) + q10) hc11
      exact ih v2 (v4 + 1) (mset (mset q6 51 3 (imax (q6 51 3) q7)) 51 4 (((mset q6 51 3 (imax (q6 51 3) q7)) 51 4) + q10)) hB12 h
theorem bd_X5_evaluate {F : Nat} {v2 : Int} {M : Mem} (hB : Bd M) {res : Mem} (h : f_X5_evaluate F v2 M = some res) : Bd res := by
  rw [f_X5_evaluate] at h
  obtain ⟨q1, h1, h⟩ := ob_some h
  have hB1 := bd_X7_seat hB (ia_of sh_52) h1
  have hB2 := hB1.set 51 3 (x := 0) (by decide)
  have hB3 := hB2.set 51 4 (x := 0) (by decide)
  exact bw_X5_evaluate_22 F v2 0 (mset (mset q1 51 3 0) 51 4 0) hB3 h
theorem bw_X5_note_22 {res : Mem} : ∀ (v1 : Int) (M : Mem), Bd M → f_X5_note_22 v1 M = some res → Bd res := by
  intro v1 M hB h
  rw [f_X5_note_22] at h
  by_cases hc2 : M 51 3 < M 51 0
  · replace h := ite_t hc2 h
    have hB4 := hB.set 51 0 (x := M 51 3) (hB 51 3 (by decide))
    have hB5 := hB4.set 51 1 (x := (mset M 51 0 (M 51 3)) 51 4) (hB4 51 4 (by decide))
    obtain ⟨hc6, h⟩ := chk_some h
    have hB7 := hB5.cpy 52 (by decide) 0 53 0 v1
    cases h
    exact hB7
  · replace h := ite_f hc2 h
    rcases (Decidable.em (M 51 3 = M 51 0)).symm with hc8 | hc8
    · replace h := ite_f hc8 h
      cases h
      exact hB
    · replace h := ite_t hc8 h
      by_cases hc10 : M 51 1 ≤ M 51 4
      · replace h := ite_t hc10 h
        cases h
        exact hB
      · replace h := ite_f hc10 h
        have hB13 := hB.set 51 0 (x := M 51 3) (hB 51 3 (by decide))
        have hB14 := hB13.set 51 1 (x := (mset M 51 0 (M 51 3)) 51 4) (hB13 51 4 (by decide))
        obtain ⟨hc15, h⟩ := chk_some h
        have hB16 := hB14.cpy 52 (by decide) 0 53 0 v1
        cases h
        exact hB16
theorem bd_X5_note {v1 : Int} {M : Mem} (hB : Bd M) {res : Mem} (h : f_X5_note v1 M = some res) : Bd res := by
  rw [f_X5_note] at h
  by_cases hc1 : 9 < M 51 3
  · replace h := ite_t hc1 h
    exact bw_X5_note_22 v1 M hB h
  · replace h := ite_f hc1 h
    obtain ⟨hc17, h⟩ := chk_some h
    obtain ⟨hc18, h⟩ := chk_some h
    have hB19 := hB.set 54 (M 51 3) (x := (M 54 (M 51 3)) + 1) hc18
    exact bw_X5_note_22 v1 (mset M 54 (M 51 3) ((M 54 (M 51 3)) + 1)) hB19 h
theorem bd_X5_exchange {v1 : Int} {v2 : Int} {M : Mem} (hB : Bd M) {res : Mem} (h : f_X5_exchange v1 v2 M = some res) : Bd res := by
  rw [f_X5_exchange] at h
  obtain ⟨hc1, h⟩ := chk_some h
  obtain ⟨hc2, h⟩ := chk_some h
  have hB3 := hB.set 52 v1 (x := M 52 v2) (hB 52 v2 (by decide))
  have hB4 := hB3.set 52 v2 (x := M 52 v1) (hB 52 v1 (by decide))
  cases h
  exact hB4
theorem bw_X5_nextTrial_103 {res : Int × Mem} {F : Nat} : ∀ (fu : Nat) (v4 : Int) (v5 : Int) (M : Mem), Bd M → f_X5_nextTrial_103 F fu v4 v5 M = some res → Bd res.2 := by
  intro fu
  induction fu with
  | zero => intro v4 v5 M hB h; exact nomatch (show (none : Option (Int × Mem)) = some res from h)
  | succ fu ih =>
    intro v4 v5 M hB h
    rw [f_X5_nextTrial_103] at h
    obtain ⟨⟨hp_v4, hp_v5⟩, h⟩ := chk_some h
    by_cases hc5 : v5 ≤ v4
    · replace h := ite_t hc5 h
      cases h
      exact hB
    · replace h := ite_f hc5 h
      obtain ⟨q6, h6, h⟩ := ob_some h
      have hB6 := bd_X5_exchange hB h6
      exact ih (v4 + 1) (v5 + (-1)) q6 hB6 h
theorem bw_X5_nextTrial_56 {res : Int × Mem} {F : Nat} : ∀ (fu : Nat) (v1 : Int) (v2 : Int) (v3 : Int) (v4 : Int) (M : Mem), Bd M → f_X5_nextTrial_56 F fu v1 v2 v3 v4 M = some res → Bd res.2 := by
  intro fu
  induction fu with
  | zero => intro v1 v2 v3 v4 M hB h; exact nomatch (show (none : Option (Int × Mem)) = some res from h)
  | succ fu ih =>
    intro v1 v2 v3 v4 M hB h
    rw [f_X5_nextTrial_56] at h
    obtain ⟨⟨hp_v1, hp_v4⟩, h⟩ := chk_some h
    by_cases hc3 : v1 ≤ v4
    · replace h := ite_t hc3 h
      obtain ⟨q4, h4, h⟩ := ob_some h
      have hB4 := bd_X5_exchange hB h4
      exact bw_X5_nextTrial_103 F (v2 + 1) (v1 - 1) q4 hB4 h
    · replace h := ite_f hc3 h
      obtain ⟨hc7, h⟩ := chk_some h
      obtain ⟨hc8, h⟩ := chk_some h
      by_cases hc9 : M 52 v4 ≤ M 52 v2
      · replace h := ite_t hc9 h
        exact ih v1 v2 v3 (v4 + 1) M hB h
      · replace h := ite_f hc9 h
        exact ih v1 v2 v4 (v4 + 1) M hB h
theorem bw_X5_nextTrial_6 {res : Int × Mem} {F : Nat} : ∀ (fu : Nat) (v1 : Int) (v2 : Int) (v3 : Int) (M : Mem), Bd M → f_X5_nextTrial_6 F fu v1 v2 v3 M = some res → Bd res.2 := by
  intro fu
  induction fu with
  | zero => intro v1 v2 v3 M hB h; exact nomatch (show (none : Option (Int × Mem)) = some res from h)
  | succ fu ih =>
    intro v1 v2 v3 M hB h
    rw [f_X5_nextTrial_6] at h
    obtain ⟨⟨hp_v1, hp_v2, hp_v3⟩, h⟩ := chk_some h
    by_cases hc1 : v1 ≤ v3
    · replace h := ite_t hc1 h
      by_cases hc2 : 0 ≤ v2
      · replace h := ite_t hc2 h
        exact bw_X5_nextTrial_56 F v1 v2 (v2 + 1) (v2 + 2) M hB h
      · replace h := ite_f hc2 h
        cases h
        exact hB
    · replace h := ite_f hc1 h
      by_cases hc10 : v2 < 0
      · replace h := ite_t hc10 h
        by_cases hc11 : 0 ≤ v2
        · replace h := ite_t hc11 h
          exact bw_X5_nextTrial_56 F v1 v2 (v2 + 1) (v2 + 2) M hB h
        · replace h := ite_f hc11 h
          cases h
          exact hB
      · replace h := ite_f hc10 h
        obtain ⟨hc12, h⟩ := chk_some h
        obtain ⟨hc13, h⟩ := chk_some h
        by_cases hc14 : M 52 v2 ≤ M 52 (v2 + 1)
        · replace h := ite_t hc14 h
          by_cases hc15 : 0 ≤ v2
          · replace h := ite_t hc15 h
            exact bw_X5_nextTrial_56 F v1 v2 (v2 + 1) (v2 + 2) M hB h
          · replace h := ite_f hc15 h
            cases h
            exact hB
        · replace h := ite_f hc14 h
          exact ih v1 (v2 + (-1)) (v3 + 1) M hB h
theorem bd_X5_nextTrial {F : Nat} {v1 : Int} {M : Mem} (hB : Bd M) {res : Int × Mem} (h : f_X5_nextTrial F v1 M = some res) : Bd res.2 := by
  rw [f_X5_nextTrial] at h
  exact bw_X5_nextTrial_6 F v1 (v1 - 2) 0 M hB h
theorem bw_X5_ensure_58 {res : Mem} {F : Nat} : ∀ (fu : Nat) (v2 : Int) (v4 : Int) (v5 : Int) (M : Mem), Bd M → f_X5_ensure_58 F fu v2 v4 v5 M = some res → Bd res := by
  intro fu
  induction fu with
  | zero => intro v2 v4 v5 M hB h; exact nomatch (show (none : Option (Mem)) = some res from h)
  | succ fu ih =>
    intro v2 v4 v5 M hB h
    rw [f_X5_ensure_58] at h
    obtain ⟨⟨hp_v4, hp_v5⟩, h⟩ := chk_some h
    by_cases hc6 : 720 ≤ v5
    · replace h := ite_t hc6 h
      cases h
      exact hB
    · replace h := ite_f hc6 h
      by_cases hc7 : v4 = 0
      · replace h := ite_t hc7 h
        cases h
        exact hB
      · replace h := ite_f hc7 h
        obtain ⟨q8, h8, h⟩ := ob_some h
        have hB8 := bd_X5_evaluate hB h8
        obtain ⟨q9, h9, h⟩ := ob_some h
        have hB9 := bd_X5_note hB8 h9
        obtain ⟨q10, h10, h⟩ := ob_some h
        have hB10 := bd_X5_nextTrial hB9 h10
        exact ih v2 q10.1 (v5 + 1) q10.2 hB10 h
theorem bw_X5_ensure_31 {res : Mem} {F : Nat} : ∀ (fu : Nat) (v2 : Int) (v4 : Int) (M : Mem), Bd M → f_X5_ensure_31 F fu v2 v4 M = some res → Bd res := by
  intro fu
  induction fu with
  | zero => intro v2 v4 M hB h; exact nomatch (show (none : Option (Mem)) = some res from h)
  | succ fu ih =>
    intro v2 v4 M hB h
    rw [f_X5_ensure_31] at h
    obtain ⟨⟨hp_v2, hp_v4⟩, h⟩ := chk_some h
    by_cases hc5 : v2 ≤ v4
    · replace h := ite_t hc5 h
      exact bw_X5_ensure_58 F v2 1 0 M hB h
    · replace h := ite_f hc5 h
      obtain ⟨hc11, h⟩ := chk_some h
      have hB12 := hB.set 52 v4 (x := v4) hp_v4
      exact ih v2 (v4 + 1) (mset M 52 v4 v4) hB12 h
theorem bd_X5_ensure {F : Nat} {v2 : Int} {M : Mem} (hB : Bd M) {res : Mem} (h : f_X5_ensure F v2 M = some res) : Bd res := by
  rw [f_X5_ensure] at h
  by_cases hc1 : M 51 2 = 0
  · replace h := ite_t hc1 h
    have hB2 := hB.set 51 2 (x := 1) (by decide)
    have hB3 := hB2.set 51 0 (x := 1000) (by decide)
    obtain ⟨q4, h4, h⟩ := ob_some h
    have hB4 := bd_J7_fill_53178 hB3 (ia_of sh_54) h4
    exact bw_X5_ensure_31 F v2 0 q4 hB4 h
  · replace h := ite_f hc1 h
    cases h
    exact hB
theorem bd_X5_copyBest {M : Mem} (hB : Bd M) {res : Mem} (h : f_X5_copyBest M = some res) : Bd res := by
  rw [f_X5_copyBest] at h
  obtain ⟨hc1, h⟩ := chk_some h
  have hB2 := hB.cpy 53 (by decide) 0 5 0 (M 1 0)
  cases h
  exact hB2
theorem bw_X6_drop_2 {res : Mem} {F : Nat} {r : Nat} (hr : shT[r]? = some (.inl 6)) : ∀ (fu : Nat) (v2 : Int) (M : Mem), Bd M → f_X6_drop_2 F r fu v2 M = some res → Bd res := by
  intro fu
  induction fu with
  | zero => intro v2 M hB h; exact nomatch (show (none : Option (Mem)) = some res from h)
  | succ fu ih =>
    intro v2 M hB h
    rw [f_X6_drop_2] at h
    obtain ⟨hc1, h⟩ := chk_some h
    by_cases hc2 : M r 1 ≤ v2 + 1
    · replace h := ite_t hc2 h
      obtain ⟨hc3, h⟩ := chk_some h
      have hB4 := hB.set r 1 (x := (M r 1) - 1) hc3
      cases h
      exact hB4
    · replace h := ite_f hc2 h
      obtain ⟨hc5, h⟩ := chk_some h
      obtain ⟨hc6, h⟩ := chk_some h
      have hB7 := hB.set (r + 1) v2 (x := M (r + 1) (v2 + 1)) (hB (r + 1) (v2 + 1) (Nat.lt_of_lt_of_le (sh_lt (so_6_2 hr)) (by decide)))
      have hB8 := hB7.set (r + 2) v2 (x := (mset M (r + 1) v2 (M (r + 1) (v2 + 1))) (r + 2) (v2 + 1)) (hB7 (r + 2) (v2 + 1) (Nat.lt_of_lt_of_le (sh_lt (so_6_3 hr)) (by decide)))
      have hB9 := hB8.set (r + 3) v2 (x := (mset (mset M (r + 1) v2 (M (r + 1) (v2 + 1))) (r + 2) v2 ((mset M (r + 1) v2 (M (r + 1) (v2 + 1))) (r + 2) (v2 + 1))) (r + 3) (v2 + 1)) (hB8 (r + 3) (v2 + 1) (Nat.lt_of_lt_of_le (sh_lt (so_6_4 hr)) (by decide)))
      exact ih (v2 + 1) (mset (mset (mset M (r + 1) v2 (M (r + 1) (v2 + 1))) (r + 2) v2 ((mset M (r + 1) v2 (M (r + 1) (v2 + 1))) (r + 2) (v2 + 1))) (r + 3) v2 ((mset (mset M (r + 1) v2 (M (r + 1) (v2 + 1))) (r + 2) v2 ((mset M (r + 1) v2 (M (r + 1) (v2 + 1))) (r + 2) (v2 + 1))) (r + 3) (v2 + 1))) hB9 h
theorem bd_X6_drop {F : Nat} {v1 : Int} {M : Mem} (hB : Bd M) {r : Nat} (hr : shT[r]? = some (.inl 6)) {res : Mem} (h : f_X6_drop F r v1 M = some res) : Bd res := by
  rw [f_X6_drop] at h
  exact bw_X6_drop_2 hr F v1 M hB h
theorem bw_X6_storeTable_2 {res : Mem} {F : Nat} {r : Nat} (hr : shT[r]? = some (.inl 6)) : ∀ (fu : Nat) (v1 : Int) (v3 : Int) (M : Mem), Bd M → f_X6_storeTable_2 F r fu v1 v3 M = some res → Bd res := by
  intro fu
  induction fu with
  | zero => intro v1 v3 M hB h; exact nomatch (show (none : Option (Mem)) = some res from h)
  | succ fu ih =>
    intro v1 v3 M hB h
    rw [f_X6_storeTable_2] at h
    obtain ⟨hp_v3, h⟩ := chk_some h
    by_cases hc1 : M 44 0 ≤ v3
    · replace h := ite_t hc1 h
      cases h
      exact hB
    · replace h := ite_f hc1 h
      obtain ⟨hc2, h⟩ := chk_some h
      obtain ⟨q3, h3, h⟩ := ob_some h
      have hB3 := hB
      obtain ⟨hc4, h⟩ := chk_some h
      obtain ⟨hc5, h⟩ := chk_some h
      have hB6 := hB3.set (r + 5) ((v1 * 9) + q3) (x := M 45 v3) (hB3 45 v3 (by decide))
      exact ih v1 (v3 + 1) (mset M (r + 5) ((v1 * 9) + q3) (M 45 v3)) hB6 h
theorem bd_X6_storeTable {F : Nat} {v1 : Int} {M : Mem} (hB : Bd M) {r : Nat} (hr : shT[r]? = some (.inl 6)) {res : Mem} (h : f_X6_storeTable F r v1 M = some res) : Bd res := by
  rw [f_X6_storeTable] at h
  exact bw_X6_storeTable_2 hr F v1 0 M hB h
theorem bw_X6_setInterval_30 {res : Int × Mem} {F : Nat} {r : Nat} (hr : shT[r]? = some (.inl 6)) : ∀ (fu : Nat) (v1 : Int) (v2 : Int) (v3 : Int) (v5 : Int) (v6 : Int) (v7 : Int) (M : Mem), Bd M → f_X6_setInterval_30 F r fu v1 v2 v3 v5 v6 v7 M = some res → Bd res.2 := by
  intro fu
  induction fu with
  | zero => intro v1 v2 v3 v5 v6 v7 M hB h; exact nomatch (show (none : Option (Int × Mem)) = some res from h)
  | succ fu ih =>
    intro v1 v2 v3 v5 v6 v7 M hB h
    rw [f_X6_setInterval_30] at h
    obtain ⟨⟨hp_v2, hp_v5, hp_v7⟩, h⟩ := chk_some h
    by_cases hc2 : v5 < v7
    · replace h := ite_t hc2 h
      cases h
      exact hB
    · replace h := ite_f hc2 h
      obtain ⟨hc3, h⟩ := chk_some h
      by_cases hc4 : M r 0 ≤ v3 + v7
      · replace h := ite_t hc4 h
        obtain ⟨hc5, h⟩ := chk_some h
        obtain ⟨hc6, h⟩ := chk_some h
        by_cases hc7 : (v3 + v7) - (M r 0) = M (r + 4) v1
        · replace h := ite_t hc7 h
          exact ih v1 v2 v3 v5 v6 (v7 + 1) M hB h
        · replace h := ite_f hc7 h
          obtain ⟨hc8, h⟩ := chk_some h
          by_cases hc9 : M (r + 5) ((v1 * 9) + ((v3 + v7) - (M r 0))) = v2
          · replace h := ite_t hc9 h
            exact ih v1 v2 v3 v5 v6 (v7 + 1) M hB h
          · replace h := ite_f hc9 h
            have hB10 := hB.set (r + 5) ((v1 * 9) + ((v3 + v7) - (M r 0))) (x := v2) hp_v2
            exact ih v1 v2 v3 v5 (v6 + 1) (v7 + 1) (mset M (r + 5) ((v1 * 9) + ((v3 + v7) - (M r 0))) v2) hB10 h
      · replace h := ite_f hc4 h
        obtain ⟨hc11, h⟩ := chk_some h
        by_cases hc12 : v3 + v7 = M (r + 4) v1
        · replace h := ite_t hc12 h
          exact ih v1 v2 v3 v5 v6 (v7 + 1) M hB h
        · replace h := ite_f hc12 h
          obtain ⟨hc13, h⟩ := chk_some h
          by_cases hc14 : M (r + 5) ((v1 * 9) + (v3 + v7)) = v2
          · replace h := ite_t hc14 h
            exact ih v1 v2 v3 v5 v6 (v7 + 1) M hB h
          · replace h := ite_f hc14 h
            have hB15 := hB.set (r + 5) ((v1 * 9) + (v3 + v7)) (x := v2) hp_v2
            exact ih v1 v2 v3 v5 (v6 + 1) (v7 + 1) (mset M (r + 5) ((v1 * 9) + (v3 + v7)) v2) hB15 h
theorem bd_X6_setInterval {F : Nat} {v1 : Int} {v2 : Int} {v3 : Int} {v4 : Int} {M : Mem} (hB : Bd M) {r : Nat} (hr : shT[r]? = some (.inl 6)) {res : Int × Mem} (h : f_X6_setInterval F r v1 v2 v3 v4 M = some res) : Bd res.2 := by
  rw [f_X6_setInterval] at h
  obtain ⟨⟨hp_v3, hp_v4⟩, h⟩ := chk_some h
  by_cases hc1 : v4 < v3
  · replace h := ite_t hc1 h
    exact bw_X6_setInterval_30 hr F v1 v2 v3 ((v4 - v3) + (M r 0)) 0 0 M hB h
  · replace h := ite_f hc1 h
    exact bw_X6_setInterval_30 hr F v1 v2 v3 (v4 - v3) 0 0 M hB h
theorem bw_X8_shortenOver_10 {res : Mem} {F : Nat} {k2 : Int → Int → Int → Mem → Option (Mem)} (hk2 : ∀ (v1 : Int) (v2 : Int) (v3 : Int) (M : Mem), Bd M → k2 v1 v2 v3 M = some res → Bd res) : ∀ (fu : Nat) (v1 : Int) (v2 : Int) (v3 : Int) (v4 : Int) (M : Mem), Bd M → f_X8_shortenOver_10 F k2 fu v1 v2 v3 v4 M = some res → Bd res := by
  intro fu
  induction fu with
  | zero => intro v1 v2 v3 v4 M hB h; exact nomatch (show (none : Option (Mem)) = some res from h)
  | succ fu ih =>
    intro v1 v2 v3 v4 M hB h
    rw [f_X8_shortenOver_10] at h
    obtain ⟨⟨hp_v2, hp_v4⟩, h⟩ := chk_some h
    by_cases hc2 : v2 ≤ v4
    · replace h := ite_t hc2 h
      exact hk2 v1 v2 (v3 + 1) M hB h
    · replace h := ite_f hc2 h
      obtain ⟨q3, h3, h⟩ := ob_some h
      have hB3 := hB
      obtain ⟨q4, h4, h⟩ := ob_some h
      have hB4 := hB3
      obtain ⟨q5, h5, h⟩ := ob_some h
      have hB5 := hB4
      obtain ⟨hc6, h⟩ := chk_some h
      obtain ⟨hc7, h⟩ := chk_some h
      by_cases hc8 : q5 ≤ q3 + q4
      · replace h := ite_t hc8 h
        exact ih v1 v2 v3 (v4 + 1) M hB5 h
      · replace h := ite_f hc8 h
        obtain ⟨hc9, h⟩ := chk_some h
        have hB10 := hB5.set 40 ((v3 * 9) + v4) (x := q3 + q4) hc6
        exact ih v1 v2 v3 (v4 + 1) (mset M 40 ((v3 * 9) + v4) (q3 + q4)) hB10 h
theorem bw_X8_shortenOver_2 {res : Mem} {F : Nat} : ∀ (fu : Nat) (v1 : Int) (v2 : Int) (v3 : Int) (M : Mem), Bd M → f_X8_shortenOver_2 F fu v1 v2 v3 M = some res → Bd res := by
  intro fu
  induction fu with
  | zero => intro v1 v2 v3 M hB h; exact nomatch (show (none : Option (Mem)) = some res from h)
  | succ fu ih =>
    intro v1 v2 v3 M hB h
    rw [f_X8_shortenOver_2] at h
    obtain ⟨⟨hp_v2, hp_v3⟩, h⟩ := chk_some h
    by_cases hc1 : v2 ≤ v3
    · replace h := ite_t hc1 h
      cases h
      exact hB
    · replace h := ite_f hc1 h
      exact bw_X8_shortenOver_10 ih F v1 v2 v3 0 M hB h
theorem bd_X8_shortenOver {F : Nat} {v1 : Int} {v2 : Int} {M : Mem} (hB : Bd M) {res : Mem} (h : f_X8_shortenOver F v1 v2 M = some res) : Bd res := by
  rw [f_X8_shortenOver] at h
  exact bw_X8_shortenOver_2 F v1 v2 0 M hB h
theorem bw_X8_measureDistances_107 {res : Mem} {F : Nat} : ∀ (fu : Nat) (v2 : Int) (M : Mem), Bd M → f_X8_measureDistances_107 F fu v2 M = some res → Bd res := by
  intro fu
  induction fu with
  | zero => intro v2 M hB h; exact nomatch (show (none : Option (Mem)) = some res from h)
  | succ fu ih =>
    intro v2 M hB h
    rw [f_X8_measureDistances_107] at h
    obtain ⟨hp_v2, h⟩ := chk_some h
    by_cases hc4 : M 1 0 ≤ v2
    · replace h := ite_t hc4 h
      cases h
      exact hB
    · replace h := ite_f hc4 h
      obtain ⟨q5, h5, h⟩ := ob_some h
      have hB5 := bd_X8_shortenOver hB h5
      exact ih (v2 + 1) q5 hB5 h
theorem bw_X8_measureDistances_40 {res : Mem} {F : Nat} : ∀ (fu : Nat) (v2 : Int) (M : Mem), Bd M → f_X8_measureDistances_40 F fu v2 M = some res → Bd res := by
  intro fu
  induction fu with
  | zero => intro v2 M hB h; exact nomatch (show (none : Option (Mem)) = some res from h)
  | succ fu ih =>
    intro v2 M hB h
    rw [f_X8_measureDistances_40] at h
    obtain ⟨hp_v2, h⟩ := chk_some h
    by_cases hc3 : M 1 1 ≤ v2
    · replace h := ite_t hc3 h
      exact bw_X8_measureDistances_107 F 0 M hB h
    · replace h := ite_f hc3 h
      obtain ⟨hc6, h⟩ := chk_some h
      obtain ⟨hc7, h⟩ := chk_some h
      have hB8 := hB.set 40 (((M 2 v2) * 9) + (M 3 v2)) (x := M 4 v2) (hB 4 v2 (by decide))
      obtain ⟨hc9, h⟩ := chk_some h
      have hB10 := hB8.set 40 (((M 3 v2) * 9) + (M 2 v2)) (x := (mset M 40 (((M 2 v2) * 9) + (M 3 v2)) (M 4 v2)) 4 v2) (hB8 4 v2 (by decide))
      exact ih (v2 + 1) (mset (mset M 40 (((M 2 v2) * 9) + (M 3 v2)) (M 4 v2)) 40 (((M 3 v2) * 9) + (M 2 v2)) ((mset M 40 (((M 2 v2) * 9) + (M 3 v2)) (M 4 v2)) 4 v2)) hB10 h
theorem bw_X8_measureDistances_12 {res : Mem} {F : Nat} : ∀ (fu : Nat) (v2 : Int) (M : Mem), Bd M → f_X8_measureDistances_12 F fu v2 M = some res → Bd res := by
  intro fu
  induction fu with
  | zero => intro v2 M hB h; exact nomatch (show (none : Option (Mem)) = some res from h)
  | succ fu ih =>
    intro v2 M hB h
    rw [f_X8_measureDistances_12] at h
    obtain ⟨hp_v2, h⟩ := chk_some h
    by_cases hc2 : M 1 0 ≤ v2
    · replace h := ite_t hc2 h
      exact bw_X8_measureDistances_40 F 0 M hB h
    · replace h := ite_f hc2 h
      obtain ⟨hc11, h⟩ := chk_some h
      have hB12 := hB.set 40 ((v2 * 9) + v2) (x := 0) (by decide)
      exact ih (v2 + 1) (mset M 40 ((v2 * 9) + v2) 0) hB12 h
theorem bd_X8_measureDistances {F : Nat} {M : Mem} (hB : Bd M) {res : Mem} (h : f_X8_measureDistances F M = some res) : Bd res := by
  rw [f_X8_measureDistances] at h
  obtain ⟨q1, h1, h⟩ := ob_some h
  have hB1 := bd_J7_fill_53178 hB (ia_of sh_40) h1
  exact bw_X8_measureDistances_12 F 0 q1 hB1 h
theorem bw_X8_findGoodLinks_17 {res : Mem} {F : Nat} : ∀ (fu : Nat) (v2 : Int) (v3 : Int) (v4 : Int) (v5 : Int) (v6 : Int) (v7 : Int) (M : Mem), Bd M → f_X8_findGoodLinks_17 F fu v2 v3 v4 v5 v6 v7 M = some res → Bd res := by
  intro fu
  induction fu with
  | zero => intro v2 v3 v4 v5 v6 v7 M hB h; exact nomatch (show (none : Option (Mem)) = some res from h)
  | succ fu ih =>
    intro v2 v3 v4 v5 v6 v7 M hB h
    rw [f_X8_findGoodLinks_17] at h
    obtain ⟨⟨hp_v5, hp_v6, hp_v7⟩, h⟩ := chk_some h
    by_cases hc1 : M 1 1 ≤ v7
    · replace h := ite_t hc1 h
      rcases (Decidable.em (v6 = 0)).symm with hc2 | hc2
      · replace h := ite_f hc2 h
        obtain ⟨hc3, h⟩ := chk_some h
        have hB4 := hB.set 41 v4 (x := v5) hp_v5
        have hB5 := hB4.set 43 v4 (x := v6) hp_v6
        cases h
        exact hB5
      · replace h := ite_t hc2 h
        obtain ⟨hc6, h⟩ := chk_some h
        have hB7 := hB.set 42 (v4 * 8) (x := (-1)) (by decide)
        obtain ⟨hc8, h⟩ := chk_some h
        have hB9 := hB7.set 41 v4 (x := v5) hp_v5
        have hB10 := hB9.set 43 v4 (x := 1) (by decide)
        cases h
        exact hB10
    · replace h := ite_f hc1 h
      by_cases hc11 : 8 ≤ v6
      · replace h := ite_t hc11 h
        rcases (Decidable.em (v6 = 0)).symm with hc12 | hc12
        · replace h := ite_f hc12 h
          obtain ⟨hc13, h⟩ := chk_some h
          have hB14 := hB.set 41 v4 (x := v5) hp_v5
          have hB15 := hB14.set 43 v4 (x := v6) hp_v6
          cases h
          exact hB15
        · replace h := ite_t hc12 h
          obtain ⟨hc16, h⟩ := chk_some h
          have hB17 := hB.set 42 (v4 * 8) (x := (-1)) (by decide)
          obtain ⟨hc18, h⟩ := chk_some h
          have hB19 := hB17.set 41 v4 (x := v5) hp_v5
          have hB20 := hB19.set 43 v4 (x := 1) (by decide)
          cases h
          exact hB20
      · replace h := ite_f hc11 h
        obtain ⟨q21, h21, h⟩ := ob_some h
        have hB21 := hB
        obtain ⟨hc22, h⟩ := chk_some h
        by_cases hc23 : q21 = 0
        · replace h := ite_t hc23 h
          exact ih v2 v3 v4 v5 v6 (v7 + 1) M hB21 h
        · replace h := ite_f hc23 h
          obtain ⟨hc24, h⟩ := chk_some h
          have hB25 := hB21.set 42 ((v4 * 8) + v6) (x := v7) hp_v7
          exact ih v2 v3 v4 (bor v5 (bshl 1 v7)) (v6 + 1) (v7 + 1) (mset M 42 ((v4 * 8) + v6) v7) hB25 h
theorem bd_X8_findGoodLinks {F : Nat} {v2 : Int} {v3 : Int} {M : Mem} (hB : Bd M) {res : Mem} (h : f_X8_findGoodLinks F v2 v3 M = some res) : Bd res := by
  rw [f_X8_findGoodLinks] at h
  exact bw_X8_findGoodLinks_17 F v2 v3 ((v2 * 9) + v3) 0 0 0 M hB h
theorem bw_X8_measure_17 {res : Mem} {F : Nat} {k7 : Int → Mem → Option (Mem)} (hk7 : ∀ (v2 : Int) (M : Mem), Bd M → k7 v2 M = some res → Bd res) : ∀ (fu : Nat) (v2 : Int) (v3 : Int) (M : Mem), Bd M → f_X8_measure_17 F k7 fu v2 v3 M = some res → Bd res := by
  intro fu
  induction fu with
  | zero => intro v2 v3 M hB h; exact nomatch (show (none : Option (Mem)) = some res from h)
  | succ fu ih =>
    intro v2 v3 M hB h
    rw [f_X8_measure_17] at h
    obtain ⟨hp_v3, h⟩ := chk_some h
    by_cases hc3 : M 1 0 ≤ v3
    · replace h := ite_t hc3 h
      exact hk7 (v2 + 1) M hB h
    · replace h := ite_f hc3 h
      obtain ⟨q4, h4, h⟩ := ob_some h
      have hB4 := bd_X8_findGoodLinks hB h4
      exact ih v2 (v3 + 1) q4 hB4 h
theorem bw_X8_measure_7 {res : Mem} {F : Nat} : ∀ (fu : Nat) (v2 : Int) (M : Mem), Bd M → f_X8_measure_7 F fu v2 M = some res → Bd res := by
  intro fu
  induction fu with
  | zero => intro v2 M hB h; exact nomatch (show (none : Option (Mem)) = some res from h)
  | succ fu ih =>
    intro v2 M hB h
    rw [f_X8_measure_7] at h
    obtain ⟨hp_v2, h⟩ := chk_some h
    by_cases hc2 : M 1 0 ≤ v2
    · replace h := ite_t hc2 h
      cases h
      exact hB
    · replace h := ite_f hc2 h
      exact bw_X8_measure_17 ih F v2 0 M hB h
theorem bd_X8_measure {F : Nat} {M : Mem} (hB : Bd M) {res : Mem} (h : f_X8_measure F M = some res) : Bd res := by
  rw [f_X8_measure] at h
  obtain ⟨q1, h1, h⟩ := ob_some h
  have hB1 := bd_X8_measureDistances hB h1
  exact bw_X8_measure_7 F 0 q1 hB1 h
theorem bd_X9_measureNetwork {F : Nat} {M : Mem} (hB : Bd M) {res : Mem} (h : f_X9_measureNetwork F M = some res) : Bd res := by
  rw [f_X9_measureNetwork] at h
  obtain ⟨q1, h1, h⟩ := ob_some h
  have hB1 := bd_X8_measure hB h1
  obtain ⟨q2, h2, h⟩ := ob_some h
  have hB2 := bd_X5_forget hB1 h2
  cases h
  exact hB2
theorem bd_X9_networkChanged {F : Nat} {M : Mem} (hB : Bd M) {res : Mem} (h : f_X9_networkChanged F M = some res) : Bd res := by
  rw [f_X9_networkChanged] at h
  obtain ⟨q1, h1, h⟩ := ob_some h
  have hB1 := bd_X6_clearEntries hB sh_1 h1
  obtain ⟨q2, h2, h⟩ := ob_some h
  have hB2 := bd_X9_measureNetwork hB1 h2
  cases h
  exact hB2
theorem bd_X9_begin {F : Nat} {v1 : Int} {M : Mem} (hB : Bd M) {res : (Nat ⊕ Int) × Mem} (h : f_X9_begin F v1 M = some res) : Bd res.2 := by
  rw [f_X9_begin] at h
  obtain ⟨q1, h1, h⟩ := ob_some h
  have hB1 := hB
  rcases hz1 : q1 with e1 | r1
  · replace h := ox_l hz1 h
    cases h
    exact hB1
  · replace h := ox_r hz1 h
    obtain ⟨q2, h2, h⟩ := ob_some h
    have hB2 := bd_X0_save hB1 h2
    obtain ⟨q3, h3, h⟩ := ob_some h
    have hB3 := bd_X6_start hB2 sh_1 h3
    obtain ⟨q4, h4, h⟩ := ob_some h
    have hB4 := bd_X9_networkChanged hB3 h4
    cases h
    exact hB4
theorem bd_X9_addLink {F : Nat} {v1 : Int} {v2 : Int} {v3 : Int} {M : Mem} (hB : Bd M) {res : (Nat ⊕ Int) × Mem} (h : f_X9_addLink F v1 v2 v3 M = some res) : Bd res.2 := by
  rw [f_X9_addLink] at h
  obtain ⟨⟨hp_v1, hp_v2⟩, h⟩ := chk_some h
  obtain ⟨q1, h1, h⟩ := ob_some h
  have hB1 := hB
  rcases hz1 : q1 with e1 | r1
  · replace h := ox_l hz1 h
    cases h
    exact hB1
  · replace h := ox_r hz1 h
    obtain ⟨q2, h2, h⟩ := ob_some h
    have hB2 := hB1
    rcases hz2 : q2 with e2 | r2
    · replace h := ox_l hz2 h
      cases h
      exact hB2
    · replace h := ox_r hz2 h
      obtain ⟨q3, h3, h⟩ := ob_some h
      have hB3 := hB2
      rcases hz3 : q3 with e3 | r3
      · replace h := ox_l hz3 h
        cases h
        exact hB3
      · replace h := ox_r hz3 h
        by_cases hc4 : v1 = v2
        · replace h := ite_t hc4 h
          cases h
          exact hB3
        · replace h := ite_f hc4 h
          obtain ⟨q5, h5, h⟩ := ob_some h
          have hB5 := hB3
          obtain ⟨hc6, h⟩ := chk_some h
          by_cases hc7 : q5 = 0
          · replace h := ite_t hc7 h
            by_cases hc8 : M 1 1 < 16
            · replace h := ite_t hc8 h
              obtain ⟨q9, h9, h⟩ := ob_some h
              have hB9 := bd_X0_save hB5 h9
              obtain ⟨q10, h10, h⟩ := ob_some h
              have hB10 := bd_X6_join hB9 sh_1 h10
              obtain ⟨q11, h11, h⟩ := ob_some h
              have hB11 := bd_X9_networkChanged hB10 h11
              cases h
              exact hB11
            · replace h := ite_f hc8 h
              cases h
              exact hB5
          · replace h := ite_f hc7 h
            cases h
            exact hB5
theorem bd_X9_removeLink {F : Nat} {v1 : Int} {M : Mem} (hB : Bd M) {res : (Nat ⊕ Int) × Mem} (h : f_X9_removeLink F v1 M = some res) : Bd res.2 := by
  rw [f_X9_removeLink] at h
  obtain ⟨q1, h1, h⟩ := ob_some h
  have hB1 := hB
  rcases hz1 : q1 with e1 | r1
  · replace h := ox_l hz1 h
    cases h
    exact hB1
  · replace h := ox_r hz1 h
    obtain ⟨q2, h2, h⟩ := ob_some h
    have hB2 := bd_X0_save hB1 h2
    obtain ⟨q3, h3, h⟩ := ob_some h
    have hB3 := bd_X6_drop hB2 sh_1 h3
    obtain ⟨q4, h4, h⟩ := ob_some h
    have hB4 := bd_X9_networkChanged hB3 h4
    cases h
    exact hB4
theorem bd_X9_setLength {F : Nat} {v1 : Int} {v2 : Int} {M : Mem} (hB : Bd M) {res : (Nat ⊕ Int) × Mem} (h : f_X9_setLength F v1 v2 M = some res) : Bd res.2 := by
  rw [f_X9_setLength] at h
  obtain ⟨hp_v2, h⟩ := chk_some h
  obtain ⟨q1, h1, h⟩ := ob_some h
  have hB1 := hB
  rcases hz1 : q1 with e1 | r1
  · replace h := ox_l hz1 h
    cases h
    exact hB1
  · replace h := ox_r hz1 h
    obtain ⟨q2, h2, h⟩ := ob_some h
    have hB2 := hB1
    rcases hz2 : q2 with e2 | r2
    · replace h := ox_l hz2 h
      cases h
      exact hB2
    · replace h := ox_r hz2 h
      obtain ⟨hc3, h⟩ := chk_some h
      obtain ⟨q4, h4, h⟩ := ob_some h
      have hB4 := bd_X0_save hB2 h4
      have hB5 := hB4.set 4 v1 (x := v2) hp_v2
      obtain ⟨q6, h6, h⟩ := ob_some h
      have hB6 := bd_X9_networkChanged hB5 h6
      cases h
      exact hB6
theorem bw_X9_setLabels_123 {res : (Nat ⊕ Int) × Mem} {F : Nat} : ∀ (M : Mem), Bd M → f_X9_setLabels_123 F M = some res → Bd res.2 := by
  intro M hB h
  rw [f_X9_setLabels_123] at h
  obtain ⟨q10, h10, h⟩ := ob_some h
  have hB10 := bd_X6_clearEntries hB sh_1 h10
  obtain ⟨hc11, h⟩ := chk_some h
  cases h
  exact hB10
theorem bw_X9_setLabels_21 {res : (Nat ⊕ Int) × Mem} {F : Nat} : ∀ (v1 : Int) (v2 : Int) (M : Mem), Bd M → f_X9_setLabels_21 F v1 v2 M = some res → Bd res.2 := by
  intro v1 v2 M hB h
  rw [f_X9_setLabels_21] at h
  obtain ⟨hp_v1, h⟩ := chk_some h
  obtain ⟨q4, h4, h⟩ := ob_some h
  have hB4 := bd_X0_save hB h4
  rcases (Decidable.em (v1 = 0)).symm with hc5 | hc5
  · replace h := ite_f hc5 h
    rcases (Decidable.em (v1 = 1)).symm with hc6 | hc6
    · replace h := ite_f hc6 h
      rcases (Decidable.em (v1 = 2)).symm with hc7 | hc7
      · replace h := ite_f hc7 h
        obtain ⟨q8, h8, h⟩ := ob_some h
        have hB8 := bd_X5_ensure hB4 h8
        obtain ⟨q9, h9, h⟩ := ob_some h
        have hB9 := bd_X5_copyBest hB8 h9
        exact bw_X9_setLabels_123 q9 hB9 h
      · replace h := ite_t hc7 h
        obtain ⟨q12, h12, h⟩ := ob_some h
        have hB12 := bd_X1_byRank hB4 h12
        exact bw_X9_setLabels_123 q12 hB12 h
    · replace h := ite_t hc6 h
      obtain ⟨q13, h13, h⟩ := ob_some h
      have hB13 := bd_X1_depthFirst hB4 h13
      exact bw_X9_setLabels_123 q13 hB13 h
  · replace h := ite_t hc5 h
    obtain ⟨q14, h14, h⟩ := ob_some h
    have hB14 := bd_X6_resetLabels hB4 sh_1 h14
    exact bw_X9_setLabels_123 q14 hB14 h
theorem bd_X9_setLabels {F : Nat} {v1 : Int} {v2 : Int} {M : Mem} (hB : Bd M) {res : (Nat ⊕ Int) × Mem} (h : f_X9_setLabels F v1 v2 M = some res) : Bd res.2 := by
  rw [f_X9_setLabels] at h
  obtain ⟨hp_v1, h⟩ := chk_some h
  obtain ⟨q1, h1, h⟩ := ob_some h
  have hB1 := hB
  rcases hz1 : q1 with e1 | r1
  · replace h := ox_l hz1 h
    cases h
    exact hB1
  · replace h := ox_r hz1 h
    obtain ⟨q2, h2, h⟩ := ob_some h
    have hB2 := hB1
    rcases hz2 : q2 with e2 | r2
    · replace h := ox_l hz2 h
      cases h
      exact hB2
    · replace h := ox_r hz2 h
      rcases (Decidable.em (v1 = 3)).symm with hc3 | hc3
      · replace h := ite_f hc3 h
        exact bw_X9_setLabels_21 v1 v2 M hB2 h
      · replace h := ite_t hc3 h
        obtain ⟨q15, h15, h⟩ := ob_some h
        have hB15 := hB2
        rcases hz15 : q15 with e15 | r15
        · replace h := ox_l hz15 h
          cases h
          exact hB15
        · replace h := ox_r hz15 h
          exact bw_X9_setLabels_21 v1 v2 M hB15 h
theorem bd_X9_swapLabels {F : Nat} {v1 : Int} {v2 : Int} {M : Mem} (hB : Bd M) {res : (Nat ⊕ Int) × Mem} (h : f_X9_swapLabels F v1 v2 M = some res) : Bd res.2 := by
  rw [f_X9_swapLabels] at h
  obtain ⟨q1, h1, h⟩ := ob_some h
  have hB1 := hB
  rcases hz1 : q1 with e1 | r1
  · replace h := ox_l hz1 h
    cases h
    exact hB1
  · replace h := ox_r hz1 h
    obtain ⟨q2, h2, h⟩ := ob_some h
    have hB2 := hB1
    rcases hz2 : q2 with e2 | r2
    · replace h := ox_l hz2 h
      cases h
      exact hB2
    · replace h := ox_r hz2 h
      obtain ⟨q3, h3, h⟩ := ob_some h
      have hB3 := bd_X0_save hB2 h3
      obtain ⟨q4, h4, h⟩ := ob_some h
      have hB4 := bd_X6_exchangeLabels hB3 sh_1 h4
      obtain ⟨q5, h5, h⟩ := ob_some h
      have hB5 := bd_X6_clearEntries hB4 sh_1 h5
      obtain ⟨hc6, h⟩ := chk_some h
      cases h
      exact hB5
theorem bw_X9_turn_41 {res : (Nat ⊕ Int) × Mem} {F : Nat} : ∀ (fu : Nat) (v1 : Int) (v2 : Int) (M : Mem), Bd M → f_X9_turn_41 F fu v1 v2 M = some res → Bd res.2 := by
  intro fu
  induction fu with
  | zero => intro v1 v2 M hB h; exact nomatch (show (none : Option ((Nat ⊕ Int) × Mem)) = some res from h)
  | succ fu ih =>
    intro v1 v2 M hB h
    rw [f_X9_turn_41] at h
    obtain ⟨hp_v2, h⟩ := chk_some h
    by_cases hc4 : M 1 0 ≤ v2
    · replace h := ite_t hc4 h
      obtain ⟨q5, h5, h⟩ := ob_some h
      have hB5 := bd_X6_clearEntries hB sh_1 h5
      cases h
      exact hB5
    · replace h := ite_f hc4 h
      obtain ⟨hc6, h⟩ := chk_some h
      obtain ⟨hc7, h⟩ := chk_some h
      obtain ⟨hc8, h⟩ := chk_some h
      have hB9 := hB.set 5 v2 (x := ((M 5 v2) + v1) % (M 1 0)) hc8
      exact ih v1 (v2 + 1) (mset M 5 v2 (((M 5 v2) + v1) % (M 1 0))) hB9 h
theorem bd_X9_turn {F : Nat} {v1 : Int} {M : Mem} (hB : Bd M) {res : (Nat ⊕ Int) × Mem} (h : f_X9_turn F v1 M = some res) : Bd res.2 := by
  rw [f_X9_turn] at h
  obtain ⟨q1, h1, h⟩ := ob_some h
  have hB1 := hB
  rcases hz1 : q1 with e1 | r1
  · replace h := ox_l hz1 h
    cases h
    exact hB1
  · replace h := ox_r hz1 h
    rcases (Decidable.em (M 1 0 = 0)).symm with hc2 | hc2
    · replace h := ite_f hc2 h
      obtain ⟨q3, h3, h⟩ := ob_some h
      have hB3 := bd_X0_save hB1 h3
      exact bw_X9_turn_41 F v1 0 q3 hB3 h
    · replace h := ite_t hc2 h
      cases h
      exact hB1
theorem bd_X9_shuffle {F : Nat} {v1 : Int} {M : Mem} (hB : Bd M) {res : (Nat ⊕ Int) × Mem} (h : f_X9_shuffle F v1 M = some res) : Bd res.2 := by
  rw [f_X9_shuffle] at h
  obtain ⟨q1, h1, h⟩ := ob_some h
  have hB1 := hB
  rcases hz1 : q1 with e1 | r1
  · replace h := ox_l hz1 h
    cases h
    exact hB1
  · replace h := ox_r hz1 h
    obtain ⟨q2, h2, h⟩ := ob_some h
    have hB2 := bd_X0_save hB1 h2
    obtain ⟨q3, h3, h⟩ := ob_some h
    have hB3 := bd_X1_atRandom hB2 h3
    obtain ⟨q4, h4, h⟩ := ob_some h
    have hB4 := bd_X6_clearEntries hB3 sh_1 h4
    rcases (Decidable.em (q4 1 0 = 0)).symm with hc5 | hc5
    · replace h := ite_f hc5 h
      cases h
      exact hB4
    · replace h := ite_t hc5 h
      cases h
      exact hB4
theorem bw_X9_makeTables_36 {res : Int × Mem} {F : Nat} : ∀ (fu : Nat) (v1 : Int) (v2 : Int) (M : Mem), Bd M → f_X9_makeTables_36 F fu v1 v2 M = some res → Bd res.2 := by
  intro fu
  induction fu with
  | zero => intro v1 v2 M hB h; exact nomatch (show (none : Option (Int × Mem)) = some res from h)
  | succ fu ih =>
    intro v1 v2 M hB h
    rw [f_X9_makeTables_36] at h
    obtain ⟨hp_v2, h⟩ := chk_some h
    by_cases hc3 : M 1 0 ≤ v2
    · replace h := ite_t hc3 h
      cases h
      exact hB
    · replace h := ite_f hc3 h
      obtain ⟨hc4, h⟩ := chk_some h
      obtain ⟨q5, h5, h⟩ := ob_some h
      have hB5 := bd_X7_fill hB sh_44 h5
      obtain ⟨q6, h6, h⟩ := ob_some h
      have hB6 := bd_X6_storeTable hB5 sh_1 h6
      obtain ⟨q7, h7, h⟩ := ob_some h
      have hB7 := hB6
      exact ih (v1 + q7) (v2 + 1) q6 hB7 h
theorem bd_X9_makeTables {F : Nat} {M : Mem} (hB : Bd M) {res : Int × Mem} (h : f_X9_makeTables F M = some res) : Bd res.2 := by
  rw [f_X9_makeTables] at h
  obtain ⟨q1, h1, h⟩ := ob_some h
  have hB1 := bd_X0_save hB h1
  obtain ⟨q2, h2, h⟩ := ob_some h
  have hB2 := bd_X7_seat hB1 (ia_of sh_5) h2
  exact bw_X9_makeTables_36 F 0 0 q2 hB2 h
theorem bw_X9_setRange_15 {res : (Nat ⊕ Int) × Mem} {F : Nat} : ∀ (v1 : Int) (v2 : Int) (v3 : Int) (v4 : Int) (M : Mem), Bd M → f_X9_setRange_15 F v1 v2 v3 v4 M = some res → Bd res.2 := by
  intro v1 v2 v3 v4 M hB h
  rw [f_X9_setRange_15] at h
  obtain ⟨hp_v2, h⟩ := chk_some h
  obtain ⟨q3, h3, h⟩ := ob_some h
  have hB3 := hB
  rcases hz3 : q3 with e3 | r3
  · replace h := ox_l hz3 h
    cases h
    exact hB3
  · replace h := ox_r hz3 h
    obtain ⟨q4, h4, h⟩ := ob_some h
    have hB4 := hB3
    rcases hz4 : q4 with e4 | r4
    · replace h := ox_l hz4 h
      cases h
      exact hB4
    · replace h := ox_r hz4 h
      by_cases hc5 : v2 = (-1)
      · replace h := ite_t hc5 h
        obtain ⟨q6, h6, h⟩ := ob_some h
        have hB6 := bd_X0_save hB4 h6
        obtain ⟨q7, h7, h⟩ := ob_some h
        have hB7 := bd_X6_setInterval hB6 sh_1 h7
        cases h
        exact hB7
      · replace h := ite_f hc5 h
        obtain ⟨q8, h8, h⟩ := ob_some h
        have hB8 := hB4
        obtain ⟨hc9, h⟩ := chk_some h
        rcases (Decidable.em (q8 = 0)).symm with hc10 | hc10
        · replace h := ite_f hc10 h
          obtain ⟨q11, h11, h⟩ := ob_some h
          have hB11 := bd_X0_save hB8 h11
          obtain ⟨q12, h12, h⟩ := ob_some h
          have hB12 := bd_X6_setInterval hB11 sh_1 h12
          cases h
          exact hB12
        · replace h := ite_t hc10 h
          cases h
          exact hB8
theorem bd_X9_setRange {F : Nat} {v1 : Int} {v2 : Int} {v3 : Int} {v4 : Int} {M : Mem} (hB : Bd M) {res : (Nat ⊕ Int) × Mem} (h : f_X9_setRange F v1 v2 v3 v4 M = some res) : Bd res.2 := by
  rw [f_X9_setRange] at h
  obtain ⟨hp_v2, h⟩ := chk_some h
  obtain ⟨q1, h1, h⟩ := ob_some h
  have hB1 := hB
  rcases hz1 : q1 with e1 | r1
  · replace h := ox_l hz1 h
    cases h
    exact hB1
  · replace h := ox_r hz1 h
    by_cases hc2 : v2 = (-1)
    · replace h := ite_t hc2 h
      exact bw_X9_setRange_15 v1 v2 v3 v4 M hB1 h
    · replace h := ite_f hc2 h
      obtain ⟨q13, h13, h⟩ := ob_some h
      have hB13 := hB1
      rcases hz13 : q13 with e13 | r13
      · replace h := ox_l hz13 h
        cases h
        exact hB13
      · replace h := ox_r hz13 h
        exact bw_X9_setRange_15 v1 v2 v3 v4 M hB13 h
theorem bd_X9_runs {F : Nat} {v1 : Int} {v2 : Int} {M : Mem} (hB : Bd M) {res : (Nat ⊕ Int) × Mem} (h : f_X9_runs F v1 v2 M = some res) : Bd res.2 := by
  rw [f_X9_runs] at h
  obtain ⟨q1, h1, h⟩ := ob_some h
  have hB1 := hB
  rcases hz1 : q1 with e1 | r1
  · replace h := ox_l hz1 h
    cases h
    exact hB1
  · replace h := ox_r hz1 h
    obtain ⟨q2, h2, h⟩ := ob_some h
    have hB2 := hB1
    rcases hz2 : q2 with e2 | r2
    · replace h := ox_l hz2 h
      cases h
      exact hB2
    · replace h := ox_r hz2 h
      obtain ⟨q3, h3, h⟩ := ob_some h
      have hB3 := hB2
      obtain ⟨hc4, h⟩ := chk_some h
      rcases (Decidable.em (q3 = 0)).symm with hc5 | hc5
      · replace h := ite_f hc5 h
        obtain ⟨q6, h6, h⟩ := ob_some h
        have hB6 := bd_X4_read hB3 sh_44 h6
        obtain ⟨q7, h7, h⟩ := ob_some h
        have hB7 := hB6
        cases h
        exact hB7
      · replace h := ite_t hc5 h
        cases h
        exact hB3
theorem bd_X9_runEnd {F : Nat} {v1 : Int} {v2 : Int} {v3 : Int} {v4 : Int} {M : Mem} (hB : Bd M) {res : (Nat ⊕ Int) × Mem} (h : f_X9_runEnd F v1 v2 v3 v4 M = some res) : Bd res.2 := by
  rw [f_X9_runEnd] at h
  obtain ⟨hp_v4, h⟩ := chk_some h
  obtain ⟨q1, h1, h⟩ := ob_some h
  have hB1 := hB
  rcases hz1 : q1 with e1 | r1
  · replace h := ox_l hz1 h
    cases h
    exact hB1
  · replace h := ox_r hz1 h
    obtain ⟨q2, h2, h⟩ := ob_some h
    have hB2 := hB1
    rcases hz2 : q2 with e2 | r2
    · replace h := ox_l hz2 h
      cases h
      exact hB2
    · replace h := ox_r hz2 h
      obtain ⟨q3, h3, h⟩ := ob_some h
      have hB3 := hB2
      obtain ⟨hc4, h⟩ := chk_some h
      rcases (Decidable.em (q3 = 0)).symm with hc5 | hc5
      · replace h := ite_f hc5 h
        obtain ⟨q6, h6, h⟩ := ob_some h
        have hB6 := bd_X4_read hB3 sh_44 h6
        obtain ⟨q7, h7, h⟩ := ob_some h
        have hB7 := hB6
        obtain ⟨hc8, h⟩ := chk_some h
        rcases (Decidable.em (q7 = (-1))).symm with hc9 | hc9
        · replace h := ite_f hc9 h
          by_cases hc10 : v4 = 0
          · replace h := ite_t hc10 h
            obtain ⟨hc11, h⟩ := chk_some h
            obtain ⟨q12, h12, h⟩ := ob_some h
            have hB12 := hB7
            cases h
            exact hB12
          · replace h := ite_f hc10 h
            obtain ⟨q13, h13, h⟩ := ob_some h
            have hB13 := hB7
            obtain ⟨hc14, h⟩ := chk_some h
            obtain ⟨q15, h15, h⟩ := ob_some h
            have hB15 := hB13
            cases h
            exact hB15
        · replace h := ite_t hc9 h
          cases h
          exact hB7
      · replace h := ite_t hc5 h
        cases h
        exact hB3
theorem bw_X9_networkSize_4 {res : Int × Mem} {F : Nat} : ∀ (fu : Nat) (v1 : Int) (v2 : Int) (M : Mem), Bd M → f_X9_networkSize_4 F fu v1 v2 M = some res → Bd res.2 := by
  intro fu
  induction fu with
  | zero => intro v1 v2 M hB h; exact nomatch (show (none : Option (Int × Mem)) = some res from h)
  | succ fu ih =>
    intro v1 v2 M hB h
    rw [f_X9_networkSize_4] at h
    obtain ⟨hp_v2, h⟩ := chk_some h
    by_cases hc1 : M 1 0 ≤ v2
    · replace h := ite_t hc1 h
      cases h
      exact hB
    · replace h := ite_f hc1 h
      obtain ⟨q2, h2, h⟩ := ob_some h
      have hB2 := bd_X4_read hB sh_44 h2
      obtain ⟨q3, h3, h⟩ := ob_some h
      have hB3 := hB2
      exact ih (v1 + q3) (v2 + 1) q2 hB3 h
theorem bd_X9_networkSize {F : Nat} {M : Mem} (hB : Bd M) {res : Int × Mem} (h : f_X9_networkSize F M = some res) : Bd res.2 := by
  rw [f_X9_networkSize] at h
  exact bw_X9_networkSize_4 F 0 0 M hB h
theorem bd_X9_tableSize {F : Nat} {v1 : Int} {M : Mem} (hB : Bd M) {res : (Nat ⊕ Int) × Mem} (h : f_X9_tableSize F v1 M = some res) : Bd res.2 := by
  rw [f_X9_tableSize] at h
  obtain ⟨hp_v1, h⟩ := chk_some h
  rcases (Decidable.em (v1 = (-1))).symm with hc1 | hc1
  · replace h := ite_f hc1 h
    obtain ⟨q2, h2, h⟩ := ob_some h
    have hB2 := hB
    rcases hz2 : q2 with e2 | r2
    · replace h := ox_l hz2 h
      cases h
      exact hB2
    · replace h := ox_r hz2 h
      obtain ⟨q3, h3, h⟩ := ob_some h
      have hB3 := bd_X4_read hB2 sh_44 h3
      obtain ⟨q4, h4, h⟩ := ob_some h
      have hB4 := hB3
      cases h
      exact hB4
  · replace h := ite_t hc1 h
    obtain ⟨q5, h5, h⟩ := ob_some h
    have hB5 := bd_X9_networkSize hB h5
    cases h
    exact hB5
theorem bw_X9_compactness_4 {res : Int × Mem} {F : Nat} : ∀ (fu : Nat) (v1 : Int) (v2 : Int) (M : Mem), Bd M → f_X9_compactness_4 F fu v1 v2 M = some res → Bd res.2 := by
  intro fu
  induction fu with
  | zero => intro v1 v2 M hB h; exact nomatch (show (none : Option (Int × Mem)) = some res from h)
  | succ fu ih =>
    intro v1 v2 M hB h
    rw [f_X9_compactness_4] at h
    obtain ⟨⟨hp_v1, hp_v2⟩, h⟩ := chk_some h
    by_cases hc1 : M 1 0 ≤ v2
    · replace h := ite_t hc1 h
      cases h
      exact hB
    · replace h := ite_f hc1 h
      obtain ⟨q2, h2, h⟩ := ob_some h
      have hB2 := bd_X4_read hB sh_44 h2
      obtain ⟨q3, h3, h⟩ := ob_some h
      have hB3 := hB2
      obtain ⟨hc4, h⟩ := chk_some h
      exact ih (imax v1 q3) (v2 + 1) q2 hB3 h
theorem bd_X9_compactness {F : Nat} {M : Mem} (hB : Bd M) {res : Int × Mem} (h : f_X9_compactness F M = some res) : Bd res.2 := by
  rw [f_X9_compactness] at h
  exact bw_X9_compactness_4 F 0 0 M hB h
theorem bd_X9_bestSize {F : Nat} {v1 : Int} {M : Mem} (hB : Bd M) {res : (Nat ⊕ Int) × Mem} (h : f_X9_bestSize F v1 M = some res) : Bd res.2 := by
  rw [f_X9_bestSize] at h
  obtain ⟨q1, h1, h⟩ := ob_some h
  have hB1 := hB
  rcases hz1 : q1 with e1 | r1
  · replace h := ox_l hz1 h
    cases h
    exact hB1
  · replace h := ox_r hz1 h
    obtain ⟨q2, h2, h⟩ := ob_some h
    have hB2 := bd_X7_seat hB1 (ia_of sh_5) h2
    obtain ⟨hc3, h⟩ := chk_some h
    obtain ⟨q4, h4, h⟩ := ob_some h
    have hB4 := bd_X7_fill hB2 sh_44 h4
    obtain ⟨q5, h5, h⟩ := ob_some h
    have hB5 := hB4
    cases h
    exact hB5
theorem bd_X9_send {F : Nat} {v1 : Int} {v2 : Int} {M : Mem} (hB : Bd M) {res : (Nat ⊕ Int) × Mem} (h : f_X9_send F v1 v2 M = some res) : Bd res.2 := by
  rw [f_X9_send] at h
  obtain ⟨q1, h1, h⟩ := ob_some h
  have hB1 := hB
  rcases hz1 : q1 with e1 | r1
  · replace h := ox_l hz1 h
    cases h
    exact hB1
  · replace h := ox_r hz1 h
    obtain ⟨q2, h2, h⟩ := ob_some h
    have hB2 := hB1
    rcases hz2 : q2 with e2 | r2
    · replace h := ox_l hz2 h
      cases h
      exact hB2
    · replace h := ox_r hz2 h
      obtain ⟨q3, h3, h⟩ := ob_some h
      have hB3 := bd_X2_travel hB2 h3
      by_cases hc4 : q3 57 0 = 0
      · replace h := ite_t hc4 h
        cases h
        exact hB3
      · replace h := ite_f hc4 h
        cases h
        exact hB3
theorem bd_X9_wayNode {F : Nat} {v1 : Int} {v2 : Int} {v3 : Int} {M : Mem} (hB : Bd M) {res : (Nat ⊕ Int) × Mem} (h : f_X9_wayNode F v1 v2 v3 M = some res) : Bd res.2 := by
  rw [f_X9_wayNode] at h
  obtain ⟨hp_v3, h⟩ := chk_some h
  obtain ⟨q1, h1, h⟩ := ob_some h
  have hB1 := hB
  rcases hz1 : q1 with e1 | r1
  · replace h := ox_l hz1 h
    cases h
    exact hB1
  · replace h := ox_r hz1 h
    obtain ⟨q2, h2, h⟩ := ob_some h
    have hB2 := hB1
    rcases hz2 : q2 with e2 | r2
    · replace h := ox_l hz2 h
      cases h
      exact hB2
    · replace h := ox_r hz2 h
      by_cases hc3 : 0 ≤ v3
      · replace h := ite_t hc3 h
        obtain ⟨q4, h4, h⟩ := ob_some h
        have hB4 := bd_X2_travel hB2 h4
        by_cases hc5 : q4 57 2 ≤ v3
        · replace h := ite_t hc5 h
          cases h
          exact hB4
        · replace h := ite_f hc5 h
          obtain ⟨hc6, h⟩ := chk_some h
          cases h
          exact hB4
      · replace h := ite_f hc3 h
        cases h
        exact hB2
theorem bd_X9_arrives {F : Nat} {v1 : Int} {v2 : Int} {v3 : Int} {M : Mem} (hB : Bd M) {res : Int × Mem} (h : f_X9_arrives F v1 v2 v3 M = some res) : Bd res.2 := by
  rw [f_X9_arrives] at h
  obtain ⟨q1, h1, h⟩ := ob_some h
  have hB1 := bd_X2_travel hB h1
  obtain ⟨hc2, h⟩ := chk_some h
  cases h
  exact hB1
theorem bw_X9_arriving_17 {res : Int × Mem} {F : Nat} {k4 : Int → Int → Mem → Option (Int × Mem)} (hk4 : ∀ (v1 : Int) (v2 : Int) (M : Mem), Bd M → k4 v1 v2 M = some res → Bd res.2) : ∀ (fu : Nat) (v1 : Int) (v2 : Int) (v3 : Int) (M : Mem), Bd M → f_X9_arriving_17 F k4 fu v1 v2 v3 M = some res → Bd res.2 := by
  intro fu
  induction fu with
  | zero => intro v1 v2 v3 M hB h; exact nomatch (show (none : Option (Int × Mem)) = some res from h)
  | succ fu ih =>
    intro v1 v2 v3 M hB h
    rw [f_X9_arriving_17] at h
    obtain ⟨⟨hp_v2, hp_v3⟩, h⟩ := chk_some h
    by_cases hc2 : M 1 0 ≤ v3
    · replace h := ite_t hc2 h
      exact hk4 v1 (v2 + 1) M hB h
    · replace h := ite_f hc2 h
      by_cases hc3 : v2 = v3
      · replace h := ite_t hc3 h
        exact ih v1 v2 (v3 + 1) M hB h
      · replace h := ite_f hc3 h
        obtain ⟨q4, h4, h⟩ := ob_some h
        have hB4 := bd_X9_arrives hB h4
        obtain ⟨hc5, h⟩ := chk_some h
        by_cases hc6 : q4.1 = 0
        · replace h := ite_t hc6 h
          exact ih v1 v2 (v3 + 1) q4.2 hB4 h
        · replace h := ite_f hc6 h
          exact ih (v1 + 1) v2 (v3 + 1) q4.2 hB4 h
theorem bw_X9_arriving_4 {res : Int × Mem} {F : Nat} : ∀ (fu : Nat) (v1 : Int) (v2 : Int) (M : Mem), Bd M → f_X9_arriving_4 F fu v1 v2 M = some res → Bd res.2 := by
  intro fu
  induction fu with
  | zero => intro v1 v2 M hB h; exact nomatch (show (none : Option (Int × Mem)) = some res from h)
  | succ fu ih =>
    intro v1 v2 M hB h
    rw [f_X9_arriving_4] at h
    obtain ⟨hp_v2, h⟩ := chk_some h
    by_cases hc1 : M 1 0 ≤ v2
    · replace h := ite_t hc1 h
      cases h
      exact hB
    · replace h := ite_f hc1 h
      exact bw_X9_arriving_17 ih F v1 v2 0 M hB h
theorem bd_X9_arriving {F : Nat} {M : Mem} (hB : Bd M) {res : Int × Mem} (h : f_X9_arriving F M = some res) : Bd res.2 := by
  rw [f_X9_arriving] at h
  exact bw_X9_arriving_4 F 0 0 M hB h
theorem bw_X9_stretch_18 {res : UInt64 × Mem} {F : Nat} {k4 : UInt64 → Int → Mem → Option (UInt64 × Mem)} (hk4 : ∀ (v1 : UInt64) (v3 : Int) (M : Mem), Bd M → k4 v1 v3 M = some res → Bd res.2) : ∀ (fu : Nat) (v1 : UInt64) (v3 : Int) (v4 : Int) (M : Mem), Bd M → f_X9_stretch_18 F k4 fu v1 v3 v4 M = some res → Bd res.2 := by
  intro fu
  induction fu with
  | zero => intro v1 v3 v4 M hB h; exact nomatch (show (none : Option (UInt64 × Mem)) = some res from h)
  | succ fu ih =>
    intro v1 v3 v4 M hB h
    rw [f_X9_stretch_18] at h
    obtain ⟨hp_v4, h⟩ := chk_some h
    by_cases hc2 : M 1 0 ≤ v4
    · replace h := ite_t hc2 h
      exact hk4 v1 (v3 + 1) M hB h
    · replace h := ite_f hc2 h
      obtain ⟨q3, h3, h⟩ := ob_some h
      have hB3 := hB
      obtain ⟨hc4, h⟩ := chk_some h
      by_cases hc5 : q3 ≤ 0
      · replace h := ite_t hc5 h
        exact ih v1 v3 (v4 + 1) M hB3 h
      · replace h := ite_f hc5 h
        obtain ⟨q6, h6, h⟩ := ob_some h
        have hB6 := bd_X9_arrives hB3 h6
        obtain ⟨hc7, h⟩ := chk_some h
        by_cases hc8 : q6.1 = 0
        · replace h := ite_t hc8 h
          exact ih v1 v3 (v4 + 1) q6.2 hB6 h
        · replace h := ite_f hc8 h
          obtain ⟨hc9, h⟩ := chk_some h
          by_cases hc10 : (Op.cmpValue (FP.dcmp (FP.ddiv (FP.i2d (iI (q6.2 57 1))) (FP.i2d (iI q3))) v1) .l).toInt ≤ 0
          · replace h := ite_t hc10 h
            exact ih v1 v3 (v4 + 1) q6.2 hB6 h
          · replace h := ite_f hc10 h
            exact ih (FP.ddiv (FP.i2d (iI (q6.2 57 1))) (FP.i2d (iI q3))) v3 (v4 + 1) q6.2 hB6 h
theorem bw_X9_stretch_4 {res : UInt64 × Mem} {F : Nat} : ∀ (fu : Nat) (v1 : UInt64) (v3 : Int) (M : Mem), Bd M → f_X9_stretch_4 F fu v1 v3 M = some res → Bd res.2 := by
  intro fu
  induction fu with
  | zero => intro v1 v3 M hB h; exact nomatch (show (none : Option (UInt64 × Mem)) = some res from h)
  | succ fu ih =>
    intro v1 v3 M hB h
    rw [f_X9_stretch_4] at h
    obtain ⟨hp_v3, h⟩ := chk_some h
    by_cases hc1 : M 1 0 ≤ v3
    · replace h := ite_t hc1 h
      cases h
      exact hB
    · replace h := ite_f hc1 h
      exact bw_X9_stretch_18 ih F v1 v3 0 M hB h
theorem bd_X9_stretch {F : Nat} {M : Mem} (hB : Bd M) {res : UInt64 × Mem} (h : f_X9_stretch F M = some res) : Bd res.2 := by
  rw [f_X9_stretch] at h
  exact bw_X9_stretch_4 F 0 0 M hB h
theorem bw_X9_load_23 {res : (Nat ⊕ Int) × Mem} {F : Nat} {k9 : Int → Int → Int → Mem → Option ((Nat ⊕ Int) × Mem)} (hk9 : ∀ (v1 : Int) (v2 : Int) (v3 : Int) (M : Mem), Bd M → k9 v1 v2 v3 M = some res → Bd res.2) : ∀ (fu : Nat) (v1 : Int) (v2 : Int) (v3 : Int) (v4 : Int) (M : Mem), Bd M → f_X9_load_23 F k9 fu v1 v2 v3 v4 M = some res → Bd res.2 := by
  intro fu
  induction fu with
  | zero => intro v1 v2 v3 v4 M hB h; exact nomatch (show (none : Option ((Nat ⊕ Int) × Mem)) = some res from h)
  | succ fu ih =>
    intro v1 v2 v3 v4 M hB h
    rw [f_X9_load_23] at h
    obtain ⟨⟨hp_v3, hp_v4⟩, h⟩ := chk_some h
    by_cases hc3 : M 1 0 ≤ v4
    · replace h := ite_t hc3 h
      exact hk9 v1 v2 (v3 + 1) M hB h
    · replace h := ite_f hc3 h
      by_cases hc4 : v3 = v4
      · replace h := ite_t hc4 h
        exact ih v1 v2 v3 (v4 + 1) M hB h
      · replace h := ite_f hc4 h
        obtain ⟨q5, h5, h⟩ := ob_some h
        have hB5 := bd_X9_arrives hB h5
        obtain ⟨hc6, h⟩ := chk_some h
        by_cases hc7 : q5.1 = 0
        · replace h := ite_t hc7 h
          exact ih v1 v2 v3 (v4 + 1) q5.2 hB5 h
        · replace h := ite_f hc7 h
          obtain ⟨q8, h8, h⟩ := ob_some h
          have hB8 := hB5
          obtain ⟨hc9, h⟩ := chk_some h
          by_cases hc10 : q8 = 0
          · replace h := ite_t hc10 h
            exact ih v1 v2 v3 (v4 + 1) q5.2 hB8 h
          · replace h := ite_f hc10 h
            exact ih v1 (v2 + 1) v3 (v4 + 1) q5.2 hB8 h
theorem bw_X9_load_9 {res : (Nat ⊕ Int) × Mem} {F : Nat} : ∀ (fu : Nat) (v1 : Int) (v2 : Int) (v3 : Int) (M : Mem), Bd M → f_X9_load_9 F fu v1 v2 v3 M = some res → Bd res.2 := by
  intro fu
  induction fu with
  | zero => intro v1 v2 v3 M hB h; exact nomatch (show (none : Option ((Nat ⊕ Int) × Mem)) = some res from h)
  | succ fu ih =>
    intro v1 v2 v3 M hB h
    rw [f_X9_load_9] at h
    obtain ⟨hp_v3, h⟩ := chk_some h
    by_cases hc2 : M 1 0 ≤ v3
    · replace h := ite_t hc2 h
      cases h
      exact hB
    · replace h := ite_f hc2 h
      exact bw_X9_load_23 ih F v1 v2 v3 0 M hB h
theorem bd_X9_load {F : Nat} {v1 : Int} {M : Mem} (hB : Bd M) {res : (Nat ⊕ Int) × Mem} (h : f_X9_load F v1 M = some res) : Bd res.2 := by
  rw [f_X9_load] at h
  obtain ⟨q1, h1, h⟩ := ob_some h
  have hB1 := hB
  rcases hz1 : q1 with e1 | r1
  · replace h := ox_l hz1 h
    cases h
    exact hB1
  · replace h := ox_r hz1 h
    exact bw_X9_load_9 F v1 0 0 M hB1 h
theorem bw_X9_lostWithout_23 {res : (Nat ⊕ Int) × Mem} {F : Nat} {k9 : Int → Int → Int → Mem → Option ((Nat ⊕ Int) × Mem)} (hk9 : ∀ (v1 : Int) (v2 : Int) (v3 : Int) (M : Mem), Bd M → k9 v1 v2 v3 M = some res → Bd res.2) : ∀ (fu : Nat) (v1 : Int) (v2 : Int) (v3 : Int) (v4 : Int) (M : Mem), Bd M → f_X9_lostWithout_23 F k9 fu v1 v2 v3 v4 M = some res → Bd res.2 := by
  intro fu
  induction fu with
  | zero => intro v1 v2 v3 v4 M hB h; exact nomatch (show (none : Option ((Nat ⊕ Int) × Mem)) = some res from h)
  | succ fu ih =>
    intro v1 v2 v3 v4 M hB h
    rw [f_X9_lostWithout_23] at h
    obtain ⟨⟨hp_v3, hp_v4⟩, h⟩ := chk_some h
    by_cases hc3 : M 1 0 ≤ v4
    · replace h := ite_t hc3 h
      exact hk9 v1 v2 (v3 + 1) M hB h
    · replace h := ite_f hc3 h
      by_cases hc4 : v3 = v4
      · replace h := ite_t hc4 h
        exact ih v1 v2 v3 (v4 + 1) M hB h
      · replace h := ite_f hc4 h
        obtain ⟨q5, h5, h⟩ := ob_some h
        have hB5 := bd_X9_arrives hB h5
        obtain ⟨hc6, h⟩ := chk_some h
        by_cases hc7 : q5.1 = 0
        · replace h := ite_t hc7 h
          exact ih v1 v2 v3 (v4 + 1) q5.2 hB5 h
        · replace h := ite_f hc7 h
          obtain ⟨q8, h8, h⟩ := ob_some h
          have hB8 := bd_X9_arrives hB5 h8
          obtain ⟨hc9, h⟩ := chk_some h
          rcases (Decidable.em (q8.1 = 0)).symm with hc10 | hc10
          · replace h := ite_f hc10 h
            exact ih v1 v2 v3 (v4 + 1) q8.2 hB8 h
          · replace h := ite_t hc10 h
            exact ih v1 (v2 + 1) v3 (v4 + 1) q8.2 hB8 h
theorem bw_X9_lostWithout_9 {res : (Nat ⊕ Int) × Mem} {F : Nat} : ∀ (fu : Nat) (v1 : Int) (v2 : Int) (v3 : Int) (M : Mem), Bd M → f_X9_lostWithout_9 F fu v1 v2 v3 M = some res → Bd res.2 := by
  intro fu
  induction fu with
  | zero => intro v1 v2 v3 M hB h; exact nomatch (show (none : Option ((Nat ⊕ Int) × Mem)) = some res from h)
  | succ fu ih =>
    intro v1 v2 v3 M hB h
    rw [f_X9_lostWithout_9] at h
    obtain ⟨hp_v3, h⟩ := chk_some h
    by_cases hc2 : M 1 0 ≤ v3
    · replace h := ite_t hc2 h
      cases h
      exact hB
    · replace h := ite_f hc2 h
      exact bw_X9_lostWithout_23 ih F v1 v2 v3 0 M hB h
theorem bd_X9_lostWithout {F : Nat} {v1 : Int} {M : Mem} (hB : Bd M) {res : (Nat ⊕ Int) × Mem} (h : f_X9_lostWithout F v1 M = some res) : Bd res.2 := by
  rw [f_X9_lostWithout] at h
  obtain ⟨q1, h1, h⟩ := ob_some h
  have hB1 := hB
  rcases hz1 : q1 with e1 | r1
  · replace h := ox_l hz1 h
    cases h
    exact hB1
  · replace h := ox_r hz1 h
    exact bw_X9_lostWithout_9 F v1 0 0 M hB1 h
theorem bd_X9_bestCompactness {F : Nat} {M : Mem} (hB : Bd M) {res : (Nat ⊕ Int) × Mem} (h : f_X9_bestCompactness F M = some res) : Bd res.2 := by
  rw [f_X9_bestCompactness] at h
  obtain ⟨q1, h1, h⟩ := ob_some h
  have hB1 := hB
  rcases hz1 : q1 with e1 | r1
  · replace h := ox_l hz1 h
    cases h
    exact hB1
  · replace h := ox_r hz1 h
    obtain ⟨q2, h2, h⟩ := ob_some h
    have hB2 := bd_X5_ensure hB1 h2
    cases h
    exact hB2
theorem bd_X9_labelings {F : Nat} {v1 : Int} {M : Mem} (hB : Bd M) {res : (Nat ⊕ Int) × Mem} (h : f_X9_labelings F v1 M = some res) : Bd res.2 := by
  rw [f_X9_labelings] at h
  obtain ⟨q1, h1, h⟩ := ob_some h
  have hB1 := hB
  rcases hz1 : q1 with e1 | r1
  · replace h := ox_l hz1 h
    cases h
    exact hB1
  · replace h := ox_r hz1 h
    obtain ⟨q2, h2, h⟩ := ob_some h
    have hB2 := hB1
    rcases hz2 : q2 with e2 | r2
    · replace h := ox_l hz2 h
      cases h
      exact hB2
    · replace h := ox_r hz2 h
      obtain ⟨q3, h3, h⟩ := ob_some h
      have hB3 := bd_X5_ensure hB2 h3
      obtain ⟨q4, h4, h⟩ := ob_some h
      have hB4 := hB3
      cases h
      exact hB4
theorem bd_X9_append {v1 : Int} {M : Mem} (hB : Bd M) {res : (Nat ⊕ Int) × Mem} (h : f_X9_append v1 M = some res) : Bd res.2 := by
  rw [f_X9_append] at h
  obtain ⟨q1, h1, h⟩ := ob_some h
  have hB1 := hB
  rcases hz1 : q1 with e1 | r1
  · replace h := ox_l hz1 h
    cases h
    exact hB1
  · replace h := ox_r hz1 h
    by_cases hc2 : M 62 0 < 100
    · replace h := ite_t hc2 h
      obtain ⟨q3, h3, h⟩ := ob_some h
      have hB3 := bd_X3_put hB1 h3
      cases h
      exact hB3
    · replace h := ite_f hc2 h
      cases h
      exact hB1
theorem bd_X9_clearText {M : Mem} (hB : Bd M) {res : Int × Mem} (h : f_X9_clearText M = some res) : Bd res.2 := by
  rw [f_X9_clearText] at h
  have hB1 := hB.set 62 0 (x := 0) (by decide)
  cases h
  exact hB1
theorem bd_X9_parse {F : Nat} {M : Mem} (hB : Bd M) {res : Int × Mem} (h : f_X9_parse F M = some res) : Bd res.2 := by
  rw [f_X9_parse] at h
  obtain ⟨q1, h1, h⟩ := ob_some h
  have hB1 := bd_X3_readInto hB h1
  obtain ⟨hc2, h⟩ := chk_some h
  by_cases hc3 : q1.1 = (-1)
  · replace h := ite_t hc3 h
    obtain ⟨q4, h4, h⟩ := ob_some h
    have hB4 := bd_X0_save hB1 h4
    obtain ⟨q5, h5, h⟩ := ob_some h
    have hB5 := bd_X6_copyFrom hB4 sh_1 sh_7 h5
    obtain ⟨q6, h6, h⟩ := ob_some h
    have hB6 := bd_X9_networkChanged hB5 h6
    cases h
    exact hB6
  · replace h := ite_f hc3 h
    cases h
    exact hB1
theorem bd_X9_undo {F : Nat} {M : Mem} (hB : Bd M) {res : (Nat ⊕ Int) × Mem} (h : f_X9_undo F M = some res) : Bd res.2 := by
  rw [f_X9_undo] at h
  rcases (Decidable.em (M 13 0 = 0)).symm with hc1 | hc1
  · replace h := ite_f hc1 h
    obtain ⟨q2, h2, h⟩ := ob_some h
    have hB2 := bd_X0_restore hB h2
    obtain ⟨q3, h3, h⟩ := ob_some h
    have hB3 := bd_X9_measureNetwork hB2 h3
    cases h
    exact hB3
  · replace h := ite_t hc1 h
    cases h
    exact hB
theorem bw_X9_digest_54 {res : Int × Mem} {F : Nat} : ∀ (fu : Nat) (v1 : Int) (v3 : Int) (M : Mem), Bd M → f_X9_digest_54 F fu v1 v3 M = some res → Bd res.2 := by
  intro fu
  induction fu with
  | zero => intro v1 v3 M hB h; exact nomatch (show (none : Option (Int × Mem)) = some res from h)
  | succ fu ih =>
    intro v1 v3 M hB h
    rw [f_X9_digest_54] at h
    obtain ⟨hp_v3, h⟩ := chk_some h
    by_cases hc6 : 5 ≤ v3
    · replace h := ite_t hc6 h
      obtain ⟨q7, h7, h⟩ := ob_some h
      have hB7 := bd_X9_arriving hB h7
      obtain ⟨hc8, h⟩ := chk_some h
      cases h
      exact hB7
    · replace h := ite_f hc6 h
      obtain ⟨q9, h9, h⟩ := ob_some h
      have hB9 := hB
      obtain ⟨hc10, h⟩ := chk_some h
      exact ih ((31 * v1) + q9) (v3 + 1) M hB9 h
theorem bd_X9_digest {F : Nat} {M : Mem} (hB : Bd M) {res : Int × Mem} (h : f_X9_digest F M = some res) : Bd res.2 := by
  rw [f_X9_digest] at h
  obtain ⟨q1, h1, h⟩ := ob_some h
  have hB1 := hB
  obtain ⟨q2, h2, h⟩ := ob_some h
  have hB2 := bd_X9_networkSize hB1 h2
  obtain ⟨hc3, h⟩ := chk_some h
  obtain ⟨q4, h4, h⟩ := ob_some h
  have hB4 := bd_X9_compactness hB2 h4
  obtain ⟨hc5, h⟩ := chk_some h
  exact bw_X9_digest_54 F ((31 * ((31 * q1) + q2.1)) + q4.1) 0 q4.2 hB4 h
theorem bd_X10_refused {v1 : Int} {M : Mem} (hB : Bd M) {res : Int × Mem} (h : f_X10_refused v1 M = some res) : Bd res.2 := by
  rw [f_X10_refused] at h
  obtain ⟨hp_v1, h⟩ := chk_some h
  have hB1 := hB.set 64 3 (x := v1) hp_v1
  by_cases hc2 : v1 ≤ 0
  · replace h := ite_t hc2 h
    cases h
    exact hB1
  · replace h := ite_f hc2 h
    cases h
    exact hB1
theorem bw_X10_saves_51 {res : Mem} {F : Nat} : ∀ (fu : Nat) (v1 : Int) (M : Mem), Bd M → f_X10_saves_51 F fu v1 M = some res → Bd res := by
  intro fu
  induction fu with
  | zero => intro v1 M hB h; exact nomatch (show (none : Option (Mem)) = some res from h)
  | succ fu ih =>
    intro v1 M hB h
    rw [f_X10_saves_51] at h
    obtain ⟨hp_v1, h⟩ := chk_some h
    by_cases hc2 : 140 ≤ v1
    · replace h := ite_t hc2 h
      obtain ⟨hc3, h⟩ := chk_some h
      have hB4 := hB.set 64 2 (x := (M 64 2) + 1) hc3
      cases h
      exact hB4
    · replace h := ite_f hc2 h
      obtain ⟨hc5, h⟩ := chk_some h
      obtain ⟨hc6, h⟩ := chk_some h
      have hB7 := hB.set 66 ((140 * (M 64 2)) + v1) (x := M 65 v1) (hB 65 v1 (by decide))
      exact ih (v1 + 1) (mset M 66 ((140 * (M 64 2)) + v1) (M 65 v1)) hB7 h
theorem bw_X10_saves_10 {res : Mem} {F : Nat} : ∀ (fu : Nat) (v1 : Int) (M : Mem), Bd M → f_X10_saves_10 F fu v1 M = some res → Bd res := by
  intro fu
  induction fu with
  | zero => intro v1 M hB h; exact nomatch (show (none : Option (Mem)) = some res from h)
  | succ fu ih =>
    intro v1 M hB h
    rw [f_X10_saves_10] at h
    obtain ⟨hp_v1, h⟩ := chk_some h
    by_cases hc8 : 420 ≤ v1
    · replace h := ite_t hc8 h
      obtain ⟨hc9, h⟩ := chk_some h
      have hB10 := hB.set 64 2 (x := (M 64 2) - 1) hc9
      exact bw_X10_saves_51 F 0 (mset M 64 2 ((M 64 2) - 1)) hB10 h
    · replace h := ite_f hc8 h
      obtain ⟨hc11, h⟩ := chk_some h
      obtain ⟨hc12, h⟩ := chk_some h
      have hB13 := hB.set 66 v1 (x := M 66 (v1 + 140)) (hB 66 (v1 + 140) (by decide))
      exact ih (v1 + 1) (mset M 66 v1 (M 66 (v1 + 140))) hB13 h
theorem bd_X10_saves {F : Nat} {M : Mem} (hB : Bd M) {res : Mem} (h : f_X10_saves F M = some res) : Bd res := by
  rw [f_X10_saves] at h
  rcases (Decidable.em (M 64 2 = 4)).symm with hc1 | hc1
  · replace h := ite_f hc1 h
    exact bw_X10_saves_51 F 0 M hB h
  · replace h := ite_t hc1 h
    exact bw_X10_saves_10 F 0 M hB h
theorem bw_X10_undo_33 {res : Int × Mem} {F : Nat} : ∀ (fu : Nat) (v1 : Int) (M : Mem), Bd M → f_X10_undo_33 F fu v1 M = some res → Bd res.2 := by
  intro fu
  induction fu with
  | zero => intro v1 M hB h; exact nomatch (show (none : Option (Int × Mem)) = some res from h)
  | succ fu ih =>
    intro v1 M hB h
    rw [f_X10_undo_33] at h
    obtain ⟨hp_v1, h⟩ := chk_some h
    by_cases hc7 : 140 ≤ v1
    · replace h := ite_t hc7 h
      cases h
      exact hB
    · replace h := ite_f hc7 h
      obtain ⟨hc8, h⟩ := chk_some h
      obtain ⟨hc9, h⟩ := chk_some h
      have hB10 := hB.set 65 v1 (x := M 66 ((140 * (M 64 2)) + v1)) (hB 66 ((140 * (M 64 2)) + v1) (by decide))
      exact ih (v1 + 1) (mset M 65 v1 (M 66 ((140 * (M 64 2)) + v1))) hB10 h
theorem bd_X10_undo {F : Nat} {M : Mem} (hB : Bd M) {res : Int × Mem} (h : f_X10_undo F M = some res) : Bd res.2 := by
  rw [f_X10_undo] at h
  rcases (Decidable.em (M 64 2 = 0)).symm with hc1 | hc1
  · replace h := ite_f hc1 h
    obtain ⟨q2, h2, h⟩ := ob_some h
    have hB2 := bd_X10_refused hB h2
    obtain ⟨hc3, h⟩ := chk_some h
    by_cases hc4 : q2.1 = 0
    · replace h := ite_t hc4 h
      obtain ⟨hc5, h⟩ := chk_some h
      have hB6 := hB2.set 64 2 (x := (q2.2 64 2) - 1) hc5
      exact bw_X10_undo_33 F 0 (mset q2.2 64 2 ((q2.2 64 2) - 1)) hB6 h
    · replace h := ite_f hc4 h
      cases h
      exact hB2
  · replace h := ite_t hc1 h
    obtain ⟨q11, h11, h⟩ := ob_some h
    have hB11 := bd_X10_refused hB h11
    obtain ⟨hc12, h⟩ := chk_some h
    by_cases hc13 : q11.1 = 0
    · replace h := ite_t hc13 h
      obtain ⟨hc14, h⟩ := chk_some h
      have hB15 := hB11.set 64 2 (x := (q11.2 64 2) - 1) hc14
      exact bw_X10_undo_33 F 0 (mset q11.2 64 2 ((q11.2 64 2) - 1)) hB15 h
    · replace h := ite_f hc13 h
      cases h
      exact hB11
theorem bw_X10_empties_3 {res : Mem} {F : Nat} : ∀ (fu : Nat) (v1 : Int) (M : Mem), Bd M → f_X10_empties_3 F fu v1 M = some res → Bd res := by
  intro fu
  induction fu with
  | zero => intro v1 M hB h; exact nomatch (show (none : Option (Mem)) = some res from h)
  | succ fu ih =>
    intro v1 M hB h
    rw [f_X10_empties_3] at h
    obtain ⟨hp_v1, h⟩ := chk_some h
    by_cases hc1 : 140 ≤ v1
    · replace h := ite_t hc1 h
      cases h
      exact hB
    · replace h := ite_f hc1 h
      obtain ⟨hc2, h⟩ := chk_some h
      have hB3 := hB.set 65 v1 (x := 0) (by decide)
      exact ih (v1 + 1) (mset M 65 v1 0) hB3 h
theorem bd_X10_empties {F : Nat} {M : Mem} (hB : Bd M) {res : Mem} (h : f_X10_empties F M = some res) : Bd res := by
  rw [f_X10_empties] at h
  exact bw_X10_empties_3 F 59 M hB h
theorem bw_X10_begins_16 {res : Mem} {F : Nat} : ∀ (fu : Nat) (v2 : Int) (M : Mem), Bd M → f_X10_begins_16 F fu v2 M = some res → Bd res := by
  intro fu
  induction fu with
  | zero => intro v2 M hB h; exact nomatch (show (none : Option (Mem)) = some res from h)
  | succ fu ih =>
    intro v2 M hB h
    rw [f_X10_begins_16] at h
    obtain ⟨hp_v2, h⟩ := chk_some h
    by_cases hc3 : 9 ≤ v2
    · replace h := ite_t hc3 h
      obtain ⟨q4, h4, h⟩ := ob_some h
      have hB4 := bd_X10_empties hB h4
      cases h
      exact hB4
    · replace h := ite_f hc3 h
      obtain ⟨hc5, h⟩ := chk_some h
      have hB6 := hB.set 65 (50 + v2) (x := v2) hp_v2
      exact ih (v2 + 1) (mset M 65 (50 + v2) v2) hB6 h
theorem bd_X10_begins {F : Nat} {v1 : Int} {M : Mem} (hB : Bd M) {res : Mem} (h : f_X10_begins F v1 M = some res) : Bd res := by
  rw [f_X10_begins] at h
  obtain ⟨hp_v1, h⟩ := chk_some h
  have hB1 := hB.set 65 0 (x := v1) hp_v1
  have hB2 := hB1.set 65 1 (x := 0) (by decide)
  exact bw_X10_begins_16 F 0 (mset (mset M 65 0 v1) 65 1 0) hB2 h
theorem bd_X10_begin {F : Nat} {v1 : Int} {M : Mem} (hB : Bd M) {res : Int × Mem} (h : f_X10_begin F v1 M = some res) : Bd res.2 := by
  rw [f_X10_begin] at h
  obtain ⟨q1, h1, h⟩ := ob_some h
  have hB1 := hB
  obtain ⟨hc2, h⟩ := chk_some h
  by_cases hc3 : q1 = 0
  · replace h := ite_t hc3 h
    obtain ⟨q4, h4, h⟩ := ob_some h
    have hB4 := bd_X10_refused hB1 h4
    obtain ⟨hc5, h⟩ := chk_some h
    by_cases hc6 : q4.1 = 0
    · replace h := ite_t hc6 h
      obtain ⟨q7, h7, h⟩ := ob_some h
      have hB7 := bd_X10_saves hB4 h7
      obtain ⟨q8, h8, h⟩ := ob_some h
      have hB8 := bd_X10_begins hB7 h8
      cases h
      exact hB8
    · replace h := ite_f hc6 h
      cases h
      exact hB4
  · replace h := ite_f hc3 h
    obtain ⟨q9, h9, h⟩ := ob_some h
    have hB9 := bd_X10_refused hB1 h9
    obtain ⟨hc10, h⟩ := chk_some h
    by_cases hc11 : q9.1 = 0
    · replace h := ite_t hc11 h
      obtain ⟨q12, h12, h⟩ := ob_some h
      have hB12 := bd_X10_saves hB9 h12
      obtain ⟨q13, h13, h⟩ := ob_some h
      have hB13 := bd_X10_begins hB12 h13
      cases h
      exact hB13
    · replace h := ite_f hc11 h
      cases h
      exact hB9
theorem bd_X10_joins {v1 : Int} {v2 : Int} {v3 : Int} {M : Mem} (hB : Bd M) {res : Mem} (h : f_X10_joins v1 v2 v3 M = some res) : Bd res := by
  rw [f_X10_joins] at h
  obtain ⟨⟨hp_v1, hp_v2, hp_v3⟩, h⟩ := chk_some h
  obtain ⟨hc1, h⟩ := chk_some h
  have hB2 := hB.set 65 (2 + (3 * (M 65 1))) (x := v1) hp_v1
  obtain ⟨hc3, h⟩ := chk_some h
  have hB4 := hB2.set 65 ((2 + (3 * (M 65 1))) + 1) (x := v2) hp_v2
  obtain ⟨hc5, h⟩ := chk_some h
  have hB6 := hB4.set 65 ((2 + (3 * (M 65 1))) + 2) (x := v3) hp_v3
  obtain ⟨hc7, h⟩ := chk_some h
  have hB8 := hB6.set 65 1 (x := ((mset (mset (mset M 65 (2 + (3 * (M 65 1))) v1) 65 ((2 + (3 * (M 65 1))) + 1) v2) 65 ((2 + (3 * (M 65 1))) + 2) v3) 65 1) + 1) hc7
  cases h
  exact hB8
theorem bw_X10_addLink_94 {res : Int × Mem} {F : Nat} : ∀ (v1 : Int) (v2 : Int) (v3 : Int) (t1 : Int) (M : Mem), Bd M → f_X10_addLink_94 F v1 v2 v3 t1 M = some res → Bd res.2 := by
  intro v1 v2 v3 t1 M hB h
  rw [f_X10_addLink_94] at h
  obtain ⟨q7, h7, h⟩ := ob_some h
  have hB7 := bd_X10_refused hB h7
  obtain ⟨hc8, h⟩ := chk_some h
  by_cases hc9 : q7.1 = 0
  · replace h := ite_t hc9 h
    obtain ⟨q10, h10, h⟩ := ob_some h
    have hB10 := bd_X10_saves hB7 h10
    obtain ⟨q11, h11, h⟩ := ob_some h
    have hB11 := bd_X10_joins hB10 h11
    obtain ⟨q12, h12, h⟩ := ob_some h
    have hB12 := bd_X10_empties hB11 h12
    cases h
    exact hB12
  · replace h := ite_f hc9 h
    cases h
    exact hB7
theorem bw_X10_addLink_56 {res : Int × Mem} {F : Nat} : ∀ (v1 : Int) (v2 : Int) (v3 : Int) (v4 : Int) (M : Mem), Bd M → f_X10_addLink_56 F v1 v2 v3 v4 M = some res → Bd res.2 := by
  intro v1 v2 v3 v4 M hB h
  rw [f_X10_addLink_56] at h
  obtain ⟨hp_v4, h⟩ := chk_some h
  rcases (Decidable.em (v4 = 0)).symm with hc5 | hc5
  · replace h := ite_f hc5 h
    exact bw_X10_addLink_94 v1 v2 v3 2 M hB h
  · replace h := ite_t hc5 h
    exact bw_X10_addLink_94 v1 v2 v3 1 M hB h
theorem bw_X10_addLink_21 {res : Int × Mem} {F : Nat} : ∀ (v1 : Int) (v2 : Int) (v3 : Int) (t0 : Int) (M : Mem), Bd M → f_X10_addLink_21 F v1 v2 v3 t0 M = some res → Bd res.2 := by
  intro v1 v2 v3 t0 M hB h
  rw [f_X10_addLink_21] at h
  obtain ⟨⟨hp_v1, hp_v2, hp_t0⟩, h⟩ := chk_some h
  by_cases hc4 : t0 = 0
  · replace h := ite_t hc4 h
    exact bw_X10_addLink_56 v1 v2 v3 t0 M hB h
  · replace h := ite_f hc4 h
    by_cases hc13 : v1 = v2
    · replace h := ite_t hc13 h
      exact bw_X10_addLink_56 v1 v2 v3 t0 M hB h
    · replace h := ite_f hc13 h
      obtain ⟨q14, h14, h⟩ := ob_some h
      have hB14 := hB
      obtain ⟨hc15, h⟩ := chk_some h
      by_cases hc16 : q14 = 0
      · replace h := ite_t hc16 h
        exact bw_X10_addLink_56 v1 v2 v3 t0 M hB14 h
      · replace h := ite_f hc16 h
        obtain ⟨q17, h17, h⟩ := ob_some h
        have hB17 := hB14
        obtain ⟨hc18, h⟩ := chk_some h
        rcases (Decidable.em (q17 = 0)).symm with hc19 | hc19
        · replace h := ite_f hc19 h
          exact bw_X10_addLink_56 v1 v2 v3 t0 M hB17 h
        · replace h := ite_t hc19 h
          rcases (Decidable.em (t0 = 0)).symm with hc20 | hc20
          · replace h := ite_f hc20 h
            rcases (Decidable.em (M 65 1 = 16)).symm with hc22 | hc22
            · replace h := ite_f hc22 h
              exact bw_X10_addLink_94 v1 v2 v3 0 M hB17 h
            · replace h := ite_t hc22 h
              exact bw_X10_addLink_94 v1 v2 v3 3 M hB17 h
          · replace h := ite_t hc20 h
            exact bw_X10_addLink_94 v1 v2 v3 1 M hB17 h
theorem bd_X10_addLink {F : Nat} {v1 : Int} {v2 : Int} {v3 : Int} {M : Mem} (hB : Bd M) {res : Int × Mem} (h : f_X10_addLink F v1 v2 v3 M = some res) : Bd res.2 := by
  rw [f_X10_addLink] at h
  obtain ⟨q1, h1, h⟩ := ob_some h
  have hB1 := hB
  obtain ⟨hc2, h⟩ := chk_some h
  by_cases hc3 : q1 = 0
  · replace h := ite_t hc3 h
    exact bw_X10_addLink_21 v1 v2 v3 0 M hB1 h
  · replace h := ite_f hc3 h
    obtain ⟨q23, h23, h⟩ := ob_some h
    have hB23 := hB1
    obtain ⟨hc24, h⟩ := chk_some h
    by_cases hc25 : q23 = 0
    · replace h := ite_t hc25 h
      exact bw_X10_addLink_21 v1 v2 v3 0 M hB23 h
    · replace h := ite_f hc25 h
      exact bw_X10_addLink_21 v1 v2 v3 1 M hB23 h
theorem bw_X10_removeLink_42 {res : Int × Mem} {F : Nat} : ∀ (fu : Nat) (v2 : Int) (M : Mem), Bd M → f_X10_removeLink_42 F fu v2 M = some res → Bd res.2 := by
  intro fu
  induction fu with
  | zero => intro v2 M hB h; exact nomatch (show (none : Option (Int × Mem)) = some res from h)
  | succ fu ih =>
    intro v2 M hB h
    rw [f_X10_removeLink_42] at h
    obtain ⟨hp_v2, h⟩ := chk_some h
    obtain ⟨hc10, h⟩ := chk_some h
    by_cases hc11 : 2 + (3 * (M 65 1)) ≤ v2
    · replace h := ite_t hc11 h
      obtain ⟨q12, h12, h⟩ := ob_some h
      have hB12 := bd_X10_empties hB h12
      cases h
      exact hB12
    · replace h := ite_f hc11 h
      obtain ⟨hc13, h⟩ := chk_some h
      obtain ⟨hc14, h⟩ := chk_some h
      have hB15 := hB.set 65 v2 (x := M 65 (v2 + 3)) (hB 65 (v2 + 3) (by decide))
      exact ih (v2 + 1) (mset M 65 v2 (M 65 (v2 + 3))) hB15 h
theorem bd_X10_removeLink {F : Nat} {v1 : Int} {M : Mem} (hB : Bd M) {res : Int × Mem} (h : f_X10_removeLink F v1 M = some res) : Bd res.2 := by
  rw [f_X10_removeLink] at h
  obtain ⟨q1, h1, h⟩ := ob_some h
  have hB1 := hB
  obtain ⟨hc2, h⟩ := chk_some h
  by_cases hc3 : q1 = 0
  · replace h := ite_t hc3 h
    obtain ⟨q4, h4, h⟩ := ob_some h
    have hB4 := bd_X10_refused hB1 h4
    obtain ⟨hc5, h⟩ := chk_some h
    by_cases hc6 : q4.1 = 0
    · replace h := ite_t hc6 h
      obtain ⟨q7, h7, h⟩ := ob_some h
      have hB7 := bd_X10_saves hB4 h7
      obtain ⟨hc8, h⟩ := chk_some h
      have hB9 := hB7.set 65 1 (x := (q7 65 1) - 1) hc8
      exact bw_X10_removeLink_42 F (2 + (3 * v1)) (mset q7 65 1 ((q7 65 1) - 1)) hB9 h
    · replace h := ite_f hc6 h
      cases h
      exact hB4
  · replace h := ite_f hc3 h
    obtain ⟨q16, h16, h⟩ := ob_some h
    have hB16 := bd_X10_refused hB1 h16
    obtain ⟨hc17, h⟩ := chk_some h
    by_cases hc18 : q16.1 = 0
    · replace h := ite_t hc18 h
      obtain ⟨q19, h19, h⟩ := ob_some h
      have hB19 := bd_X10_saves hB16 h19
      obtain ⟨hc20, h⟩ := chk_some h
      have hB21 := hB19.set 65 1 (x := (q19 65 1) - 1) hc20
      exact bw_X10_removeLink_42 F (2 + (3 * v1)) (mset q19 65 1 ((q19 65 1) - 1)) hB21 h
    · replace h := ite_f hc18 h
      cases h
      exact hB16
theorem bw_X10_setLength_28 {res : Int × Mem} {F : Nat} : ∀ (v1 : Int) (v2 : Int) (t1 : Int) (M : Mem), Bd M → f_X10_setLength_28 F v1 v2 t1 M = some res → Bd res.2 := by
  intro v1 v2 t1 M hB h
  rw [f_X10_setLength_28] at h
  obtain ⟨hp_v2, h⟩ := chk_some h
  obtain ⟨q7, h7, h⟩ := ob_some h
  have hB7 := bd_X10_refused hB h7
  obtain ⟨hc8, h⟩ := chk_some h
  by_cases hc9 : q7.1 = 0
  · replace h := ite_t hc9 h
    obtain ⟨q10, h10, h⟩ := ob_some h
    have hB10 := bd_X10_saves hB7 h10
    obtain ⟨q11, h11, h⟩ := ob_some h
    have hB11 := hB10
    obtain ⟨hc12, h⟩ := chk_some h
    have hB13 := hB11.set 65 ((2 + (3 * v1)) + 2) (x := v2) hp_v2
    obtain ⟨q14, h14, h⟩ := ob_some h
    have hB14 := bd_X10_empties hB13 h14
    cases h
    exact hB14
  · replace h := ite_f hc9 h
    cases h
    exact hB7
theorem bd_X10_setLength {F : Nat} {v1 : Int} {v2 : Int} {M : Mem} (hB : Bd M) {res : Int × Mem} (h : f_X10_setLength F v1 v2 M = some res) : Bd res.2 := by
  rw [f_X10_setLength] at h
  obtain ⟨q1, h1, h⟩ := ob_some h
  have hB1 := hB
  obtain ⟨hc2, h⟩ := chk_some h
  rcases (Decidable.em (q1 = 0)).symm with hc3 | hc3
  · replace h := ite_f hc3 h
    obtain ⟨q4, h4, h⟩ := ob_some h
    have hB4 := hB1
    obtain ⟨hc5, h⟩ := chk_some h
    by_cases hc6 : q4 = 0
    · replace h := ite_t hc6 h
      exact bw_X10_setLength_28 v1 v2 2 M hB4 h
    · replace h := ite_f hc6 h
      exact bw_X10_setLength_28 v1 v2 0 M hB4 h
  · replace h := ite_t hc3 h
    exact bw_X10_setLength_28 v1 v2 1 M hB1 h
theorem bd_X10_size {v1 : Int} {M : Mem} (hB : Bd M) {res : Int × Mem} (h : f_X10_size v1 M = some res) : Bd res.2 := by
  rw [f_X10_size] at h
  obtain ⟨hp_v1, h⟩ := chk_some h
  have hB1 := hB.set 64 3 (x := 0) (by decide)
  by_cases hc2 : v1 = 0
  · replace h := ite_t hc2 h
    cases h
    exact hB1
  · replace h := ite_f hc2 h
    cases h
    exact hB1
theorem bd_X10_link {v1 : Int} {v2 : Int} {M : Mem} (hB : Bd M) {res : Int × Mem} (h : f_X10_link v1 v2 M = some res) : Bd res.2 := by
  rw [f_X10_link] at h
  obtain ⟨q1, h1, h⟩ := ob_some h
  have hB1 := hB
  obtain ⟨hc2, h⟩ := chk_some h
  rcases (Decidable.em (q1 = 0)).symm with hc3 | hc3
  · replace h := ite_f hc3 h
    obtain ⟨q4, h4, h⟩ := ob_some h
    have hB4 := hB1
    obtain ⟨hc5, h⟩ := chk_some h
    by_cases hc6 : q4 = 0
    · replace h := ite_t hc6 h
      obtain ⟨q7, h7, h⟩ := ob_some h
      have hB7 := bd_X10_refused hB4 h7
      obtain ⟨hc8, h⟩ := chk_some h
      by_cases hc9 : q7.1 = 0
      · replace h := ite_t hc9 h
        obtain ⟨q10, h10, h⟩ := ob_some h
        have hB10 := hB7
        cases h
        exact hB10
      · replace h := ite_f hc9 h
        cases h
        exact hB7
    · replace h := ite_f hc6 h
      obtain ⟨q11, h11, h⟩ := ob_some h
      have hB11 := bd_X10_refused hB4 h11
      obtain ⟨hc12, h⟩ := chk_some h
      by_cases hc13 : q11.1 = 0
      · replace h := ite_t hc13 h
        obtain ⟨q14, h14, h⟩ := ob_some h
        have hB14 := hB11
        cases h
        exact hB14
      · replace h := ite_f hc13 h
        cases h
        exact hB11
  · replace h := ite_t hc3 h
    obtain ⟨q15, h15, h⟩ := ob_some h
    have hB15 := bd_X10_refused hB1 h15
    obtain ⟨hc16, h⟩ := chk_some h
    by_cases hc17 : q15.1 = 0
    · replace h := ite_t hc17 h
      obtain ⟨q18, h18, h⟩ := ob_some h
      have hB18 := hB15
      cases h
      exact hB18
    · replace h := ite_f hc17 h
      cases h
      exact hB15
