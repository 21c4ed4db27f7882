/-! kind, runs, sizes -/
section Kinds
variable {F : Nat} {M : Mem} {A : Ab} {x y z : Int}
theorem mdegree (hF : 100000 ≤ F) {s : Sg} (w : WN s) (hS : SM 65 0 M s) {v : Nat} (hv : v < 100) : f_X10_degree F v M = some (ct (fun j => tch s j v) (sK s) : Int) := by
  have w2 := w.2.1
  have e1 : M 65 1 = sK s := hS.2.1
  refine lpe (f := fun fu (y : Int × Int) => f_X10_degree_4 F fu v y.1 y.2 M) (I := fun i y => y.1 = ct (fun j => tch s j v) i ∧ y.2 = i) (Q := fun r => r = some (ct (fun j => tch s j v) (sK s) : Int)) (sK s) ?_ ?_ (sK s) 0 F (0, 0) (by omega) (by omega) ⟨rfl, rfl⟩
  · rintro i fu ⟨y1, y2⟩ hi ⟨q1, q2⟩
    dsimp only at q1 q2 ⊢
    subst q1 q2
    right
    rw [f_X10_degree_4, chk_t (by omega), if_neg (by omega), misOf hS w hi hv, ob_s, chk_t (bi_R _)]
    cases ht : tch s i v with
    | false =>
      rw [if_pos (by decide)]
      exact ⟨((ct (fun j => tch s j v) i : Int) + 0, (i : Int) + 1), rfl, by dsimp only; rw [ct_f (p := fun j => tch s j v) ht]; omega, rfl⟩
    | true =>
      rw [if_neg (by decide)]
      exact ⟨((ct (fun j => tch s j v) i : Int) + 1, (i : Int) + 1), rfl, by dsimp only; rw [ct_t (p := fun j => tch s j v) ht]; rfl, rfl⟩
  · rintro fu ⟨y1, y2⟩ ⟨q1, q2⟩
    dsimp only at q1 q2 ⊢
    subst q1 q2
    rw [f_X10_degree_4, chk_t (by omega), if_pos (by omega)]
def cnn (s : Sg) : Prop := 0 < sN s ∧ ∀ v, v < sN s → dis s 0 v ≠ 1000
def rng (s : Sg) : Prop := 2 < sN s ∧ ∀ v, v < sN s → ct (fun j => tch s j v) (sK s) = 2
theorem conn_eq (hF : 100000 ≤ F) {s : Sg} (w : WN s) (hY : WY M s) (h0 : 0 < sN s) : ∃ b : Bool, f_X8_connected F (sN s) M = some (bi b) ∧ (b = true ↔ cnn s) := by
  have w1 := w.1
  refine lpe (f := fun fu (y : Int) => f_X8_connected_2 F fu (sN s) y M) (I := fun i y => y = i ∧ ∀ j, j < i → dis s 0 j ≠ 1000) (Q := fun r => ∃ b : Bool, r = some (bi b) ∧ (b = true ↔ cnn s)) (sN s) ?_ ?_ (sN s) 0 F 0 (by omega) (by omega) ⟨rfl, fun j hj => absurd hj (Nat.not_lt_zero j)⟩
  · rintro i fu y hi ⟨q1, q2⟩
    subst q1
    have e : M 40 i = dis s 0 i := by have := hY.1 0 i h0 hi; rw [show ((0 : Nat) : Int) * 9 + (i : Int) = i by omega] at this; exact this
    rw [f_X8_connected_2, chk_t (by omega), if_neg (by omega), chk_t (by omega), e]
    by_cases c : dis s 0 i = 1000
    · left
      rw [if_pos (by omega)]
      exact ⟨false, rfl, ⟨fun q => (by cases q), fun q => absurd c (q.2 i hi)⟩⟩
    · right
      rw [if_neg (by omega)]
      refine ⟨(i : Int) + 1, rfl, rfl, fun j hj => ?_⟩
      by_cases e : j = i
      · rw [e]; exact c
      · exact q2 j (by omega)
  · rintro fu y ⟨q1, q2⟩
    subst q1
    rw [f_X8_connected_2, chk_t (by omega), if_pos (by omega)]
    exact ⟨true, rfl, ⟨fun _ => ⟨h0, q2⟩, fun _ => rfl⟩⟩
theorem ring_eq (hF : 100000 ≤ F) {s : Sg} (w : WN s) (hS : SC 1 M s) : ∃ b : Bool, f_X9_isRing F M = some (bi b) ∧ (b = true ↔ rng s) := by
  have w1 := w.1
  have w2 := w.2.1
  have e0 := hS.1
  unfold f_X9_isRing
  by_cases c : 2 < sN s
  · rw [if_pos (by omega)]
    refine lpe (f := fun fu (y : Int) => f_X9_isRing_15 F fu y M) (I := fun i y => y = i ∧ ∀ j, j < i → ct (fun k => tch s k j) (sK s) = 2) (Q := fun r => ∃ b : Bool, r = some (bi b) ∧ (b = true ↔ rng s)) (sN s) ?_ ?_ (sN s) 0 F 0 (by omega) (by omega) ⟨rfl, fun j hj => absurd hj (Nat.not_lt_zero j)⟩
    · rintro i fu y hi ⟨q1, q2⟩
      subst q1
      have hl := ct_le (fun k => tch s k i) (sK s)
      rw [f_X9_isRing_15, chk_t (by omega), if_neg (by omega), degree_eq hF hS w (by omega), ob_s, chk_t (by omega)]
      by_cases c : ct (fun k => tch s k i) (sK s) = 2
      · right
        rw [if_pos (by omega)]
        refine ⟨(i : Int) + 1, rfl, rfl, fun j hj => ?_⟩
        by_cases e : j = i
        · rw [e]; exact c
        · exact q2 j (by omega)
      · left
        rw [if_neg (by omega)]
        exact ⟨false, rfl, ⟨fun q => (by cases q), fun q => absurd (q.2 i hi) c⟩⟩
    · rintro fu y ⟨q1, q2⟩
      subst q1
      rw [f_X9_isRing_15, chk_t (by omega), if_pos (by omega)]
      exact ⟨true, rfl, ⟨fun _ => ⟨c, q2⟩, fun _ => rfl⟩⟩
  · rw [if_neg (by omega)]
    exact ⟨false, rfl, ⟨fun q => (by cases q), fun q => absurd q.1 c⟩⟩
theorem mkind (hF : 100000 ≤ F) {s : Sg} (w : WN s) (hS : SM 65 0 M s) (hD : FM M (sN s) (dis s)) : ∃ b1 b2 : Bool, (if M 65 0 ≤ 0 then (if M 65 0 ≤ 2 then f_X10_kind_42 F F 0 0 0 M else f_X10_kind_42 F F 0 1 0 M) else (if M 65 0 ≤ 2 then f_X10_kind_42 F F 1 0 0 M else f_X10_kind_42 F F 1 1 0 M)) = some ((if b1 = false then 0 else if sK s + 1 = sN s then 1 else if b2 = false then 3 else 2), M) ∧ (b1 = true ↔ cnn s) ∧ (b2 = true ↔ rng s) := by
  have w1 := w.1
  have w2 := w.2.1
  have e0 : M 65 0 = sN s := hS.1
  have e1 : M 65 1 = sK s := hS.2.1
  have key : ∀ c1 c2 : Bool, (c1 = true ↔ 0 < sN s) → (c2 = true ↔ 2 < sN s) → ∃ b1 b2 : Bool, f_X10_kind_42 F F (bi c1) (bi c2) 0 M = some ((if b1 = false then 0 else if sK s + 1 = sN s then 1 else if b2 = false then 3 else 2), M) ∧ (b1 = true ↔ cnn s) ∧ (b2 = true ↔ rng s) := by
    intro c1 c2 h1 h2
    refine lpe (f := fun fu (y : Int × Int × Int) => f_X10_kind_42 F fu y.1 y.2.1 y.2.2 M) (I := fun i y => ∃ d1 d2 : Bool, y.1 = bi d1 ∧ y.2.1 = bi d2 ∧ y.2.2 = i ∧ (d1 = true ↔ (0 < sN s ∧ ∀ v, v < i → dis s 0 v ≠ 1000)) ∧ (d2 = true ↔ (2 < sN s ∧ ∀ v, v < i → ct (fun j => tch s j v) (sK s) = 2))) (Q := fun r => ∃ b1 b2 : Bool, r = some ((if b1 = false then 0 else if sK s + 1 = sN s then 1 else if b2 = false then 3 else 2), M) ∧ (b1 = true ↔ cnn s) ∧ (b2 = true ↔ rng s)) (sN s) ?_ ?_ (sN s) 0 F (bi c1, bi c2, 0) (by omega) (by omega) ⟨c1, c2, rfl, rfl, rfl, by rw [h1]; exact ⟨fun q => ⟨q, fun v hv => absurd hv (Nat.not_lt_zero v)⟩, fun q => q.1⟩, by rw [h2]; exact ⟨fun q => ⟨q, fun v hv => absurd hv (Nat.not_lt_zero v)⟩, fun q => q.1⟩⟩
    · rintro i fu ⟨y1, y2, y3⟩ hi ⟨d1, d2, q1, q2, q3, q4, q5⟩
      dsimp only at q1 q2 q3 ⊢
      subst q1 q2 q3
      right
      have hd := dis_le w (show 0 < sN s by omega) hi
      have hl := ct_le (fun k => tch s k i) (sK s)
      -- the new answers
      have n1 : ((d1 && !decide (dis s 0 i = 1000)) = true ↔ (0 < sN s ∧ ∀ v, v < i + 1 → dis s 0 v ≠ 1000)) := by
        rw [Bool.and_eq_true, q4, Bool.not_eq_true', decide_eq_false_iff_not]
        refine ⟨fun q => ⟨q.1.1, fun v hv => ?_⟩, fun q => ⟨⟨q.1, fun v hv => q.2 v (by omega)⟩, q.2 i (by omega)⟩⟩
        by_cases e : v = i
        · rw [e]; exact q.2
        · exact q.1.2 v (by omega)
      have n2 : ((d2 && decide (ct (fun k => tch s k i) (sK s) = 2)) = true ↔ (2 < sN s ∧ ∀ v, v < i + 1 → ct (fun j => tch s j v) (sK s) = 2)) := by
        rw [Bool.and_eq_true, q5, decide_eq_true_eq]
        refine ⟨fun q => ⟨q.1.1, fun v hv => ?_⟩, fun q => ⟨⟨q.1, fun v hv => q.2 v (by omega)⟩, q.2 i (by omega)⟩⟩
        by_cases e : v = i
        · rw [e]; exact q.2
        · exact q.1.2 v (by omega)
      refine ⟨(bi (d1 && !decide (dis s 0 i = 1000)), bi (d2 && decide (ct (fun k => tch s k i) (sK s) = 2)), (i : Int) + 1), ?_, _, _, rfl, rfl, rfl, n1, n2⟩
      have r1 := bi_R d1
      have r2 := bi_R d2
      have f0 : f_X10_farFrom 0 i M = some (dis s 0 i : Int) := mfar w hD (u := 0) (by omega) hi
      rw [f_X10_kind_42, chk_t (by omega), if_neg (by omega), f0, mdegree hF w hS (by omega), ob_s, chk_t (by omega), ob_s, chk_t (by omega)]
      by_cases k1 : dis s 0 i = 1000 <;> by_cases k2 : ct (fun k => tch s k i) (sK s) = 2
      · rw [decide_eq_true k1, decide_eq_true k2, if_pos (show (1000 : Int) ≤ (dis s 0 i : Int) by omega), if_pos (show (ct (fun k => tch s k i) (sK s) : Int) = 2 by omega)]
        cases d1 <;> cases d2 <;> simp [bi]
      · rw [decide_eq_true k1, decide_eq_false k2, if_pos (show (1000 : Int) ≤ (dis s 0 i : Int) by omega), if_neg (show ¬ (ct (fun k => tch s k i) (sK s) : Int) = 2 by omega)]
        cases d1 <;> cases d2 <;> simp [bi]
      · rw [decide_eq_false k1, decide_eq_true k2, if_neg (show ¬ (1000 : Int) ≤ (dis s 0 i : Int) by omega), if_pos (show (ct (fun k => tch s k i) (sK s) : Int) = 2 by omega)]
        cases d1 <;> cases d2 <;> simp [bi]
        rw [ob_s, chk_t (by omega), if_pos (by omega)]
      · rw [decide_eq_false k1, decide_eq_false k2, if_neg (show ¬ (1000 : Int) ≤ (dis s 0 i : Int) by omega), if_neg (show ¬ (ct (fun k => tch s k i) (sK s) : Int) = 2 by omega)]
        cases d1 <;> cases d2 <;> simp [bi]
        rw [ob_s, chk_t (by omega), if_neg (by omega)]
    · rintro fu ⟨y1, y2, y3⟩ ⟨d1, d2, q1, q2, q3, q4, q5⟩
      dsimp only at q1 q2 q3 ⊢
      subst q1 q2 q3
      have r1 := bi_R d1
      have r2 := bi_R d2
      refine ⟨d1, d2, ?_, q4, q5⟩
      rw [f_X10_kind_42, chk_t (by omega), if_pos (by omega), chk_t (by omega)]
      by_cases k1 : sK s + 1 = sN s
      · rw [if_pos (show M 65 1 = M 65 0 - 1 by omega), if_pos k1]
        cases d1 <;> simp [bi]
      · rw [if_neg (show ¬ M 65 1 = M 65 0 - 1 by omega), if_neg k1]
        cases d1 <;> cases d2 <;> simp [bi]
  by_cases c1 : 0 < sN s
  · rw [if_neg (by omega)]
    by_cases c2 : 2 < sN s
    · rw [if_neg (by omega)]; exact key true true ⟨fun _ => c1, fun _ => rfl⟩ ⟨fun _ => c2, fun _ => rfl⟩
    · rw [if_pos (by omega)]; exact key true false ⟨fun _ => c1, fun _ => rfl⟩ ⟨fun q => (by cases q), fun q => absurd q c2⟩
  · rw [if_pos (by omega), if_pos (by omega)]; exact key false false ⟨fun q => (by cases q), fun q => absurd q c1⟩ ⟨fun q => (by cases q), fun q => by omega⟩
theorem op_kind (hF : 100000 ≤ F) (w : WA A) (hC : JC M A) (hM : JM M A) : OpP (ob (f_X9_kind F M) fun q => some (q, M)) (f_X10_kind F) := by
  obtain ⟨s, c, hs, tl, tx⟩ := A
  have hS : SC 1 M s := hC.1
  have wn : WN s := w.1.1
  have w1 := wn.1
  have w2 := wn.2.1
  have e0 := hS.1
  have e1 : M 1 1 = sK s := hS.2.1
  have hY : WY M s := hC.2.2.2.1
  -- the class's answer
  have hL : ∃ b1 b2 : Bool, f_X9_kind F M = some (if b1 = false then 0 else if sK s + 1 = sN s then 1 else if b2 = false then 3 else 2) ∧ (b1 = true ↔ cnn s) ∧ (b2 = true ↔ rng s) := by
    unfold f_X9_kind
    by_cases c0 : sN s = 0
    · obtain ⟨b2, -, r2⟩ := ring_eq hF wn hS
      rw [if_pos (by omega)]
      exact ⟨false, b2, rfl, ⟨fun q => (by cases q), fun q => by have := q.1; omega⟩, r2⟩
    · obtain ⟨b1, r1, r2⟩ := conn_eq hF wn hY (by omega)
      obtain ⟨b2, r3, r4⟩ := ring_eq hF wn hS
      refine ⟨b1, b2, ?_, r2, r4⟩
      rw [if_neg (by omega), e0, r1, ob_s, chk_t (bi_R _)]
      cases b1 with
      | false => rfl
      | true =>
        rw [if_neg (by decide), chk_t (by omega), e1]
        by_cases k : sK s + 1 = sN s
        · rw [if_pos (by omega), if_neg (by decide), if_pos k]
        · rw [if_neg (by omega), if_neg (by decide), if_neg k, r3, ob_s, chk_t (bi_R _)]
          cases b2 <;> rfl
  obtain ⟨b1, b2, l1, l2, l3⟩ := hL
  refine OpP.rd (r := if b1 = false then 0 else if sK s + 1 = sN s then 1 else if b2 = false then 3 else 2) w (by split; decide; split; decide; split <;> decide) hC hM ⟨M, by rw [l1, ob_s], fun _ _ _ => rfl⟩ (fun M1 h => ?_)
  obtain ⟨M2, a1, a2, a3, a4, a5⟩ := far_after hF w h
  refine ⟨M2, ?_, fun a i q => a5 a i (by omega) (by omega)⟩
  unfold f_X10_kind
  rw [a1, ob_s]
  obtain ⟨c1, c2, k1, k2, k3⟩ := mkind hF wn a2.1 a3
  have f1 : c1 = b1 := by cases c1 <;> cases b1 <;> simp_all
  have f2 : c2 = b2 := by cases c2 <;> cases b2 <;> simp_all
  rw [← f1, ← f2]; exact k1
end Kinds
