/-! the start, and the law's loop -/
theorem St_0 : St M0 := by
  refine ⟨(s0 0, 0, fun _ => s0 0, 0, fun _ => 0), ⟨WF_s0 (by decide), fun i hi => absurd hi (Nat.not_lt_zero i), Nat.zero_le _, fun i hi => absurd hi (Nat.not_lt_zero i)⟩, ⟨⟨rfl, rfl, fun i hi => absurd hi (Nat.not_lt_zero i), fun v hv => absurd hv (Nat.not_lt_zero v), fun v l hv => absurd hv (Nat.not_lt_zero v)⟩, ⟨by decide, rfl, fun i => if i = 0 then 15 else if i = 1 then 21 else if i = 2 then 27 else 33, fun i hi => ?_, fun i j hi hj e => ?_, fun i hi => absurd hi (Nat.not_lt_zero i)⟩, ⟨rfl, fun i hi => absurd hi (Nat.not_lt_zero i)⟩, ⟨fun a b ha => absurd ha (Nat.not_lt_zero a), fun v w hv => absurd hv (Nat.not_lt_zero v)⟩, Or.inl rfl⟩, ⟨⟨rfl, rfl, fun i hi => absurd hi (Nat.not_lt_zero i), fun v hv => absurd hv (Nat.not_lt_zero v), fun v l hv => absurd hv (Nat.not_lt_zero v)⟩, ⟨by decide, rfl, fun i hi => absurd hi (Nat.not_lt_zero i)⟩, rfl, fun i hi => absurd hi (Nat.not_lt_zero i)⟩⟩
  · rcases (show i = 0 ∨ i = 1 ∨ i = 2 ∨ i = 3 by omega) with rfl | rfl | rfl | rfl
    · exact ⟨Or.inl rfl, rfl⟩
    · exact ⟨Or.inr (Or.inl rfl), rfl⟩
    · exact ⟨Or.inr (Or.inr (Or.inl rfl)), rfl⟩
    · exact ⟨Or.inr (Or.inr (Or.inr rfl)), rfl⟩
  · rcases (show i = 0 ∨ i = 1 ∨ i = 2 ∨ i = 3 by omega) with rfl | rfl | rfl | rfl <;> rcases (show j = 0 ∨ j = 1 ∨ j = 2 ∨ j = 3 by omega) with rfl | rfl | rfl | rfl <;> first | rfl | (exact absurd e (by decide))
theorem lgc (x : Int64) : (lg_cmp x x).toInt = 0 := by
  unfold lg_cmp
  rw [if_neg (Int64.lt_irrefl), if_pos rfl]; rfl
theorem stepK {L : Option (Int × Mem)} {X : Mem → Option (Int × Mem)} (h : OpK L X) (k : Mem → Option Int) : ∃ M2, (ob L fun q5 => ob (X q5.2) fun q6 => ob (f_X10_thrown q6.2) fun q7 => chk (inR q7) (chk (inR q5.1) (if q7 = q5.1 then (if q5.1 = 0 then chk (inR q6.1) (if (lg_cmp (lI (q6.2 1079 0)) (lI q6.1)).toInt = 0 then k q6.2 else some (0)) else k q6.2) else some (0)))) = k M2 ∧ St M2 := by
  obtain ⟨c, M1, b, M2, h1, h2, h3, h4, h5, h6⟩ := h
  refine ⟨M2, ?_, h6⟩
  have e : f_X10_thrown M2 = some c := by unfold f_X10_thrown; rw [h3]
  rw [h1, ob_s]
  dsimp only
  rw [h2, ob_s]
  dsimp only
  rw [e, ob_s, chk_t h4, chk_t h4, if_pos rfl]
  by_cases q : c = 0
  · obtain ⟨k1, k2⟩ := h5 q
    rw [if_pos q, chk_t k2, if_pos (by rw [k1]; exact lgc _)]
  · rw [if_neg q]
theorem stepP {L : Option (Int × Mem)} {X : Mem → Option (Int × Mem)} (h : OpP L X) (k : Mem → Option Int) : ∃ M2, (ob L fun q5 => ob (X q5.2) fun q6 => chk (inR q5.1) (chk (inR q6.1) (if q5.1 = q6.1 then k q6.2 else some (0)))) = k M2 ∧ St M2 := by
  obtain ⟨r, M1, M2, h1, h2, h3, h4⟩ := h
  refine ⟨M2, ?_, h4⟩
  rw [h1, ob_s]
  dsimp only
  rw [h2, ob_s]
  dsimp only
  rw [chk_t h3, chk_t h3, if_pos rfl]
theorem stepR {M : Mem} {L : Option Int} {X : Mem → Option (Int × Mem)} (h : OpP (ob L fun q => some (q, M)) X) (k : Mem → Option Int) : ∃ M2, (ob L fun q5 => ob (X M) fun q6 => chk (inR q5) (chk (inR q6.1) (if q5 = q6.1 then k q6.2 else some (0)))) = k M2 ∧ St M2 := by
  obtain ⟨r, M1, M2, h1, h2, h3, h4⟩ := h
  refine ⟨M2, ?_, h4⟩
  obtain ⟨a, e1, e2⟩ := ob_some h1
  have e2 := Option.some.inj e2
  have ea : a = r := congrArg Prod.fst e2
  have em : M = M1 := congrArg Prod.snd e2
  subst ea em
  rw [e1, ob_s, h2, ob_s]
  dsimp only
  rw [chk_t h3, chk_t h3, if_pos rfl]
theorem stepD {L : Option (UInt64 × Mem)} {X : Mem → Option (UInt64 × Mem)} (h : ∃ r M1 M2, L = some (r, M1) ∧ X M1 = some (r, M2) ∧ St M2) (k : Mem → Option Int) : ∃ M2, (ob L fun q5 => ob (X q5.2) fun q6 => if (Op.cmpValue (FP.dcmp q5.1 q6.1) .l).toInt = 0 then k q6.2 else if (Op.cmpValue (FP.dcmp q5.1 q5.1) .l).toInt = 0 then some (0) else if (Op.cmpValue (FP.dcmp q6.1 q6.1) .l).toInt = 0 then some (0) else k q6.2) = k M2 ∧ St M2 := by
  obtain ⟨r, M1, M2, h1, h2, h4⟩ := h
  refine ⟨M2, ?_, h4⟩
  rw [h1, ob_s]
  dsimp only
  rw [h2, ob_s]
  dsimp only
  by_cases q : (Op.cmpValue (FP.dcmp r r) .l).toInt = 0
  · rw [if_pos q]
  · rw [if_neg q, if_neg q, if_neg q]
theorem stepL {L : Option (Int × Mem)} {X : Mem → Option (Int × Mem)} (h : ∃ r M1 M2, L = some (r, M1) ∧ X M1 = some (r, M2) ∧ St M2) (k : Mem → Option Int) : ∃ M2, (ob L fun q5 => ob (X q5.2) fun q6 => if (lg_cmp (lI q5.1) (lI q6.1)).toInt = 0 then k q6.2 else some (0)) = k M2 ∧ St M2 := by
  obtain ⟨r, M1, M2, h1, h2, h4⟩ := h
  refine ⟨M2, ?_, h4⟩
  rw [h1, ob_s]
  dsimp only
  rw [h2, ob_s]
  dsimp only
  rw [if_pos (lgc _)]
theorem law_step {F : Nat} (hF : 100000 ≤ F) {zs : Int → Int} (hz : ∀ i, inR (zs i)) {N : Nat} (hN : N ≤ 2560) {j fu : Nat} (hj : j < N / 5) {M : Mem} (hS : St M) : ∃ M2, f_L_law_23 F zs N (fu + 1) (5 * (j : Int)) M = f_L_law_23 F zs N fu (5 * (j : Int) + 5) M2 ∧ St M2 := by
  obtain ⟨A, w, hC, hM⟩ := hS
  rw [f_L_law_23, chk_t (by omega), chk_t (by omega), if_neg (by omega), chk_t (by omega)]
  by_cases c0 : band (zs (5 * (j : Int))) 63 = 0
  · rw [if_pos c0, chk_t (by omega)]
    exact stepK (op_begin hF w hC hM (hz _)) (fun M => f_L_law_23 F zs N fu (5 * (j : Int) + 5) M)
  rw [if_neg c0]
  by_cases c1 : band (zs (5 * (j : Int))) 63 = 1
  · rw [if_pos c1, chk_t (by omega), chk_t (by omega), chk_t (by omega)]
    exact stepK (op_addLink hF w hC hM (hz _) (hz _) (hz _)) (fun M => f_L_law_23 F zs N fu (5 * (j : Int) + 5) M)
  rw [if_neg c1]
  by_cases c2 : band (zs (5 * (j : Int))) 63 = 2
  · rw [if_pos c2, chk_t (by omega)]
    exact stepK (op_removeLink hF w hC hM (hz _)) (fun M => f_L_law_23 F zs N fu (5 * (j : Int) + 5) M)
  rw [if_neg c2]
  by_cases c3 : band (zs (5 * (j : Int))) 63 = 3
  · rw [if_pos c3, chk_t (by omega), chk_t (by omega)]
    exact stepK (op_setLength hF w hC hM (hz _) (hz _)) (fun M => f_L_law_23 F zs N fu (5 * (j : Int) + 5) M)
  rw [if_neg c3]
  by_cases c4 : band (zs (5 * (j : Int))) 63 = 4
  · rw [if_pos c4, chk_t (by omega)]
    by_cases q : zs (5 * (j : Int) + 1) = 0
    · simp only [if_pos q]
      exact stepR (op_size w hC hM (x := 0) (by decide)) (fun M => f_L_law_23 F zs N fu (5 * (j : Int) + 5) M)
    · simp only [if_neg q]
      exact stepR (op_size w hC hM (x := 1) (by decide)) (fun M => f_L_law_23 F zs N fu (5 * (j : Int) + 5) M)
  rw [if_neg c4]
  by_cases c5 : band (zs (5 * (j : Int))) 63 = 5
  · rw [if_pos c5, chk_t (by omega), chk_t (by omega)]
    exact stepK (op_link w hC hM (hz _) (hz _)) (fun M => f_L_law_23 F zs N fu (5 * (j : Int) + 5) M)
  rw [if_neg c5]
  by_cases c6 : band (zs (5 * (j : Int))) 63 = 6
  · rw [if_pos c6, chk_t (by omega), chk_t (by omega)]
    exact stepK (op_distance hF w hC hM (hz _) (hz _)) (fun M => f_L_law_23 F zs N fu (5 * (j : Int) + 5) M)
  rw [if_neg c6]
  by_cases c7 : band (zs (5 * (j : Int))) 63 = 7
  · rw [if_pos c7, chk_t (by omega), chk_t (by omega)]
    exact stepK (op_goodLinks hF w hC hM (hz _) (hz _)) (fun M => f_L_law_23 F zs N fu (5 * (j : Int) + 5) M)
  rw [if_neg c7]
  by_cases c8 : band (zs (5 * (j : Int))) 63 = 8
  · rw [if_pos c8]
    exact stepR (op_kind hF w hC hM) (fun M => f_L_law_23 F zs N fu (5 * (j : Int) + 5) M)
  rw [if_neg c8]
  by_cases c9 : band (zs (5 * (j : Int))) 63 = 9
  · rw [if_pos c9, chk_t (by omega)]
    exact stepK (op_label w hC hM (hz _)) (fun M => f_L_law_23 F zs N fu (5 * (j : Int) + 5) M)
  rw [if_neg c9]
  by_cases c10 : band (zs (5 * (j : Int))) 63 = 10
  · rw [if_pos c10, chk_t (by omega)]
    exact stepK (op_nodeWith hF w hC hM (hz _)) (fun M => f_L_law_23 F zs N fu (5 * (j : Int) + 5) M)
  rw [if_neg c10]
  by_cases c11 : band (zs (5 * (j : Int))) 63 = 11
  · rw [if_pos c11, chk_t (by omega), chk_t (by omega)]
    exact stepK (op_setLabels hF w hC hM (hz _) (hz _)) (fun M => f_L_law_23 F zs N fu (5 * (j : Int) + 5) M)
  rw [if_neg c11]
  by_cases c12 : band (zs (5 * (j : Int))) 63 = 12
  · rw [if_pos c12, chk_t (by omega), chk_t (by omega)]
    exact stepK (op_swapLabels hF w hC hM (hz _) (hz _)) (fun M => f_L_law_23 F zs N fu (5 * (j : Int) + 5) M)
  rw [if_neg c12]
  by_cases c13 : band (zs (5 * (j : Int))) 63 = 13
  · rw [if_pos c13, chk_t (by omega)]
    exact stepK (op_turn hF w hC hM (hz _)) (fun M => f_L_law_23 F zs N fu (5 * (j : Int) + 5) M)
  rw [if_neg c13]
  by_cases c14 : band (zs (5 * (j : Int))) 63 = 14
  · rw [if_pos c14, chk_t (by omega)]
    exact stepK (op_shuffle hF w hC hM (hz _)) (fun M => f_L_law_23 F zs N fu (5 * (j : Int) + 5) M)
  rw [if_neg c14]
  by_cases c15 : band (zs (5 * (j : Int))) 63 = 15
  · rw [if_pos c15]
    exact stepP (op_makeTables hF w hC hM) (fun M => f_L_law_23 F zs N fu (5 * (j : Int) + 5) M)
  rw [if_neg c15]
  by_cases c16 : band (zs (5 * (j : Int))) 63 = 16
  · rw [if_pos c16, chk_t (by omega), chk_t (by omega), chk_t (by omega), chk_t (by omega)]
    exact stepK (op_setRange hF w hC hM (hz _) (hz _) (hz _) (hz _)) (fun M => f_L_law_23 F zs N fu (5 * (j : Int) + 5) M)
  rw [if_neg c16]
  by_cases c17 : band (zs (5 * (j : Int))) 63 = 17
  · rw [if_pos c17, chk_t (by omega), chk_t (by omega)]
    exact stepK (op_entry w hC hM (hz _) (hz _)) (fun M => f_L_law_23 F zs N fu (5 * (j : Int) + 5) M)
  rw [if_neg c17]
  by_cases c18 : band (zs (5 * (j : Int))) 63 = 18
  · rw [if_pos c18, chk_t (by omega), chk_t (by omega)]
    exact stepK (op_runs hF w hC hM (hz _) (hz _)) (fun M => f_L_law_23 F zs N fu (5 * (j : Int) + 5) M)
  rw [if_neg c18]
  by_cases c19 : band (zs (5 * (j : Int))) 63 = 19
  · rw [if_pos c19, chk_t (by omega), chk_t (by omega), chk_t (by omega), chk_t (by omega)]
    by_cases q : zs (5 * (j : Int) + 4) = 0
    · simp only [if_pos q]
      exact stepK (op_runEnd hF w hC hM (hz _) (hz _) (hz _) (Or.inl rfl)) (fun M => f_L_law_23 F zs N fu (5 * (j : Int) + 5) M)
    · simp only [if_neg q]
      exact stepK (op_runEnd hF w hC hM (hz _) (hz _) (hz _) (Or.inr rfl)) (fun M => f_L_law_23 F zs N fu (5 * (j : Int) + 5) M)
  rw [if_neg c19]
  by_cases c20 : band (zs (5 * (j : Int))) 63 = 20
  · rw [if_pos c20, chk_t (by omega)]
    exact stepK (op_tableSize hF w hC hM (hz _)) (fun M => f_L_law_23 F zs N fu (5 * (j : Int) + 5) M)
  rw [if_neg c20]
  by_cases c21 : band (zs (5 * (j : Int))) 63 = 21
  · rw [if_pos c21]
    exact stepP (op_compactness hF w hC hM) (fun M => f_L_law_23 F zs N fu (5 * (j : Int) + 5) M)
  rw [if_neg c21]
  by_cases c22 : band (zs (5 * (j : Int))) 63 = 22
  · rw [if_pos c22, chk_t (by omega)]
    exact stepK (op_bestSize hF w hC hM (hz _)) (fun M => f_L_law_23 F zs N fu (5 * (j : Int) + 5) M)
  rw [if_neg c22]
  by_cases c23 : band (zs (5 * (j : Int))) 63 = 23
  · rw [if_pos c23, chk_t (by omega), chk_t (by omega)]
    exact stepK (op_check hF w hC hM (hz _) (hz _)) (fun M => f_L_law_23 F zs N fu (5 * (j : Int) + 5) M)
  rw [if_neg c23]
  by_cases c24 : band (zs (5 * (j : Int))) 63 = 24
  · rw [if_pos c24, chk_t (by omega)]
    exact stepK (op_checked hF w hC hM (hz _)) (fun M => f_L_law_23 F zs N fu (5 * (j : Int) + 5) M)
  rw [if_neg c24]
  by_cases c25 : band (zs (5 * (j : Int))) 63 = 25
  · rw [if_pos c25, chk_t (by omega), chk_t (by omega)]
    exact stepK (op_send hF w hC hM (hz _) (hz _)) (fun M => f_L_law_23 F zs N fu (5 * (j : Int) + 5) M)
  rw [if_neg c25]
  by_cases c26 : band (zs (5 * (j : Int))) 63 = 26
  · rw [if_pos c26, chk_t (by omega), chk_t (by omega), chk_t (by omega)]
    exact stepK (op_wayNode hF w hC hM (hz _) (hz _) (hz _)) (fun M => f_L_law_23 F zs N fu (5 * (j : Int) + 5) M)
  rw [if_neg c26]
  by_cases c27 : band (zs (5 * (j : Int))) 63 = 27
  · rw [if_pos c27]
    exact stepP (op_arriving hF w hC hM) (fun M => f_L_law_23 F zs N fu (5 * (j : Int) + 5) M)
  rw [if_neg c27]
  by_cases c28 : band (zs (5 * (j : Int))) 63 = 28
  · rw [if_pos c28]
    exact stepD (op_stretch hF w hC hM) (fun M => f_L_law_23 F zs N fu (5 * (j : Int) + 5) M)
  rw [if_neg c28]
  by_cases c29 : band (zs (5 * (j : Int))) 63 = 29
  · rw [if_pos c29, chk_t (by omega)]
    exact stepK (op_load hF w hC hM (hz _)) (fun M => f_L_law_23 F zs N fu (5 * (j : Int) + 5) M)
  rw [if_neg c29]
  by_cases c30 : band (zs (5 * (j : Int))) 63 = 30
  · rw [if_pos c30, chk_t (by omega)]
    exact stepK (op_lostWithout hF w hC hM (hz _)) (fun M => f_L_law_23 F zs N fu (5 * (j : Int) + 5) M)
  rw [if_neg c30]
  by_cases c31 : band (zs (5 * (j : Int))) 63 = 31
  · rw [if_pos c31]
    exact stepK (op_bestCompactness hF w hC hM ) (fun M => f_L_law_23 F zs N fu (5 * (j : Int) + 5) M)
  rw [if_neg c31]
  by_cases c32 : band (zs (5 * (j : Int))) 63 = 32
  · rw [if_pos c32, chk_t (by omega)]
    exact stepK (op_labelings hF w hC hM (hz _)) (fun M => f_L_law_23 F zs N fu (5 * (j : Int) + 5) M)
  rw [if_neg c32]
  by_cases c33 : band (zs (5 * (j : Int))) 63 = 33
  · rw [if_pos c33, chk_t (by omega)]
    exact stepK (op_append w hC hM (hz _)) (fun M => f_L_law_23 F zs N fu (5 * (j : Int) + 5) M)
  rw [if_neg c33]
  by_cases c34 : band (zs (5 * (j : Int))) 63 = 34
  · rw [if_pos c34]
    exact stepP (op_clearText w hC hM) (fun M => f_L_law_23 F zs N fu (5 * (j : Int) + 5) M)
  rw [if_neg c34]
  by_cases c35 : band (zs (5 * (j : Int))) 63 = 35
  · rw [if_pos c35]
    exact stepP (op_parse hF w hC hM) (fun M => f_L_law_23 F zs N fu (5 * (j : Int) + 5) M)
  rw [if_neg c35]
  by_cases c36 : band (zs (5 * (j : Int))) 63 = 36
  · rw [if_pos c36]
    exact stepK (op_undo hF w hC hM ) (fun M => f_L_law_23 F zs N fu (5 * (j : Int) + 5) M)
  rw [if_neg c36]
  by_cases c37 : band (zs (5 * (j : Int))) 63 = 37
  · rw [if_pos c37]
    exact stepL (op_digest hF w hC hM) (fun M => f_L_law_23 F zs N fu (5 * (j : Int) + 5) M)
  rw [if_neg c37]
  exact ⟨M, rfl, A, w, hC, hM⟩
theorem pure_law : PureLaw := by
  intro zs N hz hN
  refine ⟨100000, ?_⟩
  refine lpe (f := fun fu (y : Int × Mem) => f_L_law_23 100000 zs (N : Int) fu y.1 y.2) (I := fun j y => y.1 = 5 * (j : Int) ∧ St y.2) (Q := fun r => r = some 1) (N / 5) ?_ ?_ (N / 5) 0 600 (0, M0) (by omega) (by omega) ⟨rfl, St_0⟩
  · rintro j fu ⟨y1, M⟩ hj ⟨q1, q2⟩
    dsimp only at q1 q2 ⊢
    subst q1
    right
    obtain ⟨M2, e, hs⟩ := law_step (F := 100000) (Nat.le_refl _) hz hN (fu := fu) hj q2
    exact ⟨(5 * (j : Int) + 5, M2), e, by show _ = _; omega, hs⟩
  · rintro fu ⟨y1, M⟩ ⟨q1, q2⟩
    dsimp only at q1 q2 ⊢
    subst q1
    rw [f_L_law_23, chk_t (by omega), chk_t (by omega), if_pos (by omega)]
