/-! the search told, the text, going back -/
section Misc
variable {F : Nat} {M : Mem} {A : Ab} {x y z : Int}
theorem sf_t (s : Sg) : ∀ (f : Nat) (l : List Nat) (a : Acc) (i : Nat), (∀ k, a.2.2.2 k ≤ i) → ∀ k, (sf s f l a).2.2.2 k ≤ i + f
  | 0, _, _, _, h, k => h k
  | f + 1, l, a, i, h, k => by
    rw [sf]
    split
    · have := up_t (c := evc (sLab s (lf l))) (z := evz (sLab s (lf l))) (b := lf l) h k
      omega
    · have := sf_t s f (nxL (sN s) l) _ (i + 1) (up_t (c := evc (sLab s (lf l))) (z := evz (sLab s (lf l))) (b := lf l) h) k
      omega
theorem srch_t (s : Sg) (k : Nat) : (srch s).2.2.2 k ≤ 720 := by
  have := sf_t s 720 (List.range (sN s)) (1000, 1000, fun _ => 0, fun _ => 0) 0 (fun _ => Nat.le_refl _) k
  unfold srch; omega
theorem cens (hF : 100000 ≤ F) (w : WA A) (h : JC M A) (h6 : sN A.1 ≤ 6) : ∃ M', f_X5_ensure F (M 1 0) M = some M' ∧ JC M' A ∧ SA M' (sN A.1) (srch A.1) ∧ ∀ a i, 57 ≤ a → M' a i = M a i := by
  obtain ⟨h1, h2, ⟨h3, h4⟩, h5, h6'⟩ := h
  have e0 := h1.1
  obtain ⟨M', a1, a2, a3, a4⟩ := ens_ok hF w.1.1 h6 M h5 h6'
  rw [e0]
  exact ⟨M', a1, ⟨h1.fr (fun a i q1 q2 => a4 a i (by omega)), h2.fr (fun a i q1 q2 => a4 a i (by omega)), ⟨by rw [a4 62 0 (by omega)]; exact h3, fun i hi => by rw [a4 63 i (by omega)]; exact h4 i hi⟩, h5.fr (fun a i q1 q2 => a4 a i (by omega)), Or.inr ⟨a2, a3⟩⟩, a3, fun a i q => a4 a i (by omega)⟩
theorem op_bestCompactness (hF : 100000 ≤ F) (w : WA A) (hC : JC M A) (hM : JM M A) : OpK (f_L_bestCompactness F M) (f_X10_bestCompactness F) := by
  have hS := hC.1
  have e0 := hS.1
  by_cases c : sN A.1 ≤ 6
  · have hs := (srch_ok w.1.1 c).1
    obtain ⟨M1, a1, a2, a3, a4⟩ := cens hF w hC c
    refine OpK.mk (k := 0) (r := (srch A.1).1) w w (by decide) (fun _ => by omega) hM ⟨mset M1 1079 0 (srch A.1).1, ?_, a2.fr (fun a i q => ms_a (by omega)), fun a i q1 q2 => ?_, fun _ => ms_eq _ _ _ _⟩ (fun N h => ?_)
    · unfold f_L_bestCompactness f_X9_bestCompactness f_X9_needSearchable
      rw [if_pos (by omega), ob_s, ox_inr, a1, ob_s, ob_s]
      dsimp only
      rw [ox_inr, a3.1, chk_t (by omega)]
    · rw [ms_a (by omega)]; exact a4 a i (by omega)
    · obtain ⟨M2, b1, b2, b3, b4⟩ := mbestOf_ok hF w.1.g c (mset N 64 3 0) (h.r3 w 0).1
      have e65 : N 65 0 = sN A.1 := h.1.1
      have ee : f_X10_bestCompactness F N = some (((srch A.1).1 : Int), M2) := by
        unfold f_X10_bestCompactness
        rw [if_pos (by omega), rf_0]
        dsimp only
        rw [b1, ob_s]
      refine ⟨_, M2, ee, ?_, ?_, fun a i q => cg_X10_bestCompactness ee a i (by omega), fun _ => rfl⟩
      · obtain ⟨k1, k2, k3, k4⟩ := h.r3 w 0
        exact ⟨b2, k2.fr (fun i hi => (w.2.1 i hi).1) (b4 64 2 (by omega) (by decide) (by decide) (by decide) (by decide) (by decide) (by decide) (by decide) (by decide) (by decide)) (fun i => b4 66 i (by omega) (by decide) (by decide) (by decide) (by decide) (by decide) (by decide) (by decide) (by decide) (by decide)), by rw [b4 64 5 (by omega) (by decide) (by decide) (by decide) (by decide) (by decide) (by decide) (by decide) (by decide) (by decide)]; exact k3, fun i hi => by rw [b4 67 i (by omega) (by decide) (by decide) (by decide) (by decide) (by decide) (by decide) (by decide) (by decide) (by decide)]; exact k4 i hi⟩
      · rw [b4 64 3 (by omega) (by decide) (by decide) (by decide) (by decide) (by decide) (by decide) (by decide) (by decide) (by decide), ms_eq]
  · refine OpK.no (k := 1) w hC hM (by decide) (by decide) ?_ (fun M1 h => ?_)
    · unfold f_L_bestCompactness f_X9_bestCompactness f_X9_needSearchable
      rw [if_neg (by omega), ob_s, ox_inl, ob_s, ox_inl, if_pos rfl]
    · have e65 : M1 65 0 = sN A.1 := h.1.1
      unfold f_X10_bestCompactness
      rw [if_neg (by omega), rf_p (by decide) (by decide) (fun q => ob (f_X10_bestOf F q.2) fun q9 => some (q9.1, q9.2))]
theorem countUp (hF : 100000 ≤ F) {t : Nat → Nat} {l : Nat} (hl : l ≤ 9) (h : ∀ k : Nat, k < 10 → M 54 k = t k) : f_X5_countUpTo F l M = some (su t (l + 1) : Int) := by
  refine lpe (f := fun fu (y : Int × Int) => f_X5_countUpTo_4 F fu l y.1 y.2 M) (I := fun k y => y.1 = su t k ∧ y.2 = k) (Q := fun r => r = some (su t (l + 1) : Int)) (l + 1) ?_ ?_ (l + 1) 0 F (0, 0) (by omega) (by omega) ⟨rfl, rfl⟩
  · rintro k fu ⟨y1, y2⟩ hk ⟨q1, q2⟩
    dsimp only at q1 q2 ⊢
    subst q1 q2
    right
    rw [f_X5_countUpTo_4, chk_t (by omega), if_neg (by omega), chk_t (by omega), h k (by omega)]
    exact ⟨((su t k : Int) + (t k : Int), (k : Int) + 1), rfl, by dsimp only; rw [su]; omega, rfl⟩
  · rintro fu ⟨y1, y2⟩ ⟨q1, q2⟩
    dsimp only at q1 q2 ⊢
    subst q1 q2
    rw [f_X5_countUpTo_4, chk_t (by omega), if_pos (by omega)]
theorem mcountUp (hF : 100000 ≤ F) {t : Nat → Nat} {l : Nat} (hl : l ≤ 9) (h : ∀ k : Nat, k < 10 → M 77 k = t k) : f_X10_labelings_49 F F l 0 0 M = some ((su t (l + 1) : Int), M) := by
  refine lpe (f := fun fu (y : Int × Int) => f_X10_labelings_49 F fu l y.1 y.2 M) (I := fun k y => y.1 = su t k ∧ y.2 = k) (Q := fun r => r = some ((su t (l + 1) : Int), M)) (l + 1) ?_ ?_ (l + 1) 0 F (0, 0) (by omega) (by omega) ⟨rfl, rfl⟩
  · rintro k fu ⟨y1, y2⟩ hk ⟨q1, q2⟩
    dsimp only at q1 q2 ⊢
    subst q1 q2
    right
    rw [f_X10_labelings_49, chk_t (by omega), if_neg (by omega), chk_t (by omega), h k (by omega)]
    exact ⟨((su t k : Int) + (t k : Int), (k : Int) + 1), rfl, by dsimp only; rw [su]; omega, rfl⟩
  · rintro fu ⟨y1, y2⟩ ⟨q1, q2⟩
    dsimp only at q1 q2 ⊢
    subst q1 q2
    rw [f_X10_labelings_49, chk_t (by omega), if_pos (by omega)]
theorem op_labelings (hF : 100000 ≤ F) (w : WA A) (hC : JC M A) (hM : JM M A) (hx : inR x) : OpK (f_L_labelings F x M) (f_X10_labelings F x) := by
  have hS := hC.1
  have e0 := hS.1
  by_cases d : 0 ≤ x ∧ x ≤ 9
  · by_cases c : sN A.1 ≤ 6
    · obtain ⟨l, rfl⟩ : ∃ v : Nat, x = v := ⟨x.toNat, by omega⟩
      have hl : l ≤ 9 := by omega
      have hb : su (srch A.1).2.2.2 (l + 1) ≤ 7200 := by
        have := su_bd (f := (srch A.1).2.2.2) (c := 720) (n := l + 1) (fun i _ => srch_t A.1 i)
        omega
      obtain ⟨M1, a1, a2, a3, a4⟩ := cens hF w hC c
      refine OpK.mk (k := 0) (r := su (srch A.1).2.2.2 (l + 1)) w w (by decide) (fun _ => by omega) hM ⟨mset M1 1079 0 (su (srch A.1).2.2.2 (l + 1)), ?_, a2.fr (fun a i q => ms_a (by omega)), fun a i q1 q2 => ?_, fun _ => ms_eq _ _ _ _⟩ (fun N h => ?_)
      · unfold f_L_labelings f_X9_labelings f_X9_needSearchable
        rw [nR_t hx (by decide) (by decide) d, ob_s, ox_inr, if_pos (by omega), ob_s, ox_inr, a1, ob_s, countUp hF hl a3.2.2.2, ob_s, ob_s]
        dsimp only
        rw [ox_inr, chk_t (by omega)]
      · rw [ms_a (by omega)]; exact a4 a i (by omega)
      · obtain ⟨M2, b1, b2, b3, b4⟩ := mbestOf_ok hF w.1.g c (mset N 64 3 0) (h.r3 w 0).1
        have e65 : N 65 0 = sN A.1 := h.1.1
        have ee : f_X10_labelings F l N = some ((su (srch A.1).2.2.2 (l + 1) : Int), M2) := by
          unfold f_X10_labelings
          rw [mW_t hx (by decide) (by decide) d, if_pos (by omega), rf_0]
          dsimp only
          rw [b1, ob_s]
          exact mcountUp hF hl b3.2
        refine ⟨_, M2, ee, ?_, ?_, fun a i q => cg_X10_labelings ee a i (by omega), fun _ => rfl⟩
        · obtain ⟨k1, k2, k3, k4⟩ := h.r3 w 0
          exact ⟨b2, k2.fr (fun i hi => (w.2.1 i hi).1) (b4 64 2 (by omega) (by decide) (by decide) (by decide) (by decide) (by decide) (by decide) (by decide) (by decide) (by decide)) (fun i => b4 66 i (by omega) (by decide) (by decide) (by decide) (by decide) (by decide) (by decide) (by decide) (by decide) (by decide)), by rw [b4 64 5 (by omega) (by decide) (by decide) (by decide) (by decide) (by decide) (by decide) (by decide) (by decide) (by decide)]; exact k3, fun i hi => by rw [b4 67 i (by omega) (by decide) (by decide) (by decide) (by decide) (by decide) (by decide) (by decide) (by decide) (by decide)]; exact k4 i hi⟩
        · rw [b4 64 3 (by omega) (by decide) (by decide) (by decide) (by decide) (by decide) (by decide) (by decide) (by decide) (by decide), ms_eq]
    · refine OpK.no (k := 2) w hC hM (by decide) (by decide) ?_ (fun M1 h => ?_)
      · unfold f_L_labelings f_X9_labelings f_X9_needSearchable
        rw [nR_t hx (by decide) (by decide) d, ob_s, ox_inr, if_neg (by omega), ob_s, ox_inl, ob_s, ox_inl, if_neg (by decide), if_pos rfl]
      · have e65 : M1 65 0 = sN A.1 := h.1.1
        unfold f_X10_labelings
        rw [mW_t hx (by decide) (by decide) d, if_neg (by omega), rf_p (by decide) (by decide) (fun q => ob (f_X10_bestOf F q.2) fun q14 => f_X10_labelings_49 F F x 0 0 q14.2)]
  · refine OpK.no (k := 1) w hC hM (by decide) (by decide) ?_ (fun M1 h => ?_)
    · unfold f_L_labelings f_X9_labelings
      rw [nR_f hx (by decide) (by decide) d, ob_s, ox_inl, ob_s, ox_inl, if_pos rfl]
    · unfold f_X10_labelings
      rw [mW_f hx (by decide) (by decide) d, rf_p (by decide) (by decide) (fun q => ob (f_X10_bestOf F q.2) fun q18 => f_X10_labelings_49 F F x 0 0 q18.2)]
/-! the text -/
theorem op_append (w : WA A) (hC : JC M A) (hM : JM M A) (hx : inR x) : OpK (f_L_append x M) (f_X10_append x) := by
  obtain ⟨s, c, hs, tl, tx⟩ := A
  obtain ⟨h1, h2, ⟨h3, h4⟩, h5, h6⟩ := hC
  have h3 : M 62 0 = tl := h3
  have wt : tl ≤ 100 := w.2.2.1
  by_cases d : 0 ≤ x ∧ x ≤ 127
  · by_cases e : tl < 100
    · have wB : WA (s, c, hs, tl + 1, fun i => if i = tl then x else tx i) := by
        refine ⟨w.1, w.2.1, by show tl + 1 ≤ 100; omega, fun i hi => ?_⟩
        have hi : i < tl + 1 := hi
        show 0 ≤ (if i = tl then x else tx i) ∧ (if i = tl then x else tx i) ≤ 127
        by_cases q : i = tl
        · rw [if_pos q]; exact d
        · rw [if_neg q]; exact w.2.2.2 i (by show i < tl; omega)
      have e2 : mset M 63 (tl : Int) x 62 0 = tl := by rw [ms_a (by decide)]; exact h3
      refine OpK.mk (k := 0) (r := (tl : Int) + 1) (B := (s, c, hs, tl + 1, fun i => if i = tl then x else tx i)) w wB (by decide) (fun _ => by omega) hM ⟨mset (mset (mset M 63 (tl : Int) x) 62 0 ((tl : Int) + 1)) 1079 0 ((tl : Int) + 1), ?_, ⟨?_, ?_, ⟨?_, fun i hi => ?_⟩, ?_, ?_⟩, fun a i q1 q2 => ?_, fun _ => ms_eq _ _ _ _⟩ (fun N h => ?_)
      · unfold f_L_append f_X9_append f_X3_put
        rw [nR_t hx (by decide) (by decide) d, ob_s, ox_inr, if_pos (by omega), chk_t hx, h3, chk_t (by omega), e2, chk_t (by omega), ob_s, ob_s]
        dsimp only
        rw [ox_inr, ms_eq, chk_t (by omega)]
      · exact h1.fr (fun a i q1 q2 => by rw [ms_a (by omega), ms_a (by omega), ms_a (by omega)])
      · exact h2.fr (fun a i q1 q2 => by rw [ms_a (by omega), ms_a (by omega), ms_a (by omega)])
      · rw [ms_a (by decide), ms_eq]; rfl
      · have hi : i < tl + 1 := hi
        show mset _ _ _ _ 63 i = if i = tl then x else tx i
        rw [ms_a (by decide), ms_a (by decide)]
        by_cases q : i = tl
        · subst q; rw [ms_eq, if_pos rfl]
        · rw [ms_i (by omega), if_neg q]; exact h4 i (by show i < tl; omega)
      · exact h5.fr (fun a i q1 q2 => by rw [ms_a (by omega), ms_a (by omega), ms_a (by omega)])
      · exact h6.fr (fun a i q => by rw [ms_a (by omega), ms_a (by omega), ms_a (by omega)])
      · rw [ms_a (by omega), ms_a (by omega), ms_a (by omega)]
      · obtain ⟨k1, k2, k3, k4⟩ := h
        have k3 : N 64 5 = tl := k3
        have r5 : mset N 64 3 0 64 5 = tl := by rw [ms_i (by decide)]; exact k3
        have r6 : mset (mset N 64 3 0) 67 (tl : Int) x 64 5 = tl := by rw [ms_a (by decide)]; exact r5
        refine ⟨(tl : Int) + 1, mset (mset (mset N 64 3 0) 67 (tl : Int) x) 64 5 ((tl : Int) + 1), ?_, ⟨?_, ?_, ?_, fun i hi => ?_⟩, ?_, fun a i q => ?_, fun _ => rfl⟩
        · unfold f_X10_append
          rw [chk_t hx, mW_t hx (by decide) (by decide) d, if_neg (by omega), rf_0]
          dsimp only
          rw [chk_t (by rw [r5]; omega), chk_t (by rw [r5, r6]; omega), r5, r6, ms_eq]
        · exact k1.fr (fun i _ _ => by rw [ms_a (by decide), ms_a (by decide), ms_a (by decide)]) w.1.1
        · exact k2.fr (fun i hi => (w.2.1 i hi).1) (by rw [ms_i (by decide), ms_a (by decide), ms_i (by decide)]) (fun i => by rw [ms_a (by decide), ms_a (by decide), ms_a (by decide)])
        · rw [ms_eq]; rfl
        · have hi : i < tl + 1 := hi
          show mset _ _ _ _ 67 i = if i = tl then x else tx i
          rw [ms_a (by decide)]
          by_cases q : i = tl
          · subst q; rw [ms_eq, if_pos rfl]
          · rw [ms_i (by omega), if_neg q, ms_a (by decide)]; exact k4 i (by show i < tl; omega)
        · rw [ms_i (by decide), ms_a (by decide), ms_eq]
        · rw [ms_a (by omega), ms_a (by omega), ms_a (by omega)]
    · refine OpK.no (k := 2) w ⟨h1, h2, ⟨h3, h4⟩, h5, h6⟩ hM (by decide) (by decide) ?_ (fun M1 h => ?_)
      · unfold f_L_append f_X9_append
        rw [nR_t hx (by decide) (by decide) d, ob_s, ox_inr, if_neg (by omega), ob_s, ox_inl, if_neg (by decide), if_pos rfl]
      · have k3 : M1 64 5 = tl := h.2.2.1
        unfold f_X10_append
        rw [chk_t hx, mW_t hx (by decide) (by decide) d, if_pos (by omega), rf_p (by decide) (by decide) (fun q => chk (0 ≤ q.2 64 5 ∧ q.2 64 5 < 100) (chk (inR (((mset q.2 67 (q.2 64 5) x) 64 5) + 1)) (some ((mset (mset q.2 67 (q.2 64 5) x) 64 5 (((mset q.2 67 (q.2 64 5) x) 64 5) + 1)) 64 5, mset (mset q.2 67 (q.2 64 5) x) 64 5 (((mset q.2 67 (q.2 64 5) x) 64 5) + 1)))))]
  · refine OpK.no (k := 1) w ⟨h1, h2, ⟨h3, h4⟩, h5, h6⟩ hM (by decide) (by decide) ?_ (fun M1 h => ?_)
    · unfold f_L_append f_X9_append
      rw [nR_f hx (by decide) (by decide) d, ob_s, ox_inl, ob_s, ox_inl, if_pos rfl]
    · unfold f_X10_append
      rw [chk_t hx, mW_f hx (by decide) (by decide) d, rf_p (by decide) (by decide) (fun q => chk (0 ≤ q.2 64 5 ∧ q.2 64 5 < 100) (chk (inR (((mset q.2 67 (q.2 64 5) x) 64 5) + 1)) (some ((mset (mset q.2 67 (q.2 64 5) x) 64 5 (((mset q.2 67 (q.2 64 5) x) 64 5) + 1)) 64 5, mset (mset q.2 67 (q.2 64 5) x) 64 5 (((mset q.2 67 (q.2 64 5) x) 64 5) + 1)))))]
theorem op_clearText (w : WA A) (hC : JC M A) (hM : JM M A) : OpP (f_X9_clearText M) f_X10_clearText := by
  obtain ⟨s, c, hs, tl, tx⟩ := A
  obtain ⟨h1, h2, ⟨h3, h4⟩, h5, h6⟩ := hC
  have h3 : M 62 0 = tl := h3
  have wt : tl ≤ 100 := w.2.2.1
  have wB : WA (s, c, hs, 0, tx) := ⟨w.1, w.2.1, Nat.zero_le _, fun i hi => absurd hi (Nat.not_lt_zero i)⟩
  refine OpP.mk (r := tl) (B := (s, c, hs, 0, tx)) w wB (by omega) hM ⟨mset M 62 0 0, ?_, ⟨h1.fr (fun a i q1 q2 => ms_a (by omega)), h2.fr (fun a i q1 q2 => ms_a (by omega)), ⟨ms_eq _ _ _ _, fun i hi => absurd hi (Nat.not_lt_zero i)⟩, h5.fr (fun a i q1 q2 => ms_a (by omega)), h6.fr (fun a i q => ms_a (by omega))⟩, fun a i q1 q2 => ms_a (by omega)⟩ (fun N h => ?_)
  · unfold f_X9_clearText
    rw [h3]
  · obtain ⟨k1, k2, k3, k4⟩ := h
    have k3 : N 64 5 = tl := k3
    refine ⟨mset (mset N 64 3 0) 64 5 0, ?_, ⟨?_, ?_, ms_eq _ _ _ _, fun i hi => absurd hi (Nat.not_lt_zero i)⟩, fun a i q => ?_⟩
    · unfold f_X10_clearText
      rw [ms_i (by decide), k3]
    · exact k1.fr (fun i _ _ => by rw [ms_a (by decide), ms_a (by decide)]) w.1.1
    · exact k2.fr (fun i hi => (w.2.1 i hi).1) (by rw [ms_i (by decide), ms_i (by decide)]) (fun i => by rw [ms_a (by decide), ms_a (by decide)])
    · rw [ms_a (by omega), ms_a (by omega)]
/-! going back -/
theorem op_undo (hF : 100000 ≤ F) (w : WA A) (hC : JC M A) (hM : JM M A) : OpK (f_L_undo F M) (f_X10_undo F) := by
  obtain ⟨s, c, hs, tl, tx⟩ := A
  have hc : c ≤ 4 := hC.2.1.1
  have e13 : M 13 0 = c := hC.2.1.2.1
  by_cases d : c = 0
  · refine OpK.no (k := 1) w hC hM (by decide) (by decide) ?_ (fun M1 h => ?_)
    · unfold f_L_undo f_X9_undo
      rw [if_pos (by omega), ob_s, ox_inl, if_pos rfl]
    · have e2 : M1 64 2 = c := h.2.1.2.1
      unfold f_X10_undo
      rw [if_pos (by omega), rf_p (by decide) (by decide) (fun q => chk (inR ((q.2 64 2) - 1)) (f_X10_undo_33 F F 0 (mset q.2 64 2 ((q.2 64 2) - 1))))]
  · have wf : WF (hs (c - 1)) := w.2.1 (c - 1) (by show c - 1 < c; omega)
    have wB : WA (hs (c - 1), c - 1, hs, tl, tx) := ⟨wf, fun i hi => w.2.1 i (by have hi : i < c - 1 := hi; show i < c; omega), w.2.2.1, w.2.2.2⟩
    refine OpK.mk (k := 0) (r := ((c - 1 : Nat) : Int)) (B := (hs (c - 1), c - 1, hs, tl, tx)) w wB (by decide) (fun _ => by omega) hM ?_ (fun N h => ?_)
    · obtain ⟨h1, h2, ⟨h3, h4⟩, h5, h6⟩ := hC
      obtain ⟨M1, a1, a2, a3⟩ := restore_ok h2 (by show 0 < c; omega) wf.1
      have f1 : ∀ a i, 39 ≤ a → M1 a i = M a i := fun a i q => cg_X0_restore a1 a i (by omega)
      obtain ⟨M2, b1, b2, b3⟩ := meas_ok hF wf.1 M1 a2
      have f2 : ∀ a i, (a < 40 ∨ 44 ≤ a) → (a ≠ 51 ∨ i ≠ 2) → mset M2 51 2 0 a i = M1 a i := by
        intro a i q1 q2
        have : mset M2 51 2 0 a i = M2 a i := by unfold mset; rw [if_neg (by omega)]
        rw [this]; exact b3 a i (by omega) (by omega) (by omega) (by omega)
      have e : f_X9_measureNetwork F M1 = some (mset M2 51 2 0) := by
        unfold f_X9_measureNetwork f_X5_forget
        rw [b1, ob_s, ob_s]
      have e3 : mset M2 51 2 0 13 0 = ((c - 1 : Nat) : Int) := by rw [f2 13 0 (by omega) (by omega)]; exact a3.2.1
      have hJ : JC (mset M2 51 2 0) (hs (c - 1), c - 1, hs, tl, tx) := ⟨a2.fr (fun a i q1 q2 => f2 a i (by omega) (by omega)), a3.fr (fun a i q1 q2 => f2 a i (by omega) (by omega)), ⟨by rw [f2 62 0 (by omega) (by omega), f1 62 0 (by omega)]; exact h3, fun i hi => by rw [f2 63 i (by omega) (by omega), f1 63 i (by omega)]; exact h4 i hi⟩, b2.fr (fun a i q1 q2 => ms_a (by omega)), Or.inl (ms_eq _ _ _ _)⟩
      refine ⟨mset (mset M2 51 2 0) 1079 0 ((c - 1 : Nat) : Int), ?_, hJ.fr (fun a i q => ms_a (by omega)), fun a i q1 q2 => ?_, fun _ => ms_eq _ _ _ _⟩
      · unfold f_L_undo f_X9_undo
        rw [if_neg (by omega), a1, ob_s, e, ob_s, ob_s]
        dsimp only
        rw [ox_inr, e3, chk_t (by omega)]
      · rw [ms_a (by omega), f2 a i (by omega) (by omega)]; exact f1 a i (by omega)
    · have e2 : N 64 2 = c := h.2.1.2.1
      obtain ⟨k1, k2, k3, k4⟩ := h
      have q1 : mset N 64 3 0 64 2 = c := by rw [ms_i (by decide)]; exact e2
      have q2 : mset (mset N 64 3 0) 64 2 ((c : Int) - 1) 64 2 = ((c - 1 : Nat) : Int) := by rw [ms_eq]; omega
      have lp := mundo_loop (F := F) (M := mset (mset N 64 3 0) 64 2 ((c : Int) - 1)) (c := c - 1) (by omega) q2 140 0 F (by omega) (by omega)
      have l0 : mfill (mset (mset N 64 3 0) 64 2 ((c : Int) - 1)) 65 0 ((0 : Nat) : Int) (fun j => mset (mset N 64 3 0) 64 2 ((c : Int) - 1) 66 (140 * ((c - 1 : Nat) : Int) + j)) = mset (mset N 64 3 0) 64 2 ((c : Int) - 1) := mfill_0 _ _ _ _
      rw [l0] at lp
      have ee : f_X10_undo F N = some (((c - 1 : Nat) : Int), mfill (mset (mset N 64 3 0) 64 2 ((c : Int) - 1)) 65 0 140 (fun j => mset (mset N 64 3 0) 64 2 ((c : Int) - 1) 66 (140 * ((c - 1 : Nat) : Int) + j))) := by
        unfold f_X10_undo
        rw [if_neg (by omega), rf_0]
        dsimp only
        rw [chk_t (by rw [q1]; omega), q1]
        exact lp
      refine ⟨_, _, ee, ⟨?_, ?_, ?_, fun i hi => ?_⟩, ?_, fun a i q => cg_X10_undo ee a i (by omega), fun _ => rfl⟩
      · refine (k2.2.2 (c - 1) (by show c - 1 < c; omega)).mv wf.1 (fun i h1 h2 => ?_)
        rw [mf_in (by omega), ms_a (by decide), ms_a (by decide)]
        congr 1; omega
      · refine ⟨by show c - 1 ≤ 4; omega, ?_, fun i hi => ?_⟩
        · rw [mf_a (by decide)]; exact q2
        · have hi : i < c - 1 := hi
          exact (k2.2.2 i (by show i < c; omega)).fr (fun j _ _ => by rw [mf_a (by decide), ms_a (by decide), ms_a (by decide)]) (w.2.1 i (by show i < c; omega)).1
      · rw [mf_a (by decide), ms_i (by decide), ms_i (by decide)]; exact k3
      · rw [mf_a (by decide), ms_a (by decide), ms_a (by decide)]; exact k4 i hi
      · rw [mf_a (by decide), ms_i (by decide), ms_eq]
end Misc
