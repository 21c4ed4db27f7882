/-! links added, removed, changed -/
theorem jnd_ct (s : Sg) (u v : Nat) : jnd s u v = decide (ct (jnb s u v) (sK s) ≠ 0) := by
  unfold jnd
  apply decide_eq_decide.mpr
  constructor
  · intro h q
    have := ffr_yes (jnb s u v) 0 (sK s) (by omega)
    rw [ct_0 q h] at this; cases this
  · intro h
    rcases Nat.lt_or_ge (ffr (jnb s u v) 0 (sK s)) (sK s) with q | q
    · exact q
    · exact absurd (ct_none (fun i hi => ffr_no (jnb s u v) 0 (sK s) i (Nat.zero_le _) (by omega))) h
section Links
variable {F : Nat} {M : Mem} {A : Ab} {x y z : Int}
theorem jnb_eq {s : Sg} (w : WN s) {u v i : Nat} (hne : u ≠ v) (hi : i < sK s) : jnb s u v i = (tch s i u && tch s i v) := by
  unfold jnb
  cases ht : tch s i u with
  | false => rfl
  | true =>
    rw [Bool.true_and, Bool.true_and]
    have := ends_of w hi ht
    by_cases c : oth s i u = v
    · rw [decide_eq_true c]
      exact (tch_iff.mpr (by omega)).symm
    · rw [decide_eq_false c]
      cases h2 : tch s i v with
      | false => rfl
      | true =>
        rcases tch_iff.mp h2 with q | q <;> omega
theorem mjoined (hF : 100000 ≤ F) {s : Sg} (w : WN s) (hS : SM 65 0 M s) {u v : Nat} (hu : u < 100) (hv : v < 100) (hne : u ≠ v) : f_X10_areJoined F u v M = some (bi (jnd s u v)) := by
  have w2 := w.2.1
  have e1 : M 65 1 = sK s := hS.2.1
  rw [jnd_ct]
  refine lpe (f := fun fu (y : Int × Int) => f_X10_areJoined_5 F fu u v y.1 y.2 M) (I := fun i y => y.1 = bi (decide (ct (jnb s u v) i ≠ 0)) ∧ y.2 = i) (Q := fun r => r = some (bi (decide (ct (jnb s u v) (sK s) ≠ 0)))) (sK s) ?_ ?_ (sK s) 0 F (0, 0) (by omega) (by omega) ⟨rfl, rfl⟩
  · rintro i fu ⟨y1, y2⟩ hi ⟨q1, q2⟩
    dsimp only at q1 q2 ⊢
    subst q1 q2
    right
    have hR := bi_R (decide (ct (jnb s u v) i ≠ 0))
    have hj := jnb_eq w hne hi
    rw [f_X10_areJoined_5, chk_t (by omega), if_neg (by omega)]
    by_cases c : ct (jnb s u v) i ≠ 0
    · have hm := ct_mono (jnb s u v) (show i ≤ i + 1 by omega)
      rw [decide_eq_true c, if_neg (by decide)]
      exact ⟨(1, (i : Int) + 1), rfl, by dsimp only; rw [decide_eq_true (by omega)]; rfl, rfl⟩
    · rw [decide_eq_false c, if_pos (by decide), misOf hS w hi hu, ob_s, chk_t (bi_R _)]
      cases ht : tch s i u with
      | false =>
        rw [ht, Bool.false_and] at hj
        rw [if_pos (by decide)]
        exact ⟨(0, (i : Int) + 1), rfl, by dsimp only; rw [ct_f hj, decide_eq_false c]; rfl, rfl⟩
      | true =>
        rw [ht, Bool.true_and] at hj
        rw [if_neg (by decide), misOf hS w hi hv, ob_s, chk_t (bi_R _)]
        cases ht2 : tch s i v with
        | false =>
          rw [ht2] at hj
          rw [if_pos (by decide)]
          exact ⟨(0, (i : Int) + 1), rfl, by dsimp only; rw [ct_f hj, decide_eq_false c]; rfl, rfl⟩
        | true =>
          rw [ht2] at hj
          rw [if_neg (by decide)]
          exact ⟨(1, (i : Int) + 1), rfl, by dsimp only; rw [ct_t hj, decide_eq_true (by omega)]; rfl, rfl⟩
  · rintro fu ⟨y1, y2⟩ ⟨q1, q2⟩
    dsimp only at q1 q2 ⊢
    subst q1 q2
    have hR := bi_R (decide (ct (jnb s u v) (sK s) ≠ 0))
    rw [f_X10_areJoined_5, chk_t (by omega), if_pos (by omega), chk_t (bi_bit _)]
theorem mjoin_ok {s : Sg} (h : SM 65 0 M s) (w : WN s) (hk : sK s < 16) {u v x : Nat} (hu : u < 100) (hv : v < 100) (hx : x < 100) : ∃ M', f_X10_joins u v x M = some M' ∧ SM 65 0 M' (sJoin s u v x) ∧ ∀ a i, a ≠ 65 → M' a i = M a i := by
  obtain ⟨h1, h2, h3, h4, h5⟩ := h
  have w1 := w.1
  have h2 : M 65 1 = sK s := h2
  have e3 : mset (mset (mset M 65 (2 + 3 * (sK s : Int)) u) 65 (2 + 3 * (sK s : Int) + 1) v) 65 (2 + 3 * (sK s : Int) + 2) x 65 1 = sK s := by rw [ms_i (by omega), ms_i (by omega), ms_i (by omega)]; exact h2
  have g : ∀ j : Int, j ≠ 1 → j ≠ 2 + 3 * (sK s : Int) → j ≠ 2 + 3 * (sK s : Int) + 1 → j ≠ 2 + 3 * (sK s : Int) + 2 → mset (mset (mset (mset M 65 (2 + 3 * (sK s : Int)) u) 65 (2 + 3 * (sK s : Int) + 1) v) 65 (2 + 3 * (sK s : Int) + 2) x) 65 1 ((sK s : Int) + 1) 65 j = M 65 j := by
    intro j k1 k2 k3 k4
    rw [ms_i k1, ms_i k4, ms_i k3, ms_i k2]
  refine ⟨mset (mset (mset (mset M 65 (2 + 3 * (sK s : Int)) u) 65 (2 + 3 * (sK s : Int) + 1) v) 65 (2 + 3 * (sK s : Int) + 2) x) 65 1 ((sK s : Int) + 1), ?_, ⟨?_, ?_, fun i hi => ?_, fun v' hv' => ?_, fun v' l hv' hl => ?_⟩, fun a i ha => by rw [ms_a ha, ms_a ha, ms_a ha, ms_a ha]⟩
  · unfold f_X10_joins
    rw [chk_t (by omega), h2, chk_t (by omega), chk_t (by omega), chk_t (by omega), e3, chk_t (by omega)]
  · rw [g _ (by omega) (by omega) (by omega) (by omega)]; exact h1
  · show mset _ 65 1 _ 65 (0 + 1) = _
    rw [Int.zero_add, ms_eq]; rfl
  · have hi : i < sK s + 1 := hi
    show _ = ((if i = sK s then u else sF s i : Nat) : Int) ∧ _ = ((if i = sK s then v else sS s i : Nat) : Int) ∧ _ = ((if i = sK s then x else sL s i : Nat) : Int)
    by_cases e : i = sK s
    · subst e
      rw [if_pos rfl, if_pos rfl, if_pos rfl]
      refine ⟨?_, ?_, ?_⟩
      · rw [show (0 : Int) + (2 + 3 * (sK s : Int)) = 2 + 3 * (sK s : Int) by omega, ms_i (by omega), ms_i (by omega), ms_i (by omega), ms_eq]
      · rw [show (0 : Int) + (3 + 3 * (sK s : Int)) = 2 + 3 * (sK s : Int) + 1 by omega, ms_i (by omega), ms_i (by omega), ms_eq]
      · rw [show (0 : Int) + (4 + 3 * (sK s : Int)) = 2 + 3 * (sK s : Int) + 2 by omega, ms_i (by omega), ms_eq]
    · rw [if_neg e, if_neg e, if_neg e, g _ (by omega) (by omega) (by omega) (by omega), g _ (by omega) (by omega) (by omega) (by omega), g _ (by omega) (by omega) (by omega) (by omega)]
      exact h3 i (by omega)
  · have hv' : v' < sN s := hv'
    rw [g _ (by omega) (by omega) (by omega) (by omega)]; exact h4 v' hv'
  · rw [g _ (by omega) (by omega) (by omega) (by omega)]; exact h5 v' l hv' hl
theorem op_addLink (hF : 100000 ≤ F) (w : WA A) (hC : JC M A) (hM : JM M A) (hx : inR x) (hy : inR y) (hz : inR z) : OpK (f_L_addLink F x y z M) (f_X10_addLink F x y z) := by
  have hc : A.2.1 ≤ 4 := hC.2.1.1
  have hS := hC.1
  have wn := w.1.1
  have w1 := wn.1
  have w2 := wn.2.1
  have e1 : M 1 1 = sK A.1 := hS.2.1
  have ref : ∀ (k : Int) M1, 0 < k → k < 10 → f_X10_addLink_94 F x y z k M1 = some (0, mset M1 64 3 k) := by
    intro k M1 h1 h2
    unfold f_X10_addLink_94
    rw [rf_p h1 h2 (fun q => ob (f_X10_saves F q.2) fun q10 => ob (f_X10_joins x y z q10) fun q11 => ob (f_X10_empties F q11) fun q12 => some ((q12 65 1) - 1, q12))]
  by_cases c : 0 ≤ x ∧ x < sN A.1
  · by_cases d : 0 ≤ y ∧ y < sN A.1
    · -- a wrong pair or length
      have no2 : (f_X9_addLink F x y z M = some (.inl 0, M)) → (∀ N, JM N A → f_X10_addLink_21 F x y z 1 N = f_X10_addLink_56 F x y z 1 N) → OpK (f_L_addLink F x y z M) (f_X10_addLink F x y z) := by
        intro h1 h2
        refine OpK.no (k := 2) w hC hM (by decide) (by decide) ?_ (fun M1 h => ?_)
        · unfold f_L_addLink
          rw [h1, ob_s, ox_inl, if_neg (by decide), if_pos rfl]
        · unfold f_X10_addLink
          rw [mN_t h.1 wn c, mN_t h.1 wn d, h2 M1 h]
          unfold f_X10_addLink_56
          rw [chk_t (by decide), if_neg (by decide), ref 2 M1 (by decide) (by decide)]
      obtain ⟨u, rfl⟩ : ∃ v : Nat, x = v := ⟨x.toNat, by omega⟩
      obtain ⟨v, rfl⟩ : ∃ v : Nat, y = v := ⟨y.toNat, by omega⟩
      have hu : u < sN A.1 := by omega
      have hv : v < sN A.1 := by omega
      by_cases e : 1 ≤ z ∧ z ≤ 9
      · obtain ⟨l, rfl⟩ : ∃ v : Nat, z = v := ⟨z.toNat, by omega⟩
        have hl : 1 ≤ l ∧ l ≤ 9 := by omega
        by_cases k : u = v
        · refine no2 ?_ (fun N h => ?_)
          · unfold f_X9_addLink
            rw [chk_t (by omega), nN_t hS wn c, ob_s, ox_inr, nN_t hS wn d, ob_s, ox_inr, nR_t hz (by decide) (by decide) e, ob_s, ox_inr, if_pos (by omega)]
          · unfold f_X10_addLink_21
            rw [chk_t (by omega), if_neg (by decide), if_pos (by omega)]
        · cases hj : jnd A.1 u v with
          | true =>
            refine no2 ?_ (fun N h => ?_)
            · unfold f_X9_addLink
              rw [chk_t (by omega), nN_t hS wn c, ob_s, ox_inr, nN_t hS wn d, ob_s, ox_inr, nR_t hz (by decide) (by decide) e, ob_s, ox_inr, if_neg (by omega), joined_eq hF hS wn (by omega) (by omega), ob_s, chk_t (bi_R _), hj, if_neg (by decide)]
            · unfold f_X10_addLink_21
              rw [chk_t (by omega), if_neg (by decide), if_neg (by omega), mW_t hz (by decide) (by decide) e, mjoined hF wn h.1 (by omega) (by omega) k, ob_s, chk_t (bi_R _), hj, if_neg (by decide)]
          | false =>
            by_cases hk : sK A.1 < 16
            · have wj := WN_join wn hk hu hv k hl.1 hl.2 hj
              refine OpK.mk (k := 0) (r := sK A.1) (B := pushA A (sClr (sJoin A.1 u v l))) w (WA_push (c := 0) hc w (WF_clr wj w.1.2.1)) (by decide) (fun _ => by omega) hM ?_ (fun N h => ?_)
              · obtain ⟨M1, a1, a2, a3⟩ := csave hF w hC
                obtain ⟨M2, b1, b2⟩ := join_ok a2.1 wn hk (u := u) (v := v) (x := l) (by omega) (by omega) (by omega)
                obtain ⟨M3, c1, c2, c3⟩ := cnet hF a2 wj b2 (fun a i q => cg_X6_join b1 a i (by omega))
                have e3 : M3 1 1 = sK A.1 + 1 := c2.1.2.1
                refine ⟨mset M3 1079 0 (sK A.1), ?_, c2.fr (fun a i q => ms_a (by omega)), fun a i q1 q2 => ?_, fun _ => ms_eq _ _ _ _⟩
                · unfold f_L_addLink f_X9_addLink
                  rw [chk_t (by omega), nN_t hS wn c, ob_s, ox_inr, nN_t hS wn d, ob_s, ox_inr, nR_t hz (by decide) (by decide) e, ob_s, ox_inr, if_neg (by omega), joined_eq hF hS wn (by omega) (by omega), ob_s, chk_t (bi_R _), hj, if_pos (by decide), if_pos (by omega), a1, ob_s, b1, ob_s, c1, ob_s, ob_s]
                  dsimp only
                  rw [ox_inr, e3, show (sK A.1 : Int) + 1 - 1 = sK A.1 by omega, chk_t (by omega)]
                · rw [ms_a (by omega), c3 a i (by omega)]; exact a3 a i (by omega)
              · obtain ⟨M1, a1, a2, a3⟩ := msave hF w (h.r3 w 0)
                obtain ⟨M2, b1, b2, b3⟩ := mjoin_ok a2.1 wn hk (u := u) (v := v) (x := l) (by omega) (by omega) (by omega)
                obtain ⟨M3, c1, c2, c3⟩ := mempt hF wj M2 b2
                have e3 : M3 65 1 = sK A.1 + 1 := c2.2.1
                have e65 : N 65 1 = sK A.1 := h.1.2.1
                have ee : f_X10_addLink F u v l N = some ((sK A.1 : Int), M3) := by
                  unfold f_X10_addLink
                  rw [mN_t h.1 wn c, mN_t h.1 wn d]
                  unfold f_X10_addLink_21
                  rw [chk_t (by omega), if_neg (by decide), if_neg (by omega), mW_t hz (by decide) (by decide) e, mjoined hF wn h.1 (by omega) (by omega) k, ob_s, chk_t (bi_R _), hj, if_pos (by decide), if_neg (by decide), if_neg (by omega)]
                  unfold f_X10_addLink_94
                  rw [rf_0]
                  dsimp only
                  rw [a1, ob_s, b1, ob_s, c1, ob_s, e3, show (sK A.1 : Int) + 1 - 1 = sK A.1 by omega]
                refine ⟨_, M3, ee, a2.jm hc w c2 (fun a i q => by rw [c3 a i (by omega), b3 a i (by omega)]), ?_, fun a i q => cg_X10_addLink ee a i (by omega), fun _ => rfl⟩
                rw [c3 64 3 (by omega), b3 64 3 (by decide), a3 64 3 (by omega) (by decide), ms_eq]
            · refine OpK.no (k := 3) w hC hM (by decide) (by decide) ?_ (fun M1 h => ?_)
              · unfold f_L_addLink f_X9_addLink
                rw [chk_t (by omega), nN_t hS wn c, ob_s, ox_inr, nN_t hS wn d, ob_s, ox_inr, nR_t hz (by decide) (by decide) e, ob_s, ox_inr, if_neg (by omega), joined_eq hF hS wn (by omega) (by omega), ob_s, chk_t (bi_R _), hj, if_pos (by decide), if_neg (by omega), ob_s, ox_inl, if_neg (by decide), if_neg (by decide), if_pos rfl]
              · have e65 : M1 65 1 = sK A.1 := h.1.2.1
                unfold f_X10_addLink
                rw [mN_t h.1 wn c, mN_t h.1 wn d]
                unfold f_X10_addLink_21
                rw [chk_t (by omega), if_neg (by decide), if_neg (by omega), mW_t hz (by decide) (by decide) e, mjoined hF wn h.1 (by omega) (by omega) k, ob_s, chk_t (bi_R _), hj, if_pos (by decide), if_neg (by decide), if_pos (by omega), ref 3 M1 (by decide) (by decide)]
      · refine no2 ?_ (fun N h => ?_)
        · unfold f_X9_addLink
          rw [chk_t (by omega), nN_t hS wn c, ob_s, ox_inr, nN_t hS wn d, ob_s, ox_inr, nR_f hz (by decide) (by decide) e, ob_s, ox_inl]
        · unfold f_X10_addLink_21
          by_cases k : u = v
          · rw [chk_t (by omega), if_neg (by decide), if_pos (by omega)]
          · rw [chk_t (by omega), if_neg (by decide), if_neg (by omega), mW_f hz (by decide) (by decide) e]
    · refine OpK.no (k := 1) w hC hM (by decide) (by decide) ?_ (fun M1 h => ?_)
      · unfold f_L_addLink f_X9_addLink
        rw [chk_t (by omega), nN_t hS wn c, ob_s, ox_inr, nN_f hS hy d, ob_s, ox_inl, ob_s, ox_inl, if_pos rfl]
      · unfold f_X10_addLink
        rw [mN_t h.1 wn c, mN_f h.1 wn hy d]
        unfold f_X10_addLink_21
        rw [chk_t (by omega), if_pos rfl]
        unfold f_X10_addLink_56
        rw [chk_t (by decide), if_pos rfl, ref 1 M1 (by decide) (by decide)]
  · refine OpK.no (k := 1) w hC hM (by decide) (by decide) ?_ (fun M1 h => ?_)
    · unfold f_L_addLink f_X9_addLink
      rw [chk_t (by omega), nN_f hS hx c, ob_s, ox_inl, ob_s, ox_inl, if_pos rfl]
    · unfold f_X10_addLink
      rw [mN_f h.1 wn hx c]
      unfold f_X10_addLink_21
      rw [chk_t (by omega), if_pos rfl]
      unfold f_X10_addLink_56
      rw [chk_t (by decide), if_pos rfl, ref 1 M1 (by decide) (by decide)]
theorem mdrop_ok (hF : 100000 ≤ F) {s : Sg} (h : SM 65 0 M s) (w : WN s) {i : Nat} (hi : i < sK s) : ∃ M', f_X10_removeLink_42 F F (2 + 3 * (i : Int)) (mset M 65 1 ((sK s : Int) - 1)) = some ((sK s : Int) - 1, M') ∧ SM 65 0 M' (sClr (sDrop s i)) ∧ ∀ a i, a ≠ 65 → M' a i = M a i := by
  have w1 := w.1
  have w2 := w.2.1
  refine lpe (f := fun fu (y : Int × Mem) => f_X10_removeLink_42 F fu y.1 y.2) (I := fun t y => y.1 = 2 + 3 * (i : Int) + t ∧ y.2 65 1 = (sK s : Int) - 1 ∧ (∀ j : Int, j ≠ 1 → y.2 65 j = if 2 + 3 * (i : Int) ≤ j ∧ j < 2 + 3 * (i : Int) + t then M 65 (j + 3) else M 65 j) ∧ ∀ a i, a ≠ 65 → y.2 a i = M a i) (Q := fun r => ∃ M', r = some ((sK s : Int) - 1, M') ∧ SM 65 0 M' (sClr (sDrop s i)) ∧ ∀ a i, a ≠ 65 → M' a i = M a i) (3 * (sK s - 1 - i)) ?_ ?_ (3 * (sK s - 1 - i)) 0 F (2 + 3 * (i : Int), mset M 65 1 ((sK s : Int) - 1)) (by omega) (by omega) ⟨by show _ = _; omega, ms_eq M 65 1 _, fun j hj => ?_, fun a i ha => ?_⟩
  · rintro t fu ⟨y1, N⟩ ht ⟨q1, q2, q3, q4⟩
    dsimp only at q1 q2 q3 q4 ⊢
    subst q1
    right
    have e := q3 (2 + 3 * (i : Int) + t + 3) (by omega)
    rw [if_neg (by omega)] at e
    refine ⟨(2 + 3 * (i : Int) + t + 1, mset N 65 (2 + 3 * (i : Int) + t) (N 65 (2 + 3 * (i : Int) + t + 3))), ?_, ?_, ?_, fun j hj => ?_, fun a j ha => ?_⟩
    · rw [f_X10_removeLink_42, chk_t (by omega), q2, chk_t (by omega), if_neg (by omega), chk_t (by omega), chk_t (by omega)]
    · show _ = _; omega
    · dsimp only; rw [ms_i (by omega)]; exact q2
    · dsimp only
      by_cases e2 : j = 2 + 3 * (i : Int) + t
      · subst e2; rw [ms_eq, e, if_pos (by omega)]
      · rw [ms_i e2, q3 j hj]
        by_cases c : 2 + 3 * (i : Int) ≤ j ∧ j < 2 + 3 * (i : Int) + t
        · rw [if_pos c, if_pos (by omega)]
        · rw [if_neg c, if_neg (by omega)]
    · dsimp only; rw [ms_a ha]; exact q4 a j ha
  · rintro fu ⟨y1, N⟩ ⟨q1, q2, q3, q4⟩
    dsimp only at q1 q2 q3 q4 ⊢
    subst q1
    obtain ⟨h1, h2, h3, h4, h5⟩ := h
    have hS2 : SM 65 0 N (sDrop s i) := by
      refine ⟨?_, ?_, fun j hj => ?_, fun v hv => ?_, fun v l hv hl => ?_⟩
      · rw [q3 0 (by decide), if_neg (by omega)]; exact h1
      · show N 65 (0 + 1) = ((sK s - 1 : Nat) : Int)
        rw [Int.zero_add, q2]; omega
      · have hj : j < sK s - 1 := hj
        show _ = ((if j < i then sF s j else sF s (j + 1) : Nat) : Int) ∧ _ = ((if j < i then sS s j else sS s (j + 1) : Nat) : Int) ∧ _ = ((if j < i then sL s j else sL s (j + 1) : Nat) : Int)
        rw [q3 (0 + (2 + 3 * (j : Int))) (by omega), q3 (0 + (3 + 3 * (j : Int))) (by omega), q3 (0 + (4 + 3 * (j : Int))) (by omega)]
        by_cases c : j < i
        · rw [if_pos c, if_pos c, if_pos c, if_neg (by omega), if_neg (by omega), if_neg (by omega)]; exact h3 j (by omega)
        · rw [if_neg c, if_neg c, if_neg c, if_pos (by omega), if_pos (by omega), if_pos (by omega)]
          obtain ⟨b1, b2, b3⟩ := h3 (j + 1) (by omega)
          refine ⟨?_, ?_, ?_⟩
          · rw [← b1]; congr 1
          · rw [← b2]; congr 1
          · rw [← b3]; congr 1
      · have hv : v < sN s := hv
        rw [q3 _ (by omega), if_neg (by omega)]; exact h4 v hv
      · rw [q3 _ (by omega), if_neg (by omega)]; exact h5 v l hv hl
    obtain ⟨M', a1, a2, a3⟩ := mempt hF (WN_drop w hi) N hS2
    have e1 : M' 65 1 = ((sK s - 1 : Nat) : Int) := a2.2.1
    refine ⟨M', ?_, a2, fun a j ha => (a3 a j (Or.inl ha)).trans (q4 a j ha)⟩
    rw [f_X10_removeLink_42, chk_t (by omega), q2, chk_t (by omega), if_pos (by omega), a1, ob_s, e1, show ((sK s - 1 : Nat) : Int) = (sK s : Int) - 1 by omega]
  · dsimp only; rw [ms_i hj, if_neg (by omega)]
  · dsimp only; rw [ms_a ha]
theorem op_removeLink (hF : 100000 ≤ F) (w : WA A) (hC : JC M A) (hM : JM M A) (hx : inR x) : OpK (f_L_removeLink F x M) (f_X10_removeLink F x) := by
  have hc : A.2.1 ≤ 4 := hC.2.1.1
  have hS := hC.1
  have wn := w.1.1
  have w1 := wn.1
  have w2 := wn.2.1
  by_cases c : 0 ≤ x ∧ x < sK A.1
  · obtain ⟨i, rfl⟩ : ∃ v : Nat, x = v := ⟨x.toNat, by omega⟩
    have hi : i < sK A.1 := by omega
    have wd := WN_drop wn hi
    refine OpK.mk (k := 0) (r := (sK A.1 : Int) - 1) (B := pushA A (sClr (sDrop A.1 i))) w (WA_push (c := 0) hc w (WF_clr wd w.1.2.1)) (by decide) (fun _ => by omega) hM ?_ (fun N h => ?_)
    · obtain ⟨M1, a1, a2, a3⟩ := csave hF w hC
      obtain ⟨M2, b1, b2⟩ := drop_ok hF a2.1 wn hi
      obtain ⟨M3, c1, c2, c3⟩ := cnet hF a2 wd b2 (fun a i q => cg_X6_drop b1 a i (by omega))
      have e3 : M3 1 1 = ((sK A.1 - 1 : Nat) : Int) := c2.1.2.1
      refine ⟨mset M3 1079 0 ((sK A.1 : Int) - 1), ?_, c2.fr (fun a i q => ms_a (by omega)), fun a i q1 q2 => ?_, fun _ => ms_eq _ _ _ _⟩
      · unfold f_L_removeLink f_X9_removeLink
        rw [nL_t hS wn c, ob_s, ox_inr, a1, ob_s, b1, ob_s, c1, ob_s, ob_s]
        dsimp only
        rw [ox_inr, e3, show ((sK A.1 - 1 : Nat) : Int) = (sK A.1 : Int) - 1 by omega, chk_t (by omega)]
      · rw [ms_a (by omega), c3 a i (by omega)]; exact a3 a i (by omega)
    · obtain ⟨M1, a1, a2, a3⟩ := msave hF w (h.r3 w 0)
      obtain ⟨M2, b1, b2, b3⟩ := mdrop_ok hF a2.1 wn hi
      have e65 : M1 65 1 = sK A.1 := a2.1.2.1
      have ee : f_X10_removeLink F i N = some ((sK A.1 : Int) - 1, M2) := by
        unfold f_X10_removeLink
        rw [mL_t h.1 wn c, rf_0]
        dsimp only
        rw [a1, ob_s, e65, chk_t (by omega), b1]
      refine ⟨_, M2, ee, a2.jm hc w b2 (fun a i q => b3 a i (by omega)), ?_, fun a i q => cg_X10_removeLink ee a i (by omega), fun _ => rfl⟩
      rw [b3 64 3 (by decide), a3 64 3 (by omega) (by decide), ms_eq]
  · refine OpK.no (k := 1) w hC hM (by decide) (by decide) ?_ (fun M1 h => ?_)
    · unfold f_L_removeLink f_X9_removeLink
      rw [nL_f hS hx c, ob_s, ox_inl, ob_s, ox_inl, if_pos rfl]
    · unfold f_X10_removeLink
      rw [mL_f h.1 wn hx c, rf_p (by decide) (by decide) (fun q => ob (f_X10_saves F q.2) fun q7 => chk (inR ((q7 65 1) - 1)) (f_X10_removeLink_42 F F (2 + (3 * x)) (mset q7 65 1 ((q7 65 1) - 1))))]
theorem mlen_ok {s : Sg} (h : SM 65 0 M s) (w : WN s) {i x : Nat} (hi : i < sK s) : SM 65 0 (mset M 65 (2 + 3 * (i : Int) + 2) x) (sLen s i x) := by
  obtain ⟨h1, h2, h3, h4, h5⟩ := h
  have w1 := w.1
  have w2 := w.2.1
  refine ⟨?_, ?_, fun j hj => ⟨?_, ?_, ?_⟩, fun v hv => ?_, fun v l hv hl => ?_⟩
  · rw [ms_i (by omega)]; exact h1
  · rw [ms_i (by omega)]; exact h2
  · rw [ms_i (by omega)]; exact (h3 j hj).1
  · rw [ms_i (by omega)]; exact (h3 j hj).2.1
  · show _ = ((if j = i then x else sL s j : Nat) : Int)
    by_cases c : j = i
    · subst c; rw [show (0 : Int) + (4 + 3 * (j : Int)) = 2 + 3 * (j : Int) + 2 by omega, ms_eq, if_pos rfl]
    · rw [ms_i (by omega), if_neg c]; exact (h3 j hj).2.2
  · have hv : v < sN s := hv
    rw [ms_i (by omega)]; exact h4 v hv
  · rw [ms_i (by omega)]; exact h5 v l hv hl
theorem op_setLength (hF : 100000 ≤ F) (w : WA A) (hC : JC M A) (hM : JM M A) (hx : inR x) (hy : inR y) : OpK (f_L_setLength F x y M) (f_X10_setLength F x y) := by
  have hc : A.2.1 ≤ 4 := hC.2.1.1
  have hS := hC.1
  have wn := w.1.1
  have w1 := wn.1
  have w2 := wn.2.1
  have ref : ∀ (k : Int) M1, 0 < k → k < 10 → f_X10_setLength_28 F x y k M1 = some (0, mset M1 64 3 k) := by
    intro k M1 h1 h2
    unfold f_X10_setLength_28
    rw [chk_t hy, rf_p h1 h2 (fun q => ob (f_X10_saves F q.2) fun q10 => ob (f_X10_part x 2 q10) fun q11 => chk (0 ≤ (2 + (3 * x)) + 2 ∧ (2 + (3 * x)) + 2 < 140) (ob (f_X10_empties F (mset q10 65 ((2 + (3 * x)) + 2) y)) fun q14 => some (q11, q14)))]
  by_cases c : 0 ≤ x ∧ x < sK A.1
  · by_cases d : 1 ≤ y ∧ y ≤ 9
    · obtain ⟨i, rfl⟩ : ∃ v : Nat, x = v := ⟨x.toNat, by omega⟩
      obtain ⟨l, rfl⟩ : ∃ v : Nat, y = v := ⟨y.toNat, by omega⟩
      have hi : i < sK A.1 := by omega
      have hl := wn.2.2.1 i hi
      have wd : WN (sLen A.1 i l) := WN_len wn (by omega) (by omega)
      have e4 : M 4 i = sL A.1 i := (hS.2.2.1 i hi).2.2
      refine OpK.mk (k := 0) (r := sL A.1 i) (B := pushA A (sClr (sLen A.1 i l))) w (WA_push (c := 0) hc w (WF_clr wd w.1.2.1)) (by decide) (fun _ => by omega) hM ?_ (fun N h => ?_)
      · obtain ⟨M1, a1, a2, a3⟩ := csave hF w hC
        obtain ⟨M3, c1, c2, c3⟩ := cnet hF a2 wd (len_ok a2.1 (i := i) (x := l)) (fun a i q => ms_a (by omega))
        have c1 : f_X9_networkChanged F (mset M1 4 i l) = some M3 := c1
        refine ⟨mset M3 1079 0 (sL A.1 i), ?_, c2.fr (fun a i q => ms_a (by omega)), fun a i q1 q2 => ?_, fun _ => ms_eq _ _ _ _⟩
        · unfold f_L_setLength f_X9_setLength
          rw [chk_t hy, nL_t hS wn c, ob_s, ox_inr, nR_t hy (by decide) (by decide) d, ob_s, ox_inr, chk_t (by omega), a1, ob_s, c1, ob_s, ob_s]
          dsimp only
          rw [ox_inr, e4, chk_t (by omega)]
        · rw [ms_a (by omega), c3 a i (by omega)]; exact a3 a i (by omega)
      · obtain ⟨M1, a1, a2, a3⟩ := msave hF w (h.r3 w 0)
        obtain ⟨M2, b1, b2, b3⟩ := mempt hF wd _ (mlen_ok a2.1 wn hi (x := l))
        have ee : f_X10_setLength F i l N = some ((sL A.1 i : Int), M2) := by
          unfold f_X10_setLength
          rw [mL_t h.1 wn c, mW_t hy (by decide) (by decide) d]
          unfold f_X10_setLength_28
          rw [chk_t hy, rf_0]
          dsimp only
          rw [a1, ob_s, mpart2 a2.1 wn hi, ob_s, chk_t (by omega), b1, ob_s]
        refine ⟨_, M2, ee, a2.jm hc w b2 (fun a i q => by rw [b3 a i (by omega), ms_a (by omega)]), ?_, fun a i q => cg_X10_setLength ee a i (by omega), fun _ => rfl⟩
        rw [b3 64 3 (by omega), ms_a (by decide), a3 64 3 (by omega) (by decide), ms_eq]
    · refine OpK.no (k := 2) w hC hM (by decide) (by decide) ?_ (fun M1 h => ?_)
      · unfold f_L_setLength f_X9_setLength
        rw [chk_t hy, nL_t hS wn c, ob_s, ox_inr, nR_f hy (by decide) (by decide) d, ob_s, ox_inl, ob_s, ox_inl, if_neg (by decide), if_pos rfl]
      · unfold f_X10_setLength
        rw [mL_t h.1 wn c, mW_f hy (by decide) (by decide) d, ref 2 M1 (by decide) (by decide)]
  · refine OpK.no (k := 1) w hC hM (by decide) (by decide) ?_ (fun M1 h => ?_)
    · unfold f_L_setLength f_X9_setLength
      rw [chk_t hy, nL_f hS hx c, ob_s, ox_inl, ob_s, ox_inl, if_pos rfl]
    · unfold f_X10_setLength
      rw [mL_f h.1 wn hx c, ref 1 M1 (by decide) (by decide)]
end Links
