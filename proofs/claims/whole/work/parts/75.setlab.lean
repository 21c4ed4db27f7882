/-! ranks, and setLabels -/
theorem ct_sub_lt {p q : Nat → Bool} : ∀ {n x : Nat}, (∀ i, i < n → p i = true → q i = true) → x < n → p x = false → q x = true → ct p n < ct q n
  | 0, x, _, hx, _, _ => absurd hx (Nat.not_lt_zero x)
  | n + 1, x, h, hx, h1, h2 => by
    have hs := ct_sub (p := p) (q := q) (n := n) (fun i hi => h i (by omega))
    by_cases e : x = n
    · subst e; rw [ct_f h1, ct_t h2]; omega
    · have := ct_sub_lt (p := p) (q := q) (n := n) (x := x) (fun i hi => h i (by omega)) (by omega) h1 h2
      rw [ct_s, ct_s]
      by_cases hp : p n = true
      · rw [if_pos hp, if_pos (h n (by omega) hp)]; omega
      · rw [if_neg hp]; omega
def bef (s : Sg) (r v u : Nat) : Bool := decide (dis s r u < dis s r v ∨ (dis s r u = dis s r v ∧ u < v))
def rk (s : Sg) (r v : Nat) : Nat := ct (bef s r v) (sN s)
theorem PB_rk (s : Sg) (r : Nat) : PB (sN s) (rk s r) := by
  have self : ∀ v, bef s r v v = false := fun v => decide_eq_false (by omega)
  have key : ∀ v w, v < sN s → w < sN s → bef s r w v = true → rk s r v < rk s r w := by
    intro v w hv hw h
    refine ct_sub_lt (x := v) (fun i _ hi => ?_) hv (self v) h
    unfold bef at h hi ⊢
    rw [decide_eq_true_eq] at h hi ⊢
    omega
  refine PB.of (fun v hv => ?_) (fun v w hv hw hne => ?_)
  · have := ct_gap (self v) (sN s) hv
    unfold rk; omega
  · by_cases c : bef s r w v = true
    · have := key v w hv hw c; omega
    · have c2 : bef s r v w = true := by
        unfold bef at c ⊢
        rw [decide_eq_true_eq] at c ⊢
        omega
      have := key w v hw hv c2; omega
section SetLab
variable {F : Nat} {M : Mem} {A : Ab} {x y z : Int}
theorem rank_ok (hF : 100000 ≤ F) {s : Sg} (w : WN s) {r : Nat} (hr : r < sN s) (M0 : Mem) (hY : WY M0 s) (h0 : M0 1 0 = sN s) : ∃ M', f_X1_byRank F r M0 = some M' ∧ (∀ v : Nat, v < sN s → M' 5 v = rk s r v) ∧ ∀ a i, a ≠ 5 → M' a i = M0 a i := by
  have w1 := w.1
  refine lpe (f := fun fu (y : Int × Mem) => f_X1_byRank_3 F fu r y.1 y.2) (I := fun k y => y.1 = k ∧ (∀ v : Nat, v < k → y.2 5 v = rk s r v) ∧ ∀ a j, a ≠ 5 → y.2 a j = M0 a j) (Q := fun q => ∃ M', q = some M' ∧ (∀ v : Nat, v < sN s → M' 5 v = rk s r v) ∧ ∀ a i, a ≠ 5 → M' a i = M0 a i) (sN s) ?_ ?_ (sN s) 0 F (0, M0) (by omega) (by omega) ⟨rfl, fun v hv => absurd hv (Nat.not_lt_zero v), fun _ _ _ => rfl⟩
  · rintro v fu ⟨y1, N⟩ hv ⟨q1, q2, q3⟩
    dsimp only at q1 q2 q3 ⊢
    subst q1
    right
    have e0 : N 1 0 = sN s := by rw [q3 1 0 (by decide)]; exact h0
    have hY2 : WY N s := hY.fr (fun a i k1 k2 => q3 a i (by omega))
    have hin : f_X1_byRank_18 F (f_X1_byRank_3 F fu) F r v 0 0 N = f_X1_byRank_3 F fu r ((v : Int) + 1) (mset N 5 v (rk s r v)) := by
      refine lpe (f := fun fu' (y : Int × Int) => f_X1_byRank_18 F (f_X1_byRank_3 F fu) fu' r v y.1 y.2 N) (I := fun u y => y.1 = ct (bef s r v) u ∧ y.2 = u) (Q := fun q => q = f_X1_byRank_3 F fu r ((v : Int) + 1) (mset N 5 v (rk s r v))) (sN s) ?_ ?_ (sN s) 0 F (0, 0) (by omega) (by omega) ⟨rfl, rfl⟩
      · rintro u fu' ⟨y1, y2⟩ hu ⟨p1, p2⟩
        dsimp only at p1 p2 ⊢
        subst p1 p2
        right
        have d1 := dis_le w hr hu
        have d2 := dis_le w hr hv
        have hcl := ct_le (bef s r v) u
        rw [f_X1_byRank_18, chk_t (by omega), if_neg (by omega), bet_eq w hY2 hr hu, ob_s, bet_eq w hY2 hr hv, ob_s, chk_t (by omega)]
        by_cases c1 : dis s r u < dis s r v
        · have hb : bef s r v u = true := decide_eq_true (Or.inl c1)
          rw [if_pos (by omega)]
          exact ⟨((ct (bef s r v) u : Int) + 1, (u : Int) + 1), rfl, by dsimp only; rw [ct_t hb]; rfl, rfl⟩
        · rw [if_neg (by omega)]
          by_cases c2 : dis s r u = dis s r v
          · rw [if_pos (by omega)]
            by_cases c3 : v ≤ u
            · have hb : bef s r v u = false := decide_eq_false (by omega)
              rw [if_pos (by omega)]
              exact ⟨((ct (bef s r v) u : Int), (u : Int) + 1), rfl, by dsimp only; rw [ct_f hb], rfl⟩
            · have hb : bef s r v u = true := decide_eq_true (by omega)
              rw [if_neg (by omega)]
              exact ⟨((ct (bef s r v) u : Int) + 1, (u : Int) + 1), rfl, by dsimp only; rw [ct_t hb]; rfl, rfl⟩
          · have hb : bef s r v u = false := decide_eq_false (by omega)
            rw [if_neg (by omega)]
            exact ⟨((ct (bef s r v) u : Int), (u : Int) + 1), rfl, by dsimp only; rw [ct_f hb], rfl⟩
      · rintro fu' ⟨y1, y2⟩ ⟨p1, p2⟩
        dsimp only at p1 p2 ⊢
        subst p1 p2
        have hcl := ct_le (bef s r v) (sN s)
        rw [f_X1_byRank_18, chk_t (by omega), if_pos (by omega), chk_t (by omega)]; rfl
    refine ⟨((v : Int) + 1, mset N 5 v (rk s r v)), ?_, rfl, fun u hu => ?_, fun a j ha => ?_⟩
    · rw [f_X1_byRank_3, chk_t (by omega), if_neg (by omega), hin]
    · dsimp only
      by_cases q : u = v
      · subst q; rw [ms_eq]
      · rw [ms_i (by omega)]; exact q2 u (by omega)
    · dsimp only; rw [ms_a ha]; exact q3 a j ha
  · rintro fu ⟨y1, N⟩ ⟨q1, q2, q3⟩
    dsimp only at q1 q2 q3 ⊢
    subst q1
    have e0 : N 1 0 = sN s := by rw [q3 1 0 (by decide)]; exact h0
    exact ⟨N, by rw [f_X1_byRank_3, chk_t (by omega), if_pos (by omega)], q2, q3⟩
theorem mrank_ok (hF : 100000 ≤ F) {s : Sg} (w : WN s) {r : Nat} (hr : r < sN s) (M0 : Mem) (hS : SM 65 0 M0 s) : ∃ M', f_X10_ranks F r M0 = some M' ∧ LB M' (sN s) (rk s r) ∧ ∀ a i, a ≠ 68 → (a ≠ 65 ∨ i < 50 ∨ 59 ≤ i) → M' a i = M0 a i := by
  have w1 := w.1
  obtain ⟨M1, a1, a2, a3⟩ := far_ok hF w M0 hS
  have h0 : M1 65 0 = sN s := by rw [a3 65 0 (by decide)]; exact hS.1
  unfold f_X10_ranks
  rw [a1, ob_s]
  refine lpe (f := fun fu (y : Int × Mem) => f_X10_ranks_6 F fu r y.1 y.2) (I := fun k y => y.1 = k ∧ (∀ v : Nat, v < k → y.2 65 (50 + (v : Int)) = rk s r v) ∧ ∀ a j, (a ≠ 65 ∨ j < 50 ∨ 59 ≤ j) → y.2 a j = M1 a j) (Q := fun q => ∃ M', q = some M' ∧ LB M' (sN s) (rk s r) ∧ ∀ a i, a ≠ 68 → (a ≠ 65 ∨ i < 50 ∨ 59 ≤ i) → M' a i = M0 a i) (sN s) ?_ ?_ (sN s) 0 F (0, M1) (by omega) (by omega) ⟨rfl, fun v hv => absurd hv (Nat.not_lt_zero v), fun _ _ _ => rfl⟩
  · rintro v fu ⟨y1, N⟩ hv ⟨q1, q2, q3⟩
    dsimp only at q1 q2 q3 ⊢
    subst q1
    right
    have e0 : N 65 0 = sN s := by rw [q3 65 0 (by omega)]; exact h0
    have hD : FM N (sN s) (dis s) := fun a b ha hb => by rw [q3 68 _ (by omega)]; exact a2 a b ha hb
    have hin : f_X10_ranks_21 F (f_X10_ranks_6 F fu) F r v 0 0 N = f_X10_ranks_6 F fu r ((v : Int) + 1) (mset N 65 (50 + (v : Int)) (rk s r v)) := by
      refine lpe (f := fun fu' (y : Int × Int) => f_X10_ranks_21 F (f_X10_ranks_6 F fu) fu' r v y.1 y.2 N) (I := fun u y => y.1 = ct (bef s r v) u ∧ y.2 = u) (Q := fun q => q = f_X10_ranks_6 F fu r ((v : Int) + 1) (mset N 65 (50 + (v : Int)) (rk s r v))) (sN s) ?_ ?_ (sN s) 0 F (0, 0) (by omega) (by omega) ⟨rfl, rfl⟩
      · rintro u fu' ⟨y1, y2⟩ hu ⟨p1, p2⟩
        dsimp only at p1 p2 ⊢
        subst p1 p2
        right
        have d1 := dis_le w hr hu
        have d2 := dis_le w hr hv
        have hcl := ct_le (bef s r v) u
        rw [f_X10_ranks_21, chk_t (by omega), if_neg (by omega), mfar w hD hr hu, mfar w hD hr hv, ob_s, ob_s, chk_t (by omega), chk_t (by omega)]
        by_cases c1 : dis s r u < dis s r v
        · have hb : bef s r v u = true := decide_eq_true (Or.inl c1)
          rw [if_pos (by omega)]
          exact ⟨((ct (bef s r v) u : Int) + 1, (u : Int) + 1), rfl, by dsimp only; rw [ct_t hb]; rfl, rfl⟩
        · rw [if_neg (by omega), ob_s, ob_s, chk_t (by omega), chk_t (by omega)]
          by_cases c2 : dis s r u = dis s r v
          · rw [if_pos (by omega)]
            by_cases c3 : v ≤ u
            · have hb : bef s r v u = false := decide_eq_false (by omega)
              rw [if_pos (by omega)]
              exact ⟨((ct (bef s r v) u : Int) + 0, (u : Int) + 1), rfl, by dsimp only; rw [ct_f hb]; omega, rfl⟩
            · have hb : bef s r v u = true := decide_eq_true (by omega)
              rw [if_neg (by omega)]
              exact ⟨((ct (bef s r v) u : Int) + 1, (u : Int) + 1), rfl, by dsimp only; rw [ct_t hb]; rfl, rfl⟩
          · have hb : bef s r v u = false := decide_eq_false (by omega)
            rw [if_neg (by omega)]
            exact ⟨((ct (bef s r v) u : Int) + 0, (u : Int) + 1), rfl, by dsimp only; rw [ct_f hb]; omega, rfl⟩
      · rintro fu' ⟨y1, y2⟩ ⟨p1, p2⟩
        dsimp only at p1 p2 ⊢
        subst p1 p2
        have hcl := ct_le (bef s r v) (sN s)
        rw [f_X10_ranks_21, chk_t (by omega), if_pos (by omega), chk_t (by omega)]; rfl
    refine ⟨((v : Int) + 1, mset N 65 (50 + (v : Int)) (rk s r v)), ?_, rfl, fun u hu => ?_, fun a j ha => ?_⟩
    · rw [f_X10_ranks_6, chk_t (by omega), if_neg (by omega), hin]
    · dsimp only
      by_cases q : u = v
      · subst q; rw [ms_eq]
      · rw [ms_i (by omega)]; exact q2 u (by omega)
    · dsimp only
      have : mset N 65 (50 + (v : Int)) (rk s r v) a j = N a j := by unfold mset; rw [if_neg (by omega)]
      rw [this]; exact q3 a j ha
  · rintro fu ⟨y1, N⟩ ⟨q1, q2, q3⟩
    dsimp only at q1 q2 q3 ⊢
    subst q1
    have e0 : N 65 0 = sN s := by rw [q3 65 0 (by omega)]; exact h0
    exact ⟨N, by rw [f_X10_ranks_6, chk_t (by omega), if_pos (by omega)], q2, fun a i k1 k2 => (q3 a i k2).trans (a3 a i k1)⟩
theorem mset_loop (hF : 100000 ≤ F) {n : Nat} (hn : n ≤ 9) (hx : inR x) {b : Nat → Nat} (M0 : Mem) (h0 : M0 65 0 = n) (hb : ∀ v : Nat, v < n → (if x = 3 then M0 75 v else (v : Int)) = b v) : ∃ M', f_X10_setLabels_102 F F x 0 M0 = (ob (f_X10_empties F M') fun q16 => chk (0 ≤ (50 + (q16 65 0)) - 1 ∧ (50 + (q16 65 0)) - 1 < 140) (some (q16 65 ((50 + (q16 65 0)) - 1), q16))) ∧ LB M' n b ∧ ∀ a j, (a ≠ 65 ∨ j < 50 ∨ 59 ≤ j) → M' a j = M0 a j := by
  refine lpe (f := fun fu (y : Int × Mem) => f_X10_setLabels_102 F fu x y.1 y.2) (I := fun k y => y.1 = k ∧ (∀ v : Nat, v < k → y.2 65 (50 + (v : Int)) = b v) ∧ ∀ a j, (a ≠ 65 ∨ j < 50 ∨ 59 ≤ j) → y.2 a j = M0 a j) (Q := fun q => ∃ M', q = (ob (f_X10_empties F M') fun q16 => chk (0 ≤ (50 + (q16 65 0)) - 1 ∧ (50 + (q16 65 0)) - 1 < 140) (some (q16 65 ((50 + (q16 65 0)) - 1), q16))) ∧ LB M' n b ∧ ∀ a j, (a ≠ 65 ∨ j < 50 ∨ 59 ≤ j) → M' a j = M0 a j) n ?_ ?_ n 0 F (0, M0) (by omega) (by omega) ⟨rfl, fun v hv => absurd hv (Nat.not_lt_zero v), fun _ _ _ => rfl⟩
  · rintro v fu ⟨y1, N⟩ hv ⟨q1, q2, q3⟩
    dsimp only at q1 q2 q3 ⊢
    subst q1
    right
    have e0 : N 65 0 = n := by rw [q3 65 0 (by omega)]; exact h0
    have hbv := hb v hv
    refine ⟨((v : Int) + 1, mset N 65 (50 + (v : Int)) (b v)), ?_, rfl, fun u hu => ?_, fun a j ha => ?_⟩
    · rw [f_X10_setLabels_102, chk_t (by omega), if_neg (by omega)]
      by_cases c : x = 3
      · rw [if_pos c] at hbv
        rw [if_pos c, chk_t (by omega), chk_t (by omega), q3 75 _ (by omega), hbv]
      · rw [if_neg c] at hbv
        rw [if_neg c, chk_t (by omega), ← hbv]
    · dsimp only
      by_cases q : u = v
      · subst q; rw [ms_eq]
      · rw [ms_i (by omega)]; exact q2 u (by omega)
    · dsimp only
      have : mset N 65 (50 + (v : Int)) (b v) a j = N a j := by unfold mset; rw [if_neg (by omega)]
      rw [this]; exact q3 a j ha
  · rintro fu ⟨y1, N⟩ ⟨q1, q2, q3⟩
    dsimp only at q1 q2 q3 ⊢
    subst q1
    have e0 : N 65 0 = n := by rw [q3 65 0 (by omega)]; exact h0
    exact ⟨N, by rw [f_X10_setLabels_102, chk_t (by omega), if_pos (by omega)], q2, q3⟩
theorem sl_fin (hF : 100000 ≤ F) (w : WA A) (hC : JC M A) (hM : JM M A) (hx : inR x) (hy : 0 ≤ y ∧ y < sN A.1) {b : Nat → Nat} (hb : PB (sN A.1) b) (hc2 : f_X9_setLabels F x y M = f_X9_setLabels_21 F x y M) (hm2 : ∀ N, JM N A → f_X10_setLabels F x y N = f_X10_setLabels_47 F x y 0 N) (hcl : ∀ M1, f_X0_save F M = some M1 → JS M1 A → ∃ M2, f_X9_setLabels_21 F x y M = f_X9_setLabels_123 F M2 ∧ (∀ v : Nat, v < sN A.1 → M2 5 v = b v) ∧ (∀ a i, (1 ≤ a ∧ a < 7) → a ≠ 5 → M2 a i = M1 a i) ∧ (HC M2 (pushC A.2.1) (pushH A.2.1 A.2.2.1 A.1) ∧ (M2 62 0 = A.2.2.2.1 ∧ ∀ i : Nat, i < A.2.2.2.1 → M2 63 i = A.2.2.2.2 i) ∧ WY M2 A.1 ∧ SR M2 A.1) ∧ ∀ a i, 64 ≤ a → M2 a i = M1 a i) (hmo : ∀ N M1, f_X10_saves F (mset N 64 3 0) = some M1 → KS M1 A → ∃ M2, f_X10_setLabels_47 F x y 0 N = (ob (f_X10_empties F M2) fun q16 => chk (0 ≤ (50 + (q16 65 0)) - 1 ∧ (50 + (q16 65 0)) - 1 < 140) (some (q16 65 ((50 + (q16 65 0)) - 1), q16))) ∧ SM 65 0 M2 (sLab A.1 b) ∧ ∀ a i, (a = 64 ∧ (i = 2 ∨ i = 3 ∨ i = 5)) ∨ a = 66 ∨ a = 67 → M2 a i = M1 a i) : OpK (f_L_setLabels F x y M) (f_X10_setLabels F x y) := by
  have hc : A.2.1 ≤ 4 := hC.2.1.1
  have wn := w.1.1
  have w1 := wn.1
  have hlt := hb.1 (sN A.1 - 1) (by omega)
  refine OpK.mk (k := 0) (r := b (sN A.1 - 1)) (B := pushA A (sClr (sLab A.1 b))) w (WA_push (c := 0) hc w (WF_lab wn hb)) (by decide) (fun _ => by omega) hM ?_ (fun N h => ?_)
  · obtain ⟨M1, a1, a2, a3⟩ := csave hF w hC
    obtain ⟨M2, b1, b2, b3, ⟨k1, k2, k3, k4⟩, b5⟩ := hcl M1 a1 a2
    obtain ⟨M3, c1, c2, c3⟩ := clab hF (NE.lab A.1 b) wn (a2.1.relab b2 b3) k1 k2 k3 k4
    have e0 : M3 1 0 = sN A.1 := c2.1.1
    have e5 : M3 5 (M3 1 0 - 1) = b (sN A.1 - 1) := by
      have : M3 5 ((sN A.1 - 1 : Nat) : Int) = b (sN A.1 - 1) := c2.1.2.2.2.1 (sN A.1 - 1) (by show sN A.1 - 1 < sN A.1; omega)
      rw [← this, e0]; congr 1; omega
    refine ⟨mset M3 1079 0 (b (sN A.1 - 1)), ?_, c2.fr (fun a i q => ms_a (by omega)), fun a i q1 q2 => ?_, fun _ => ms_eq _ _ _ _⟩
    · have ee : f_X9_setLabels F x y M = some (.inr ((b (sN A.1 - 1) : Nat) : Int), M3) := by
        rw [hc2, b1]
        unfold f_X9_setLabels_123
        rw [c1, ob_s, chk_t (by omega), e5]
      unfold f_L_setLabels
      rw [ee, ob_s]
      dsimp only
      rw [ox_inr, chk_t (by omega)]
    · rw [ms_a (by omega), c3 a i (by omega), b5 a i q1]; exact a3 a i (by omega)
  · obtain ⟨M1, a1, a2, a3⟩ := msave hF w (h.r3 w 0)
    obtain ⟨M2, b1, b2, b4⟩ := hmo N M1 a1 a2
    obtain ⟨M3, c1, c2, c3⟩ := mempt hF (s := sLab A.1 b) wn M2 b2
    have e0 : M3 65 0 = sN A.1 := c2.1
    have e5 : M3 65 (50 + M3 65 0 - 1) = b (sN A.1 - 1) := by
      have : M3 65 (50 + ((sN A.1 - 1 : Nat) : Int)) = b (sN A.1 - 1) := mlabel c2 (v := sN A.1 - 1) (by show sN A.1 - 1 < sN A.1; omega)
      rw [← this, e0]; congr 1; omega
    have ee : f_X10_setLabels F x y N = some ((b (sN A.1 - 1) : Int), M3) := by
      rw [hm2 N h, b1, c1, ob_s, chk_t (by omega), e5]
    refine ⟨_, M3, ee, a2.jm hc w c2 (fun a i q => by rw [c3 a i (by omega), b4 a i (by omega)]), ?_, fun a i q => cg_X10_setLabels ee a i (by omega), fun _ => rfl⟩
    rw [c3 64 3 (by omega), b4 64 3 (by omega), a3 64 3 (by omega) (by decide), ms_eq]
theorem op_setLabels (hF : 100000 ≤ F) (w : WA A) (hC : JC M A) (hM : JM M A) (hx : inR x) (hy : inR y) : OpK (f_L_setLabels F x y M) (f_X10_setLabels F x y) := by
  have hc : A.2.1 ≤ 4 := hC.2.1.1
  have hS := hC.1
  have wn := w.1.1
  have w1 := wn.1
  have e0 := hS.1
  have ref : ∀ (k : Int) M1, 0 < k → k < 10 → f_X10_setLabels_47 F x y k M1 = some (0, mset M1 64 3 k) := by
    intro k M1 h1 h2
    unfold f_X10_setLabels_47
    rw [chk_t hx, rf_p h1 h2 (fun q => ob (f_X10_saves F q.2) fun q11 => if x = 1 then ob (f_X10_visits F y q11) fun q28 => ob (f_X10_empties F q28) fun q29 => chk (0 ≤ (50 + (q29 65 0)) - 1 ∧ (50 + (q29 65 0)) - 1 < 140) (some (q29 65 ((50 + (q29 65 0)) - 1), q29)) else if x = 2 then ob (f_X10_ranks F y q11) fun q25 => ob (f_X10_empties F q25) fun q26 => chk (0 ≤ (50 + (q26 65 0)) - 1 ∧ (50 + (q26 65 0)) - 1 < 140) (some (q26 65 ((50 + (q26 65 0)) - 1), q26)) else if x = 3 then ob (f_X10_bestOf F q11) fun q24 => f_X10_setLabels_102 F F x 0 q24.2 else f_X10_setLabels_102 F F x 0 q11)]
  by_cases c : 0 ≤ x ∧ x ≤ 3
  · by_cases d : 0 ≤ y ∧ y < sN A.1
    · by_cases e : x = 3 ∧ 6 < sN A.1
      · refine OpK.no (k := 3) w hC hM (by decide) (by decide) ?_ (fun M1 h => ?_)
        · unfold f_L_setLabels f_X9_setLabels f_X9_needSearchable
          rw [chk_t hx, nR_t hx (by decide) (by decide) c, ob_s, ox_inr, nN_t hS wn d, ob_s, ox_inr, if_pos e.1, if_neg (by omega), ob_s, ox_inl, ob_s, ox_inl, if_neg (by decide), if_neg (by decide), if_pos rfl]
        · have e65 : M1 65 0 = sN A.1 := h.1.1
          unfold f_X10_setLabels
          rw [chk_t hx, mW_t hx (by decide) (by decide) c, mN_t h.1 wn d, if_pos e.1, if_neg (by omega), ref 3 M1 (by decide) (by decide)]
      · obtain ⟨r, rfl⟩ : ∃ v : Nat, y = v := ⟨y.toNat, by omega⟩
        have hr : r < sN A.1 := by omega
        have hc2 : f_X9_setLabels F x r M = f_X9_setLabels_21 F x r M := by
          unfold f_X9_setLabels f_X9_needSearchable
          rw [chk_t hx, nR_t hx (by decide) (by decide) c, ob_s, ox_inr, nN_t hS wn d, ob_s, ox_inr]
          by_cases k : x = 3
          · rw [if_pos k, if_pos (by omega), ob_s, ox_inr]
          · rw [if_neg k]
        have hm2 : ∀ N, JM N A → f_X10_setLabels F x r N = f_X10_setLabels_47 F x r 0 N := by
          intro N h
          have e65 : N 65 0 = sN A.1 := h.1.1
          unfold f_X10_setLabels
          rw [chk_t hx, mW_t hx (by decide) (by decide) c, mN_t h.1 wn d]
          by_cases k : x = 3
          · rw [if_pos k, if_pos (by omega)]
          · rw [if_neg k]
        have m47 : ∀ N M1, f_X10_saves F (mset N 64 3 0) = some M1 → f_X10_setLabels_47 F x r 0 N = (if x = 1 then ob (f_X10_visits F r M1) fun q28 => ob (f_X10_empties F q28) fun q29 => chk (0 ≤ (50 + (q29 65 0)) - 1 ∧ (50 + (q29 65 0)) - 1 < 140) (some (q29 65 ((50 + (q29 65 0)) - 1), q29)) else if x = 2 then ob (f_X10_ranks F r M1) fun q25 => ob (f_X10_empties F q25) fun q26 => chk (0 ≤ (50 + (q26 65 0)) - 1 ∧ (50 + (q26 65 0)) - 1 < 140) (some (q26 65 ((50 + (q26 65 0)) - 1), q26)) else if x = 3 then ob (f_X10_bestOf F M1) fun q24 => f_X10_setLabels_102 F F x 0 q24.2 else f_X10_setLabels_102 F F x 0 M1) := by
          intro N M1 h
          unfold f_X10_setLabels_47
          rw [chk_t hx, rf_0]
          dsimp only
          rw [h, ob_s]
        rcases (show x = 0 ∨ x = 1 ∨ x = 2 ∨ x = 3 by omega) with rfl | rfl | rfl | rfl
        · -- the initial labels
          refine sl_fin hF w hC hM hx d (PB.id _) hc2 hm2 (fun M1 h1 h2 => ?_) (fun N M1 h1 h2 => ?_)
          · have e1 := h2.1.1
            refine ⟨mfill M1 (1 + 4) 0 (sN A.1) (fun j => j), ?_, fun v hv => mf_in (by omega), fun a i q1 q2 => mf_a (by omega), h2.lab (fun a i q => mf_a (by omega)), fun a i q => mf_a (by omega)⟩
            unfold f_X9_setLabels_21
            rw [chk_t hx, h1, ob_s, if_pos rfl, reset_eq hF w1 e1, ob_s]
          · have e1 : M1 65 0 = sN A.1 := h2.1.1
            obtain ⟨M2, b1, b2, b3⟩ := mset_loop (x := 0) hF w1 (by decide) (b := fun v => v) M1 e1 (fun v hv => by rw [if_neg (by decide)])
            refine ⟨M2, ?_, SM.relab wn h2.1 (fun i q => b3 65 i (by omega)) b2, fun a i q => b3 a i (by omega)⟩
            rw [m47 N M1 h1, if_neg (by decide), if_neg (by decide), if_neg (by decide), b1]
        · -- by first visits
          obtain ⟨Mx, x1, x2, x3, x4, x5⟩ := depth_ok hF wn hr M hS
          refine sl_fin hF w hC hM hx d x2 hc2 hm2 (fun M1 h1 h2 => ?_) (fun N M1 h1 h2 => ?_)
          · obtain ⟨M2, b1, b2, b3, b4, b5⟩ := depth_ok hF wn hr M1 h2.1
            refine ⟨M2, ?_, b3, fun a i q1 q2 => b5 a i (by omega) (by omega), h2.lab (fun a i q => b5 a i (by omega) (by omega)), fun a i q => b5 a i (by omega) (by omega)⟩
            unfold f_X9_setLabels_21
            rw [chk_t hx, h1, ob_s, if_neg (by decide), if_pos rfl, b1, ob_s]
          · obtain ⟨M2, b1, b2, b3⟩ := visits_ok hF wn hr x4 M1 h2.1
            refine ⟨M2, ?_, SM.relab wn h2.1 (fun i q => b3 65 i (by omega) (by decide)) b2, fun a i q => b3 a i (by omega) (by omega)⟩
            rw [m47 N M1 h1, if_pos rfl, b1, ob_s]
        · -- by ranks
          refine sl_fin hF w hC hM hx d (PB_rk A.1 r) hc2 hm2 (fun M1 h1 h2 => ?_) (fun N M1 h1 h2 => ?_)
          · obtain ⟨M2, b1, b2, b3⟩ := rank_ok hF wn hr M1 h2.2.2.2.1 h2.1.1
            refine ⟨M2, ?_, b2, fun a i q1 q2 => b3 a i q2, h2.lab (fun a i q => b3 a i (by omega)), fun a i q => b3 a i (by omega)⟩
            unfold f_X9_setLabels_21
            rw [chk_t hx, h1, ob_s, if_neg (by decide), if_neg (by decide), if_pos rfl, b1, ob_s]
          · obtain ⟨M2, b1, b2, b3⟩ := mrank_ok hF wn hr M1 h2.1
            refine ⟨M2, ?_, SM.relab wn h2.1 (fun i q => b3 65 i (by decide) (by omega)) b2, fun a i q => b3 a i (by omega) (by omega)⟩
            rw [m47 N M1 h1, if_neg (by decide), if_pos rfl, b1, ob_s]
        · -- the best ones
          have h6 : sN A.1 ≤ 6 := by omega
          obtain ⟨s1, s2⟩ := srch_ok wn h6
          refine sl_fin hF w hC hM hx d s2 hc2 hm2 (fun M1 h1 h2 => ?_) (fun N M1 h1 h2 => ?_)
          · obtain ⟨M2, b1, b2, b3, b4⟩ := ens_ok hF wn h6 M1 h2.2.2.2.1 h2.2.2.2.2
            have e1 : M1 1 0 = sN A.1 := h2.1.1
            have e2 : M2 1 0 = sN A.1 := by rw [b4 1 0 (by omega)]; exact e1
            obtain ⟨k1, k2, k3⟩ : HC M2 (pushC A.2.1) (pushH A.2.1 A.2.2.1 A.1) ∧ (M2 62 0 = A.2.2.2.1 ∧ ∀ i : Nat, i < A.2.2.2.1 → M2 63 i = A.2.2.2.2 i) ∧ WY M2 A.1 := ⟨h2.2.1.fr (fun a i q1 q2 => b4 a i (by omega)), ⟨by rw [b4 62 0 (by omega)]; exact h2.2.2.1.1, fun i hi => by rw [b4 63 i (by omega)]; exact h2.2.2.1.2 i hi⟩, h2.2.2.2.1.fr (fun a i q1 q2 => b4 a i (by omega))⟩
            refine ⟨mcpy M2 53 0 5 0 (sN A.1), ?_, fun v hv => ?_, fun a i q1 q2 => ?_, ⟨k1.fr (fun a i q1 q2 => mc_a (by omega)), ⟨by rw [mc_a (by decide)]; exact k2.1, fun i hi => by rw [mc_a (by decide)]; exact k2.2 i hi⟩, k3.fr (fun a i q1 q2 => mc_a (by omega)), ?_⟩, fun a i q => ?_⟩
            · unfold f_X9_setLabels_21 f_X5_copyBest
              rw [chk_t hx, h1, ob_s, if_neg (by decide), if_neg (by decide), if_neg (by decide), e1, b1, ob_s, e2, chk_t (by omega), ob_s]
            · rw [mc_in (by omega), show (0 : Int) + ((v : Int) - 0) = v by omega]; exact b3.2.2.1 (by omega) v hv
            · rw [mc_a q2]; exact b4 a i (by omega)
            · refine SR.fr (M := M2) (Or.inr ⟨b2, b3⟩) (fun a i q => mc_a (by omega))
            · rw [mc_a (by omega)]; exact b4 a i (by omega)
          · obtain ⟨M2, b1, b2, b3, b4⟩ := mbestOf_ok hF w.1.g h6 M1 h2.1
            have e1 : M2 65 0 = sN A.1 := b2.1
            obtain ⟨M3, c1, c2, c3⟩ := mset_loop (x := 3) hF w1 (by decide) (b := (srch A.1).2.2.1) M2 e1 (fun v hv => by rw [if_pos rfl]; exact b3.1 (by omega) v hv)
            refine ⟨M3, ?_, SM.relab wn b2 (fun i q => c3 65 i (by omega)) c2, fun a i q => ?_⟩
            · rw [m47 N M1 h1, if_neg (by decide), if_neg (by decide), if_pos rfl, b1, ob_s]; exact c1
            · rw [c3 a i (by omega)]; exact b4 a i (by omega) (by omega) (by omega) (by omega) (by omega) (by omega) (by omega) (by omega) (by omega) (by omega)
    · refine OpK.no (k := 2) w hC hM (by decide) (by decide) ?_ (fun M1 h => ?_)
      · unfold f_L_setLabels f_X9_setLabels
        rw [chk_t hx, nR_t hx (by decide) (by decide) c, ob_s, ox_inr, nN_f hS hy d, ob_s, ox_inl, ob_s, ox_inl, if_neg (by decide), if_pos rfl]
      · unfold f_X10_setLabels
        rw [chk_t hx, mW_t hx (by decide) (by decide) c, mN_f h.1 wn hy d, ref 2 M1 (by decide) (by decide)]
  · refine OpK.no (k := 1) w hC hM (by decide) (by decide) ?_ (fun M1 h => ?_)
    · unfold f_L_setLabels f_X9_setLabels
      rw [chk_t hx, nR_f hx (by decide) (by decide) c, ob_s, ox_inl, ob_s, ox_inl, if_pos rfl]
    · unfold f_X10_setLabels
      rw [chk_t hx, mW_f hx (by decide) (by decide) c, ref 1 M1 (by decide) (by decide)]
end SetLab
