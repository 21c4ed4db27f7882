/-! best tables: the class fills a ring -/
theorem tb_C {C : Nat → Nat → Bool} {m : Nat} (h : neC C m) (hm : m ≤ 8) {f : Nat} (hf : f < 17) (hc : C 0 f = true) : ∀ k, k < m → tb C m f k < 17 ∧ C k (tb C m f k) = true
  | 0, _ => ⟨hf, hc⟩
  | k + 1, hk => by
    obtain ⟨x, q1, q2, q3⟩ := tb_ex h hm f (tb C m f k) k hk
    have e : tb C m f (k + 1) = ffr (fun x => C (k + 1) x && decide (cst (tb C m f k) x + rst C m f (m - 1 - (k + 1)) x = rst C m f (m - (k + 1)) (tb C m f k))) 0 17 := rfl
    have hl : tb C m f (k + 1) < 17 := by
      rw [e]
      rcases Nat.lt_or_ge (ffr (fun x => C (k + 1) x && decide (cst (tb C m f k) x + rst C m f (m - 1 - (k + 1)) x = rst C m f (m - (k + 1)) (tb C m f k))) 0 17) 17 with hh | hh
      · exact hh
      · have := ffr_no (fun x => C (k + 1) x && decide (cst (tb C m f k) x + rst C m f (m - 1 - (k + 1)) x = rst C m f (m - (k + 1)) (tb C m f k))) 0 17 x (by omega) (by omega)
        simp only [q2, q3, decide_true, Bool.and_self] at this
        cases this
    refine ⟨hl, ?_⟩
    have := ffr_yes (fun x => C (k + 1) x && decide (cst (tb C m f k) x + rst C m f (m - 1 - (k + 1)) x = rst C m f (m - (k + 1)) (tb C m f k))) 0 17 (by rw [e] at hl; omega)
    rw [Bool.and_eq_true] at this
    exact this.1
theorem foll_in {F : Nat} (hF : 100000 ≤ F) {t : Nat} (ht : t = 44 ∨ t = 55) {m : Nat} {C : Nat → Nat → Bool} (hm : m ≤ 8) {f k : Nat} (hk : k + 1 < m) {b : Nat} (hb : b < 17) (k22 : Int → Int → Mem → Option Mem) (M : Mem) (h : CH M m C) (hP : PR M m C f (fun _ _ => True)) {x0 : Nat} (hx0 : x0 = ffr (fun x => C (k + 1) x && decide (cst b x + rst C m f (m - 1 - (k + 1)) x = rst C m f (m - (k + 1)) b)) 0 17) : f_X7_follow_45 F t k22 F (rst C m f (m - (k + 1)) b : Int) ((k + 1 : Nat) : Int) (dec b) 0 M = k22 (rst C m f (m - 1 - (k + 1)) x0 : Int) ((k + 1 : Nat) + 1 : Int) (mset M (t + 1) ((k + 1 : Nat) : Int) (dec x0)) := by
  have hne := h.ne
  obtain ⟨h1, h2, h3, h4⟩ := h (k + 1) hk
  have hd := rst_1000 C m f (m - (k + 1)) b
  refine lpc (f := fun fu (y : Int) => f_X7_follow_45 F t k22 fu (rst C m f (m - (k + 1)) b : Int) ((k + 1 : Nat) : Int) (dec b) y M) (p := C (k + 1)) (I := fun x y => y = ct (C (k + 1)) x ∧ ∀ z, z < x → (C (k + 1) z && decide (cst b z + rst C m f (m - 1 - (k + 1)) z = rst C m f (m - (k + 1)) b)) = false) (Q := fun r => r = k22 (rst C m f (m - 1 - (k + 1)) x0 : Int) ((k + 1 : Nat) + 1 : Int) (mset M (t + 1) ((k + 1 : Nat) : Int) (dec x0))) 17 ?_ ?_ ?_ 17 0 F 0 (by omega) (by omega) ⟨rfl, fun z hz => absurd hz (Nat.not_lt_zero z)⟩
  · rintro x fu y hx hc ⟨q1, q2⟩
    subst q1
    have b2 := ct_lt hx hc
    have b3 := cst_le b x
    have b4 := rst_1000 C m f (m - 1 - (k + 1)) x
    have p1 := hP (k + 1) x trivial hk hx hc
    rw [f_X7_follow_45, chk_t (by omega), chk_t (by omega), if_neg (by omega), chk_t (by omega), h4 x hx hc, step_eq hb hx, ob_s, p1, chk_t (by omega)]
    by_cases c : cst b x + rst C m f (m - 1 - (k + 1)) x = rst C m f (m - (k + 1)) b
    · left
      have ex : x0 = x := by
        rw [hx0]
        exact ffr_at (p := fun x => C (k + 1) x && decide (cst b x + rst C m f (m - 1 - (k + 1)) x = rst C m f (m - (k + 1)) b)) hx (by simp only [hc, c, decide_true, Bool.and_self]) q2
      rw [if_pos (by omega), ms_a (by omega), p1, ex]
    · right
      rw [if_neg (by omega)]
      refine ⟨(ct (C (k + 1)) x : Int) + 1, rfl, ?_, fun z hz => ?_⟩
      · rw [ct_t hc]; rfl
      · by_cases e : z = x
        · subst e; rw [decide_eq_false c, Bool.and_false]
        · exact q2 z (by omega)
  · rintro x y hx hc ⟨q1, q2⟩
    refine ⟨by rw [ct_f hc]; exact q1, fun z hz => ?_⟩
    by_cases e : z = x
    · subst e; rw [hc, Bool.false_and]
    · exact q2 z (by omega)
  · rintro fu y ⟨q1, q2⟩
    exfalso
    obtain ⟨x, r1, r2, r3⟩ := tb_ex hne hm f b k hk
    have := q2 x r1
    simp only [r2, r3, decide_true, Bool.and_self] at this
    cases this
theorem foll_ok {F : Nat} (hF : 100000 ≤ F) {t : Nat} (ht : t = 44 ∨ t = 55) {m : Nat} {C : Nat → Nat → Bool} (hm : m ≤ 8) (h0 : 0 < m) {f : Nat} (hf17 : f < 17) (hfc : C 0 f = true) (M0 : Mem) (hm0 : M0 t 0 = m) (h : CH M0 m C) (hP : PR M0 m C f (fun _ _ => True)) : ∃ M', f_X7_follow F t (ct (C 0) f) M0 = some M' ∧ (∀ k, k < m → M' (t + 1) k = dec (tb C m f k)) ∧ ∀ a i, a ≠ t + 1 → M' a i = M0 a i := by
  have hne := h.ne
  obtain ⟨h1, h2, h3, h4⟩ := h 0 h0
  have b2 := ct_lt hf17 hfc
  have e4 := h4 f hf17 hfc
  have p1 := hP 0 f trivial h0 hf17 hfc
  rw [show ((0 : Nat) : Int) * 8 + (ct (C 0) f : Int) = ct (C 0) f by omega] at e4 p1
  unfold f_X7_follow
  rw [chk_t (by omega), e4, ms_a (by omega), p1]
  refine lpe (f := fun fu (y : Int × Int × Mem) => f_X7_follow_22 F t fu y.1 y.2.1 y.2.2) (I := fun k y => 1 ≤ k ∧ y.1 = rst C m f (m - k) (tb C m f (k - 1)) ∧ y.2.1 = k ∧ (∀ j, j < k → y.2.2 (t + 1) j = dec (tb C m f j)) ∧ ∀ a i, a ≠ t + 1 → y.2.2 a i = M0 a i) (Q := fun r => ∃ M', r = some M' ∧ (∀ k, k < m → M' (t + 1) k = dec (tb C m f k)) ∧ ∀ a i, a ≠ t + 1 → M' a i = M0 a i) m ?_ ?_ (m - 1) 1 F ((rst C m f (m - 1 - 0) f : Int), 1, mset M0 (t + 1) 0 (dec f)) (by omega) (by omega) ⟨by omega, rfl, rfl, fun j hj => ?_, fun a i ha => ?_⟩
  · rintro k fu ⟨y1, y2, M⟩ hk ⟨q0, q1, q2, q3, q4⟩
    dsimp only at q1 q2 q3 q4 ⊢
    subst q1 q2
    right
    obtain ⟨k, rfl⟩ : ∃ j, k = j + 1 := ⟨k - 1, by omega⟩
    have hC : CH M m C := h.fr (fun a i q => q4 a i (by omega))
    have hP2 : PR M m C f (fun _ _ => True) := fun a b hab ha hb hc => by rw [q4 50 _ (by omega)]; exact hP a b hab ha hb hc
    have e0 : M t 0 = m := by rw [q4 t 0 (by omega)]; exact hm0
    have eb : M (t + 1) (((k + 1 : Nat) : Int) - 1) = dec (tb C m f k) := by rw [← q3 k (by omega)]; congr 1; omega
    have hb := (tb_C hne hm hf17 hfc k (by omega)).1
    have hin := foll_in hF ht hm hk hb (f_X7_follow_22 F t fu) M hC hP2 (x0 := tb C m f (k + 1)) rfl
    refine ⟨((rst C m f (m - 1 - (k + 1)) (tb C m f (k + 1)) : Int), ((k + 1 : Nat) + 1 : Int), mset M (t + 1) ((k + 1 : Nat) : Int) (dec (tb C m f (k + 1)))), ?_, by omega, ?_, rfl, fun j hj => ?_, fun a i ha => ?_⟩
    · rw [f_X7_follow_22, chk_t (by omega), if_neg (by omega), chk_t (by omega), eb, show k + 1 - 1 = k by omega, hin]
    · dsimp only
      rw [show m - (k + 1 + 1) = m - 1 - (k + 1) by omega, show k + 1 + 1 - 1 = k + 1 by omega]
    · dsimp only
      by_cases e : j = k + 1
      · subst e; rw [ms_eq]
      · rw [ms_i (by omega)]; exact q3 j (by omega)
    · dsimp only; rw [ms_a ha]; exact q4 a i ha
  · rintro fu ⟨y1, y2, M⟩ ⟨q0, q1, q2, q3, q4⟩
    dsimp only at q1 q2 q3 q4 ⊢
    subst q1 q2
    have e0 : M t 0 = m := by rw [q4 t 0 (by omega)]; exact hm0
    exact ⟨M, by rw [f_X7_follow_22, chk_t (by omega), if_pos (by omega)], q3, q4⟩
  · dsimp only
    obtain rfl : j = 0 := by omega
    exact ms_eq _ _ _ _
  · dsimp only; rw [ms_a ha]
theorem fill3_ok {F : Nat} (hF : 100000 ≤ F) {t : Nat} (ht : t = 44 ∨ t = 55) {m : Nat} {C : Nat → Nat → Bool} (hm : m ≤ 8) (h0 : 0 < m) (M0 : Mem) (hm0 : M0 t 0 = m) (h : CH M0 m C) : ∃ M', f_X7_fill_83 F t F 1000 0 M0 = some M' ∧ RC t M' m (fun k => dec (bst C m k)) ∧ ∀ a i, a ≠ 50 → a ≠ t + 1 → M' a i = M0 a i := by
  have hne := h.ne
  refine lpc (f := fun fu (y : Int × Int × Mem) => f_X7_fill_83 F t fu y.1 y.2.1 y.2.2) (p := C 0) (I := fun x y => y.1 = (bf C m x).2 ∧ y.2.1 = ct (C 0) x ∧ ((bf C m x).1 < 17 → ∀ k, k < m → y.2.2 (t + 1) k = dec (tb C m (bf C m x).1 k)) ∧ ∀ a i, a ≠ 50 → a ≠ t + 1 → y.2.2 a i = M0 a i) (Q := fun r => ∃ M', r = some M' ∧ RC t M' m (fun k => dec (bst C m k)) ∧ ∀ a i, a ≠ 50 → a ≠ t + 1 → M' a i = M0 a i) 17 ?_ ?_ ?_ 17 0 F (1000, 0, M0) (by omega) (by omega) ⟨rfl, rfl, fun q => absurd (show 17 < 17 from q) (by decide), fun _ _ _ _ => rfl⟩
  · rintro x fu ⟨y1, y2, M⟩ hx hc ⟨q1, q2, q3, q4⟩
    dsimp only at q1 q2 q3 q4 ⊢
    subst q1 q2
    right
    have hC : CH M m C := h.fr (fun a i q => q4 a i (by omega) (by omega))
    have e0 : M t 0 = m := by rw [q4 t 0 (by omega) (by omega)]; exact hm0
    obtain ⟨h1, h2, h3, h4⟩ := hC 0 h0
    have h1' : M 48 0 = ct (C 0) 17 := h1
    have b1 := ct_lt hx hc
    have b2 := (bf_ok hne hm h0 x).2
    have e4 := h4 x hx hc
    rw [show ((0 : Nat) : Int) * 8 + (ct (C 0) x : Int) = ct (C 0) x by omega] at e4
    obtain ⟨M1, a1, a2, a3⟩ := price_ok hF hm hx M hC
    have p1 := a2 0 x trivial h0 hx hc
    rw [show ((0 : Nat) : Int) * 8 + (ct (C 0) x : Int) = ct (C 0) x by omega, show m - 1 - 0 = m - 1 by omega] at p1
    rw [f_X7_fill_83, chk_t (by omega), if_neg (by omega), chk_t (by omega), e4, e0, a1, ob_s, p1]
    by_cases c : rst C m x (m - 1) x < (bf C m x).2
    · have eb : bf C m (x + 1) = (x, rst C m x (m - 1) x) := by rw [bf, if_pos ⟨hc, c⟩]
      obtain ⟨M2, c1, c2, c3⟩ := foll_ok hF ht hm h0 hx hc M1 (by rw [a3 t 0 (by omega)]; exact e0) (hC.fr (fun a i q => a3 a i (by omega))) a2
      rw [if_neg (by omega), c1, ob_s]
      refine ⟨((rst C m x (m - 1) x : Int), (ct (C 0) x : Int) + 1, M2), rfl, ?_, ?_, fun _ => ?_, fun a i k1 k2 => ?_⟩
      · rw [eb]
      · rw [ct_t hc]; rfl
      · rw [eb]; exact c2
      · exact (c3 a i k2).trans ((a3 a i k1).trans (q4 a i k1 k2))
    · have eb : bf C m (x + 1) = bf C m x := by rw [bf, if_neg (fun q => c q.2)]
      rw [if_pos (by omega)]
      refine ⟨(((bf C m x).2 : Int), (ct (C 0) x : Int) + 1, M1), rfl, ?_, ?_, fun q k hk => ?_, fun a i k1 k2 => ?_⟩
      · rw [eb]
      · rw [ct_t hc]; rfl
      · rw [eb] at q ⊢
        exact (a3 (t + 1) k (by omega)).trans (q3 q k hk)
      · exact (a3 a i k1).trans (q4 a i k1 k2)
  · rintro x ⟨y1, y2, M⟩ hx hc ⟨q1, q2, q3, q4⟩
    have eb : bf C m (x + 1) = bf C m x := by rw [bf, if_neg (fun q => by rw [hc] at q; cases q.1)]
    exact ⟨by rw [eb]; exact q1, by rw [ct_f hc]; exact q2, by rw [eb]; exact q3, q4⟩
  · rintro fu ⟨y1, y2, M⟩ ⟨q1, q2, q3, q4⟩
    dsimp only at q1 q2 q3 q4 ⊢
    subst q1 q2
    have hC : CH M m C := h.fr (fun a i q => q4 a i (by omega) (by omega))
    have e0 : M t 0 = m := by rw [q4 t 0 (by omega) (by omega)]; exact hm0
    obtain ⟨h1, h2, h3, h4⟩ := hC 0 h0
    have h1' : M 48 0 = ct (C 0) 17 := h1
    have b := (bf_ok hne hm h0 17)
    refine ⟨M, ?_, ⟨e0, fun k hk => q3 (b.1 (hne 0 h0)).1 k hk⟩, q4⟩
    have := b.2
    rw [f_X7_fill_83, chk_t (by omega), if_pos (by omega)]
theorem copyCh_ok {F : Nat} (hF : 100000 ≤ F) {s : Sg} (w : WN s) {v x k : Nat} (hv : v < sN s) (hx : x < sN s) (hk : k < 8) (M0 : Mem) (h : GP M0 s v x) : ∃ M', f_X8_copyChoices F v x ((k : Int) * 8) M0 = some ((ct (chP s v x) 17 : Int), M') ∧ (∀ z, z < 17 → chP s v x z = true → M' 49 ((k : Int) * 8 + ct (chP s v x) z) = dec z) ∧ ∀ a i, (a ≠ 49 ∨ i < (k : Int) * 8 ∨ (k : Int) * 8 + 8 ≤ i) → M' a i = M0 a i := by
  have w1 := w.1
  have h17 := chP_17 w hv x
  obtain ⟨g1, g2, g3⟩ := h
  refine lpc (f := fun fu (y : Int × Mem) => f_X8_copyChoices_11 F fu ((k : Int) * 8) ((v : Int) * 9 + x) y.1 y.2) (p := chP s v x) (I := fun z y => y.1 = ct (chP s v x) z ∧ (∀ j, j < z → chP s v x j = true → y.2 49 ((k : Int) * 8 + ct (chP s v x) j) = dec j) ∧ ∀ a i, (a ≠ 49 ∨ i < (k : Int) * 8 ∨ (k : Int) * 8 + 8 ≤ i) → y.2 a i = M0 a i) (Q := fun r => ∃ M', r = some ((ct (chP s v x) 17 : Int), M') ∧ (∀ z, z < 17 → chP s v x z = true → M' 49 ((k : Int) * 8 + ct (chP s v x) z) = dec z) ∧ ∀ a i, (a ≠ 49 ∨ i < (k : Int) * 8 ∨ (k : Int) * 8 + 8 ≤ i) → M' a i = M0 a i) 17 ?_ ?_ ?_ 17 0 F (0, M0) (by omega) (by omega) ⟨rfl, fun j hj => absurd hj (Nat.not_lt_zero j), fun _ _ _ => rfl⟩
  · rintro z fu ⟨y1, M⟩ hz hc ⟨q1, q2, q3⟩
    dsimp only at q1 q2 q3 ⊢
    subst q1
    right
    have b1 := ct_lt hz hc
    have e1 : M 43 ((v : Int) * 9 + x) = ct (chP s v x) 17 := by rw [q3 43 _ (by omega)]; exact g2
    have e2 : M 42 (((v : Int) * 9 + x) * 8 + ct (chP s v x) z) = dec z := by rw [q3 42 _ (by omega)]; exact g3 z hz hc
    refine ⟨((ct (chP s v x) z : Int) + 1, mset M 49 ((k : Int) * 8 + ct (chP s v x) z) (dec z)), ?_, ?_, fun j hj hp => ?_, fun a i ha => ?_⟩
    · rw [f_X8_copyChoices_11, chk_t (by omega), chk_t (by omega), if_neg (by omega), chk_t (by omega), chk_t (by omega), e2]
    · rw [ct_t hc]; rfl
    · dsimp only
      by_cases e : j = z
      · subst e; rw [ms_eq]
      · have := ct_lt (show j < z by omega) hp
        rw [ms_i (by omega)]; exact q2 j (by omega) hp
    · dsimp only
      have : mset M 49 ((k : Int) * 8 + ct (chP s v x) z) (dec z) a i = M a i := by unfold mset; rw [if_neg (by omega)]
      rw [this]; exact q3 a i ha
  · rintro z ⟨y1, M⟩ hz hc ⟨q1, q2, q3⟩
    refine ⟨by rw [ct_f hc]; exact q1, fun j hj hp => ?_, q3⟩
    by_cases e : j = z
    · subst e; rw [hc] at hp; cases hp
    · exact q2 j (by omega) hp
  · rintro fu ⟨y1, M⟩ ⟨q1, q2, q3⟩
    dsimp only at q1 q2 q3 ⊢
    subst q1
    have e1 : M 43 ((v : Int) * 9 + x) = ct (chP s v x) 17 := by rw [q3 43 _ (by omega)]; exact g2
    refine ⟨M, ?_, q2, q3⟩
    rw [f_X8_copyChoices_11, chk_t (by omega), chk_t (by omega), if_pos (by omega), e1]
/-- the choices of the places of the node v, its label own, the nodes of the labels nd -/
def chC (s : Sg) (v own : Nat) (nd : Nat → Nat) (k : Nat) : Nat → Bool := chP s v (nd (lab own k))
theorem fill_ok {F : Nat} (hF : 100000 ≤ F) {t : Nat} (ht : t = 44 ∨ t = 55) {s : Sg} (w : WN s) {v own : Nat} (hv : v < sN s) (ho : own < sN s) {nd : Nat → Nat} (hnd : ∀ l, l < sN s → nd l < sN s) (M0 : Mem) (hY : WY M0 s) (hn : M0 46 0 = sN s) (hs : ∀ l, l < sN s → M0 47 l = nd l) : ∃ M', f_X7_fill F t v own M0 = some M' ∧ RC t M' (sN s - 1) (fun k => dec (bst (chC s v own nd) (sN s - 1) k)) ∧ ∀ a i, a ≠ 48 → a ≠ 49 → a ≠ 50 → a ≠ t + 1 → (a ≠ t ∨ i ≠ 0) → M' a i = M0 a i := by
  have w1 := w.1
  have hm1 : mset M0 t 0 (M0 46 0 - 1) t 0 = ((sN s - 1 : Nat) : Int) := by rw [ms_eq]; omega
  unfold f_X7_fill
  rw [chk_t (by omega)]
  by_cases c : sN s - 1 = 0
  · rw [if_neg (by omega)]
    refine ⟨_, rfl, ⟨hm1, fun p hp => by omega⟩, fun a i _ _ _ _ h => ?_⟩
    unfold mset; rw [if_neg (by omega)]
  · rw [if_pos (by omega)]
    refine lpe (f := fun fu (y : Int × Mem) => f_X7_fill_23 F t fu v own y.1 y.2) (I := fun k y => y.1 = k ∧ (∀ j, j < k → y.2 48 j = ct (chC s v own nd j) 17 ∧ ∀ z, z < 17 → chC s v own nd j z = true → y.2 49 ((j : Int) * 8 + ct (chC s v own nd j) z) = dec z) ∧ y.2 t 0 = ((sN s - 1 : Nat) : Int) ∧ ∀ a i, a ≠ 48 → a ≠ 49 → (a ≠ t ∨ i ≠ 0) → y.2 a i = M0 a i) (Q := fun r => ∃ M', r = some M' ∧ RC t M' (sN s - 1) (fun k => dec (bst (chC s v own nd) (sN s - 1) k)) ∧ ∀ a i, a ≠ 48 → a ≠ 49 → a ≠ 50 → a ≠ t + 1 → (a ≠ t ∨ i ≠ 0) → M' a i = M0 a i) (sN s - 1) ?_ ?_ (sN s - 1) 0 F (0, mset M0 t 0 (M0 46 0 - 1)) (by omega) (by omega) ⟨rfl, fun j hj => absurd hj (Nat.not_lt_zero j), hm1, fun a i _ _ h => ?_⟩
    · rintro k fu ⟨y1, M⟩ hk ⟨q1, q2, q3, q4⟩
      dsimp only at q1 q2 q3 q4 ⊢
      subst q1
      right
      have hl : lab own k < sN s := by unfold lab; split <;> omega
      have hx := hnd _ hl
      have e7 : M 47 (lab own k) = nd (lab own k) := by rw [q4 47 _ (by omega) (by omega) (by omega)]; exact hs _ hl
      have hG : GP M s v (nd (lab own k)) := by
        obtain ⟨g1, g2, g3⟩ := hY.2 v _ hv hx
        exact ⟨by rw [q4 41 _ (by omega) (by omega) (by omega)]; exact g1, by rw [q4 43 _ (by omega) (by omega) (by omega)]; exact g2, fun z hz hc => by rw [q4 42 _ (by omega) (by omega) (by omega)]; exact g3 z hz hc⟩
      have h17 := chP_17 w hv (nd (lab own k))
      obtain ⟨M1, a1, a2, a3⟩ := copyCh_ok hF w hv hx (show k < 8 by omega) M hG
      refine ⟨((k : Int) + 1, mset M1 48 k (ct (chP s v (nd (lab own k))) 17 : Int)), ?_, rfl, fun j hj => ?_, ?_, fun a i k1 k2 k3 => ?_⟩
      · rw [f_X7_fill_23, chk_t (by omega), if_neg (by omega), labAt (by omega) (by omega), ob_s, chk_t (by omega), e7, a1, ob_s, chk_t (by omega), chk_t (by omega)]
      · dsimp only
        by_cases e : j = k
        · subst e
          exact ⟨ms_eq _ _ _ _, fun z hz hc => by rw [ms_a (by decide)]; exact a2 z hz hc⟩
        · obtain ⟨r1, r2⟩ := q2 j (by omega)
          refine ⟨?_, fun z hz hc => ?_⟩
          · rw [ms_i (by omega), a3 48 _ (by omega)]; exact r1
          · have b1 := ct_lt hz hc
            have b2 : ct (chC s v own nd j) 17 ≤ 8 := (chP_17 w hv _).2
            rw [ms_a (by decide), a3 49 _ (by omega)]; exact r2 z hz hc
      · dsimp only; rw [ms_a (by omega), a3 t 0 (by omega)]; exact q3
      · dsimp only; rw [ms_a k1, a3 a i (by omega)]; exact q4 a i k1 k2 k3
    · rintro fu ⟨y1, M⟩ ⟨q1, q2, q3, q4⟩
      dsimp only at q1 q2 q3 q4 ⊢
      subst q1
      have hC : CH M (sN s - 1) (chC s v own nd) := fun j hj => ⟨(q2 j hj).1, (chP_17 w hv _).1, (chP_17 w hv _).2, (q2 j hj).2⟩
      obtain ⟨M', c1, c2, c3⟩ := fill3_ok hF ht (by omega) (by omega) M q3 hC
      refine ⟨M', ?_, c2, fun a i k1 k2 k3 k4 k5 => (c3 a i k3 k4).trans (q4 a i k1 k2 k5)⟩
      rw [f_X7_fill_23, chk_t (by omega), if_pos (by omega), c1]
    · dsimp only; unfold mset; rw [if_neg (by omega)]
theorem bst_ok {s : Sg} (w : WN s) {v own : Nat} (hv : v < sN s) {nd : Nat → Nat} : okE (sN s - 1) (sK s) (fun k => dec (bst (chC s v own nd) (sN s - 1) k)) := by
  have w1 := w.1
  have w2 := w.2.1
  have hne : neC (chC s v own nd) (sN s - 1) := by
    intro k _
    have h17 := (chP_17 w hv (nd (lab own k))).1
    by_cases c : ∃ x, x < 17 ∧ chC s v own nd k x = true
    · exact c
    · have : ct (chP s v (nd (lab own k))) 17 = 0 := ct_none (fun i hi => by
        cases hc : chP s v (nd (lab own k)) i with
        | false => rfl
        | true => exact absurd ⟨i, hi, hc⟩ c)
      omega
  intro p hp
  obtain ⟨h1, h2⟩ := bst_C hne (by omega) p hp
  show dec (bst (chC s v own nd) (sN s - 1) p) = -1 ∨ _
  by_cases c : bst (chC s v own nd) (sN s - 1) p = 16
  · left; unfold dec; rw [if_pos c]
  · right
    have h2 : chP s v (nd (lab own p)) (bst (chC s v own nd) (sN s - 1) p) = true := h2
    have hlt : bst (chC s v own nd) (sN s - 1) p < sK s := by
      unfold chP at h2
      split at h2
      · exact absurd (of_decide_eq_true h2) c
      · rw [Bool.and_eq_true] at h2; exact of_decide_eq_true h2.1
    have e : dec (bst (chC s v own nd) (sN s - 1) p) = (bst (chC s v own nd) (sN s - 1) p : Int) := by unfold dec; rw [if_neg c]
    constructor
    · show 0 ≤ dec (bst (chC s v own nd) (sN s - 1) p); rw [e]; omega
    · show dec (bst (chC s v own nd) (sN s - 1) p) < _; rw [e]; omega
