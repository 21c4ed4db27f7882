/-! the model's ring -/
def RM (M : Mem) (m : Nat) (e : Nat → Int) (lb : Nat → Nat) : Prop := M 64 10 = m ∧ (∀ p, p < m → M 70 p = e p) ∧ ∀ p, p < m → M 71 p = lb p
theorem mring_ok {F : Nat} (hF : 100000 ≤ F) {s : Sg} (f : WG s) {v : Nat} (hv : v < sN s) (M0 : Mem) (hS : SM 65 0 M0 s) : ∃ M', f_X10_laysRing F v M0 = some M' ∧ RM M' (sN s - 1) (rgE s v) (lab (sB s v)) ∧ ∀ a i, (a ≠ 64 ∨ i ≠ 10) → a ≠ 70 → a ≠ 71 → M' a i = M0 a i := by
  have w1 := f.1.1
  have w2 := f.1.2.1
  have hb := f.2.1.1 v hv
  refine lpe (f := fun fu (y : Int × Mem) => f_X10_laysRing_7 F fu v y.1 y.2) (I := fun x y => y.1 = x ∧ RM y.2 (if x ≤ sB s v then x else x - 1) (rgE s v) (lab (sB s v)) ∧ ∀ a i, (a ≠ 64 ∨ i ≠ 10) → a ≠ 70 → a ≠ 71 → y.2 a i = M0 a i) (Q := fun r => ∃ M', r = some M' ∧ RM M' (sN s - 1) (rgE s v) (lab (sB s v)) ∧ ∀ a i, (a ≠ 64 ∨ i ≠ 10) → a ≠ 70 → a ≠ 71 → M' a i = M0 a i) (sN s) ?_ ?_ (sN s) 0 F (0, mset M0 64 10 0) (by omega) (by omega) ⟨rfl, ?_, fun a i h _ _ => ?_⟩
  · rintro x fu ⟨y1, M⟩ hx ⟨h1, ⟨r1, r2, r3⟩, hf⟩
    dsimp only at h1 r1 r2 r3 hf ⊢
    subst h1
    right
    have hS2 : SM 65 0 M s := hS.fr (fun j _ _ => hf 65 j (by omega) (by omega) (by omega)) f.1
    have e0 : M 65 0 = sN s := hS2.1
    have e5 := mlabel hS2 hv
    by_cases c : x = sB s v
    · subst c
      refine ⟨((sB s v : Int) + 1, M), ?_, rfl, ?_, hf⟩
      · rw [f_X10_laysRing_7, chk_t (by omega), if_neg (by omega), chk_t (by omega), if_pos (by omega)]
      · rw [if_pos (Nat.le_refl _)] at r1 r2 r3
        rw [if_neg (by omega), show sB s v + 1 - 1 = sB s v by omega]
        exact ⟨r1, r2, r3⟩
    · -- the place of the label x
      have hk : ∃ k, (if x ≤ sB s v then x else x - 1) = k ∧ lab (sB s v) k = x ∧ (if x + 1 ≤ sB s v then x + 1 else x + 1 - 1) = k + 1 ∧ k < sN s - 1 := by
        unfold lab
        by_cases c2 : x < sB s v
        · exact ⟨x, by rw [if_pos (by omega)], by rw [if_pos c2], by rw [if_pos (by omega)], by omega⟩
        · exact ⟨x - 1, by rw [if_neg (by omega)], by rw [if_neg (by omega)]; omega, by rw [if_neg (by omega)]; omega, by omega⟩
      obtain ⟨k, k1, k2, k3, k4⟩ := hk
      rw [k1] at r1 r2 r3
      have hE : rgE s v k = sE s v x := by unfold rgE; rw [k2]
      have hr := rgE_ok f hv k4
      have hS3 : SM 65 0 (mset M 71 k x) s := hS2.fr (fun j _ _ => ms_a (by decide)) f.1
      have q1 : mset M 71 k x 64 10 = k := by rw [ms_a (by decide)]; exact r1
      have q2 : mset (mset M 71 k x) 70 k (rgE s v k) 64 10 = k := by rw [ms_a (by decide)]; exact q1
      refine ⟨((x : Int) + 1, mset (mset (mset M 71 k x) 70 k (rgE s v k)) 64 10 (k + 1)), ?_, rfl, ?_, fun a i h1 h2 h3 => ?_⟩
      · rw [f_X10_laysRing_7, chk_t (by omega), if_neg (by omega), chk_t (by omega), if_neg (by omega), r1, chk_t (by omega), mentry hS3 f.1 hv hx, ob_s, ← hE, q1, chk_t (by omega), chk_t (by omega), q2, chk_t (by omega)]
      · rw [k3]
        refine ⟨?_, fun p hp => ?_, fun p hp => ?_⟩
        · dsimp only; rw [ms_eq]; rfl
        · dsimp only
          rw [ms_a (by decide)]
          by_cases e : p = k
          · subst e; rw [ms_eq]
          · rw [ms_i (by omega), ms_a (by decide)]; exact r2 p (by omega)
        · dsimp only
          rw [ms_a (by decide), ms_a (by decide)]
          by_cases e : p = k
          · subst e; rw [ms_eq, k2]
          · rw [ms_i (by omega)]; exact r3 p (by omega)
      · dsimp only
        have : mset (mset (mset M 71 k x) 70 k (rgE s v k)) 64 10 (k + 1) a i = mset (mset M 71 k x) 70 k (rgE s v k) a i := by unfold mset; rw [if_neg (by omega)]
        rw [this, ms_a h2, ms_a h3]; exact hf a i h1 h2 h3
  · rintro fu ⟨y1, M⟩ ⟨h1, r, hf⟩
    dsimp only at h1 r hf ⊢
    subst h1
    have e0 : M 65 0 = sN s := by rw [hf 65 0 (by omega) (by omega) (by omega)]; exact hS.1
    rw [if_neg (by omega)] at r
    exact ⟨M, by rw [f_X10_laysRing_7, chk_t (by omega), if_pos (by omega)], r, hf⟩
  · rw [if_pos (Nat.zero_le _)]
    exact ⟨(show mset M0 64 10 0 64 10 = 0 from ms_eq _ _ _ _), fun p hp => absurd hp (Nat.not_lt_zero p), fun p hp => absurd hp (Nat.not_lt_zero p)⟩
  · dsimp only
    unfold mset; rw [if_neg (by omega)]
theorem ct_first {q : Nat → Bool} : ∀ {m : Nat}, 0 < m → (∀ p, 0 < p → p < m → q p = false) → ct q m = if q 0 then 1 else 0
  | 0, h, _ => absurd h (Nat.lt_irrefl 0)
  | 1, _, _ => by rw [ct_s]; show 0 + _ = _; rw [Nat.zero_add]
  | m + 2, _, h => by
    rw [ct_f (h (m + 1) (by omega) (by omega))]
    exact ct_first (by omega) (fun p h1 h2 => h p h1 (by omega))
theorem su_congr {f g : Nat → Nat} : ∀ {n : Nat}, (∀ i, i < n → f i = g i) → su f n = su g n
  | 0, _ => rfl
  | n + 1, h => by rw [su, su, su_congr (fun i hi => h i (by omega)), h n (by omega)]
theorem su_add (f g : Nat → Nat) : ∀ n, su (fun i => f i + g i) n = su f n + su g n
  | 0 => rfl
  | n + 1 => by rw [su, su, su, su_add f g n]; omega
theorem su_0 : ∀ n, su (fun _ => 0) n = 0
  | 0 => rfl
  | n + 1 => by rw [su, su_0 n]
theorem su_hit (x : Int) : ∀ n : Nat, su (fun l => if x = (l : Int) then 1 else 0) n = if 0 ≤ x ∧ x < n then 1 else 0
  | 0 => by rw [if_neg (by omega)]; rfl
  | n + 1 => by
    rw [su, su_hit x n]
    by_cases c : x = (n : Int)
    · rw [if_pos c, if_neg (by omega), if_pos (by omega)]
    · rw [if_neg c]
      by_cases c2 : 0 ≤ x ∧ x < n
      · rw [if_pos c2, if_pos (by omega)]
      · rw [if_neg c2, if_neg (by omega)]
theorem su_ct {e : Nat → Int} {q : Nat → Bool} {K : Nat} : ∀ {m : Nat}, (∀ p, p < m → q p = true → 0 ≤ e p ∧ e p < K) → su (fun l => ct (fun p => decide (e p = (l : Int)) && q p) m) K = ct q m
  | 0, _ => su_0 K
  | m + 1, h => by
    have ih := su_ct (e := e) (q := q) (K := K) (m := m) (fun p hp => h p (by omega))
    have h1 : su (fun l => ct (fun p => decide (e p = (l : Int)) && q p) (m + 1)) K = su (fun l => ct (fun p => decide (e p = (l : Int)) && q p) m + (if (decide (e m = (l : Int)) && q m) then 1 else 0)) K := su_congr (fun i _ => ct_s _ _)
    rw [h1, su_add, ih, ct_s]
    congr 1
    cases hq : q m with
    | false => simp only [Bool.and_false, Bool.false_eq_true, if_false]; exact su_0 K
    | true =>
      simp only [Bool.and_true, decide_eq_true_eq, if_true]
      rw [su_hit, if_pos (h m (by omega) hq)]
section MRings
variable {F m K : Nat} {M : Mem} {e : Nat → Int} {lb : Nat → Nat}
theorem mround (hF : 100000 ≤ F) (hm : m ≤ 8) (h : RM M m e lb) : f_X10_isRound F M = some (bi (decide (0 < m) && alleq m e)) := by
  obtain ⟨h0, hE, -⟩ := h
  have e0 : 0 < m → M 70 0 = e 0 := fun q => hE 0 q
  have key : ∀ z : Int, bit01 z → (z = bi (decide (0 < m))) → f_X10_isRound_15 F F z 1 M = some (bi (decide (0 < m) && alleq m e)) := by
    intro z hz hz2
    by_cases hm0 : m = 0
    · subst hm0
      obtain ⟨fu, rfl⟩ : ∃ f, F = f + 1 := ⟨F - 1, by omega⟩
      rw [f_X10_isRound_15, chk_t (by omega), if_pos (by omega), chk_t hz, hz2]; rfl
    · refine lpe (f := fun fu (y : Int × Int) => f_X10_isRound_15 F fu y.1 y.2 M) (I := fun p y => y.1 = bi (decide (∀ j, j < p → e j = e 0)) ∧ y.2 = p ∧ 1 ≤ p) (Q := fun r => r = some (bi (decide (0 < m) && alleq m e))) m ?_ ?_ (m - 1) 1 F (z, 1) (by omega) (by omega) ⟨?_, rfl, by omega⟩
      · rintro p fu ⟨y1, y2⟩ hp ⟨h1, h2, h3⟩
        dsimp only at h1 h2 ⊢
        subst h2
        right
        have hR := bi_R (decide (∀ j, j < p → e j = e 0))
        rw [h1, f_X10_isRound_15, chk_t (by omega), if_neg (by omega)]
        by_cases c : ∀ j, j < p → e j = e 0
        · rw [decide_eq_true c, if_neg (by decide), chk_t (by omega), hE p hp, e0 (by omega)]
          by_cases c2 : e p = e 0
          · rw [if_pos c2]
            refine ⟨(1, (p : Int) + 1), rfl, ?_, rfl, by omega⟩
            rw [decide_eq_true (fun j hj => by by_cases q : j = p; rw [q]; exact c2; exact c j (by omega))]; rfl
          · rw [if_neg c2]
            refine ⟨(0, (p : Int) + 1), rfl, ?_, rfl, by omega⟩
            rw [decide_eq_false (fun q => c2 (q p (by omega)))]; rfl
        · rw [decide_eq_false c, if_pos (by decide)]
          refine ⟨(0, (p : Int) + 1), rfl, ?_, rfl, by omega⟩
          rw [decide_eq_false (fun q => c (fun j hj => q j (by omega)))]; rfl
      · rintro fu ⟨y1, y2⟩ ⟨h1, h2, h3⟩
        dsimp only at h1 h2 ⊢
        subst h2
        have hR := bi_R (decide (∀ j, j < m → e j = e 0))
        rw [h1, f_X10_isRound_15, chk_t (by omega), if_pos (by omega), chk_t (bi_bit _), decide_eq_true (show 0 < m by omega), Bool.true_and]; rfl
      · show z = _
        rw [hz2, decide_eq_true (show 0 < m by omega), decide_eq_true (fun j hj => by rw [show j = 0 by omega])]
  unfold f_X10_isRound
  by_cases hm0 : m = 0
  · subst hm0
    rw [if_pos (by omega), key 0 (Or.inl rfl) rfl]
  · rw [if_neg (by omega), key 1 (Or.inr rfl) (by rw [decide_eq_true (show 0 < m by omega)]; rfl)]
theorem emod_prev {k m : Nat} (hk : k < m) (hm : m ≤ 8) : ((k : Int) + m - 1) % m = ((if k = 0 then m - 1 else k - 1 : Nat) : Int) := by
  have : m = 1 ∨ m = 2 ∨ m = 3 ∨ m = 4 ∨ m = 5 ∨ m = 6 ∨ m = 7 ∨ m = 8 := by omega
  by_cases c : k = 0
  · rw [if_pos c]
    rcases this with rfl | rfl | rfl | rfl | rfl | rfl | rfl | rfl <;> omega
  · rw [if_neg c]
    rcases this with rfl | rfl | rfl | rfl | rfl | rfl | rfl | rfl <;> omega
theorem mbeg (hm : m ≤ 8) (h : RM M m e lb) {k : Nat} (hk : k < m) : f_X10_beginsAt k M = some (bi (!decide (e (if k = 0 then m - 1 else k - 1) = e k))) := by
  obtain ⟨h0, hE, -⟩ := h
  have hp : (if k = 0 then m - 1 else k - 1) < m := by split <;> omega
  unfold f_X10_beginsAt
  rw [chk_t (by omega), h0, chk_t (by omega), emod_prev hk hm, chk_t (by omega), hE k hk, hE _ hp]
  by_cases c : e (if k = 0 then m - 1 else k - 1) = e k
  · rw [if_pos c.symm, decide_eq_true c]; rfl
  · rw [if_neg (fun q => c q.symm), decide_eq_false c]; rfl
theorem rof_round (h0 : 0 < m) (ha : alleq m e = true) {l : Int} (hl : l ≠ -1) : rof m e l = if e 0 = l then 1 else 0 := by
  have hA : ∀ p, p < m → e p = e 0 := of_decide_eq_true ha
  unfold rof
  rw [ct_first h0 (fun p h1 h2 => ?_)]
  · have : (decide (e 0 = l) && rb m e 0) = decide (e 0 = l) := by
      by_cases c : e 0 = l
      · rw [decide_eq_true c, Bool.true_and]
        unfold rb
        rw [ha, decide_eq_false (show ¬ e 0 = -1 by omega)]
        simp
      · rw [decide_eq_false c, Bool.false_and]
    simp only [this, decide_eq_true_eq]
  · have h3 : e (p - 1) = e p := by rw [hA p h2, hA (p - 1) (by omega)]
    unfold rb
    rw [if_neg (by omega), h3, decide_eq_false (show ¬ p = 0 by omega)]
    simp
theorem mruns (hF : 100000 ≤ F) (hm : m ≤ 8) (h : RM M m e lb) {l : Int} (hl : 0 ≤ l) (hl2 : l < 100) : f_X10_runsOf F l M = some (rof m e l : Int) := by
  have h0 := h.1
  unfold f_X10_runsOf
  rw [chk_t (by omega), mround hF hm h, ob_s, chk_t (bi_R _)]
  cases hr : (decide (0 < m) && alleq m e) with
  | true =>
    rw [Bool.and_eq_true, decide_eq_true_eq] at hr
    rw [if_neg (by decide), show M 70 0 = e 0 from h.2.1 0 hr.1, rof_round hr.1 hr.2 (by omega)]
    by_cases c : e 0 = l
    · rw [if_pos c, if_pos c]; rfl
    · rw [if_neg c, if_neg c]; rfl
  | false =>
    rw [if_pos (by decide)]
    have hb : ∀ p, p < m → e p = l → rb m e p = !decide (e (if p = 0 then m - 1 else p - 1) = e p) := by
      intro p hp he
      rw [decide_eq_true (show 0 < m by omega), Bool.true_and] at hr
      unfold rb
      rw [hr, decide_eq_false (show ¬ e p = -1 by omega)]
      simp
    refine lpe (f := fun fu (y : Int × Int) => f_X10_runsOf_27 F fu l y.1 y.2 M) (I := fun p y => y.1 = ct (fun p => decide (e p = l) && rb m e p) p ∧ y.2 = p) (Q := fun r => r = some (rof m e l : Int)) m ?_ ?_ m 0 F (0, 0) (by omega) (by omega) ⟨rfl, rfl⟩
    · rintro p fu ⟨y1, y2⟩ hp ⟨h1, h2⟩
      dsimp only at h1 h2 ⊢
      subst h1 h2
      right
      rw [f_X10_runsOf_27, chk_t (by omega), if_neg (by omega), chk_t (by omega), h.2.1 p hp]
      by_cases c : e p = l
      · rw [if_pos c, mbeg hm h hp, ob_s, chk_t (bi_R _), ← hb p hp c]
        cases hb2 : rb m e p with
        | false =>
          rw [if_pos (bi_0.mpr rfl)]
          exact ⟨(_, (p : Int) + 1), rfl, by show _ + 0 = ((ct _ (p + 1) : Nat) : Int); rw [ct_f (by rw [hb2, Bool.and_false])]; omega, rfl⟩
        | true =>
          rw [if_neg (by decide)]
          exact ⟨(_, (p : Int) + 1), rfl, by show _ = ((ct _ (p + 1) : Nat) : Int); rw [ct_t (by rw [hb2, decide_eq_true c]; rfl)]; rfl, rfl⟩
      · rw [if_neg c]
        exact ⟨(_, (p : Int) + 1), rfl, by show _ + 0 = ((ct _ (p + 1) : Nat) : Int); rw [ct_f (by rw [decide_eq_false c]; rfl)]; omega, rfl⟩
    · rintro fu ⟨y1, y2⟩ ⟨h1, h2⟩
      dsimp only at h1 h2 ⊢
      subst h1 h2
      rw [f_X10_runsOf_27, chk_t (by omega), if_pos (by omega)]; rfl
/-- all entries are links below K, or none -/
def okE (m K : Nat) (e : Nat → Int) : Prop := ∀ p, p < m → e p = -1 ∨ (0 ≤ e p ∧ e p < K)
theorem rb_no {p : Nat} (h : e p = -1) : rb m e p = false := by unfold rb; rw [decide_eq_true h]; rfl
theorem msize (hF : 100000 ≤ F) (hm : m ≤ 8) (hK : K ≤ 16) (h : RM M m e lb) (hk : M 65 1 = K) (ho : okE m K e) : f_X10_ringSize F M = some (ct (rb m e) m : Int) := by
  have hs : su (fun l => rof m e (l : Int)) K = ct (rb m e) m := su_ct (fun p hp hb => by
    rcases ho p hp with q | q
    · rw [rb_no q] at hb; cases hb
    · exact q)
  rw [← hs]
  refine lpe (f := fun fu (y : Int × Int) => f_X10_ringSize_4 F fu y.1 y.2 M) (I := fun l y => y.1 = su (fun l => rof m e (l : Int)) l ∧ y.2 = l) (Q := fun r => r = some (su (fun l => rof m e (l : Int)) K : Int)) K ?_ ?_ K 0 F (0, 0) (by omega) (by omega) ⟨rfl, rfl⟩
  · rintro l fu ⟨y1, y2⟩ hl ⟨h1, h2⟩
    dsimp only at h1 h2 ⊢
    subst h1 h2
    right
    rw [f_X10_ringSize_4, chk_t (by omega), if_neg (by omega), mruns hF hm h (by omega) (by omega), ob_s]
    exact ⟨(_, (l : Int) + 1), rfl, by show _ = ((su _ (l + 1) : Nat) : Int); rw [su]; omega, rfl⟩
  · rintro fu ⟨y1, y2⟩ ⟨h1, h2⟩
    dsimp only at h1 h2 ⊢
    subst h1 h2
    rw [f_X10_ringSize_4, chk_t (by omega), if_pos (by omega)]
theorem rof_no {l : Int} (h : ∀ p, p < m → e p ≠ l) : rof m e l = 0 := ct_none (fun p hp => by rw [decide_eq_false (h p hp)]; rfl)
theorem most_alike (ho : okE m K e) : mxr (fun l => rof m e (l : Int)) K = mxr (fun p => rof m e (e p)) m := by
  apply Nat.le_antisymm
  · apply mxr_le
    intro l hl
    by_cases c : ∃ p, p < m ∧ e p = l
    · obtain ⟨p, hp, q⟩ := c
      have := le_mxr (g := fun p => rof m e (e p)) hp
      rw [q] at this
      exact this
    · rw [rof_no (fun p hp q => c ⟨p, hp, q⟩)]; exact Nat.zero_le _
  · apply mxr_le
    intro p hp
    rcases ho p hp with q | q
    · have : rof m e (e p) = 0 := ct_none (fun j hj => by
        by_cases c : e j = e p
        · rw [rb_no (by rw [c, q]), Bool.and_false]
        · rw [decide_eq_false c]; rfl)
      rw [this]; exact Nat.zero_le _
    · have := le_mxr (g := fun l => rof m e (l : Int)) (show (e p).toNat < K by omega)
      rw [show (((e p).toNat : Nat) : Int) = e p by omega] at this
      exact this
theorem mmost (hF : 100000 ≤ F) (hm : m ≤ 8) (hK : K ≤ 16) (h : RM M m e lb) (hk : M 65 1 = K) (ho : okE m K e) : f_X10_ringMost F M = some (mxr (fun p => rof m e (e p)) m : Int) := by
  rw [← most_alike ho]
  refine lpe (f := fun fu (y : Int × Int) => f_X10_ringMost_4 F fu y.1 y.2 M) (I := fun l y => y.1 = mxr (fun l => rof m e (l : Int)) l ∧ y.2 = l) (Q := fun r => r = some (mxr (fun l => rof m e (l : Int)) K : Int)) K ?_ ?_ K 0 F (0, 0) (by omega) (by omega) ⟨rfl, rfl⟩
  · rintro l fu ⟨y1, y2⟩ hl ⟨h1, h2⟩
    dsimp only at h1 h2 ⊢
    subst h1 h2
    right
    have b1 := rof_le m e l
    have b2 := mxr_le (g := fun l => rof m e (l : Int)) (c := m) (n := l) (fun i _ => rof_le m e i)
    have hs : mxr (fun l => rof m e (l : Int)) (l + 1) = max (mxr (fun l => rof m e (l : Int)) l) (rof m e (l : Int)) := rfl
    rw [f_X10_ringMost_4, chk_t (by omega), if_neg (by omega), mruns hF hm h (by omega) (by omega), ob_s, chk_t (by omega)]
    by_cases c : rof m e l ≤ mxr (fun l => rof m e (l : Int)) l
    · rw [if_pos (by omega)]
      exact ⟨((mxr (fun l => rof m e (l : Int)) l : Int), (l : Int) + 1), rfl, by dsimp only; rw [hs, Nat.max_eq_left c], rfl⟩
    · rw [if_neg (by omega), ob_s]
      exact ⟨((rof m e (l : Int) : Int), (l : Int) + 1), rfl, by dsimp only; rw [hs, Nat.max_eq_right (by omega)], rfl⟩
  · rintro fu ⟨y1, y2⟩ ⟨h1, h2⟩
    dsimp only at h1 h2 ⊢
    subst h1 h2
    have b2 := mxr_le (g := fun l => rof m e (l : Int)) (c := m) (n := K) (fun i _ => rof_le m e i)
    rw [f_X10_ringMost_4, chk_t (by omega), if_pos (by omega)]
end MRings
