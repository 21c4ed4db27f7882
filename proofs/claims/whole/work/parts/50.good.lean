/-! good links -/
theorem ct_s (p : Nat → Bool) (n : Nat) : ct p (n + 1) = ct p n + (if p n then 1 else 0) := rfl
theorem ct_t {p : Nat → Bool} {n : Nat} (h : p n = true) : ct p (n + 1) = ct p n + 1 := by rw [ct_s, if_pos h]
theorem ct_f {p : Nat → Bool} {n : Nat} (h : p n = false) : ct p (n + 1) = ct p n := by rw [ct_s, h]; rfl
theorem ct_mono (p : Nat → Bool) {n m : Nat} (h : n ≤ m) : ct p n ≤ ct p m := by
  induction h with
  | refl => exact Nat.le_refl _
  | step _ ih => rw [ct_s]; omega
theorem ct_lt {p : Nat → Bool} {x n : Nat} (h : x < n) (hp : p x = true) : ct p x < ct p n := by
  have h1 := ct_mono p (show x + 1 ≤ n from h)
  rw [ct_t hp] at h1
  omega
theorem ct_sub {p q : Nat → Bool} : ∀ {n : Nat}, (∀ i, i < n → p i = true → q i = true) → ct p n ≤ ct q n
  | 0, _ => Nat.le_refl _
  | n + 1, h => by
    have ih := ct_sub (p := p) (q := q) (n := n) (fun i hi => h i (by omega))
    rw [ct_s, ct_s]
    by_cases hp : p n = true
    · rw [if_pos hp, if_pos (h n (by omega) hp)]; omega
    · rw [if_neg hp]; omega
theorem ct_none {p : Nat → Bool} : ∀ {n : Nat}, (∀ i, i < n → p i = false) → ct p n = 0
  | 0, _ => rfl
  | n + 1, h => by rw [ct_f (h n (by omega))]; exact ct_none (fun i hi => h i (by omega))
theorem ct_0 {p : Nat → Bool} {n : Nat} (h : ct p n = 0) {i : Nat} (hi : i < n) : p i = false := by
  cases hp : p i with
  | false => rfl
  | true => have := ct_lt hi hp; omega
theorem ct_upd {q q' : Nat → Bool} {x0 : Nat} (h : ∀ x, q' x = (q x || decide (x0 = x))) (h0 : q x0 = false) : ∀ n, ct q' n = ct q n + if x0 < n then 1 else 0
  | 0 => rfl
  | n + 1 => by
    have ih := ct_upd h h0 n
    rw [ct_s, ct_s, ih, h n]
    by_cases e : x0 = n
    · subst e
      rw [if_neg (Nat.lt_irrefl _), if_pos (Nat.lt_succ_self _), h0]
      simp
    · rw [decide_eq_false e, Bool.or_false]
      by_cases c : x0 < n
      · rw [if_pos c, if_pos (show x0 < n + 1 by omega)]; omega
      · rw [if_neg c, if_neg (show ¬ x0 < n + 1 by omega)]; omega
theorem ct_gap {q : Nat → Bool} {v : Nat} (h : q v = false) : ∀ n, v < n → ct q n + 1 ≤ n
  | 0, hv => absurd hv (Nat.not_lt_zero v)
  | n + 1, hv => by
    by_cases e : v = n
    · subst e
      rw [ct_f h]
      have := ct_le q v
      omega
    · have ih := ct_gap h n (by omega)
      rw [ct_s]
      split <;> omega
/-- the nodes next to v over the links below k -/
def nb (s : Sg) (v : Nat) : Nat → Nat → Bool
  | 0, _ => false
  | k + 1, x => nb s v k x || (tch s k v && decide (oth s k v = x))
theorem nb_ex {s : Sg} {v x : Nat} : ∀ {k : Nat}, nb s v k x = true → ∃ i, i < k ∧ tch s i v = true ∧ oth s i v = x
  | 0, h => by simp [nb] at h
  | k + 1, h => by
    unfold nb at h
    rw [Bool.or_eq_true, Bool.and_eq_true, decide_eq_true_eq] at h
    rcases h with h | ⟨h1, h2⟩
    · obtain ⟨i, hi, q⟩ := nb_ex h; exact ⟨i, by omega, q⟩
    · exact ⟨k, by omega, h1, h2⟩
theorem deg_le {s : Sg} (w : WN s) {v : Nat} (hv : v < sN s) : ct (fun i => tch s i v) (sK s) + 1 ≤ sN s := by
  have key : ∀ k, k ≤ sK s → ct (fun i => tch s i v) k ≤ ct (nb s v k) (sN s) := by
    intro k
    induction k with
    | zero => intro _; exact Nat.zero_le _
    | succ k ih =>
      intro hk
      have ih := ih (by omega)
      cases ht : tch s k v with
      | false =>
        rw [ct_f (p := fun i => tch s i v) ht]
        have e : ∀ x, nb s v (k + 1) x = nb s v k x := by intro x; show (nb s v k x || (tch s k v && decide (oth s k v = x))) = _; rw [ht, Bool.false_and, Bool.or_false]
        rw [ct_congr (fun i _ => e i)]; exact ih
      | true =>
        rw [ct_t (p := fun i => tch s i v) ht]
        have hx := oth_lt w (show k < sK s by omega) v
        have h0 : nb s v k (oth s k v) = false := by
          cases hb : nb s v k (oth s k v) with
          | false => rfl
          | true =>
            obtain ⟨i, hi, h1, h2⟩ := nb_ex hb
            have a1 := ends_of w (show i < sK s by omega) h1
            have a2 := ends_of w (show k < sK s by omega) ht
            have a3 := w.2.2.2 k i (by omega) hi
            omega
        have e : ∀ x, nb s v (k + 1) x = (nb s v k x || decide (oth s k v = x)) := by intro x; show (nb s v k x || (tch s k v && decide (oth s k v = x))) = _; rw [ht, Bool.true_and]
        rw [ct_upd e h0, if_pos hx]
        omega
  have h1 := key (sK s) (Nat.le_refl _)
  have h2 : nb s v (sK s) v = false := by
    cases hb : nb s v (sK s) v with
    | false => rfl
    | true =>
      obtain ⟨i, hi, q1, q2⟩ := nb_ex hb
      have a1 := ends_of w hi q1
      have a3 := w.2.2.1 i hi
      omega
  have h3 := ct_gap h2 (sN s) hv
  omega
/-- a link begins a shortest way -/
def gdb (s : Sg) (v w i : Nat) : Bool := tch s i v && decide (sL s i + dis s (oth s i v) w = dis s v w)
theorem gdb_tch {s : Sg} {v w i : Nat} (h : gdb s v w i = true) : tch s i v = true := by
  unfold gdb at h; rw [Bool.and_eq_true] at h; exact h.1
theorem gd_le {s : Sg} (w : WN s) {v : Nat} (hv : v < sN s) (x : Nat) : ct (gdb s v x) (sK s) ≤ 8 := by
  have h1 := ct_sub (p := gdb s v x) (q := fun i => tch s i v) (n := sK s) (fun i _ h => gdb_tch h)
  have h2 := deg_le w hv
  have := w.1
  omega
/-- 16 stands for none -/
def dec (x : Nat) : Int := if x = 16 then -1 else x
/-- what a best table may have: good links, or none alone -/
def chP (s : Sg) (v w x : Nat) : Bool := if ct (gdb s v w) (sK s) = 0 then decide (x = 16) else decide (x < sK s) && gdb s v w x
/-- the good links and choices of a pair -/
def GP (M : Mem) (s : Sg) (v w : Nat) : Prop := M 41 ((v : Int) * 9 + w) = bts (gdb s v w) (sK s) ∧ M 43 ((v : Int) * 9 + w) = ct (chP s v w) 17 ∧ ∀ x, x < 17 → chP s v w x = true → M 42 (((v : Int) * 9 + w) * 8 + ct (chP s v w) x) = dec x
theorem begins_eq {M : Mem} {s : Sg} (hS : SC 1 M s) (w : WN s) (hM : MD M (sN s) (dis s)) {i v x : Nat} (hi : i < sK s) (hv : v < sN s) (hx : x < sN s) : f_X8_begins i v x M = some (bi (gdb s v x i)) := by
  have w1 := w.1
  have w2 := w.2.1
  have hl := w.2.2.1 i hi
  unfold f_X8_begins gdb
  rw [tch_eq hS w hi (by omega), ob_s, chk_t (bi_R _)]
  cases ht : tch s i v with
  | false => rw [if_pos (bi_0.mpr rfl)]; rfl
  | true =>
    have ho := oth_lt w hi v
    have d1 := dis_le w ho hx
    have d2 := dis_le w hv hx
    have b1 : f_X8_between (oth s i v) x M = some (dis s (oth s i v) x : Int) := by
      unfold f_X8_between; rw [chk_t (by omega), hM _ _ ho hx]
    have b2 : f_X8_between v x M = some (dis s v x : Int) := by
      unfold f_X8_between; rw [chk_t (by omega), hM _ _ hv hx]
    have e4 : M 4 i = sL s i := (hS.2.2.1 i hi).2.2
    rw [if_neg (by decide), chk_t (by omega), oth_eq hS w hi (by omega), ob_s, b1, ob_s, b2, ob_s, e4, chk_t (by omega), chk_t (by omega)]
    by_cases c : sL s i + dis s (oth s i v) x = dis s v x
    · rw [if_pos (by omega), decide_eq_true c]; rfl
    · rw [if_neg (by omega), decide_eq_false c]; rfl
theorem chP_0 {s : Sg} {v x : Nat} (h : ct (gdb s v x) (sK s) = 0) (y : Nat) : chP s v x y = decide (y = 16) := by unfold chP; rw [if_pos h]
theorem chP_p {s : Sg} {v x : Nat} (h : ct (gdb s v x) (sK s) ≠ 0) (y : Nat) : chP s v x y = (decide (y < sK s) && gdb s v x y) := by unfold chP; rw [if_neg h]
theorem ct_cut (p : Nat → Bool) (k : Nat) : ∀ n, ct (fun x => decide (x < k) && p x) n = ct p (min n k)
  | 0 => by rw [Nat.zero_min]; rfl
  | n + 1 => by
    have ih := ct_cut p k n
    rw [ct_s, ih]
    by_cases c : n < k
    · rw [show min n k = n by omega, show min (n + 1) k = n + 1 by omega, ct_s]; simp [c]
    · rw [show min n k = k by omega, show min (n + 1) k = k by omega]; simp [c]
theorem chP_ct {s : Sg} {v x : Nat} (h : ct (gdb s v x) (sK s) ≠ 0) (n : Nat) : ct (chP s v x) n = ct (gdb s v x) (min n (sK s)) := by
  rw [← ct_cut, ct_congr (fun i _ => chP_p h i)]
theorem ct_one : ∀ n, ct (fun y => decide (y = 16)) n = if 16 < n then 1 else 0
  | 0 => rfl
  | n + 1 => by
    rw [ct_s, ct_one n]
    by_cases e : n = 16
    · subst e; rfl
    · by_cases c : 16 < n
      · rw [if_pos c, if_pos (show 16 < n + 1 by omega)]; simp [e]
      · rw [if_neg c, if_neg (show ¬ 16 < n + 1 by omega)]; simp [e]
theorem chP_17 {s : Sg} (w : WN s) {v : Nat} (hv : v < sN s) (x : Nat) : 1 ≤ ct (chP s v x) 17 ∧ ct (chP s v x) 17 ≤ 8 := by
  have w2 := w.2.1
  by_cases h : ct (gdb s v x) (sK s) = 0
  · rw [ct_congr (fun i _ => chP_0 h i), ct_one]; decide
  · rw [chP_ct h, show min 17 (sK s) = sK s by omega]
    have := gd_le w hv x
    omega
theorem ct_stay {p : Nat → Bool} {i n : Nat} (hi : i ≤ n) (h : ct p n ≤ ct p i) : ∀ j, i ≤ j → j < n → p j = false := by
  intro j h1 h2
  cases hp : p j with
  | false => rfl
  | true =>
    have a1 := ct_lt h2 hp
    have a2 := ct_mono p h1
    omega
theorem bts_stay {p : Nat → Bool} {i : Nat} : ∀ n, i ≤ n → (∀ j, i ≤ j → j < n → p j = false) → bts p n = bts p i := by
  intro n h
  induction h with
  | refl => intro _; rfl
  | step h ih =>
    rename_i m
    intro q
    rw [bts, q m h (Nat.lt_succ_self m)]
    exact ih (fun j h1 h2 => q j h1 (by omega))
theorem find_ok {F : Nat} (hF : 100000 ≤ F) {s : Sg} (w : WN s) {v x : Nat} (hv : v < sN s) (hx : x < sN s) (M0 : Mem) (hS : SC 1 M0 s) (hM : MD M0 (sN s) (dis s)) : ∃ M', f_X8_findGoodLinks F v x M0 = some M' ∧ GP M' s v x ∧ ∀ a i, (a ≠ 41 ∨ i ≠ (v : Int) * 9 + x) → (a ≠ 43 ∨ i ≠ (v : Int) * 9 + x) → (a ≠ 42 ∨ i < ((v : Int) * 9 + x) * 8 ∨ ((v : Int) * 9 + x) * 8 + 8 ≤ i) → M' a i = M0 a i := by
  have w1 := w.1
  have w2 := w.2.1
  have hg := gd_le w hv x
  refine lpe (f := fun fu (y : Int × Int × Int × Mem) => f_X8_findGoodLinks_17 F fu v x ((v : Int) * 9 + x) y.1 y.2.1 y.2.2.1 y.2.2.2) (I := fun i y => y.1 = bts (gdb s v x) i ∧ y.2.1 = ct (gdb s v x) i ∧ y.2.2.1 = i ∧ (∀ j, j < i → gdb s v x j = true → y.2.2.2 42 (((v : Int) * 9 + x) * 8 + ct (gdb s v x) j) = j) ∧ ∀ a i, (a ≠ 42 ∨ i < ((v : Int) * 9 + x) * 8 ∨ ((v : Int) * 9 + x) * 8 + 8 ≤ i) → y.2.2.2 a i = M0 a i) (Q := fun r => ∃ M', r = some M' ∧ GP M' s v x ∧ ∀ a i, (a ≠ 41 ∨ i ≠ (v : Int) * 9 + x) → (a ≠ 43 ∨ i ≠ (v : Int) * 9 + x) → (a ≠ 42 ∨ i < ((v : Int) * 9 + x) * 8 ∨ ((v : Int) * 9 + x) * 8 + 8 ≤ i) → M' a i = M0 a i) (sK s) ?_ ?_ (sK s) 0 F (0, 0, 0, M0) (by omega) (by omega) ⟨rfl, rfl, rfl, fun j hj => absurd hj (Nat.not_lt_zero j), fun _ _ _ => rfl⟩
  · rintro i fu ⟨y1, y2, y3, M⟩ hi ⟨h1, h2, h3, hc, hf⟩
    dsimp only at h1 h2 h3 hc hf ⊢
    subst h1 h2 h3
    have hcm := ct_mono (gdb s v x) (show i ≤ sK s by omega)
    have e1 : M 1 1 = sK s := by rw [hf 1 1 (by omega)]; exact hS.2.1
    have hb := bts_R (gdb s v x) i
    have hcl := ct_le (gdb s v x) i
    by_cases h8 : 8 ≤ ct (gdb s v x) i
    · left
      have st := ct_stay (p := gdb s v x) (i := i) (n := sK s) (by omega) (by omega)
      have eb : bts (gdb s v x) i = bts (gdb s v x) (sK s) := (bts_stay (sK s) (by omega) st).symm
      have ec : ct (gdb s v x) i = ct (gdb s v x) (sK s) := by omega
      have e : ct (gdb s v x) (sK s) ≠ 0 := by omega
      rw [f_X8_findGoodLinks_17, chk_t (by omega), if_neg (by omega), if_pos (by omega), if_neg (by omega), chk_t (by omega)]
      refine ⟨_, rfl, ⟨?_, ?_, fun y hy hp => ?_⟩, fun a i q1 q2 q3 => ?_⟩
      · rw [ms_a (by decide), ms_eq]; exact eb
      · rw [ms_eq, chP_ct e, show min 17 (sK s) = sK s by omega, ec]
      · rw [chP_p e, Bool.and_eq_true, decide_eq_true_eq] at hp
        have hyi : y < i := by
          rcases Nat.lt_or_ge y i with q | q
          · exact q
          · have := st y q hp.1; rw [hp.2] at this; cases this
        rw [ms_a (by decide), ms_a (by decide), chP_ct e, show min y (sK s) = y by omega, hc y hyi hp.2]
        unfold dec; rw [if_neg (by omega)]
      · have hm1 : ∀ (N : Mem) (z : Int), mset N 43 ((v : Int) * 9 + x) z a i = N a i := by intro N z; unfold mset; rw [if_neg (by omega)]
        have hm2 : ∀ (N : Mem) (z : Int), mset N 41 ((v : Int) * 9 + x) z a i = N a i := by intro N z; unfold mset; rw [if_neg (by omega)]
        rw [hm1, hm2]; exact hf a i q3
    right
    have hS2 : SC 1 M s := hS.fr (fun a i q1 q2 => hf a i (by omega))
    have hM2 : MD M (sN s) (dis s) := by intro a b ha hb; rw [hf 40 _ (by omega)]; exact hM a b ha hb
    rw [f_X8_findGoodLinks_17, chk_t (by omega), if_neg (by omega), if_neg (by omega), begins_eq hS2 w hM2 hi hv hx, ob_s, chk_t (bi_R _)]
    cases hg2 : gdb s v x i with
    | false =>
      rw [if_pos (bi_0.mpr rfl)]
      refine ⟨(bts (gdb s v x) i, (ct (gdb s v x) i : Int), (i : Int) + 1, M), rfl, ?_, ?_, rfl, fun j hj hp => ?_, hf⟩
      · show _ = bts _ (i + 1); rw [bts, hg2]; rfl
      · show _ = ((ct _ (i + 1) : Nat) : Int); rw [ct_f hg2]
      · by_cases e : j = i
        · subst e; rw [hg2] at hp; cases hp
        · exact hc j (by omega) hp
    | true =>
      have hlt := ct_lt hi hg2
      rw [if_neg (by decide), chk_t (by omega)]
      refine ⟨(bor (bts (gdb s v x) i) (bshl 1 i), (ct (gdb s v x) i : Int) + 1, (i : Int) + 1, mset M 42 (((v : Int) * 9 + x) * 8 + (ct (gdb s v x) i : Int)) i), rfl, ?_, ?_, rfl, fun j hj hp => ?_, fun a k hak => ?_⟩
      · show _ = bts _ (i + 1); rw [bts, if_pos hg2]
      · show _ = ((ct _ (i + 1) : Nat) : Int); rw [ct_t hg2]; rfl
      · show mset M 42 _ _ 42 _ = _
        by_cases e : j = i
        · subst e; rw [ms_eq]
        · have := ct_lt (show j < i by omega) hp
          rw [ms_i (by omega)]; exact hc j (by omega) hp
      · show mset M 42 _ _ a k = _
        by_cases e : a = 42
        · rw [ms_i (by omega)]; exact hf a k hak
        · rw [ms_a e]; exact hf a k hak
  · rintro fu ⟨y1, y2, y3, M⟩ ⟨h1, h2, h3, hc, hf⟩
    dsimp only at h1 h2 h3 hc hf ⊢
    subst h1 h2 h3
    have e1 : M 1 1 = sK s := by rw [hf 1 1 (by omega)]; exact hS.2.1
    have hb := bts_R (gdb s v x) (sK s)
    have hcl := ct_le (gdb s v x) (sK s)
    rw [f_X8_findGoodLinks_17, chk_t (by omega), if_pos (by omega)]
    by_cases e : ct (gdb s v x) (sK s) = 0
    · rw [if_pos (by omega), chk_t (by omega), chk_t (by omega)]
      refine ⟨_, rfl, ⟨?_, ?_, fun y hy hp => ?_⟩, fun a i q1 q2 q3 => ?_⟩
      · rw [ms_a (by decide), ms_eq]
      · rw [ms_eq, ct_congr (fun i _ => chP_0 e i), ct_one]; rfl
      · rw [chP_0 e, decide_eq_true_eq] at hp
        subst hp
        rw [ct_congr (fun i _ => chP_0 e i), ct_one, ms_a (by decide), ms_a (by decide), if_neg (by decide)]
        rw [show ((v : Int) * 9 + x) * 8 + ((0 : Nat) : Int) = ((v : Int) * 9 + x) * 8 by omega, ms_eq]; rfl
      · have hm1 : ∀ (N : Mem) (z : Int), mset N 43 ((v : Int) * 9 + x) z a i = N a i := by intro N z; unfold mset; rw [if_neg (by omega)]
        have hm2 : ∀ (N : Mem) (z : Int), mset N 41 ((v : Int) * 9 + x) z a i = N a i := by intro N z; unfold mset; rw [if_neg (by omega)]
        have hm3 : ∀ (N : Mem) (z : Int), mset N 42 (((v : Int) * 9 + x) * 8) z a i = N a i := by intro N z; unfold mset; rw [if_neg (by omega)]
        rw [hm1, hm2, hm3]; exact hf a i q3
    · rw [if_neg (by omega), chk_t (by omega)]
      refine ⟨_, rfl, ⟨?_, ?_, fun y hy hp => ?_⟩, fun a i q1 q2 q3 => ?_⟩
      · rw [ms_a (by decide), ms_eq]
      · rw [ms_eq, chP_ct e, show min 17 (sK s) = sK s by omega]
      · rw [chP_p e, Bool.and_eq_true, decide_eq_true_eq] at hp
        rw [ms_a (by decide), ms_a (by decide), chP_ct e, show min y (sK s) = y by omega, hc y hp.1 hp.2]
        unfold dec; rw [if_neg (by omega)]
      · have hm1 : ∀ (N : Mem) (z : Int), mset N 43 ((v : Int) * 9 + x) z a i = N a i := by intro N z; unfold mset; rw [if_neg (by omega)]
        have hm2 : ∀ (N : Mem) (z : Int), mset N 41 ((v : Int) * 9 + x) z a i = N a i := by intro N z; unfold mset; rw [if_neg (by omega)]
        rw [hm1, hm2]; exact hf a i q3
/-- what the class keeps of a network -/
def WY (M : Mem) (s : Sg) : Prop := MD M (sN s) (dis s) ∧ ∀ v w, v < sN s → w < sN s → GP M s v w
theorem WY.fr {M M' : Mem} {s : Sg} (h : WY M s) (f : ∀ a i, 40 ≤ a → a < 44 → M' a i = M a i) : WY M' s := by
  refine ⟨fun a b ha hb => ?_, fun v x hv hx => ?_⟩
  · rw [f 40 _ (by decide) (by decide)]; exact h.1 a b ha hb
  · obtain ⟨g1, g2, g3⟩ := h.2 v x hv hx
    refine ⟨?_, ?_, fun y hy hp => ?_⟩
    · rw [f 41 _ (by decide) (by decide)]; exact g1
    · rw [f 43 _ (by decide) (by decide)]; exact g2
    · rw [f 42 _ (by decide) (by decide)]; exact g3 y hy hp
theorem GP.fr {M M' : Mem} {s : Sg} (w : WN s) {v x a b : Nat} (hv : v < sN s) (hx : x < sN s) (ha : a < sN s) (hb : b < sN s) (hne : ¬ (v = a ∧ x = b)) (h : GP M s v x) (f : ∀ c i, (c ≠ 41 ∨ i ≠ (a : Int) * 9 + b) → (c ≠ 43 ∨ i ≠ (a : Int) * 9 + b) → (c ≠ 42 ∨ i < ((a : Int) * 9 + b) * 8 ∨ ((a : Int) * 9 + b) * 8 + 8 ≤ i) → M' c i = M c i) : GP M' s v x := by
  have w1 := w.1
  obtain ⟨g1, g2, g3⟩ := h
  have h8 := chP_17 w hv x
  refine ⟨?_, ?_, fun y hy hp => ?_⟩
  · rw [f 41 _ (by omega) (by omega) (by omega)]; exact g1
  · rw [f 43 _ (by omega) (by omega) (by omega)]; exact g2
  · have := ct_lt hy hp
    rw [f 42 _ (by omega) (by omega) (by omega)]; exact g3 y hy hp
theorem meas_in {F : Nat} (hF : 100000 ≤ F) {s : Sg} (w : WN s) {v : Nat} (hv : v < sN s) (k7 : Int → Mem → Option Mem) (M0 : Mem) (hS : SC 1 M0 s) (hM : MD M0 (sN s) (dis s)) (hP : ∀ a b, a < v → b < sN s → GP M0 s a b) : ∃ M', f_X8_measure_17 F k7 F v 0 M0 = k7 ((v : Int) + 1) M' ∧ (∀ a b, a < v + 1 → b < sN s → GP M' s a b) ∧ ∀ a i, a ≠ 41 → a ≠ 42 → a ≠ 43 → M' a i = M0 a i := by
  have w1 := w.1
  refine lpe (f := fun fu (y : Int × Mem) => f_X8_measure_17 F k7 fu v y.1 y.2) (I := fun x y => y.1 = x ∧ (∀ a b, (a < v ∧ b < sN s) ∨ (a = v ∧ b < x) → GP y.2 s a b) ∧ ∀ a i, a ≠ 41 → a ≠ 42 → a ≠ 43 → y.2 a i = M0 a i) (Q := fun r => ∃ M', r = k7 ((v : Int) + 1) M' ∧ (∀ a b, a < v + 1 → b < sN s → GP M' s a b) ∧ ∀ a i, a ≠ 41 → a ≠ 42 → a ≠ 43 → M' a i = M0 a i) (sN s) ?_ ?_ (sN s) 0 F (0, M0) (by omega) (by omega) ⟨rfl, fun a b h => hP a b (by omega) (by omega), fun _ _ _ _ _ => rfl⟩
  · rintro x fu ⟨y1, M⟩ hx ⟨h1, hP, hf⟩
    dsimp only at h1 hP hf ⊢
    subst h1
    right
    have hS2 : SC 1 M s := hS.fr (fun a i q1 q2 => hf a i (by omega) (by omega) (by omega))
    have hM2 : MD M (sN s) (dis s) := by intro a b ha hb; rw [hf 40 _ (by omega) (by omega) (by omega)]; exact hM a b ha hb
    have e1 := hS2.1
    obtain ⟨M', e, q1, q2⟩ := find_ok hF w hv hx M hS2 hM2
    refine ⟨((x : Int) + 1, M'), ?_, rfl, fun a b hab => ?_, fun a i k1 k2 k3 => ?_⟩
    · rw [f_X8_measure_17, chk_t (by omega), if_neg (by omega), e, ob_s]
    · by_cases c : a = v ∧ b = x
      · obtain ⟨rfl, rfl⟩ := c; exact q1
      · exact (hP a b (by omega)).fr w (by omega) (by omega) hv hx c q2
    · show M' a i = _
      rw [q2 a i (by omega) (by omega) (by omega)]; exact hf a i k1 k2 k3
  · rintro fu ⟨y1, M⟩ ⟨h1, hP, hf⟩
    dsimp only at h1 hP hf ⊢
    subst h1
    have e1 : M 1 0 = sN s := by rw [hf 1 0 (by omega) (by omega) (by omega)]; exact hS.1
    refine ⟨M, ?_, fun a b ha hb => hP a b (by omega), hf⟩
    rw [f_X8_measure_17, chk_t (by omega), if_pos (by omega)]
theorem meas_ok {F : Nat} (hF : 100000 ≤ F) {s : Sg} (w : WN s) (M0 : Mem) (hS : SC 1 M0 s) : ∃ M', f_X8_measure F M0 = some M' ∧ WY M' s ∧ ∀ a i, a ≠ 40 → a ≠ 41 → a ≠ 42 → a ≠ 43 → M' a i = M0 a i := by
  have w1 := w.1
  obtain ⟨M1, e, hM, hf1⟩ := mdist_ok hF w M0 hS
  have hS1 : SC 1 M1 s := hS.fr (fun a i q1 q2 => hf1 a i (by omega))
  unfold f_X8_measure
  rw [e, ob_s]
  refine lpe (f := fun fu (y : Int × Mem) => f_X8_measure_7 F fu y.1 y.2) (I := fun x y => y.1 = x ∧ (∀ a b, a < x → b < sN s → GP y.2 s a b) ∧ ∀ a i, a ≠ 41 → a ≠ 42 → a ≠ 43 → y.2 a i = M1 a i) (Q := fun r => ∃ M', r = some M' ∧ WY M' s ∧ ∀ a i, a ≠ 40 → a ≠ 41 → a ≠ 42 → a ≠ 43 → M' a i = M0 a i) (sN s) ?_ ?_ (sN s) 0 F (0, M1) (by omega) (by omega) ⟨rfl, fun a b h => absurd h (Nat.not_lt_zero a), fun _ _ _ _ _ => rfl⟩
  · rintro x fu ⟨y1, M⟩ hx ⟨h1, hP, hf⟩
    dsimp only at h1 hP hf ⊢
    subst h1
    right
    have hS2 : SC 1 M s := hS1.fr (fun a i q1 q2 => hf a i (by omega) (by omega) (by omega))
    have hM2 : MD M (sN s) (dis s) := by intro a b ha hb; rw [hf 40 _ (by omega) (by omega) (by omega)]; exact hM a b ha hb
    have e1 := hS2.1
    obtain ⟨M', e, q1, q2⟩ := meas_in hF w hx (f_X8_measure_7 F fu) M hS2 hM2 hP
    refine ⟨((x : Int) + 1, M'), ?_, rfl, q1, fun a i k1 k2 k3 => ?_⟩
    · rw [f_X8_measure_7, chk_t (by omega), if_neg (by omega), e]
    · show M' a i = _
      exact (q2 a i k1 k2 k3).trans (hf a i k1 k2 k3)
  · rintro fu ⟨y1, M⟩ ⟨h1, hP, hf⟩
    dsimp only at h1 hP hf ⊢
    subst h1
    have e1 : M 1 0 = sN s := by rw [hf 1 0 (by omega) (by omega) (by omega)]; exact hS1.1
    refine ⟨M, ?_, ⟨fun a b ha hb => ?_, fun a b ha hb => hP a b ha hb⟩, fun a i k0 k1 k2 k3 => ?_⟩
    · rw [f_X8_measure_7, chk_t (by omega), if_pos (by omega)]
    · rw [hf 40 _ (by omega) (by omega) (by omega)]; exact hM a b ha hb
    · exact (hf a i k1 k2 k3).trans (hf1 a i k0)
