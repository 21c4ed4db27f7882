/-! best tables: the model's first entry, and the whole -/
theorem bf_17 (C : Nat → Nat → Bool) (m : Nat) : ∀ x, x ≤ 17 → (bf C m x).1 ≤ 17
  | 0, _ => Nat.le_refl _
  | x + 1, h => by
    have := bf_17 C m x (by omega)
    unfold bf
    split
    · show x ≤ 17; omega
    · exact this
theorem mb_first {F : Nat} (hF : 100000 ≤ F) {m : Nat} {C : Nat → Nat → Bool} (hne : neC C m) (hm : m ≤ 8) (M0 : Mem) (hm0 : M0 64 10 = m) (h : MY M0 m C) : ∃ M', f_X10_laysBest_62 F F (-1) 1000 0 M0 = some M' ∧ (∀ k, k < m → M' 70 k = dec (bst C m k)) ∧ ∀ a i, a ≠ 70 → a ≠ 73 → M' a i = M0 a i := by
  by_cases hz : m = 0
  · subst hz
    obtain ⟨fu, e⟩ : ∃ g, F = g + 1 := ⟨F - 1, by omega⟩
    obtain ⟨M', a1, a2, a3⟩ := mb_tab hF hne hm (f := 0) (fun q => absurd q (Nat.lt_irrefl 0)) M0 hm0 h (fun q => absurd q (Nat.lt_irrefl 0)) (fun q => absurd q (Nat.lt_irrefl 0))
    refine ⟨M', ?_, fun k hk => absurd hk (Nat.not_lt_zero k), fun a i ha _ => a3 a i ha⟩
    have : f_X10_laysBest_62 F (fu + 1) (-1) 1000 0 M0 = some M' := by rw [f_X10_laysBest_62, chk_t (by decide), if_neg (by decide), if_pos (by omega), if_pos (by omega), a1]
    rw [← e] at this; exact this
  · have h0 : 0 < m := by omega
    refine lpe (f := fun fu (y : Int × Int × Int × Mem) => f_X10_laysBest_62 F fu y.1 y.2.1 y.2.2.1 y.2.2.2) (I := fun x y => y.1 = (if (bf C m x).1 = 17 then -1 else ((bf C m x).1 : Int)) ∧ y.2.1 = (bf C m x).2 ∧ y.2.2.1 = x ∧ ∀ a i, a ≠ 73 → y.2.2.2 a i = M0 a i) (Q := fun r => ∃ M', r = some M' ∧ (∀ k, k < m → M' 70 k = dec (bst C m k)) ∧ ∀ a i, a ≠ 70 → a ≠ 73 → M' a i = M0 a i) 17 ?_ ?_ 17 0 F (-1, 1000, 0, M0) (by omega) (by omega) ⟨rfl, rfl, rfl, fun _ _ _ => rfl⟩
    · rintro x fu ⟨y1, y2, y3, M⟩ hx ⟨q1, q2, q3, q4⟩
      dsimp only at q1 q2 q3 q4 ⊢
      subst q2 q3
      right
      have e0 : M 64 10 = m := by rw [q4 64 10 (by decide)]; exact hm0
      have hM : MY M m C := fun j hj x hx => by rw [q4 72 _ (by decide)]; exact h j hj x hx
      have b1 := bf_17 C m x (by omega)
      have b2 := (bf_ok hne hm h0 x).2
      have hy : inR y1 := by rw [q1]; split <;> omega
      have hh : btI (M 72 0) x = C 0 x := hM 0 h0 x hx
      rw [f_X10_laysBest_62, chk_t (by omega), if_neg (by omega), if_neg (by omega), mhas (by omega), ob_s, chk_t (bi_R _), hh]
      cases hc : C 0 x with
      | false =>
        have eb : bf C m (x + 1) = bf C m x := by rw [bf, if_neg (fun q => by rw [hc] at q; cases q.1)]
        rw [if_pos (by decide)]
        exact ⟨(y1, ((bf C m x).2 : Int), (x : Int) + 1, M), rfl, by rw [eb]; exact q1, by rw [eb], rfl, q4⟩
      | true =>
        obtain ⟨M1, a1, a2, a3⟩ := rest_ok hF hm h0 hx M e0 hM
        have er := a2 1 x (by omega) (by omega) hx
        rw [show 17 * ((1 : Nat) : Int) + (x : Int) = 17 + x by omega] at er
        rw [if_neg (by decide), a1, ob_s, chk_t (by omega), er]
        by_cases c : rst C m x (m - 1) x < (bf C m x).2
        · have eb : bf C m (x + 1) = (x, rst C m x (m - 1) x) := by rw [bf, if_pos ⟨hc, c⟩]
          rw [if_neg (by omega), if_neg (by omega)]
          refine ⟨((x : Int), (rst C m x (m - 1) x : Int), (x : Int) + 1, M1), rfl, ?_, by rw [eb], rfl, fun a i ha => (a3 a i ha).trans (q4 a i ha)⟩
          rw [eb]
          show (x : Int) = if x = 17 then -1 else (x : Int)
          rw [if_neg (by omega)]
        · have eb : bf C m (x + 1) = bf C m x := by rw [bf, if_neg (fun q => c q.2)]
          rw [if_pos (by omega), if_pos (by omega)]
          exact ⟨(y1, ((bf C m x).2 : Int), (x : Int) + 1, M1), rfl, by rw [eb]; exact q1, by rw [eb], rfl, fun a i ha => (a3 a i ha).trans (q4 a i ha)⟩
    · rintro fu ⟨y1, y2, y3, M⟩ ⟨q1, q2, q3, q4⟩
      dsimp only at q1 q2 q3 q4 ⊢
      subst q2 q3
      have e0 : M 64 10 = m := by rw [q4 64 10 (by decide)]; exact hm0
      have hM : MY M m C := fun j hj x hx => by rw [q4 72 _ (by decide)]; exact h j hj x hx
      have b := bf_ok hne hm h0 17
      have b1 := b.1 (hne 0 h0)
      have b2 := b.2
      rw [if_neg (by omega)] at q1
      subst q1
      obtain ⟨M1, a1, a2, a3⟩ := rest_ok hF hm h0 b1.1 M e0 hM
      obtain ⟨M2, c1, c2, c3⟩ := mb_tab hF hne hm (f := (bf C m 17).1) (fun _ => b1) (mset M1 70 0 (bf C m 17).1) (by rw [ms_a (by decide), a3 64 10 (by decide)]; exact e0) (fun j hj x hx => by rw [ms_a (by decide), a3 72 _ (by decide)]; exact hM j hj x hx) (fun _ a c hac ha hc => by rw [ms_a (by decide)]; exact a2 a c hac ha hc) (fun _ => ms_eq _ _ _ _)
      refine ⟨M2, ?_, c2, fun a i k1 k2 => ?_⟩
      · rw [f_X10_laysBest_62, chk_t (by omega), if_pos (by omega), if_neg (by omega), a1, ob_s, c1]
      · rw [c3 a i k1, ms_a k1, a3 a i k2]; exact q4 a i k2
theorem bits_chP {s : Sg} (w : WN s) (v y : Nat) {x : Nat} (hx : x < 17) : btI (if bts (gdb s v y) (sK s) = 0 then 65536 else bts (gdb s v y) (sK s)) x = chP s v y x := by
  have w2 := w.2.1
  by_cases c : ct (gdb s v y) (sK s) = 0
  · rw [if_pos (bts_none (fun i hi => ct_0 c hi)), chP_0 c, btI_16 x (by omega)]
  · have hn : bts (gdb s v y) (sK s) ≠ 0 := by
      intro h
      apply c
      apply ct_none
      intro i hi
      cases hp : gdb s v y i with
      | false => rfl
      | true => exact absurd h (bts_some (by omega) hi hp)
    rw [if_neg hn, chP_p c, bts_bt _ _ (by omega) x (by omega)]
theorem ne_chC {s : Sg} (w : WN s) {v : Nat} (hv : v < sN s) (own : Nat) (nd : Nat → Nat) (m : Nat) : neC (chC s v own nd) m := by
  intro k _
  have h17 := (chP_17 w hv (nd (lab own k))).1
  by_cases c : ∃ x, x < 17 ∧ chC s v own nd k x = true
  · exact c
  · have : ct (chP s v (nd (lab own k))) 17 = 0 := ct_none (fun i hi => by
      cases hc : chP s v (nd (lab own k)) i with
      | false => rfl
      | true => exact absurd ⟨i, hi, hc⟩ c)
    omega
/-- the best table of a node around the circle -/
def bstE (s : Sg) (v : Nat) : Nat → Int := fun k => dec (bst (chC s v (sB s v) (nd s)) (sN s - 1) k)
theorem bstE_ok {s : Sg} (w : WN s) {v : Nat} (hv : v < sN s) : okE (sN s - 1) (sK s) (bstE s v) := bst_ok w hv
theorem mbest_ok {F : Nat} (hF : 100000 ≤ F) {s : Sg} (f : WG s) {v : Nat} (hv : v < sN s) (M0 : Mem) (hS : SM 65 0 M0 s) (hD : FM M0 (sN s) (dis s)) : ∃ M', f_X10_laysBest F v M0 = some M' ∧ RM M' (sN s - 1) (bstE s v) (lab (sB s v)) ∧ ∀ a i, (a ≠ 64 ∨ i ≠ 10) → a ≠ 70 → a ≠ 71 → a ≠ 72 → a ≠ 73 → M' a i = M0 a i := by
  have w := f.1
  have w1 := w.1
  have hb := f.2.1.1 v hv
  obtain ⟨M1, a1, ⟨r1, r2, r3⟩, a3⟩ := mring_ok hF f hv M0 hS
  unfold f_X10_laysBest
  rw [a1, ob_s]
  refine lpe (f := fun fu (y : Int × Mem) => f_X10_laysBest_7 F fu v y.1 y.2) (I := fun k y => y.1 = k ∧ (∀ j, j < k → ∀ x, x < 17 → btI (y.2 72 j) x = chC s v (sB s v) (nd s) j x) ∧ ∀ a i, a ≠ 72 → y.2 a i = M1 a i) (Q := fun r => ∃ M', r = some M' ∧ RM M' (sN s - 1) (bstE s v) (lab (sB s v)) ∧ ∀ a i, (a ≠ 64 ∨ i ≠ 10) → a ≠ 70 → a ≠ 71 → a ≠ 72 → a ≠ 73 → M' a i = M0 a i) (sN s - 1) ?_ ?_ (sN s - 1) 0 F (0, M1) (by omega) (by omega) ⟨rfl, fun j hj => absurd hj (Nat.not_lt_zero j), fun _ _ _ => rfl⟩
  · rintro k fu ⟨y1, M⟩ hk ⟨q1, q2, q3⟩
    dsimp only at q1 q2 q3 ⊢
    subst q1
    right
    have hl : lab (sB s v) k < sN s := by unfold lab; split <;> omega
    have hx := (nd_ok f.2.1 hl).1
    have e0 : M 64 10 = ((sN s - 1 : Nat) : Int) := by rw [q3 64 10 (by decide)]; exact r1
    have e1 : M 71 k = lab (sB s v) k := by rw [q3 71 k (by decide)]; exact r3 k hk
    have hS2 : SM 65 0 M s := hS.fr (fun j _ _ => by rw [q3 65 j (by decide), a3 65 j (by omega) (by omega) (by omega)]) w
    have hD2 : FM M (sN s) (dis s) := fun a b ha hb => by rw [q3 68 _ (by decide), a3 68 _ (by omega) (by omega) (by omega)]; exact hD a b ha hb
    have hR := bts_R (gdb s v (nd s (lab (sB s v) k))) (sK s)
    have fin : ∀ z : Int, z = (if bts (gdb s v (nd s (lab (sB s v) k))) (sK s) = 0 then 65536 else bts (gdb s v (nd s (lab (sB s v) k))) (sK s)) → (∀ j, j < k + 1 → ∀ x, x < 17 → btI (mset M 72 k z 72 j) x = chC s v (sB s v) (nd s) j x) ∧ ∀ a i, a ≠ 72 → mset M 72 k z a i = M1 a i := by
      intro z hz
      refine ⟨fun j hj x hx17 => ?_, fun a i ha => by rw [ms_a ha]; exact q3 a i ha⟩
      by_cases e : j = k
      · subst e; rw [ms_eq, hz]; exact bits_chP w v _ hx17
      · rw [ms_i (by omega)]; exact q2 j (by omega) x hx17
    rw [f_X10_laysBest_7, chk_t (by omega), if_neg (by omega), chk_t (by omega), e1, mnode hF f hS2 hl, ob_s, mgood hF w hS2 hD2 hv hx, ob_s, chk_t hR]
    by_cases c : bts (gdb s v (nd s (lab (sB s v) k))) (sK s) = 0
    · rw [if_pos c]
      exact ⟨((k : Int) + 1, mset M 72 k 65536), rfl, rfl, fin 65536 (by rw [if_pos c])⟩
    · rw [if_neg c]
      exact ⟨((k : Int) + 1, mset M 72 k (bts (gdb s v (nd s (lab (sB s v) k))) (sK s))), rfl, rfl, fin _ (by rw [if_neg c])⟩
  · rintro fu ⟨y1, M⟩ ⟨q1, q2, q3⟩
    dsimp only at q1 q2 q3 ⊢
    subst q1
    have e0 : M 64 10 = ((sN s - 1 : Nat) : Int) := by rw [q3 64 10 (by decide)]; exact r1
    obtain ⟨M', b1, b2, b3⟩ := mb_first hF (ne_chC w hv (sB s v) (nd s) (sN s - 1)) (by omega) M e0 q2
    refine ⟨M', ?_, ⟨?_, b2, fun p hp => ?_⟩, fun a i k1 k2 k3 k4 k5 => ?_⟩
    · rw [f_X10_laysBest_7, chk_t (by omega), if_pos (by omega), b1]
    · rw [b3 64 10 (by decide) (by decide)]; exact e0
    · rw [b3 71 _ (by decide) (by decide), q3 71 _ (by decide)]; exact r3 p hp
    · rw [b3 a i k2 k5, q3 a i k4]; exact a3 a i k1 k2 k3
/-! the class: seats, and a best table -/
theorem seat_ok {F : Nat} (hF : 100000 ≤ F) {s : Sg} (w : WN s) (hB : WB s) {a : Nat} (ha : (a = 5 ∧ alen a = 9) ∨ (a = 52 ∧ alen a = 6)) (hn : sN s ≤ alen a) (M0 : Mem) (hl : ∀ v, v < sN s → M0 a v = sB s v) : ∃ M', f_X7_seat F a (sN s) M0 = some M' ∧ M' 46 0 = sN s ∧ (∀ l, l < sN s → M' 47 l = nd s l) ∧ ∀ c i, (c ≠ 46 ∨ i ≠ 0) → c ≠ 47 → M' c i = M0 c i := by
  have w1 := w.1
  unfold f_X7_seat
  rw [chk_t (by omega)]
  refine lpe (f := fun fu (y : Int × Mem) => f_X7_seat_7 F a fu (sN s) y.1 y.2) (I := fun k y => y.1 = k ∧ y.2 46 0 = sN s ∧ (∀ v, v < k → y.2 47 (sB s v) = v) ∧ ∀ c i, (c ≠ 46 ∨ i ≠ 0) → c ≠ 47 → y.2 c i = M0 c i) (Q := fun r => ∃ M', r = some M' ∧ M' 46 0 = sN s ∧ (∀ l, l < sN s → M' 47 l = nd s l) ∧ ∀ c i, (c ≠ 46 ∨ i ≠ 0) → c ≠ 47 → M' c i = M0 c i) (sN s) ?_ ?_ (sN s) 0 F (0, mset M0 46 0 (sN s)) (by omega) (by omega) ⟨rfl, ms_eq M0 46 0 (sN s), fun v hv => absurd hv (Nat.not_lt_zero v), fun c i h1 h2 => ?_⟩
  · rintro k fu ⟨y1, M⟩ hk ⟨q1, q2, q3, q4⟩
    dsimp only at q1 q2 q3 q4 ⊢
    subst q1
    right
    have hb := hB.1 k hk
    have e1 : M a k = sB s k := by rw [q4 a k (by omega) (by omega)]; exact hl k hk
    refine ⟨((k : Int) + 1, mset M 47 (sB s k) k), ?_, rfl, ?_, fun v hv => ?_, fun c i h1 h2 => ?_⟩
    · rw [f_X7_seat_7, chk_t (by omega), if_neg (by omega), chk_t (by omega), e1, chk_t (by omega)]
    · dsimp only; rw [ms_a (by decide)]; exact q2
    · dsimp only
      by_cases e : v = k
      · subst e; rw [ms_eq]
      · have := hB.2 k v hk (by omega)
        rw [ms_i (by omega)]; exact q3 v (by omega)
    · dsimp only; rw [ms_a h2]; exact q4 c i h1 h2
  · rintro fu ⟨y1, M⟩ ⟨q1, q2, q3, q4⟩
    dsimp only at q1 q2 q3 q4 ⊢
    subst q1
    refine ⟨M, by rw [f_X7_seat_7, chk_t (by omega), if_pos (by omega)], q2, fun l hl0 => ?_, q4⟩
    obtain ⟨n1, n2⟩ := nd_ok hB hl0
    have := q3 _ n1
    rw [n2] at this; exact this
  · dsimp only; unfold mset; rw [if_neg (by omega)]
theorem best_ok {F : Nat} (hF : 100000 ≤ F) {t : Nat} (ht : t = 44 ∨ t = 55) {s : Sg} (w : WN s) (hB : WB s) {v : Nat} (hv : v < sN s) (M0 : Mem) (hY : WY M0 s) (hn : M0 46 0 = sN s) (hs : ∀ l, l < sN s → M0 47 l = nd s l) : ∃ M', f_X7_fill F t v (sB s v) M0 = some M' ∧ RC t M' (sN s - 1) (bstE s v) ∧ ∀ a i, a ≠ 48 → a ≠ 49 → a ≠ 50 → a ≠ t + 1 → (a ≠ t ∨ i ≠ 0) → M' a i = M0 a i := fill_ok hF ht w hv (hB.1 v hv) (fun l hl => (nd_ok hB hl).1) M0 hY hn hs
