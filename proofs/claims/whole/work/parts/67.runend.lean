/-! ends of runs -/
/-- the place i behind p around the circle -/
def pos (m p i : Nat) : Nat := if p + i < m then p + i else p + i - m
theorem pos_lt {m p i : Nat} (hp : p < m) (hi : i ≤ m) : pos m p i < m := by unfold pos; split <;> omega
/-- the first place behind p at which the link ends: how far -/
def stp (m : Nat) (e : Nat → Int) (l : Int) (p : Nat) : Nat := ffr (fun i => !decide (e (pos m p i) = l)) 1 (m - 1)
theorem emod_next {k m : Nat} (hk : k < m) (hm : m ≤ 8) : ((k : Int) + 1) % m = ((if k + 1 < m then k + 1 else 0 : Nat) : Int) := by
  have : m = 1 ∨ m = 2 ∨ m = 3 ∨ m = 4 ∨ m = 5 ∨ m = 6 ∨ m = 7 ∨ m = 8 := by omega
  by_cases c : k + 1 < m
  · rw [if_pos c]
    rcases this with rfl | rfl | rfl | rfl | rfl | rfl | rfl | rfl <;> omega
  · rw [if_neg c]
    rcases this with rfl | rfl | rfl | rfl | rfl | rfl | rfl | rfl <;> omega
theorem pos_next {m p i : Nat} (hp : p < m) (hi : i < m) : (if pos m p i + 1 < m then pos m p i + 1 else 0) = pos m p (i + 1) := by
  unfold pos
  by_cases c : p + i < m
  · rw [if_pos c]
    by_cases c2 : p + i + 1 < m
    · rw [if_pos c2, if_pos (by omega)]; omega
    · rw [if_neg c2, if_neg (by omega)]; omega
  · rw [if_neg c, if_pos (by omega), if_neg (by omega)]; omega
section Ends
variable {F t m : Nat} {M : Mem} {e : Nat → Int} {lb : Nat → Nat}
theorem beg_eq (hF : 100000 ≤ F) (hm : m ≤ 9) (h : RC t M m e) {l run : Int} (hl : inR l) (hr : inR run) : (∃ p, p < m ∧ (decide (e p = l) && rb m e p) = true ∧ (ct (fun p => decide (e p = l) && rb m e p) p : Int) = run ∧ f_X4_beginningOf F t l run M = some (p : Int)) ∨ ((∀ p, p < m → (decide (e p = l) && rb m e p) = true → (ct (fun p => decide (e p = l) && rb m e p) p : Int) ≠ run) ∧ f_X4_beginningOf F t l run M = some (-1)) := by
  have h0 := h.1
  refine lpe (f := fun fu (y : Int × Int) => f_X4_beginningOf_5 F t fu l run y.1 y.2 M) (I := fun p y => y.1 = ct (fun p => decide (e p = l) && rb m e p) p ∧ y.2 = p ∧ ∀ j, j < p → (decide (e j = l) && rb m e j) = true → (ct (fun p => decide (e p = l) && rb m e p) j : Int) ≠ run) (Q := fun r => (∃ p, p < m ∧ (decide (e p = l) && rb m e p) = true ∧ (ct (fun p => decide (e p = l) && rb m e p) p : Int) = run ∧ r = some (p : Int)) ∨ ((∀ p, p < m → (decide (e p = l) && rb m e p) = true → (ct (fun p => decide (e p = l) && rb m e p) p : Int) ≠ run) ∧ r = some (-1))) m ?_ ?_ m 0 F (0, 0) (by omega) (by omega) ⟨rfl, rfl, fun j hj => absurd hj (Nat.not_lt_zero j)⟩
  · rintro p fu ⟨y1, y2⟩ hp ⟨q1, q2, q3⟩
    dsimp only at q1 q2 q3 ⊢
    subst q1 q2
    have hcl := ct_le (fun p => decide (e p = l) && rb m e p) p
    have ext : ((decide (e p = l) && rb m e p) = true → (ct (fun p => decide (e p = l) && rb m e p) p : Int) ≠ run) → ∀ j, j < p + 1 → (decide (e j = l) && rb m e j) = true → (ct (fun p => decide (e p = l) && rb m e p) j : Int) ≠ run := by
      intro hh j hj hq
      by_cases c : j = p
      · subst c; exact hh hq
      · exact q3 j (by omega) hq
    rw [f_X4_beginningOf_5, chk_t (by omega), if_neg (by omega), chk_t (by omega), h.2 p hp]
    by_cases c : e p = l
    · rw [if_pos c, rbeg_eq hF hm h hp, ob_s, chk_t (bi_R _)]
      cases hb : rb m e p with
      | false =>
        right
        have hq : (decide (e p = l) && rb m e p) = false := by rw [hb, Bool.and_false]
        rw [if_pos (bi_0.mpr rfl)]
        exact ⟨((ct (fun p => decide (e p = l) && rb m e p) p : Int), (p : Int) + 1), rfl, by dsimp only; rw [ct_f (p := fun p => decide (e p = l) && rb m e p) hq], rfl, ext (fun q => by rw [hq] at q; cases q)⟩
      | true =>
        have hq : (decide (e p = l) && rb m e p) = true := by rw [hb, decide_eq_true c]; rfl
        rw [if_neg (by decide)]
        by_cases c2 : (ct (fun p => decide (e p = l) && rb m e p) p : Int) = run
        · left; left
          rw [if_pos c2]
          exact ⟨p, hp, hq, c2, rfl⟩
        · right
          rw [if_neg c2]
          exact ⟨((ct (fun p => decide (e p = l) && rb m e p) p : Int) + 1, (p : Int) + 1), rfl, by dsimp only; rw [ct_t (p := fun p => decide (e p = l) && rb m e p) hq]; rfl, rfl, ext (fun _ => c2)⟩
    · right
      have hq : (decide (e p = l) && rb m e p) = false := by rw [decide_eq_false c]; rfl
      rw [if_neg c]
      exact ⟨((ct (fun p => decide (e p = l) && rb m e p) p : Int), (p : Int) + 1), rfl, by dsimp only; rw [ct_f (p := fun p => decide (e p = l) && rb m e p) hq], rfl, ext (fun q => by rw [hq] at q; cases q)⟩
  · rintro fu ⟨y1, y2⟩ ⟨q1, q2, q3⟩
    dsimp only at q1 q2 q3 ⊢
    subst q1 q2
    have hcl := ct_le (fun p => decide (e p = l) && rb m e p) m
    right
    exact ⟨q3, by rw [f_X4_beginningOf_5, chk_t (by omega), if_pos (by omega)]⟩
theorem end_eq (hF : 100000 ≤ F) (hm : m ≤ 9) (h : RC t M m e) {p : Nat} (hp : p < m) : f_X4_endOfRunAt F t p M = some (pos m p (stp m e (e p) p - 1) : Int) := by
  have h0 := h.1
  have hle := ffr_le (fun i => !decide (e (pos m p i) = e p)) 1 (m - 1)
  have hge := ffr_ge (fun i => !decide (e (pos m p i) = e p)) 1 (m - 1)
  refine lpe (f := fun fu (y : Int × Int) => f_X4_endOfRunAt_4 F t fu p y.1 y.2 M) (I := fun i y => 1 ≤ i ∧ y.1 = pos m p (i - 1) ∧ y.2 = i ∧ ∀ j, 1 ≤ j → j < i → e (pos m p j) = e p) (Q := fun r => r = some (pos m p (stp m e (e p) p - 1) : Int)) m ?_ ?_ (m - 1) 1 F (p, 1) (by omega) (by omega) ⟨by omega, ?_, rfl, fun j h1 h2 => by omega⟩
  · rintro i fu ⟨y1, y2⟩ hi ⟨q0, q1, q2, q3⟩
    dsimp only at q1 q2 q3 ⊢
    subst q1 q2
    have hl := pos_lt (m := m) (p := p) (i := i - 1) hp (by omega)
    have hn := pos_next (m := m) (p := p) (i := i - 1) hp (by omega)
    rw [show i - 1 + 1 = i by omega] at hn
    have hl2 := pos_lt (m := m) (p := p) (i := i) hp (by omega)
    -- found
    have fin : e (pos m p i) ≠ e p → stp m e (e p) p = i := by
      intro hne
      rcases Nat.lt_trichotomy (stp m e (e p) p) i with c | c | c
      · have := ffr_yes (fun i => !decide (e (pos m p i) = e p)) 1 (m - 1) (by unfold stp at c; omega)
        have hq := q3 (stp m e (e p) p) (by unfold stp; omega) c
        unfold stp at hq
        rw [hq] at this
        simp at this
      · exact c
      · have := ffr_no (fun i => !decide (e (pos m p i) = e p)) 1 (m - 1) i q0 (by unfold stp at c; omega)
        simp at this
        exact absurd this hne
    have go : e (pos m p i) = e p → ∀ j, 1 ≤ j → j < i + 1 → e (pos m p j) = e p := by
      intro he j h1 h2
      by_cases c : j = i
      · rw [c]; exact he
      · exact q3 j h1 (by omega)
    rw [f_X4_endOfRunAt_4, chk_t (by omega), if_neg (by omega), chk_t (by omega)]
    by_cases c : pos m p (i - 1) + 1 < m
    · rw [if_pos c] at hn
      have en : M (t + 1) ((pos m p (i - 1) : Int) + 1) = e (pos m p i) := by rw [← h.2 (pos m p i) hl2, ← hn]; rfl
      rw [if_neg (by omega), chk_t (by omega), chk_t (by omega), en, h.2 p hp]
      by_cases k : e (pos m p i) = e p
      · right
        rw [if_pos k]
        exact ⟨((pos m p (i - 1) : Int) + 1, (i : Int) + 1), rfl, by omega, by dsimp only; rw [show i + 1 - 1 = i by omega, ← hn]; rfl, rfl, go k⟩
      · left
        rw [if_neg k, fin k]
    · rw [if_neg c] at hn
      have en : M (t + 1) 0 = e (pos m p i) := by rw [← hn]; exact h.2 0 (by omega)
      rw [if_pos (by omega), chk_t (by omega), en, h.2 p hp]
      by_cases k : e (pos m p i) = e p
      · right
        rw [if_pos k]
        exact ⟨(0, (i : Int) + 1), rfl, by omega, by dsimp only; rw [show i + 1 - 1 = i by omega, ← hn]; rfl, rfl, go k⟩
      · left
        rw [if_neg k, fin k]
  · rintro fu ⟨y1, y2⟩ ⟨q0, q1, q2, q3⟩
    dsimp only at q1 q2 q3 ⊢
    subst q1 q2
    have : stp m e (e p) p = m := by
      rcases Nat.lt_or_ge (stp m e (e p) p) m with c | c
      · have := ffr_yes (fun i => !decide (e (pos m p i) = e p)) 1 (m - 1) (by unfold stp at c; omega)
        have hq := q3 (stp m e (e p) p) (by unfold stp; omega) c
        unfold stp at hq
        rw [hq] at this
        simp at this
      · unfold stp at c ⊢; omega
    rw [f_X4_endOfRunAt_4, chk_t (by omega), if_pos (by omega), this]
  · dsimp only
    unfold pos
    rw [if_pos (by omega)]; omega
/-- around the circle all places come -/
theorem stp_lt (hm : 0 < m) {l : Int} {p : Nat} (hp : p < m) (he : e p = l) (hn : alleq m e = false) : stp m e l p < m := by
  have hle := ffr_le (fun i => !decide (e (pos m p i) = l)) 1 (m - 1)
  rcases Nat.lt_or_ge (stp m e l p) m with c | c
  · exact c
  · exfalso
    have hall : ∀ j, 1 ≤ j → j < m → e (pos m p j) = l := by
      intro j h1 h2
      have := ffr_no (fun i => !decide (e (pos m p i) = l)) 1 (m - 1) j h1 (by unfold stp at c; omega)
      simpa using this
    have hev : ∀ q, q < m → e q = l := by
      intro q hq
      by_cases c1 : q = p
      · rw [c1]; exact he
      · by_cases c2 : p < q
        · have := hall (q - p) (by omega) (by omega)
          unfold pos at this
          rw [if_pos (by omega), show p + (q - p) = q by omega] at this; exact this
        · have := hall (q + m - p) (by omega) (by omega)
          unfold pos at this
          rw [if_neg (by omega), show p + (q + m - p) - m = q by omega] at this; exact this
    have : alleq m e = true := decide_eq_true (fun q hq => by rw [hev q hq, hev 0 hm])
    rw [this] at hn; cases hn
theorem mlast (hF : 100000 ≤ F) (hm : m ≤ 8) (h : RM M m e lb) {l : Int} (hl : inR l) {p : Nat} (hp : p < m) (he : e p = l) (hn : alleq m e = false) : f_X10_runEnd_171 F F l 1 p M = some ((lb (pos m p (stp m e l p - 1)) : Int), M) := by
  obtain ⟨h0, hE, hB⟩ := h
  have hs := stp_lt (by omega) hp he hn
  have hge := ffr_ge (fun i => !decide (e (pos m p i) = l)) 1 (m - 1)
  refine lpe (f := fun fu (y : Int) => f_X10_runEnd_171 F fu l 1 y M) (I := fun i y => y = pos m p i ∧ ∀ j, 1 ≤ j → j ≤ i → e (pos m p j) = l) (Q := fun r => r = some ((lb (pos m p (stp m e l p - 1)) : Int), M)) m ?_ ?_ m 0 F p (by omega) (by omega) ⟨by unfold pos; rw [if_pos (by omega)]; omega, fun j h1 h2 => by omega⟩
  · rintro i fu y hi ⟨q1, q2⟩
    subst q1
    have hl1 := pos_lt (m := m) (p := p) (i := i) hp (by omega)
    have hn2 := pos_next (m := m) (p := p) (i := i) hp hi
    have hl2 := pos_lt (m := m) (p := p) (i := i + 1) hp (by omega)
    have em := emod_next hl1 hm
    rw [hn2] at em
    rw [f_X10_runEnd_171, chk_t ⟨hl, by decide⟩, if_neg (by decide), h0, chk_t (by omega), em, chk_t (by omega), hE _ hl2]
    by_cases k : e (pos m p (i + 1)) = l
    · right
      rw [if_pos k]
      refine ⟨(pos m p (i + 1) : Int), rfl, rfl, fun j h1 h2 => ?_⟩
      by_cases c : j = i + 1
      · rw [c]; exact k
      · exact q2 j h1 (by omega)
    · left
      have hst : stp m e l p = i + 1 := by
        rcases Nat.lt_trichotomy (stp m e l p) (i + 1) with c | c | c
        · have := ffr_yes (fun i => !decide (e (pos m p i) = l)) 1 (m - 1) (by unfold stp at hs; omega)
          have hq := q2 (stp m e l p) (by unfold stp; omega) (by omega)
          unfold stp at hq
          rw [hq] at this
          simp at this
        · exact c
        · have := ffr_no (fun i => !decide (e (pos m p i) = l)) 1 (m - 1) (i + 1) (by omega) (by unfold stp at c; omega)
          simp at this
          exact absurd this k
      rw [if_neg k, chk_t (by omega), hB _ hl1, hst, Nat.add_sub_cancel]
  · rintro fu y ⟨q1, q2⟩
    exfalso
    have := ffr_yes (fun i => !decide (e (pos m p i) = l)) 1 (m - 1) (by unfold stp at hs; omega)
    have hq := q2 (stp m e l p) (by unfold stp; omega) (by omega)
    unfold stp at hq
    rw [hq] at this
    simp at this
theorem mseek (hF : 100000 ≤ F) (hm : m ≤ 8) (h : RM M m e lb) {l run v4 : Int} (hl : 0 ≤ l) (hl2 : l < 100) (hr : inR run) {p : Nat} (hp : p < m) (hq : (decide (e p = l) && rb m e p) = true) (hct : (ct (fun p => decide (e p = l) && rb m e p) p : Int) = run) (hn : alleq m e = false) : f_X10_runEnd_110 F F l v4 0 run M = f_X10_runEnd_171 F F l v4 p M := by
  have hE := h.2.1
  have hb : ∀ q, q < m → e q = l → rb m e q = !decide (e (if q = 0 then m - 1 else q - 1) = e q) := by
    intro q hq he
    unfold rb
    rw [hn, decide_eq_false (show ¬ e q = -1 by omega)]
    simp
  refine lpe (f := fun fu (y : Int × Int) => f_X10_runEnd_110 F fu l v4 y.1 y.2 M) (I := fun i y => i ≤ p ∧ y.1 = i ∧ y.2 = run - ct (fun p => decide (e p = l) && rb m e p) i) (Q := fun r => r = f_X10_runEnd_171 F F l v4 p M) m ?_ ?_ m 0 F (0, run) (by omega) (by omega) ⟨Nat.zero_le _, rfl, by show run = run - ((0 : Nat) : Int); omega⟩
  · rintro i fu ⟨y1, y2⟩ hi ⟨q0, q1, q2⟩
    dsimp only at q1 q2 ⊢
    subst q1
    have hcl := ct_le (fun p => decide (e p = l) && rb m e p) i
    have hcp := ct_le (fun p => decide (e p = l) && rb m e p) p
    rw [f_X10_runEnd_110, chk_t (by omega), chk_t (by omega), hE i hi]
    by_cases c : e i = l
    · have bq := mbeg hm h hi
      rw [← hb i hi c] at bq
      rw [if_pos c, bq, ob_s, chk_t (bi_R _)]
      cases hbv : rb m e i with
      | false =>
        right
        have hqi : (decide (e i = l) && rb m e i) = false := by rw [hbv, Bool.and_false]
        have hne : i ≠ p := fun q => by rw [q, hq] at hqi; cases hqi
        rw [if_pos (by decide)]
        unfold f_X10_runEnd_135
        rw [chk_t (by omega), chk_t (by omega), hE i hi, if_pos c, bq, ob_s, chk_t (bi_R _), hbv, if_pos (by decide)]
        exact ⟨((i : Int) + 1, y2 - 0), rfl, by omega, rfl, by dsimp only; rw [ct_f (p := fun p => decide (e p = l) && rb m e p) hqi]; omega⟩
      | true =>
        have hqi : (decide (e i = l) && rb m e i) = true := by rw [hbv, decide_eq_true c]; rfl
        rw [if_neg (by decide)]
        by_cases c2 : i = p
        · left
          subst c2
          rw [if_pos (by omega)]
        · right
          have hlt := ct_lt (p := fun p => decide (e p = l) && rb m e p) (show i < p by omega) hqi
          rw [if_neg (by omega)]
          unfold f_X10_runEnd_135
          rw [chk_t (by omega), chk_t (by omega), hE i hi, if_pos c, bq, ob_s, chk_t (bi_R _), hbv, if_neg (by decide)]
          exact ⟨((i : Int) + 1, y2 - 1), rfl, by omega, rfl, by dsimp only; rw [ct_t (p := fun p => decide (e p = l) && rb m e p) hqi]; omega⟩
    · right
      have hqi : (decide (e i = l) && rb m e i) = false := by rw [decide_eq_false c]; rfl
      have hne : i ≠ p := fun q => by rw [q, hq] at hqi; cases hqi
      rw [if_neg c]
      unfold f_X10_runEnd_135
      rw [chk_t (by omega), chk_t (by omega), hE i hi, if_neg c]
      exact ⟨((i : Int) + 1, y2 - 0), rfl, by omega, rfl, by dsimp only; rw [ct_f (p := fun p => decide (e p = l) && rb m e p) hqi]; omega⟩
  · rintro fu ⟨y1, y2⟩ ⟨q0, q1, q2⟩
    omega
end Ends
theorem op_runEnd {F : Nat} {M : Mem} {A : Ab} {x y z v4 : Int} (hF : 100000 ≤ F) (w : WA A) (hC : JC M A) (hM : JM M A) (hx : inR x) (hy : inR y) (hz : inR z) (h4 : v4 = 0 ∨ v4 = 1) : OpK (f_L_runEnd F x y z v4 M) (f_X10_runEnd F x y z v4) := by
  obtain ⟨s, cc, hs, tl, tx⟩ := A
  have g : WG s := w.1.g
  have hS : SC 1 M s := hC.1
  have wn : WN s := w.1.1
  have w1 := wn.1
  have w2 := wn.2.1
  -- the model refuses
  have ref : ∀ M1, f_X10_runEnd_67 F y z v4 M1 = some (0, mset M1 64 3 1) := by
    intro M1
    unfold f_X10_runEnd_67
    rw [chk_t (by omega), rf_p (by decide) (by decide) (fun q => ob (f_X10_isRound F q.2) fun q9 => chk (inR q9) (if q9 = 0 then f_X10_runEnd_110 F F y v4 0 z q.2 else if v4 = 0 then some (q.2 71 0, q.2) else chk (0 ≤ (q.2 64 10) - 1 ∧ (q.2 64 10) - 1 < 8) (some (q.2 71 ((q.2 64 10) - 1), q.2))))]
  by_cases c : 0 ≤ x ∧ x < sN s
  · by_cases d : 0 ≤ y ∧ y < sK s
    · obtain ⟨v, rfl⟩ : ∃ v : Nat, x = v := ⟨x.toNat, by omega⟩
      obtain ⟨l, rfl⟩ : ∃ v : Nat, y = v := ⟨y.toNat, by omega⟩
      have hv : v < sN s := by omega
      have hl : l < sK s := by omega
      have hb := g.2.1.1 v hv
      cases ht : tch s l v with
      | false =>
        refine OpK.mk (k := 1) (r := 0) w w (by decide) (fun q => by omega) hM ⟨M, ?_, hC, fun _ _ _ _ => rfl, fun q => by omega⟩ (fun M1 h => ?_)
        · unfold f_L_runEnd f_X9_runEnd
          rw [chk_t (by omega), nN_t hS wn c, ob_s, ox_inr, nL_t hS wn d, ob_s, ox_inr, tch_eq hS wn hl (by omega), ob_s, chk_t (bi_R _), ht, if_pos (by decide), ob_s, ox_inl, if_pos rfl]
        · obtain ⟨M2, b1, b2, b3⟩ := mring_ok hF g hv M1 h.1
          have hS2 : SM 65 0 M2 s := h.1.fr (fun j _ _ => b3 65 j (by omega) (by decide) (by decide)) wn
          refine ⟨0, mset M2 64 3 1, ?_, h.fr w (fun a i q => ?_), ms_eq _ _ _ _, fun a i q => ?_, fun q => by omega⟩
          · unfold f_X10_runEnd
            rw [mN_t h.1 wn c, mL_t h.1 wn d, b1, ob_s]
            unfold f_X10_runEnd_33
            rw [chk_t (by omega), if_neg (by decide), misOf hS2 wn hl (by omega), ob_s, chk_t (bi_R _), ht, if_pos (by decide), ref]
          · have : mset M2 64 3 1 a i = M2 a i := by unfold mset; rw [if_neg (by omega)]
            rw [this]; exact b3 a i (by omega) (by omega) (by omega)
          · have : mset M2 64 3 1 a i = M2 a i := by unfold mset; rw [if_neg (by omega)]
            rw [this]; exact b3 a i (by omega) (by omega) (by omega)
      | true =>
        obtain ⟨M1, a1, a2, a3⟩ := read_ok hF g hv M hS
        have e5 : M1 5 v = sB s v := by rw [a3 5 v (by decide) (by decide)]; exact hS.2.2.2.1 v hv
        -- the model up to its question
        have mod : ∀ N, JM N (s, cc, hs, tl, tx) → ∃ M2, RM M2 (sN s - 1) (rgE s v) (lab (sB s v)) ∧ (∀ a i, (a ≠ 64 ∨ i ≠ 10) → a ≠ 70 → a ≠ 71 → M2 a i = N a i) ∧ f_X10_runEnd F v l z v4 N = (ob (f_X10_within z 0 ((rof (sN s - 1) (rgE s v) l : Int) - 1) M2) fun q35 => chk (inR q35) (if q35 = 0 then f_X10_runEnd_67 F l z v4 M2 else ob (f_X10_refused 0 M2) fun q38 => chk (inR q38.1) (if q38.1 = 0 then ob (f_X10_isRound F q38.2) fun q41 => chk (inR q41) (if q41 = 0 then f_X10_runEnd_110 F F l v4 0 z q38.2 else if v4 = 0 then some (q38.2 71 0, q38.2) else chk (0 ≤ (q38.2 64 10) - 1 ∧ (q38.2 64 10) - 1 < 8) (some (q38.2 71 ((q38.2 64 10) - 1), q38.2))) else some (0, q38.2)))) := by
          intro N h
          obtain ⟨M2, b1, b2, b3⟩ := mring_ok hF g hv N h.1
          have hS2 : SM 65 0 M2 s := h.1.fr (fun j _ _ => b3 65 j (by omega) (by decide) (by decide)) wn
          refine ⟨M2, b2, b3, ?_⟩
          unfold f_X10_runEnd
          rw [mN_t h.1 wn c, mL_t h.1 wn d, b1, ob_s]
          unfold f_X10_runEnd_33
          rw [chk_t (by omega), if_neg (by decide), misOf hS2 wn hl (by omega), ob_s, chk_t (bi_R _), ht, if_neg (by decide), mruns hF (by omega) b2 (by omega) (by omega), ob_s]
        have hrl := rof_le (sN s - 1) (rgE s v) l
        rcases beg_eq (run := z) (l := (l : Int)) hF (show sN s - 1 ≤ 9 by omega) a2 (by omega) hz with ⟨p, p1, p2, p3, p4⟩ | ⟨p1, p2⟩
        · -- the run is there
          have hplt : ct (fun p => decide (rgE s v p = (l : Int)) && rb (sN s - 1) (rgE s v) p) p < rof (sN s - 1) (rgE s v) l := ct_lt (p := fun p => decide (rgE s v p = (l : Int)) && rb (sN s - 1) (rgE s v) p) p1 p2
          have hep : rgE s v p = (l : Int) := by rw [Bool.and_eq_true, decide_eq_true_eq] at p2; exact p2.1
          have hle := ffr_le (fun i => !decide (rgE s v (pos (sN s - 1) p i) = (l : Int))) 1 (sN s - 1 - 1)
          have hge := ffr_ge (fun i => !decide (rgE s v (pos (sN s - 1) p i) = (l : Int))) 1 (sN s - 1 - 1)
          have hpl := pos_lt (m := sN s - 1) (p := p) (i := stp (sN s - 1) (rgE s v) l p - 1) p1 (by unfold stp; omega)
          -- where it is asked for
          have key : ∀ k : Nat, k < sN s - 1 → ((if v4 = 0 then some ((.inr ((lab (sB s v) p : Nat) : Int) : Nat ⊕ Int), M1) else some (.inr ((lab (sB s v) (pos (sN s - 1) p (stp (sN s - 1) (rgE s v) l p - 1)) : Nat) : Int), M1)) = some (.inr ((lab (sB s v) k : Nat) : Int), M1)) → (∀ M2, RM M2 (sN s - 1) (rgE s v) (lab (sB s v)) → (ob (f_X10_isRound F M2) fun q41 => chk (inR q41) (if q41 = 0 then f_X10_runEnd_110 F F l v4 0 z M2 else if v4 = 0 then some (M2 71 0, M2) else chk (0 ≤ (M2 64 10) - 1 ∧ (M2 64 10) - 1 < 8) (some (M2 71 ((M2 64 10) - 1), M2)))) = some ((lab (sB s v) k : Int), M2)) → OpK (f_L_runEnd F v l z v4 M) (f_X10_runEnd F v l z v4) := by
            intro k hk h1 h2
            have hlk : lab (sB s v) k < sN s := by unfold lab; split <;> omega
            refine OpK.rd (r := lab (sB s v) k) w (by omega) hC hM ⟨M1, ?_, fun a i q => a3 a i (by omega) (by omega)⟩ (fun N h => ?_)
            · have : f_X9_runEnd F v l z v4 M = some (.inr ((lab (sB s v) k : Nat) : Int), M1) := by
                unfold f_X9_runEnd
                rw [chk_t (by omega), nN_t hS wn c, ob_s, ox_inr, nL_t hS wn d, ob_s, ox_inr, tch_eq hS wn hl (by omega), ob_s, chk_t (bi_R _), ht, if_neg (by decide), a1, ob_s, p4, ob_s, chk_t (by omega), if_neg (by omega), ← h1]
                have ee := end_eq hF (show sN s - 1 ≤ 9 by omega) a2 p1
                rw [hep] at ee
                by_cases c4 : v4 = 0
                · rw [if_pos c4, if_pos c4, chk_t (by omega), e5, labAt (by omega) (by omega), ob_s]
                · rw [if_neg c4, if_neg c4, ee, ob_s, chk_t (by omega), e5, labAt (by omega) (by omega), ob_s]
              unfold f_L_runEnd
              rw [this, ob_s]
              dsimp only
              rw [ox_inr, chk_t (by omega)]
            · obtain ⟨M2, b2, b3, b4⟩ := mod N h
              have b2' : RM (mset M2 64 3 0) (sN s - 1) (rgE s v) (lab (sB s v)) := ⟨by rw [ms_i (by decide)]; exact b2.1, fun p hp => by rw [ms_a (by decide)]; exact b2.2.1 p hp, fun p hp => by rw [ms_a (by decide)]; exact b2.2.2 p hp⟩
              refine ⟨mset M2 64 3 0, ?_, ms_eq _ _ _ _, fun a i q => ?_⟩
              · rw [b4, mW_t hz (by decide) (by omega) (by omega), rf_0]
                dsimp only
                exact h2 _ b2'
              · have : mset M2 64 3 0 a i = M2 a i := by unfold mset; rw [if_neg (by omega)]
                rw [this]; exact b3 a i (by omega) (by omega) (by omega)
          have hm0 : 0 < sN s - 1 := by omega
          cases ha : alleq (sN s - 1) (rgE s v) with
          | true =>
            -- one run around
            have hA : ∀ q, q < sN s - 1 → rgE s v q = rgE s v 0 := of_decide_eq_true ha
            have hp0 : p = 0 := by
              rcases Nat.eq_zero_or_pos p with q | q
              · exact q
              · exfalso
                rw [Bool.and_eq_true] at p2
                have := p2.2
                unfold rb at this
                rw [if_neg (by omega), hA p p1, hA (p - 1) (by omega), decide_eq_false (show ¬ p = 0 by omega)] at this
                simp at this
            subst hp0
            have hst : stp (sN s - 1) (rgE s v) l 0 = sN s - 1 := by
              rcases Nat.lt_or_ge (stp (sN s - 1) (rgE s v) l 0) (sN s - 1) with q | q
              · exfalso
                have := ffr_yes (fun i => !decide (rgE s v (pos (sN s - 1) 0 i) = (l : Int))) 1 (sN s - 1 - 1) (by unfold stp at q; omega)
                have hpq := pos_lt (m := sN s - 1) (p := 0) (i := ffr (fun i => !decide (rgE s v (pos (sN s - 1) 0 i) = (l : Int))) 1 (sN s - 1 - 1)) p1 (by unfold stp at q; omega)
                rw [hA _ hpq, hep] at this
                simp at this
              · unfold stp at q ⊢; omega
            rcases h4 with rfl | rfl
            · refine key 0 p1 (by rw [if_pos rfl]) (fun M2 b2 => ?_)
              rw [mround hF (by omega) b2, ob_s, ha, decide_eq_true hm0, chk_t (by decide), if_neg (by decide), if_pos rfl, show M2 71 0 = lab (sB s v) 0 from b2.2.2 0 p1]
            · refine key (sN s - 1 - 1) (by omega) ?_ (fun M2 b2 => ?_)
              · rw [if_neg (by decide), hst]
                have : pos (sN s - 1) 0 (sN s - 1 - 1) = sN s - 1 - 1 := by unfold pos; rw [if_pos (by omega)]; omega
                rw [this]
              · have e7 : M2 71 (M2 64 10 - 1) = lab (sB s v) (sN s - 1 - 1) := by rw [← b2.2.2 (sN s - 1 - 1) (by omega), b2.1]; congr 1; omega
                have := b2.1
                rw [mround hF (by omega) b2, ob_s, ha, decide_eq_true hm0, chk_t (by decide), if_neg (by decide), if_neg (by decide), chk_t (by omega), e7]
          | false =>
            have hi : ∀ M2, RM M2 (sN s - 1) (rgE s v) (lab (sB s v)) → (ob (f_X10_isRound F M2) fun q41 => chk (inR q41) (if q41 = 0 then f_X10_runEnd_110 F F l v4 0 z M2 else if v4 = 0 then some (M2 71 0, M2) else chk (0 ≤ (M2 64 10) - 1 ∧ (M2 64 10) - 1 < 8) (some (M2 71 ((M2 64 10) - 1), M2)))) = f_X10_runEnd_171 F F l v4 p M2 := by
              intro M2 b2
              rw [mround hF (by omega) b2, ob_s, ha, Bool.and_false, chk_t (by decide), if_pos (by decide), mseek hF (by omega) b2 (by omega) (by omega) hz p1 p2 p3 ha]
            rcases h4 with rfl | rfl
            · refine key p p1 (by rw [if_pos rfl]) (fun M2 b2 => ?_)
              obtain ⟨fu, e⟩ : ∃ g, F = g + 1 := ⟨F - 1, by omega⟩
              have : f_X10_runEnd_171 F (fu + 1) l 0 p M2 = some ((lab (sB s v) p : Int), M2) := by rw [f_X10_runEnd_171, chk_t (by omega), if_pos rfl, chk_t (by omega), b2.2.2 p p1]
              rw [hi M2 b2]
              rw [← e] at this; exact this
            · refine key (pos (sN s - 1) p (stp (sN s - 1) (rgE s v) l p - 1)) hpl (by rw [if_neg (by decide)]) (fun M2 b2 => ?_)
              rw [hi M2 b2, mlast hF (by omega) b2 (by omega) p1 hep ha]
        · -- no such run
          have hno : ¬ (0 ≤ z ∧ z ≤ (rof (sN s - 1) (rgE s v) l : Int) - 1) := by
            intro q
            have : ∀ n : Nat, (∀ p, p < n → (decide (rgE s v p = (l : Int)) && rb (sN s - 1) (rgE s v) p) = true → (ct (fun p => decide (rgE s v p = (l : Int)) && rb (sN s - 1) (rgE s v) p) p : Int) ≠ z) → (ct (fun p => decide (rgE s v p = (l : Int)) && rb (sN s - 1) (rgE s v) p) n : Int) ≤ z := by
              intro n
              induction n with
              | zero => intro _; show ((0 : Nat) : Int) ≤ z; omega
              | succ n ih =>
                intro hh
                have ih := ih (fun p hp => hh p (by omega))
                cases hq : (decide (rgE s v n = (l : Int)) && rb (sN s - 1) (rgE s v) n) with
                | false => rw [ct_f (p := fun p => decide (rgE s v p = (l : Int)) && rb (sN s - 1) (rgE s v) p) hq]; exact ih
                | true =>
                  have := hh n (by omega) hq
                  rw [ct_t (p := fun p => decide (rgE s v p = (l : Int)) && rb (sN s - 1) (rgE s v) p) hq]; omega
            have h3 := this (sN s - 1) p1
            have h4 : (rof (sN s - 1) (rgE s v) l : Int) ≤ z := h3
            omega
          refine OpK.mk (k := 1) (r := 0) w w (by decide) (fun q => by omega) hM ⟨M1, ?_, hC.fr (fun a i q => a3 a i (by omega) (by omega)), fun a i k1 k2 => a3 a i (by omega) (by omega), fun q => by omega⟩ (fun N h => ?_)
          · unfold f_L_runEnd f_X9_runEnd
            rw [chk_t (by omega), nN_t hS wn c, ob_s, ox_inr, nL_t hS wn d, ob_s, ox_inr, tch_eq hS wn hl (by omega), ob_s, chk_t (bi_R _), ht, if_neg (by decide), a1, ob_s, p2, ob_s, chk_t (by decide), if_pos rfl, ob_s]
            dsimp only
            rw [ox_inl, if_pos rfl]
          · obtain ⟨M2, b2, b3, b4⟩ := mod N h
            refine ⟨0, mset M2 64 3 1, ?_, h.fr w (fun a i q => ?_), ms_eq _ _ _ _, fun a i q => ?_, fun q => by omega⟩
            · rw [b4, mW_f hz (by decide) (by omega) hno, ref]
            · have : mset M2 64 3 1 a i = M2 a i := by unfold mset; rw [if_neg (by omega)]
              rw [this]; exact b3 a i (by omega) (by omega) (by omega)
            · have : mset M2 64 3 1 a i = M2 a i := by unfold mset; rw [if_neg (by omega)]
              rw [this]; exact b3 a i (by omega) (by omega) (by omega)
    · refine OpK.no (k := 1) w hC hM (by decide) (by decide) ?_ (fun M1 h => ?_)
      · unfold f_L_runEnd f_X9_runEnd
        rw [chk_t (by omega), nN_t hS wn c, ob_s, ox_inr, nL_f hS hy d, ob_s, ox_inl, ob_s, ox_inl, if_pos rfl]
      · unfold f_X10_runEnd
        rw [mN_t h.1 wn c, mL_f h.1 wn hy d]
        unfold f_X10_runEnd_33
        rw [chk_t (by omega), if_pos rfl, ref]
  · refine OpK.no (k := 1) w hC hM (by decide) (by decide) ?_ (fun M1 h => ?_)
    · unfold f_L_runEnd f_X9_runEnd
      rw [chk_t (by omega), nN_f hS hx c, ob_s, ox_inl, ob_s, ox_inl, if_pos rfl]
    · unfold f_X10_runEnd
      rw [mN_f h.1 wn hx c]
      unfold f_X10_runEnd_33
      rw [chk_t (by omega), if_pos rfl, ref]
