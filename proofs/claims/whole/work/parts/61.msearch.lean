/-! the search of the model -/
def LB (M : Mem) (n : Nat) (b : Nat → Nat) : Prop := ∀ v, v < n → M 65 (50 + (v : Int)) = b v
theorem SM.lb {M : Mem} {s : Sg} (h : SM 65 0 M s) : LB M (sN s) (sB s) := fun _ hv => mlabel h hv
theorem SM.relab {M M' : Mem} {s : Sg} (w : WN s) (h : SM 65 0 M s) {b : Nat → Nat} (f : ∀ i, (i < 50 ∨ 59 ≤ i) → M' 65 i = M 65 i) (hb : LB M' (sN s) b) : SM 65 0 M' (sLab s b) := by
  obtain ⟨h1, h2, h3, h4, h5⟩ := h
  have w1 := w.1
  have w2 := w.2.1
  refine ⟨?_, ?_, fun i hi => ?_, fun v hv => ?_, fun v l hv hl => ?_⟩
  · rw [f _ (by omega)]; exact h1
  · rw [f _ (by omega)]; exact h2
  · have hi : i < sK s := hi
    rw [f (0 + (2 + 3 * i)) (by omega), f (0 + (3 + 3 * i)) (by omega), f (0 + (4 + 3 * i)) (by omega)]; exact h3 i hi
  · rw [Int.zero_add]; exact hb v hv
  · rw [f _ (by omega)]; exact h5 v l hv hl
theorem mswap_ok {M : Mem} {n : Nat} {b : Nat → Nat} (hn : n ≤ 9) (h : LB M n b) {i j : Nat} (hi : i < n) (hj : j < n) : ∃ M', f_X10_swaps i j M = some M' ∧ LB M' n (sw b i j) ∧ ∀ a k, (a ≠ 65 ∨ k < 50 ∨ 59 ≤ k) → M' a k = M a k := by
  refine ⟨mset (mset M 65 (50 + (i : Int)) (M 65 (50 + (j : Int)))) 65 (50 + (j : Int)) (M 65 (50 + (i : Int))), ?_, fun v hv => ?_, fun a k ha => ?_⟩
  · unfold f_X10_swaps
    rw [chk_t (by omega), chk_t (by omega)]
  · unfold sw
    by_cases c1 : v = j
    · rw [if_pos c1, c1, ms_eq]; exact h i hi
    · rw [if_neg c1, ms_i (by omega)]
      by_cases c2 : v = i
      · rw [if_pos c2, c2, ms_eq]; exact h j hj
      · rw [if_neg c2, ms_i (by omega)]; exact h v hv
  · unfold mset; rw [if_neg (by omega), if_neg (by omega)]
theorem mrev_ok {F : Nat} {n : Nat} (hn : n ≤ 9) : ∀ (d lo hi fu : Nat) (b : Nat → Nat) (M : Mem), LB M n b → hi < n → lo ≤ n → n ≤ lo + d → d < fu → ∃ M', f_X10_follows_104 F fu lo hi M = some (1, M') ∧ LB M' n (rvs d lo hi b) ∧ ∀ a k, (a ≠ 65 ∨ k < 50 ∨ 59 ≤ k) → M' a k = M a k := by
  intro d
  induction d with
  | zero =>
    intro lo hi fu b M h h1 h2 h3 h4
    obtain ⟨fu, rfl⟩ := fuel_s h4
    exact ⟨M, by rw [f_X10_follows_104, chk_t (by omega), if_pos (by omega)], h, fun _ _ _ => rfl⟩
  | succ d ih =>
    intro lo hi fu b M h h1 h2 h3 h4
    obtain ⟨fu, rfl⟩ := fuel_s h4
    by_cases c : hi ≤ lo
    · refine ⟨M, by rw [f_X10_follows_104, chk_t (by omega), if_pos (by omega)], ?_, fun _ _ _ => rfl⟩
      rw [rvs, if_pos c]; exact h
    · obtain ⟨M1, a1, a2, a3⟩ := mswap_ok hn h (i := lo) (j := hi) (by omega) h1
      obtain ⟨M2, b1, b2, b3⟩ := ih (lo + 1) (hi - 1) fu (sw b lo hi) M1 a2 (by omega) (by omega) (by omega) (by omega)
      refine ⟨M2, ?_, ?_, fun a k ha => (b3 a k ha).trans (a3 a k ha)⟩
      · rw [f_X10_follows_104, chk_t (by omega), if_neg (by omega), a1, ob_s]
        rw [show ((hi - 1 : Nat) : Int) = (hi : Int) + (-1) by omega] at b1
        exact b1
      · rw [rvs, if_neg c]; exact b2
theorem mright_ok {F : Nat} (hF : 100000 ≤ F) {n : Nat} (hn : n ≤ 9) {b : Nat → Nat} {l : Nat} (hl : l + 1 < n) (hlt : ¬ b (l + 1) < b l) (M : Mem) (h : LB M n b) (h0 : M 65 0 = n) : ∃ M', f_X10_follows_57 F F l ((n : Int) - 1) M = some (1, M') ∧ LB M' n (rvs n (l + 1) (n - 1) (sw b l (rt b l (n - 1)))) ∧ ∀ a k, (a ≠ 65 ∨ k < 50 ∨ 59 ≤ k) → M' a k = M a k := by
  refine lpe (f := fun fu (y : Int) => f_X10_follows_57 F fu l y M) (I := fun i y => l < n - 1 - i ∧ y = (n : Int) - 1 - i ∧ rt b l (n - 1) = rt b l (n - 1 - i)) (Q := fun r => ∃ M', r = some (1, M') ∧ LB M' n (rvs n (l + 1) (n - 1) (sw b l (rt b l (n - 1)))) ∧ ∀ a k, (a ≠ 65 ∨ k < 50 ∨ 59 ≤ k) → M' a k = M a k) (n - 1 - l) ?_ ?_ (n - 1 - l) 0 F ((n : Int) - 1) (by omega) (by omega) ⟨by omega, by show _ = _; omega, rfl⟩
  · rintro i fu y hi ⟨q0, q1, q2⟩
    have e1 : M 65 (50 + y) = b (n - 1 - i) := by rw [← h (n - 1 - i) (by omega), q1]; congr 1; omega
    have e2 := h l (by omega)
    have er : rt b l (n - 1 - i) = if b (n - 1 - i) < b l then rt b l (n - 1 - i - 1) else n - 1 - i := by
      obtain ⟨j, hj⟩ : ∃ j, n - 1 - i = j + 1 := ⟨n - 1 - i - 1, by omega⟩
      rw [hj, rt]; rfl
    rw [f_X10_follows_57, chk_t (by omega), chk_t (by omega), e1, e2]
    by_cases c : b (n - 1 - i) < b l
    · right
      rw [if_neg (by omega)]
      refine ⟨y + (-1), rfl, ?_, by omega, ?_⟩
      · rcases Nat.lt_or_ge l (n - 1 - (i + 1)) with q | q
        · exact q
        · exfalso; rw [show n - 1 - i = l + 1 by omega] at c; exact hlt c
      · rw [q2, er, if_pos c, show n - 1 - i - 1 = n - 1 - (i + 1) by omega]
    · left
      have ert : rt b l (n - 1) = n - 1 - i := by rw [q2, er, if_neg c]
      obtain ⟨M1, a1, a2, a3⟩ := mswap_ok hn h (i := l) (j := rt b l (n - 1)) (by omega) (by omega)
      obtain ⟨M2, b1, b2, b3⟩ := mrev_ok (F := F) hn n (l + 1) (n - 1) F (sw b l (rt b l (n - 1))) M1 a2 (by omega) (by omega) (by omega) (by omega)
      have e0 : M1 65 0 = n := by rw [a3 65 0 (by omega)]; exact h0
      rw [show ((rt b l (n - 1) : Nat) : Int) = y by omega] at a1
      rw [show ((n - 1 : Nat) : Int) = (n : Int) - 1 by omega] at b1
      refine ⟨M2, ?_, b2, fun a k ha => (b3 a k ha).trans (a3 a k ha)⟩
      rw [if_pos (by omega), a1, ob_s, e0]
      exact b1
  · rintro fu y ⟨q0, q1, q2⟩
    omega
theorem mnext_ok {F : Nat} (hF : 100000 ≤ F) {n : Nat} (hn : n ≤ 9) {b : Nat → Nat} (M : Mem) (h : LB M n b) (h0 : M 65 0 = n) : ∃ M', f_X10_follows F M = some ((if pv b (n - 1) = 0 then 0 else 1), M') ∧ (pv b (n - 1) ≠ 0 → LB M' n (nxb n b)) ∧ ∀ a k, (a ≠ 65 ∨ k < 50 ∨ 59 ≤ k) → M' a k = M a k := by
  unfold f_X10_follows
  rw [h0]
  by_cases hz : n = 0
  · subst hz
    obtain ⟨fu, e⟩ : ∃ g, F = g + 1 := ⟨F - 1, by omega⟩
    have : f_X10_follows_9 F (fu + 1) (((0 : Nat) : Int) - 2) M = some (0, M) := by rw [f_X10_follows_9, chk_t (by decide), if_pos (by decide), if_neg (by decide)]
    rw [← e] at this
    exact ⟨M, this, fun q => absurd rfl q, fun _ _ _ => rfl⟩
  · refine lpe (f := fun fu (y : Int) => f_X10_follows_9 F fu y M) (I := fun i y => y = (n : Int) - 2 - i ∧ pv b (n - 1) = pv b (n - 1 - i)) (Q := fun r => ∃ M', r = some ((if pv b (n - 1) = 0 then 0 else 1), M') ∧ (pv b (n - 1) ≠ 0 → LB M' n (nxb n b)) ∧ ∀ a k, (a ≠ 65 ∨ k < 50 ∨ 59 ≤ k) → M' a k = M a k) (n - 1) ?_ ?_ (n - 1) 0 F ((n : Int) - 2) (by omega) (by omega) ⟨by show _ = _; omega, rfl⟩
    · rintro i fu y hi ⟨q1, q3⟩
      have e1 : M 65 (50 + y) = b (n - 2 - i) := by rw [← h (n - 2 - i) (by omega), q1]; congr 1; omega
      have e2 : M 65 (50 + y + 1) = b (n - 2 - i + 1) := by rw [← h (n - 2 - i + 1) (by omega), q1]; congr 1; omega
      have ep : pv b (n - 1 - i) = if b (n - 2 - i + 1) < b (n - 2 - i) then pv b (n - 2 - i) else n - 2 - i + 1 := by
        rw [show n - 1 - i = (n - 2 - i) + 1 by omega, pv]
      rw [f_X10_follows_9, chk_t (by omega), if_neg (by omega), chk_t (by omega), chk_t (by omega), e1, e2]
      by_cases c : b (n - 2 - i + 1) < b (n - 2 - i)
      · right
        rw [if_neg (by omega)]
        refine ⟨y + (-1), rfl, by omega, ?_⟩
        rw [q3, ep, if_pos c, show n - 1 - (i + 1) = n - 2 - i by omega]
      · left
        have epv : pv b (n - 1) = n - 2 - i + 1 := by rw [q3, ep, if_neg c]
        rw [if_pos (by omega), if_pos (by omega), epv, if_neg (by omega), h0]
        obtain ⟨M', a1, a2, a3⟩ := mright_ok hF hn (l := n - 2 - i) (by omega) c M h h0
        rw [show ((n - 2 - i : Nat) : Int) = y by omega] at a1
        refine ⟨M', a1, fun _ => ?_, a3⟩
        unfold nxb
        rw [epv, show n - 2 - i + 1 - 1 = n - 2 - i by omega]; exact a2
    · rintro fu y ⟨q1, q3⟩
      have e : pv b (n - 1) = 0 := by rw [q3, Nat.sub_self]; rfl
      rw [f_X10_follows_9, chk_t (by omega), if_pos (by omega), if_neg (by omega), e]
      exact ⟨M, rfl, fun q => absurd rfl q, fun _ _ _ => rfl⟩
/-- what the model has noted -/
def MA (M : Mem) (n : Nat) (a : Acc) : Prop := (a.1 ≠ 1000 → ∀ v, v < n → M 75 v = a.2.2.1 v) ∧ ∀ k : Nat, k < 10 → M 77 k = a.2.2.2 k
theorem mkeep {F : Nat} (hF : 100000 ≤ F) {n : Nat} (hn : n ≤ 9) {b : Nat → Nat} (k74 : Int → Int → Int → Mem → Option (Int × Mem)) (v1 v2 v4 v5 v6 : Int) (h6 : bit01 v6) (M0 : Mem) (hL : LB M0 n b) (h0 : M0 65 0 = n) : ∃ M', f_X10_bestOf_178 F k74 F v1 v2 v4 v5 v6 0 M0 = k74 (if v6 = 0 then v1 else v4) (if v6 = 0 then v2 else v5) (if pv b (n - 1) = 0 then 0 else 1) M' ∧ (pv b (n - 1) ≠ 0 → LB M' n (nxb n b)) ∧ (v6 = 1 → ∀ v, v < n → M' 75 v = b v) ∧ ∀ a k, (a ≠ 65 ∨ k < 50 ∨ 59 ≤ k) → (a ≠ 75 ∨ v6 = 0) → M' a k = M0 a k := by
  have tail : ∀ M : Mem, LB M n b → M 65 0 = n → ∃ M', f_X10_bestOf_213 F k74 v1 v2 v4 v5 v6 M = k74 (if v6 = 0 then v1 else v4) (if v6 = 0 then v2 else v5) (if pv b (n - 1) = 0 then 0 else 1) M' ∧ (pv b (n - 1) ≠ 0 → LB M' n (nxb n b)) ∧ ∀ a k, (a ≠ 65 ∨ k < 50 ∨ 59 ≤ k) → M' a k = M a k := by
    intro M hL h0
    obtain ⟨M', a1, a2, a3⟩ := mnext_ok hF hn M hL h0
    refine ⟨M', ?_, a2, a3⟩
    unfold f_X10_bestOf_213
    rw [chk_t (by omega), a1]
    by_cases c : v6 = 0
    · rw [if_pos c, if_pos c, if_pos c, if_pos c, ob_s]
    · rw [if_neg c, if_neg c, if_neg c, if_neg c, ob_s]
  rcases h6 with h6 | h6
  · subst h6
    obtain ⟨fu, e⟩ : ∃ g, F = g + 1 := ⟨F - 1, by omega⟩
    obtain ⟨M', a1, a2, a3⟩ := tail M0 hL h0
    refine ⟨M', ?_, a2, fun q => absurd q (by decide), fun a k h1 _ => a3 a k h1⟩
    rw [← a1]
    have : f_X10_bestOf_178 F k74 (fu + 1) v1 v2 v4 v5 0 0 M0 = f_X10_bestOf_213 F k74 v1 v2 v4 v5 0 M0 := by rw [f_X10_bestOf_178, chk_t (by decide), if_neg (by decide), if_pos rfl]
    rw [← e] at this; exact this
  · subst h6
    refine lpe (f := fun fu (y : Int × Mem) => f_X10_bestOf_178 F k74 fu v1 v2 v4 v5 1 y.1 y.2) (I := fun i y => y.1 = i ∧ (∀ v, v < i → y.2 75 v = M0 65 (50 + (v : Int))) ∧ ∀ a k, a ≠ 75 → y.2 a k = M0 a k) (Q := fun r => ∃ M', r = k74 (if (1 : Int) = 0 then v1 else v4) (if (1 : Int) = 0 then v2 else v5) (if pv b (n - 1) = 0 then 0 else 1) M' ∧ (pv b (n - 1) ≠ 0 → LB M' n (nxb n b)) ∧ ((1 : Int) = 1 → ∀ v, v < n → M' 75 v = b v) ∧ ∀ a k, (a ≠ 65 ∨ k < 50 ∨ 59 ≤ k) → (a ≠ 75 ∨ (1 : Int) = 0) → M' a k = M0 a k) 9 ?_ ?_ 9 0 F (0, M0) (by omega) (by omega) ⟨rfl, fun v hv => absurd hv (Nat.not_lt_zero v), fun _ _ _ => rfl⟩
    · rintro i fu ⟨y1, M⟩ hi ⟨q1, q2, q3⟩
      dsimp only at q1 q2 q3 ⊢
      subst q1
      right
      refine ⟨((i : Int) + 1, mset M 75 i (M 65 (50 + (i : Int)))), ?_, rfl, fun v hv => ?_, fun a k ha => ?_⟩
      · rw [f_X10_bestOf_178, chk_t (by omega), if_neg (by omega), if_neg (by decide), chk_t (by omega), chk_t (by omega)]
      · dsimp only
        by_cases e : v = i
        · subst e; rw [ms_eq, q3 65 _ (by decide)]
        · rw [ms_i (by omega)]; exact q2 v (by omega)
      · dsimp only; rw [ms_a ha]; exact q3 a k ha
    · rintro fu ⟨y1, M⟩ ⟨q1, q2, q3⟩
      dsimp only at q1 q2 q3 ⊢
      subst q1
      obtain ⟨M', a1, a2, a3⟩ := tail M (fun v hv => by rw [q3 65 _ (by decide)]; exact hL v hv) (by rw [q3 65 _ (by decide)]; exact h0)
      refine ⟨M', ?_, a2, fun _ v hv => ?_, fun a k h1 h2 => ?_⟩
      · rw [f_X10_bestOf_178, chk_t (by omega), if_pos (by omega), a1]
      · rw [a3 75 _ (by omega), q2 v (by omega)]; exact hL v hv
      · rw [a3 a k h1, q3 a k (by omega)]
theorem mround_ok {F : Nat} (hF : 100000 ≤ F) {s : Sg} (g : WG s) {b : Nat → Nat} (hb : PB (sN s) b) (k74 : Int → Int → Int → Mem → Option (Int × Mem)) {a : Acc} (ha : a.1 ≤ 1000) (ha2 : a.2.1 ≤ 1000) {i : Nat} (hi : i < 720) (ht : ∀ k, a.2.2.2 k ≤ i) (M0 : Mem) (hS : SM 65 0 M0 (sLab s b)) (hD : FM M0 (sN s) (dis s)) (hA : MA M0 (sN s) a) : ∃ M', f_X10_bestOf_87 F k74 F a.1 a.2.1 0 0 0 M0 = k74 (up (evc (sLab s b)) (evz (sLab s b)) b a).1 (up (evc (sLab s b)) (evz (sLab s b)) b a).2.1 (if pv b (sN s - 1) = 0 then 0 else 1) M' ∧ (pv b (sN s - 1) ≠ 0 → LB M' (sN s) (nxb (sN s) b)) ∧ MA M' (sN s) (up (evc (sLab s b)) (evz (sLab s b)) b a) ∧ ∀ c k, (c ≠ 64 ∨ k ≠ 10) → (c ≠ 65 ∨ k < 50 ∨ 59 ≤ k) → c ≠ 70 → c ≠ 71 → c ≠ 72 → c ≠ 73 → c ≠ 75 → c ≠ 77 → M' c k = M0 c k := by
  have w := g.1
  have w1 := w.1
  have w2 := w.2.1
  have g' : WG (sLab s b) := ⟨WN_NE (NE.lab s b) w, hb, g.2.2⟩
  have hD' : FM M0 (sN s) (dis (sLab s b)) := by rw [← dis_NE (NE.lab s b)]; exact hD
  have he0 : M0 65 0 = sN s := hS.1
  refine lpe (f := fun fu (y : Int × Int × Int × Mem) => f_X10_bestOf_87 F k74 fu a.1 a.2.1 y.1 y.2.1 y.2.2.1 y.2.2.2) (I := fun v y => y.1 = mxr (mst (sLab s b)) v ∧ y.2.1 = su (siz (sLab s b)) v ∧ y.2.2.1 = v ∧ ∀ c k, (c ≠ 64 ∨ k ≠ 10) → c ≠ 70 → c ≠ 71 → c ≠ 72 → c ≠ 73 → y.2.2.2 c k = M0 c k) (Q := fun r => ∃ M', r = k74 (up (evc (sLab s b)) (evz (sLab s b)) b a).1 (up (evc (sLab s b)) (evz (sLab s b)) b a).2.1 (if pv b (sN s - 1) = 0 then 0 else 1) M' ∧ (pv b (sN s - 1) ≠ 0 → LB M' (sN s) (nxb (sN s) b)) ∧ MA M' (sN s) (up (evc (sLab s b)) (evz (sLab s b)) b a) ∧ ∀ c k, (c ≠ 64 ∨ k ≠ 10) → (c ≠ 65 ∨ k < 50 ∨ 59 ≤ k) → c ≠ 70 → c ≠ 71 → c ≠ 72 → c ≠ 73 → c ≠ 75 → c ≠ 77 → M' c k = M0 c k) (sN s) ?_ ?_ (sN s) 0 F (0, 0, 0, M0) (by omega) (by omega) ⟨rfl, rfl, rfl, fun _ _ _ _ _ _ _ => rfl⟩
  · rintro v fu ⟨y1, y2, y3, M⟩ hv ⟨q1, q2, q3, q4⟩
    dsimp only at q1 q2 q3 q4 ⊢
    subst q1 q2 q3
    right
    have hS2 : SM 65 0 M (sLab s b) := hS.fr (fun j _ _ => q4 65 j (by omega) (by decide) (by decide) (by decide) (by decide)) g'.1
    have e0 : M 65 0 = sN s := hS2.1
    have hD2 : FM M (sN s) (dis (sLab s b)) := fun x y hx hy => by rw [q4 68 _ (by omega) (by decide) (by decide) (by decide) (by decide)]; exact hD' x y hx hy
    obtain ⟨M1, a1, a2, a3⟩ := mbest_ok hF g' hv M hS2 hD2
    have a2 : RM M1 (sN s - 1) (bstE (sLab s b) v) (lab (b v)) := a2
    have ek : M1 65 1 = sK s := by rw [a3 65 1 (by omega) (by decide) (by decide) (by decide) (by decide)]; exact hS2.2.1
    have ho : okE (sN s - 1) (sK s) (bstE (sLab s b) v) := bstE_ok g'.1 hv
    have d1 : f_X10_ringMost F M1 = some (mst (sLab s b) v : Int) := mmost hF (show sN s - 1 ≤ 8 by omega) w2 a2 ek ho
    have d2 : f_X10_ringSize F M1 = some (siz (sLab s b) v : Int) := msize hF (show sN s - 1 ≤ 8 by omega) w2 a2 ek ho
    have b1 : mst (sLab s b) v ≤ sN s - 1 := mst_le (sLab s b) v
    have b2 : siz (sLab s b) v ≤ sN s - 1 := siz_le (sLab s b) v
    have b3 : mxr (mst (sLab s b)) v ≤ sN s - 1 := mxr_le (fun i _ => mst_le (sLab s b) i)
    have b4 := su_bd1 g'.1 v (by show v ≤ sN s; omega)
    have hm : mxr (mst (sLab s b)) (v + 1) = max (mxr (mst (sLab s b)) v) (mst (sLab s b) v) := rfl
    have hs : su (siz (sLab s b)) (v + 1) = su (siz (sLab s b)) v + siz (sLab s b) v := rfl
    have hf2 : ∀ c k, (c ≠ 64 ∨ k ≠ 10) → c ≠ 70 → c ≠ 71 → c ≠ 72 → c ≠ 73 → M1 c k = M0 c k := fun c k k1 k2 k3 k4 k5 => (a3 c k k1 k2 k3 k4 k5).trans (q4 c k k1 k2 k3 k4 k5)
    rw [f_X10_bestOf_87, chk_t (by omega), if_neg (by omega), a1, ob_s, d1, ob_s, chk_t (by omega)]
    by_cases c : mst (sLab s b) v ≤ mxr (mst (sLab s b)) v
    · rw [if_pos (by omega), d2, ob_s]
      exact ⟨((mxr (mst (sLab s b)) v : Int), (su (siz (sLab s b)) v : Int) + (siz (sLab s b) v : Int), (v : Int) + 1, M1), rfl, by dsimp only; rw [hm, Nat.max_eq_left c], by dsimp only; rw [hs]; omega, rfl, hf2⟩
    · rw [if_neg (by omega), ob_s, d2, ob_s]
      exact ⟨((mst (sLab s b) v : Int), (su (siz (sLab s b)) v : Int) + (siz (sLab s b) v : Int), (v : Int) + 1, M1), rfl, by dsimp only; rw [hm, Nat.max_eq_right (by omega)], by dsimp only; rw [hs]; omega, rfl, hf2⟩
  · rintro fu ⟨y1, y2, y3, M⟩ ⟨q1, q2, q3, q4⟩
    dsimp only at q1 q2 q3 q4 ⊢
    have q1 : y1 = evc (sLab s b) := q1
    have q2 : y2 = evz (sLab s b) := q2
    subst q1 q2 q3
    have e0 : M 65 0 = sN s := by rw [q4 65 0 (by omega) (by decide) (by decide) (by decide) (by decide)]; exact he0
    have hev : evc (sLab s b) ≤ sN s - 1 := evc_le (sLab s b)
    have b4 : evz (sLab s b) ≤ 81 := su_bd1 g'.1 (sN s) (Nat.le_refl _)
    have tc := ht (evc (sLab s b))
    have e7 : M 77 (evc (sLab s b)) = a.2.2.2 (evc (sLab s b)) := by rw [q4 77 _ (by omega) (by decide) (by decide) (by decide) (by decide)]; exact hA.2 _ (by omega)
    have hL : LB (mset M 77 (evc (sLab s b)) ((a.2.2.2 (evc (sLab s b)) : Int) + 1)) (sN s) b := fun v hv => by rw [ms_a (by decide), q4 65 _ (by omega) (by decide) (by decide) (by decide) (by decide)]; exact mlabel hS hv
    have gt : ∀ k : Nat, k < 10 → mset M 77 (evc (sLab s b)) ((a.2.2.2 (evc (sLab s b)) : Int) + 1) 77 k = ((if k = evc (sLab s b) then a.2.2.2 k + 1 else a.2.2.2 k : Nat) : Int) := by
      intro k hk
      by_cases e : k = evc (sLab s b)
      · subst e; rw [ms_eq, if_pos rfl]; rfl
      · rw [ms_i (by omega), if_neg e, q4 77 _ (by omega) (by decide) (by decide) (by decide) (by decide)]; exact hA.2 k hk
    have key : ∀ v6 : Int, bit01 v6 → (v6 = 1 ↔ (evc (sLab s b) < a.1 ∨ (evc (sLab s b) = a.1 ∧ evz (sLab s b) < a.2.1))) → ∃ M', f_X10_bestOf_178 F k74 F a.1 a.2.1 (evc (sLab s b) : Int) (evz (sLab s b) : Int) v6 0 (mset M 77 (evc (sLab s b)) ((a.2.2.2 (evc (sLab s b)) : Int) + 1)) = k74 (up (evc (sLab s b)) (evz (sLab s b)) b a).1 (up (evc (sLab s b)) (evz (sLab s b)) b a).2.1 (if pv b (sN s - 1) = 0 then 0 else 1) M' ∧ (pv b (sN s - 1) ≠ 0 → LB M' (sN s) (nxb (sN s) b)) ∧ MA M' (sN s) (up (evc (sLab s b)) (evz (sLab s b)) b a) ∧ ∀ c k, (c ≠ 64 ∨ k ≠ 10) → (c ≠ 65 ∨ k < 50 ∨ 59 ≤ k) → c ≠ 70 → c ≠ 71 → c ≠ 72 → c ≠ 73 → c ≠ 75 → c ≠ 77 → M' c k = M0 c k := by
      intro v6 hv6 hiff
      obtain ⟨M', c1, c2, c3, c4⟩ := mkeep hF w1 k74 a.1 a.2.1 (evc (sLab s b)) (evz (sLab s b)) v6 hv6 _ hL (by rw [ms_a (by decide)]; exact e0)
      have hfr : ∀ c k, (c ≠ 64 ∨ k ≠ 10) → (c ≠ 65 ∨ k < 50 ∨ 59 ≤ k) → c ≠ 70 → c ≠ 71 → c ≠ 72 → c ≠ 73 → c ≠ 75 → c ≠ 77 → M' c k = M0 c k := fun c k k1 k2 k3 k4 k5 k6 k7 k8 => by
        rw [c4 c k k2 (Or.inl k7), ms_a k8]; exact q4 c k k1 k3 k4 k5 k6
      by_cases hb1 : evc (sLab s b) < a.1 ∨ (evc (sLab s b) = a.1 ∧ evz (sLab s b) < a.2.1)
      · have h1 := hiff.mpr hb1
        subst h1
        have eu : up (evc (sLab s b)) (evz (sLab s b)) b a = (evc (sLab s b), evz (sLab s b), b, fun k => if k = evc (sLab s b) then a.2.2.2 k + 1 else a.2.2.2 k) := by unfold up; rw [if_pos hb1]
        refine ⟨M', by rw [c1, eu]; rfl, c2, ?_, hfr⟩
        rw [eu]
        exact ⟨fun _ v hv => c3 rfl v hv, fun k hk => by rw [c4 77 _ (by omega) (by omega)]; exact gt k hk⟩
      · have h1 : v6 = 0 := by
          rcases hv6 with q | q
          · exact q
          · exact absurd (hiff.mp q) hb1
        subst h1
        have eu : up (evc (sLab s b)) (evz (sLab s b)) b a = (a.1, a.2.1, a.2.2.1, fun k => if k = evc (sLab s b) then a.2.2.2 k + 1 else a.2.2.2 k) := by unfold up; rw [if_neg hb1]
        refine ⟨M', by rw [c1, eu]; rfl, c2, ?_, hfr⟩
        rw [eu]
        refine ⟨fun q v hv => ?_, fun k hk => by rw [c4 77 _ (by omega) (by omega)]; exact gt k hk⟩
        rw [c4 75 _ (by omega) (by omega), ms_a (by decide), q4 75 _ (by omega) (by decide) (by decide) (by decide) (by decide)]; exact hA.1 q v hv
    rw [f_X10_bestOf_87, chk_t (by omega), if_pos (by omega), chk_t (by omega), e7, chk_t (by omega)]
    by_cases k1 : evc (sLab s b) < a.1
    · rw [if_pos (by omega)]
      exact key 1 (Or.inr rfl) ⟨fun _ => Or.inl k1, fun _ => rfl⟩
    · rw [if_neg (by omega)]
      by_cases k2 : evc (sLab s b) = a.1
      · rw [if_pos (by omega)]
        by_cases k3 : a.2.1 ≤ evz (sLab s b)
        · rw [if_pos (by omega)]
          exact key 0 (Or.inl rfl) ⟨fun q => absurd q (by decide), fun q => by omega⟩
        · rw [if_neg (by omega)]
          exact key 1 (Or.inr rfl) ⟨fun _ => Or.inr ⟨k2, by omega⟩, fun _ => rfl⟩
      · rw [if_neg (by omega)]
        exact key 0 (Or.inl rfl) ⟨fun q => absurd q (by decide), fun q => by omega⟩
