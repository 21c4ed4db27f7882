/-! labels exchanged, turned, shuffled -/
theorem nd_NE {s s' : Sg} (h : NE s s') (hb : sB s = sB s') : nd s = nd s' := by
  funext l
  unfold nd
  rw [hb, h.1]
theorem bstE_NE {s s' : Sg} (h : NE s s') (hb : sB s = sB s') (v : Nat) : bstE s v = bstE s' v := by
  have e : chC s v (sB s v) (nd s) = chC s' v (sB s' v) (nd s') := by
    funext k
    unfold chC
    rw [chP_NE h, hb, nd_NE h hb]
  unfold bstE
  rw [e, h.1]
theorem evc_NE {s s' : Sg} (h : NE s s') (hb : sB s = sB s') : evc s = evc s' := by
  unfold evc
  rw [h.1]
  apply mxr_congr
  intro v _
  unfold mst
  rw [bstE_NE h hb, h.1]
theorem evz_NE {s s' : Sg} (h : NE s s') (hb : sB s = sB s') : evz s = evz s' := by
  unfold evz
  rw [h.1]
  apply su_congr
  intro v _
  unfold siz
  rw [bstE_NE h hb, h.1]
theorem NE_lab {s s' : Sg} (h : NE s s') (b : Nat → Nat) : NE (sLab s b) (sLab s' b) := h
theorem sf_NE {s s' : Sg} (h : NE s s') : ∀ f l a, sf s f l a = sf s' f l a
  | 0, _, _ => rfl
  | f + 1, l, a => by
    rw [sf, sf, evc_NE (NE_lab h (lf l)) rfl, evz_NE (NE_lab h (lf l)) rfl, h.1, sf_NE h f]
theorem srch_NE {s s' : Sg} (h : NE s s') : srch s = srch s' := by
  unfold srch
  rw [sf_NE h, h.1]
theorem SR_NE {M : Mem} {s s' : Sg} (h : NE s s') (r : SR M s) : SR M s' := by
  unfold SR at r ⊢
  rw [← srch_NE h, ← h.1]; exact r
section Labs
variable {F : Nat} {M : Mem} {A : Ab} {x y z : Int}
theorem clab (hF : 100000 ≤ F) {s' : Sg} (hN : NE A.1 s') (wn : WN A.1) (hS : SC 1 M s') (hH : HC M (pushC A.2.1) (pushH A.2.1 A.2.2.1 A.1)) (ht : M 62 0 = A.2.2.2.1 ∧ ∀ i : Nat, i < A.2.2.2.1 → M 63 i = A.2.2.2.2 i) (hY : WY M A.1) (hR : SR M A.1) : ∃ M', f_X6_clearEntries F 1 M = some M' ∧ JC M' (pushA A (sClr s')) ∧ ∀ a i, a ≠ 6 → M' a i = M a i := by
  have w' := WN_NE hN wn
  obtain ⟨M2, a1, a2⟩ := clear_ok hF (r := 1) rfl hS w'
  have f2 : ∀ a i, a ≠ 6 → M2 a i = M a i := fun a i q => cg_X6_clearEntries a1 a i (by omega)
  exact ⟨M2, a1, ⟨a2, hH.fr (fun a i q1 q2 => f2 a i (by omega)), ⟨by rw [f2 62 0 (by decide)]; exact ht.1, fun i hi => by rw [f2 63 i (by decide)]; exact ht.2 i hi⟩, WY_NE (s := A.1) (s' := sClr s') hN (hY.fr (fun a i q1 q2 => f2 a i (by omega))), SR_NE (s := A.1) (s' := sClr s') hN (hR.fr (fun a i q => f2 a i (by omega)))⟩, f2⟩
theorem JS.lab {M1 : Mem} (h : JS M1 A) (fr : ∀ a i, (13 ≤ a ∧ a < 39) ∨ (40 ≤ a ∧ a < 44) ∨ a = 51 ∨ a = 53 ∨ a = 54 ∨ a = 62 ∨ a = 63 → M a i = M1 a i) : HC M (pushC A.2.1) (pushH A.2.1 A.2.2.1 A.1) ∧ (M 62 0 = A.2.2.2.1 ∧ ∀ i : Nat, i < A.2.2.2.1 → M 63 i = A.2.2.2.2 i) ∧ WY M A.1 ∧ SR M A.1 := by
  obtain ⟨h1, h2, ⟨h3, h4⟩, h5, h6⟩ := h
  exact ⟨h2.fr (fun a i q1 q2 => fr a i (by omega)), ⟨by rw [fr 62 0 (by omega)]; exact h3, fun i hi => by rw [fr 63 i (by omega)]; exact h4 i hi⟩, h5.fr (fun a i q1 q2 => fr a i (by omega)), h6.fr (fun a i q => fr a i (by omega))⟩
theorem SC.relab {M1 : Mem} {s : Sg} (h : SC 1 M1 s) {b : Nat → Nat} (hb : ∀ v : Nat, v < sN s → M 5 v = b v) (fr : ∀ a i, (1 ≤ a ∧ a < 7) → a ≠ 5 → M a i = M1 a i) : SC 1 M (sLab s b) := by
  obtain ⟨h1, h2, h3, h4, h5⟩ := h
  refine ⟨?_, ?_, fun i hi => ?_, hb, fun v l hv hl => ?_⟩
  · rw [fr 1 0 (by omega) (by omega)]; exact h1
  · rw [fr 1 1 (by omega) (by omega)]; exact h2
  · rw [fr 2 i (by omega) (by omega), fr 3 i (by omega) (by omega), fr 4 i (by omega) (by omega)]; exact h3 i hi
  · rw [fr 6 _ (by omega) (by omega)]; exact h5 v l hv hl
theorem exl_ok {n : Nat} {b : Nat → Nat} (hn : n ≤ 9) (M : Mem) (h : ∀ v : Nat, v < n → M 5 v = b v) {i j : Nat} (hi : i < n) (hj : j < n) : ∃ M', f_X6_exchangeLabels 1 i j M = some M' ∧ (∀ v : Nat, v < n → M' 5 v = sw b i j v) ∧ ∀ a k, a ≠ 5 → M' a k = M a k := by
  refine ⟨mset (mset M 5 i (M 5 j)) 5 j (M 5 i), ?_, fun v hv => ?_, fun a k ha => by rw [ms_a ha, ms_a ha]⟩
  · unfold f_X6_exchangeLabels
    rw [chk_t (by omega), chk_t (by omega)]
  · unfold sw
    by_cases c1 : v = j
    · rw [if_pos c1, c1, ms_eq]; exact h i hi
    · rw [if_neg c1, ms_i (by omega)]
      by_cases c2 : v = i
      · rw [if_pos c2, c2, ms_eq]; exact h j hj
      · rw [if_neg c2, ms_i (by omega)]; exact h v hv
theorem WF_lab {s : Sg} (w : WN s) {b : Nat → Nat} (hb : PB (sN s) b) : WF (sClr (sLab s b)) := WF_clr (s := sLab s b) w hb
theorem op_swapLabels (hF : 100000 ≤ F) (w : WA A) (hC : JC M A) (hM : JM M A) (hx : inR x) (hy : inR y) : OpK (f_L_swapLabels F x y M) (f_X10_swapLabels F x y) := by
  have hc : A.2.1 ≤ 4 := hC.2.1.1
  have hS := hC.1
  have wn := w.1.1
  have w1 := wn.1
  by_cases c : 0 ≤ x ∧ x < sN A.1
  · by_cases d : 0 ≤ y ∧ y < sN A.1
    · obtain ⟨u, rfl⟩ : ∃ v : Nat, x = v := ⟨x.toNat, by omega⟩
      obtain ⟨v, rfl⟩ : ∃ v : Nat, y = v := ⟨y.toNat, by omega⟩
      have hu : u < sN A.1 := by omega
      have hv : v < sN A.1 := by omega
      have hb : PB (sN A.1) (sw (sB A.1) u v) := PB.swp w.1.2.1 hu hv
      have hlt := hb.1 u hu
      refine OpK.mk (k := 0) (r := sw (sB A.1) u v u) (B := pushA A (sClr (sLab A.1 (sw (sB A.1) u v)))) w (WA_push (c := 0) hc w (WF_lab wn hb)) (by decide) (fun _ => by omega) hM ?_ (fun N h => ?_)
      · obtain ⟨M1, a1, a2, a3⟩ := csave hF w hC
        obtain ⟨M2, b1, b2, b3⟩ := exl_ok w1 M1 (fun v hv => a2.1.2.2.2.1 v hv) hu hv
        obtain ⟨k1, k2, k3, k4⟩ := a2.lab (M := M2) (fun a i q => b3 a i (by omega))
        obtain ⟨M3, c1, c2, c3⟩ := clab hF (NE.lab A.1 _) wn (a2.1.relab b2 (fun a i q1 q2 => b3 a i q2)) k1 k2 k3 k4
        have e5 : M3 5 u = sw (sB A.1) u v u := c2.1.2.2.2.1 u hu
        refine ⟨mset M3 1079 0 (sw (sB A.1) u v u), ?_, c2.fr (fun a i q => ms_a (by omega)), fun a i q1 q2 => ?_, fun _ => ms_eq _ _ _ _⟩
        · unfold f_L_swapLabels f_X9_swapLabels
          rw [nN_t hS wn c, ob_s, ox_inr, nN_t hS wn d, ob_s, ox_inr, a1, ob_s, b1, ob_s, c1, ob_s, chk_t (by omega), ob_s]
          dsimp only
          rw [ox_inr, e5, chk_t (by omega)]
        · rw [ms_a (by omega), c3 a i (by omega), b3 a i (by omega)]; exact a3 a i (by omega)
      · obtain ⟨M1, a1, a2, a3⟩ := msave hF w (h.r3 w 0)
        obtain ⟨M2, b1, b2, b3⟩ := mswap_ok w1 a2.1.lb hu hv
        obtain ⟨M3, c1, c2, c3⟩ := mempt hF (s := sLab A.1 (sw (sB A.1) u v)) wn M2 (SM.relab wn a2.1 (fun i q => b3 65 i (by omega)) b2)
        have e5 : M3 65 (50 + (u : Int)) = sw (sB A.1) u v u := mlabel c2 hu
        have ee : f_X10_swapLabels F u v N = some ((sw (sB A.1) u v u : Int), M3) := by
          unfold f_X10_swapLabels
          rw [mN_t h.1 wn c, mN_t h.1 wn d, rf_0]
          dsimp only
          rw [a1, ob_s, b1, ob_s, c1, ob_s, chk_t (by omega), e5]
        refine ⟨_, M3, ee, a2.jm hc w c2 (fun a i q => by rw [c3 a i (by omega), b3 a i (by omega)]), ?_, fun a i q => cg_X10_swapLabels ee a i (by omega), fun _ => rfl⟩
        rw [c3 64 3 (by omega), b3 64 3 (by omega), a3 64 3 (by omega) (by decide), ms_eq]
    · refine OpK.no (k := 1) w hC hM (by decide) (by decide) ?_ (fun M1 h => ?_)
      · unfold f_L_swapLabels f_X9_swapLabels
        rw [nN_t hS wn c, ob_s, ox_inr, nN_f hS hy d, ob_s, ox_inl, ob_s, ox_inl, if_pos rfl]
      · unfold f_X10_swapLabels
        rw [mN_t h.1 wn c, mN_f h.1 wn hy d, rf_p (by decide) (by decide) (fun q => ob (f_X10_saves F q.2) fun q17 => ob (f_X10_swaps x y q17) fun q18 => ob (f_X10_empties F q18) fun q19 => chk (0 ≤ 50 + x ∧ 50 + x < 140) (some (q19 65 (50 + x), q19)))]
  · refine OpK.no (k := 1) w hC hM (by decide) (by decide) ?_ (fun M1 h => ?_)
    · unfold f_L_swapLabels f_X9_swapLabels
      rw [nN_f hS hx c, ob_s, ox_inl, ob_s, ox_inl, if_pos rfl]
    · unfold f_X10_swapLabels
      rw [mN_f h.1 wn hx c, rf_p (by decide) (by decide) (fun q => ob (f_X10_saves F q.2) fun q17 => ob (f_X10_swaps x y q17) fun q18 => ob (f_X10_empties F q18) fun q19 => chk (0 ≤ 50 + x ∧ 50 + x < 140) (some (q19 65 (50 + x), q19)))]
/-! turning -/
theorem PB_turn {n : Nat} {b : Nat → Nat} (hn : n ≤ 9) (hb : PB n b) {t : Nat} (ht : t ≤ 9) : PB n (fun v => (b v + t) % n) := by
  refine PB.of (fun v hv => Nat.mod_lt _ (by omega)) (fun v w hv hw hne => ?_)
  have h1 := hb.ne hv hw hne
  have h2 := hb.1 v hv
  have h3 := hb.1 w hw
  have : n = 1 ∨ n = 2 ∨ n = 3 ∨ n = 4 ∨ n = 5 ∨ n = 6 ∨ n = 7 ∨ n = 8 ∨ n = 9 := by omega
  show (b v + t) % n ≠ (b w + t) % n
  rcases this with rfl | rfl | rfl | rfl | rfl | rfl | rfl | rfl | rfl <;> omega
theorem turn_loop (hF : 100000 ≤ F) {s : Sg} (w : WN s) (hB : WB s) {t : Nat} (ht : t ≤ 9) (M0 : Mem) (hS : SC 1 M0 s) : ∃ M', f_X9_turn_41 F F t 0 M0 = (ob (f_X6_clearEntries F 1 M') fun q5 => some (.inr (q5 5 0), q5)) ∧ (∀ v : Nat, v < sN s → M' 5 v = ((sB s v + t) % sN s : Nat)) ∧ ∀ a i, a ≠ 5 → M' a i = M0 a i := by
  have w1 := w.1
  refine lpe (f := fun fu (y : Int × Mem) => f_X9_turn_41 F fu t y.1 y.2) (I := fun i y => y.1 = i ∧ (∀ v : Nat, v < sN s → y.2 5 v = if v < i then (((sB s v + t) % sN s : Nat) : Int) else sB s v) ∧ ∀ a i, a ≠ 5 → y.2 a i = M0 a i) (Q := fun r => ∃ M', r = (ob (f_X6_clearEntries F 1 M') fun q5 => some (.inr (q5 5 0), q5)) ∧ (∀ v : Nat, v < sN s → M' 5 v = ((sB s v + t) % sN s : Nat)) ∧ ∀ a i, a ≠ 5 → M' a i = M0 a i) (sN s) ?_ ?_ (sN s) 0 F (0, M0) (by omega) (by omega) ⟨rfl, fun v hv => by rw [if_neg (Nat.not_lt_zero v)]; exact hS.2.2.2.1 v hv, fun _ _ _ => rfl⟩
  · rintro i fu ⟨y1, N⟩ hi ⟨q1, q2, q3⟩
    dsimp only at q1 q2 q3 ⊢
    subst q1
    right
    have e0 : N 1 0 = sN s := by rw [q3 1 0 (by decide)]; exact hS.1
    have e5 := q2 i hi
    rw [if_neg (Nat.lt_irrefl i)] at e5
    have hb := hB.1 i hi
    have em : ((sB s i : Int) + (t : Int)) % (sN s : Int) = (((sB s i + t) % sN s : Nat) : Int) := rfl
    have hm : (sB s i + t) % sN s < sN s := Nat.mod_lt _ (by omega)
    refine ⟨((i : Int) + 1, mset N 5 i (((sB s i + t) % sN s : Nat) : Int)), ?_, rfl, fun v hv => ?_, fun a j ha => ?_⟩
    · rw [f_X9_turn_41, chk_t (by omega), if_neg (by omega), chk_t (by omega), e5, e0, chk_t (by omega), em, chk_t (by omega)]
    · dsimp only
      by_cases e : v = i
      · subst e; rw [ms_eq, if_pos (by omega)]
      · rw [ms_i (by omega), q2 v hv]
        by_cases c : v < i
        · rw [if_pos c, if_pos (by omega)]
        · rw [if_neg c, if_neg (by omega)]
    · dsimp only; rw [ms_a ha]; exact q3 a j ha
  · rintro fu ⟨y1, N⟩ ⟨q1, q2, q3⟩
    dsimp only at q1 q2 q3 ⊢
    subst q1
    have e0 : N 1 0 = sN s := by rw [q3 1 0 (by decide)]; exact hS.1
    exact ⟨N, by rw [f_X9_turn_41, chk_t (by omega), if_pos (by omega)], fun v hv => by rw [q2 v hv, if_pos hv], q3⟩
theorem mturn_loop (hF : 100000 ≤ F) {s : Sg} (w : WN s) (hB : WB s) {t : Nat} (ht : t ≤ 9) (M0 : Mem) (hS : SM 65 0 M0 s) : ∃ M', f_X10_turn_43 F F t 0 M0 = (ob (f_X10_empties F M') fun q10 => some (q10 65 50, q10)) ∧ LB M' (sN s) (fun v => (sB s v + t) % sN s) ∧ ∀ a i, (a ≠ 65 ∨ i < 50 ∨ 59 ≤ i) → M' a i = M0 a i := by
  have w1 := w.1
  refine lpe (f := fun fu (y : Int × Mem) => f_X10_turn_43 F fu t y.1 y.2) (I := fun i y => y.1 = i ∧ (∀ v : Nat, v < sN s → y.2 65 (50 + (v : Int)) = if v < i then (((sB s v + t) % sN s : Nat) : Int) else sB s v) ∧ ∀ a i, (a ≠ 65 ∨ i < 50 ∨ 59 ≤ i) → y.2 a i = M0 a i) (Q := fun r => ∃ M', r = (ob (f_X10_empties F M') fun q10 => some (q10 65 50, q10)) ∧ LB M' (sN s) (fun v => (sB s v + t) % sN s) ∧ ∀ a i, (a ≠ 65 ∨ i < 50 ∨ 59 ≤ i) → M' a i = M0 a i) (sN s) ?_ ?_ (sN s) 0 F (0, M0) (by omega) (by omega) ⟨rfl, fun v hv => by rw [if_neg (Nat.not_lt_zero v)]; exact mlabel hS hv, fun _ _ _ => rfl⟩
  · rintro i fu ⟨y1, N⟩ hi ⟨q1, q2, q3⟩
    dsimp only at q1 q2 q3 ⊢
    subst q1
    right
    have e0 : N 65 0 = sN s := by rw [q3 65 0 (by omega)]; exact hS.1
    have e5 := q2 i hi
    rw [if_neg (Nat.lt_irrefl i)] at e5
    have hb := hB.1 i hi
    have em : ((sB s i : Int) + (t : Int)) % (sN s : Int) = (((sB s i + t) % sN s : Nat) : Int) := rfl
    have hm : (sB s i + t) % sN s < sN s := Nat.mod_lt _ (by omega)
    refine ⟨((i : Int) + 1, mset N 65 (50 + (i : Int)) (((sB s i + t) % sN s : Nat) : Int)), ?_, rfl, fun v hv => ?_, fun a j ha => ?_⟩
    · rw [f_X10_turn_43, chk_t (by omega), if_neg (by omega), chk_t (by omega), e5, e0, chk_t (by omega), em, chk_t (by omega)]
    · dsimp only
      by_cases e : v = i
      · subst e; rw [ms_eq, if_pos (by omega)]
      · rw [ms_i (by omega), q2 v hv]
        by_cases c : v < i
        · rw [if_pos c, if_pos (by omega)]
        · rw [if_neg c, if_neg (by omega)]
    · dsimp only
      have : mset N 65 (50 + (i : Int)) (((sB s i + t) % sN s : Nat) : Int) a j = N a j := by unfold mset; rw [if_neg (by omega)]
      rw [this]; exact q3 a j ha
  · rintro fu ⟨y1, N⟩ ⟨q1, q2, q3⟩
    dsimp only at q1 q2 q3 ⊢
    subst q1
    have e0 : N 65 0 = sN s := by rw [q3 65 0 (by omega)]; exact hS.1
    exact ⟨N, by rw [f_X10_turn_43, chk_t (by omega), if_pos (by omega)], fun v hv => by rw [q2 v hv, if_pos hv], q3⟩
theorem op_turn (hF : 100000 ≤ F) (w : WA A) (hC : JC M A) (hM : JM M A) (hx : inR x) : OpK (f_L_turn F x M) (f_X10_turn F x) := by
  have hc : A.2.1 ≤ 4 := hC.2.1.1
  have hS := hC.1
  have wn := w.1.1
  have w1 := wn.1
  have e0 := hS.1
  by_cases c : 0 ≤ x ∧ x ≤ 9
  · by_cases d : sN A.1 = 0
    · refine OpK.no (k := 2) w hC hM (by decide) (by decide) ?_ (fun M1 h => ?_)
      · unfold f_L_turn f_X9_turn
        rw [nR_t hx (by decide) (by decide) c, ob_s, ox_inr, if_pos (by omega), ob_s, ox_inl, if_neg (by decide), if_pos rfl]
      · have : M1 65 0 = sN A.1 := h.1.1
        unfold f_X10_turn
        rw [mW_t hx (by decide) (by decide) c, if_pos (by omega), rf_p (by decide) (by decide) (fun q => ob (f_X10_saves F q.2) fun q18 => f_X10_turn_43 F F x 0 q18)]
    · obtain ⟨t, rfl⟩ : ∃ v : Nat, x = v := ⟨x.toNat, by omega⟩
      have ht : t ≤ 9 := by omega
      have hb : PB (sN A.1) (fun v => (sB A.1 v + t) % sN A.1) := PB_turn w1 w.1.2.1 ht
      have h0 : 0 < sN A.1 := by omega
      have hlt : (sB A.1 0 + t) % sN A.1 < sN A.1 := hb.1 0 h0
      refine OpK.mk (k := 0) (r := ((sB A.1 0 + t) % sN A.1 : Nat)) (B := pushA A (sClr (sLab A.1 (fun v => (sB A.1 v + t) % sN A.1)))) w (WA_push (c := 0) hc w (WF_lab wn hb)) (by decide) (fun _ => by omega) hM ?_ (fun N h => ?_)
      · obtain ⟨M1, a1, a2, a3⟩ := csave hF w hC
        obtain ⟨M2, b1, b2, b3⟩ := turn_loop hF wn w.1.2.1 ht M1 a2.1
        obtain ⟨k1, k2, k3, k4⟩ := a2.lab (M := M2) (fun a i q => b3 a i (by omega))
        obtain ⟨M3, c1, c2, c3⟩ := clab hF (NE.lab A.1 _) wn (a2.1.relab (b := fun v => (sB A.1 v + t) % sN A.1) b2 (fun a i q1 q2 => b3 a i q2)) k1 k2 k3 k4
        have e5 : M3 5 0 = ((sB A.1 0 + t) % sN A.1 : Nat) := c2.1.2.2.2.1 0 h0
        refine ⟨mset M3 1079 0 ((sB A.1 0 + t) % sN A.1 : Nat), ?_, c2.fr (fun a i q => ms_a (by omega)), fun a i q1 q2 => ?_, fun _ => ms_eq _ _ _ _⟩
        · unfold f_L_turn f_X9_turn
          rw [nR_t hx (by decide) (by decide) c, ob_s, ox_inr, if_neg (by omega), a1, ob_s, b1, c1, ob_s, ob_s]
          dsimp only
          rw [ox_inr, e5, chk_t (by omega)]
        · rw [ms_a (by omega), c3 a i (by omega), b3 a i (by omega)]; exact a3 a i (by omega)
      · obtain ⟨M1, a1, a2, a3⟩ := msave hF w (h.r3 w 0)
        obtain ⟨M2, b1, b2, b3⟩ := mturn_loop hF wn w.1.2.1 ht M1 a2.1
        obtain ⟨M3, c1, c2, c3⟩ := mempt hF (s := sLab A.1 (fun v => (sB A.1 v + t) % sN A.1)) wn M2 (SM.relab wn a2.1 (fun i q => b3 65 i (by omega)) b2)
        have e5 : M3 65 50 = ((sB A.1 0 + t) % sN A.1 : Nat) := mlabel c2 (v := 0) h0
        have e65 : N 65 0 = sN A.1 := h.1.1
        have ee : f_X10_turn F t N = some ((((sB A.1 0 + t) % sN A.1 : Nat) : Int), M3) := by
          unfold f_X10_turn
          rw [mW_t hx (by decide) (by decide) c, if_neg (by omega), rf_0]
          dsimp only
          rw [a1, ob_s, b1, c1, ob_s, e5]
        refine ⟨_, M3, ee, a2.jm hc w c2 (fun a i q => by rw [c3 a i (by omega), b3 a i (by omega)]), ?_, fun a i q => cg_X10_turn ee a i (by omega), fun _ => rfl⟩
        rw [c3 64 3 (by omega), b3 64 3 (by omega), a3 64 3 (by omega) (by decide), ms_eq]
  · refine OpK.no (k := 1) w hC hM (by decide) (by decide) ?_ (fun M1 h => ?_)
    · unfold f_L_turn f_X9_turn
      rw [nR_f hx (by decide) (by decide) c, ob_s, ox_inl, ob_s, ox_inl, if_pos rfl]
    · unfold f_X10_turn
      rw [mW_f hx (by decide) (by decide) c, rf_p (by decide) (by decide) (fun q => ob (f_X10_saves F q.2) fun q22 => f_X10_turn_43 F F x 0 q22)]
/-! shuffling -/
def lcg (s : Int) : Int := (1103515245 * s + 12345) % 2147483648
def shl : Nat → Int → (Nat → Nat) → Nat → Nat
  | 0, _, b => b
  | i + 1, s, b => shl i (lcg s) (sw b (i + 1) ((lcg s / 65536) % ((i : Int) + 1 + 1)).toNat)
theorem lcg_ok (s : Int) : 0 ≤ lcg s ∧ lcg s < 2147483648 := by unfold lcg; omega
theorem shj {s : Int} {i : Nat} : 0 ≤ (lcg s / 65536) % ((i : Int) + 1 + 1) ∧ (lcg s / 65536) % ((i : Int) + 1 + 1) < (i : Int) + 1 + 1 := ⟨Int.emod_nonneg _ (by omega), Int.emod_lt_of_pos _ (by omega)⟩
theorem PB_shl {n : Nat} : ∀ (i : Nat) (s : Int) {b : Nat → Nat}, i < n → PB n b → PB n (shl i s b)
  | 0, _, _, _, h => h
  | i + 1, s, b, hi, h => by
    have := shj (s := s) (i := i)
    exact PB_shl i (lcg s) (by omega) (h.swp hi (by omega))
theorem rand_loop (hF : 100000 ≤ F) {n : Nat} (hn : n ≤ 9) : ∀ (i : Nat) (s : Int) (b : Nat → Nat) (fu : Nat) (M : Mem), i < n → i < fu → 0 ≤ s → s < 2147483648 → (∀ v : Nat, v < n → M 5 v = b v) → ∃ M', f_X1_atRandom_15 F fu s i M = some M' ∧ (∀ v : Nat, v < n → M' 5 v = shl i s b v) ∧ ∀ a k, a ≠ 5 → M' a k = M a k := by
  intro i
  induction i with
  | zero =>
    intro s b fu M hi hfu h1 h2 hb
    obtain ⟨fu, rfl⟩ := fuel_s hfu
    exact ⟨M, by rw [f_X1_atRandom_15, chk_t (by omega), if_pos (by omega)], hb, fun _ _ _ => rfl⟩
  | succ i ih =>
    intro s b fu M hi hfu h1 h2 hb
    obtain ⟨fu, rfl⟩ := fuel_s hfu
    have hl := lcg_ok s
    have hj := shj (s := s) (i := i)
    obtain ⟨M1, a1, a2, a3⟩ := exl_ok hn M hb (i := i + 1) (j := ((lcg s / 65536) % ((i : Int) + 1 + 1)).toNat) hi (by omega)
    obtain ⟨M2, b1, b2, b3⟩ := ih (lcg s) _ fu M1 (by omega) (by omega) hl.1 hl.2 a2
    rw [show (((((lcg s / 65536) % ((i : Int) + 1 + 1)).toNat : Nat)) : Int) = (lcg s / 65536) % ((i : Int) + 1 + 1) by omega] at a1
    refine ⟨M2, ?_, b2, fun a k ha => (b3 a k ha).trans (a3 a k ha)⟩
    have e : (1103515245 * s + 12345) % 2147483648 = lcg s := rfl
    rw [f_X1_atRandom_15, chk_t (by omega), if_neg (by omega), chk_t (by omega), e, chk_t (by omega), chk_t (by omega), chk_t (by omega)]
    have a1 : f_X6_exchangeLabels 1 ((i + 1 : Nat) : Int) (lcg s / 65536 % (((i + 1 : Nat) : Int) + 1)) M = some M1 := a1
    rw [a1, ob_s, show ((i + 1 : Nat) : Int) + -1 = (i : Int) by omega, b1]
theorem mrand_loop (hF : 100000 ≤ F) {n : Nat} (hn : n ≤ 9) : ∀ (i : Nat) (s : Int) (b : Nat → Nat) (fu : Nat) (M : Mem), i < n → i < fu → 0 ≤ s → s < 2147483648 → LB M n b → ∃ M', f_X10_shuffle_69 F fu s i M = (ob (f_X10_empties F M') fun q10 => if q10 65 0 = 0 then some ((-1), q10) else some (q10 65 50, q10)) ∧ LB M' n (shl i s b) ∧ ∀ a k, (a ≠ 65 ∨ k < 50 ∨ 59 ≤ k) → M' a k = M a k := by
  intro i
  induction i with
  | zero =>
    intro s b fu M hi hfu h1 h2 hb
    obtain ⟨fu, rfl⟩ := fuel_s hfu
    exact ⟨M, by rw [f_X10_shuffle_69, chk_t (by omega), if_pos (by omega)], hb, fun _ _ _ => rfl⟩
  | succ i ih =>
    intro s b fu M hi hfu h1 h2 hb
    obtain ⟨fu, rfl⟩ := fuel_s hfu
    have hl := lcg_ok s
    have hj := shj (s := s) (i := i)
    obtain ⟨M1, a1, a2, a3⟩ := mswap_ok hn hb (i := i + 1) (j := ((lcg s / 65536) % ((i : Int) + 1 + 1)).toNat) hi (by omega)
    obtain ⟨M2, b1, b2, b3⟩ := ih (lcg s) _ fu M1 (by omega) (by omega) hl.1 hl.2 a2
    rw [show (((((lcg s / 65536) % ((i : Int) + 1 + 1)).toNat : Nat)) : Int) = (lcg s / 65536) % ((i : Int) + 1 + 1) by omega] at a1
    refine ⟨M2, ?_, b2, fun a k ha => (b3 a k ha).trans (a3 a k ha)⟩
    have e : (1103515245 * s + 12345) % 2147483648 = lcg s := rfl
    rw [f_X10_shuffle_69, chk_t (by omega), if_neg (by omega), chk_t (by omega), e, chk_t (by omega), chk_t (by omega)]
    have a1 : f_X10_swaps ((i + 1 : Nat) : Int) (lcg s / 65536 % (((i + 1 : Nat) : Int) + 1)) M = some M1 := a1
    rw [a1, ob_s, show ((i + 1 : Nat) : Int) + -1 = (i : Int) by omega, b1]
def shf (n : Nat) (s : Int) : Nat → Nat := shl (n - 1) s (fun v => v)
theorem PB_shf (n : Nat) (s : Int) : PB n (shf n s) := by
  by_cases h : n = 0
  · subst h; exact ⟨fun v hv => absurd hv (Nat.not_lt_zero v), fun v w hv => absurd hv (Nat.not_lt_zero v)⟩
  · exact PB_shl (n - 1) s (by omega) (PB.id n)
theorem rand_ok (hF : 100000 ≤ F) {s : Sg} (w : WN s) {t : Int} (h1 : 0 ≤ t) (h2 : t < 1000000) (M : Mem) (hS : SC 1 M s) : ∃ M', f_X1_atRandom F t M = some M' ∧ (∀ v : Nat, v < sN s → M' 5 v = shf (sN s) t v) ∧ ∀ a k, a ≠ 5 → M' a k = M a k := by
  have w1 := w.1
  have e0 := hS.1
  unfold f_X1_atRandom
  rw [chk_t (by omega), reset_eq hF w1 e0, ob_s]
  have e1 : mfill M 5 0 (sN s) (fun j => j) 1 0 = sN s := by rw [mf_a (by decide)]; exact e0
  have e1' : mfill M (1 + 4) 0 (sN s) (fun j => j) 1 0 = sN s := e1
  rw [e1']
  by_cases h : sN s = 0
  · obtain ⟨fu, e⟩ : ∃ g, F = g + 1 := ⟨F - 1, by omega⟩
    have : f_X1_atRandom_15 F (fu + 1) t ((sN s : Int) - 1) (mfill M (1 + 4) 0 (sN s) (fun j => j)) = some (mfill M (1 + 4) 0 (sN s) (fun j => j)) := by rw [f_X1_atRandom_15, chk_t (by omega), if_pos (by omega)]
    rw [← e] at this
    exact ⟨_, this, fun v hv => by omega, fun a k ha => mf_a (by omega)⟩
  · obtain ⟨M', a1, a2, a3⟩ := rand_loop hF w1 (sN s - 1) t (fun v => v) F (mfill M (1 + 4) 0 (sN s) (fun j => j)) (by omega) (by omega) h1 (by omega) (fun v hv => mf_in (by omega))
    rw [show ((sN s - 1 : Nat) : Int) = (sN s : Int) - 1 by omega] at a1
    exact ⟨M', a1, a2, fun a k ha => (a3 a k ha).trans (mf_a (by omega))⟩
theorem mrand_ok (hF : 100000 ≤ F) {s : Sg} (w : WN s) {t : Int} (h1 : 0 ≤ t) (h2 : t < 1000000) (M : Mem) (hS : SM 65 0 M s) : ∃ M', f_X10_shuffle_30 F F t 0 M = (ob (f_X10_empties F M') fun q10 => if q10 65 0 = 0 then some ((-1), q10) else some (q10 65 50, q10)) ∧ LB M' (sN s) (shf (sN s) t) ∧ ∀ a k, (a ≠ 65 ∨ k < 50 ∨ 59 ≤ k) → M' a k = M a k := by
  have w1 := w.1
  refine lpe (f := fun fu (y : Int × Mem) => f_X10_shuffle_30 F fu t y.1 y.2) (I := fun i y => y.1 = i ∧ (∀ v : Nat, v < i → y.2 65 (50 + (v : Int)) = v) ∧ ∀ a k, (a ≠ 65 ∨ k < 50 ∨ 59 ≤ k) → y.2 a k = M a k) (Q := fun r => ∃ M', r = (ob (f_X10_empties F M') fun q10 => if q10 65 0 = 0 then some ((-1), q10) else some (q10 65 50, q10)) ∧ LB M' (sN s) (shf (sN s) t) ∧ ∀ a k, (a ≠ 65 ∨ k < 50 ∨ 59 ≤ k) → M' a k = M a k) (sN s) ?_ ?_ (sN s) 0 F (0, M) (by omega) (by omega) ⟨rfl, fun v hv => absurd hv (Nat.not_lt_zero v), fun _ _ _ => rfl⟩
  · rintro i fu ⟨y1, N⟩ hi ⟨q1, q2, q3⟩
    dsimp only at q1 q2 q3 ⊢
    subst q1
    right
    have e0 : N 65 0 = sN s := by rw [q3 65 0 (by omega)]; exact hS.1
    refine ⟨((i : Int) + 1, mset N 65 (50 + (i : Int)) i), ?_, rfl, fun v hv => ?_, fun a j ha => ?_⟩
    · rw [f_X10_shuffle_30, chk_t (by omega), if_neg (by omega), chk_t (by omega)]
    · dsimp only
      by_cases e : v = i
      · subst e; rw [ms_eq]
      · rw [ms_i (by omega)]; exact q2 v (by omega)
    · dsimp only
      have : mset N 65 (50 + (i : Int)) i a j = N a j := by unfold mset; rw [if_neg (by omega)]
      rw [this]; exact q3 a j ha
  · rintro fu ⟨y1, N⟩ ⟨q1, q2, q3⟩
    dsimp only at q1 q2 q3 ⊢
    subst q1
    have e0 : N 65 0 = sN s := by rw [q3 65 0 (by omega)]; exact hS.1
    rw [f_X10_shuffle_30, chk_t (by omega), if_pos (by omega), e0]
    by_cases h : sN s = 0
    · obtain ⟨fu, e⟩ : ∃ g, F = g + 1 := ⟨F - 1, by omega⟩
      have : f_X10_shuffle_69 F (fu + 1) t ((sN s : Int) - 1) N = (ob (f_X10_empties F N) fun q10 => if q10 65 0 = 0 then some ((-1), q10) else some (q10 65 50, q10)) := by rw [f_X10_shuffle_69, chk_t (by omega), if_pos (by omega)]
      rw [← e] at this
      exact ⟨N, this, fun v hv => by omega, q3⟩
    · obtain ⟨M', a1, a2, a3⟩ := mrand_loop hF w1 (sN s - 1) t (fun v => v) F N (by omega) (by omega) h1 (by omega) q2
      rw [show ((sN s - 1 : Nat) : Int) = (sN s : Int) - 1 by omega] at a1
      exact ⟨M', a1, a2, fun a k ha => (a3 a k ha).trans (q3 a k ha)⟩
theorem op_shuffle (hF : 100000 ≤ F) (w : WA A) (hC : JC M A) (hM : JM M A) (hx : inR x) : OpK (f_L_shuffle F x M) (f_X10_shuffle F x) := by
  have hc : A.2.1 ≤ 4 := hC.2.1.1
  have hS := hC.1
  have wn := w.1.1
  have w1 := wn.1
  by_cases c : 0 ≤ x ∧ x ≤ 999999
  · have hb : PB (sN A.1) (shf (sN A.1) x) := PB_shf _ _
    have hr : inR (if sN A.1 = 0 then -1 else (shf (sN A.1) x 0 : Int)) := by
      by_cases h : sN A.1 = 0
      · rw [if_pos h]; decide
      · have := hb.1 0 (by omega)
        rw [if_neg h]; omega
    refine OpK.mk (k := 0) (r := if sN A.1 = 0 then -1 else (shf (sN A.1) x 0 : Int)) (B := pushA A (sClr (sLab A.1 (shf (sN A.1) x)))) w (WA_push (c := 0) hc w (WF_lab wn hb)) (by decide) (fun _ => hr) hM ?_ (fun N h => ?_)
    · obtain ⟨M1, a1, a2, a3⟩ := csave hF w hC
      obtain ⟨M2, b1, b2, b3⟩ := rand_ok hF wn c.1 (by omega) M1 a2.1
      obtain ⟨k1, k2, k3, k4⟩ := a2.lab (M := M2) (fun a i q => b3 a i (by omega))
      obtain ⟨M3, c1, c2, c3⟩ := clab hF (NE.lab A.1 _) wn (a2.1.relab b2 (fun a i q1 q2 => b3 a i q2)) k1 k2 k3 k4
      have e0 : M3 1 0 = sN A.1 := c2.1.1
      refine ⟨mset M3 1079 0 (if sN A.1 = 0 then -1 else (shf (sN A.1) x 0 : Int)), ?_, c2.fr (fun a i q => ms_a (by omega)), fun a i q1 q2 => ?_, fun _ => ms_eq _ _ _ _⟩
      · have ee : f_X9_shuffle F x M = some (.inr (if sN A.1 = 0 then -1 else (shf (sN A.1) x 0 : Int)), M3) := by
          unfold f_X9_shuffle
          rw [nR_t hx (by decide) (by decide) c, ob_s, ox_inr, a1, ob_s, b1, ob_s, c1, ob_s]
          by_cases h : sN A.1 = 0
          · rw [if_pos (by omega), if_pos h]
          · have e5 : M3 5 0 = shf (sN A.1) x 0 := c2.1.2.2.2.1 0 (by show 0 < sN A.1; omega)
            rw [if_neg (by omega), if_neg h, e5]
        unfold f_L_shuffle
        rw [ee, ob_s]
        dsimp only
        rw [ox_inr, chk_t hr]
      · rw [ms_a (by omega), c3 a i (by omega), b3 a i (by omega)]; exact a3 a i (by omega)
    · obtain ⟨M1, a1, a2, a3⟩ := msave hF w (h.r3 w 0)
      obtain ⟨M2, b1, b2, b3⟩ := mrand_ok hF wn c.1 (by omega) M1 a2.1
      obtain ⟨M3, c1, c2, c3⟩ := mempt hF (s := sLab A.1 (shf (sN A.1) x)) wn M2 (SM.relab wn a2.1 (fun i q => b3 65 i (by omega)) b2)
      have e0 : M3 65 0 = sN A.1 := c2.1
      have ee : f_X10_shuffle F x N = some ((if sN A.1 = 0 then -1 else (shf (sN A.1) x 0 : Int)), M3) := by
        unfold f_X10_shuffle
        rw [mW_t hx (by decide) (by decide) c, rf_0]
        dsimp only
        rw [a1, ob_s, b1, c1, ob_s]
        by_cases h : sN A.1 = 0
        · rw [if_pos (by omega), if_pos h]
        · have e5 : M3 65 50 = shf (sN A.1) x 0 := mlabel c2 (v := 0) (by show 0 < sN A.1; omega)
          rw [if_neg (by omega), if_neg h, e5]
      refine ⟨_, M3, ee, a2.jm hc w c2 (fun a i q => by rw [c3 a i (by omega), b3 a i (by omega)]), ?_, fun a i q => cg_X10_shuffle ee a i (by omega), fun _ => rfl⟩
      rw [c3 64 3 (by omega), b3 64 3 (by omega), a3 64 3 (by omega) (by decide), ms_eq]
  · refine OpK.no (k := 1) w hC hM (by decide) (by decide) ?_ (fun M1 h => ?_)
    · unfold f_L_shuffle f_X9_shuffle
      rw [nR_f hx (by decide) (by decide) c, ob_s, ox_inl, ob_s, ox_inl, if_pos rfl]
    · unfold f_X10_shuffle
      rw [mW_f hx (by decide) (by decide) c, rf_p (by decide) (by decide) (fun q => ob (f_X10_saves F q.2) fun q7 => f_X10_shuffle_30 F F x 0 q7)]
end Labs
