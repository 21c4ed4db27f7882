/-! calls about letters -/
theorem wk_len (s : Sg) (w : Nat) (br : Int) : ∀ d p, (wk s w br d p).1.length ≤ d
  | 0, p => Nat.le_refl _
  | d + 1, p => by
    rw [wk]
    split
    · exact Nat.zero_le _
    · split
      · exact Nat.zero_le _
      · have := wk_len s w br d (oth s (nxl s w br p).toNat p)
        show (wk s w br d (oth s (nxl s w br p).toNat p)).1.length + 1 ≤ d + 1
        omega
theorem wk_sum {s : Sg} (f : WF s) {w : Nat} (hw : w < sN s) (br : Int) : ∀ d p, p < sN s → lsum s (wk s w br d p).1 ≤ 9 * d
  | 0, p, _ => Nat.le_refl _
  | d + 1, p, hp => by
    rw [wk]
    split
    · exact Nat.zero_le _
    · split
      · exact Nat.zero_le _
      · rename_i c1 c2
        rcases nxl_ok f hw hp br with h | ⟨l, h, hl, ht⟩
        · exact absurd h c2
        · rw [h, Int.toNat_natCast]
          have ho := oth_lt f.1 hl p
          have hs := (f.1.2.2.1 l hl).2.2.2.2
          have ih := wk_sum f hw br d (oth s l p) ho
          show sL s l + lsum s (wk s w br d (oth s l p)).1 ≤ 9 * (d + 1)
          omega
theorem lany_iff (k : Nat) : ∀ L : List (Nat × Nat), lany k L = true ↔ ∃ (j : Nat) (x : Nat × Nat), L[j]? = some x ∧ x.1 = k
  | [] => by simp [lany]
  | x :: L => by
    unfold lany
    rw [Bool.or_eq_true, decide_eq_true_eq, lany_iff k L]
    constructor
    · rintro (h | ⟨j, y, h1, h2⟩)
      · exact ⟨0, x, rfl, h⟩
      · exact ⟨j + 1, y, h1, h2⟩
    · rintro ⟨j, y, h1, h2⟩
      cases j with
      | zero =>
        have h1 : some x = some y := h1
        cases h1
        exact Or.inl h2
      | succ j => exact Or.inr ⟨j, y, h1, h2⟩
/-- two loops, one within the other -/
theorem nest {α σ : Type} {n F : Nat} (hF : n < F) (outer : Nat → σ → Int → Mem → Option α) (inner : Nat → Nat → σ → Int → Int → Mem → Option α) (I : Mem → Prop) (acc : Nat → Nat → σ) (R : Mem → Option α) (ho : ∀ fu v M, v < n → I M → outer (fu + 1) (acc v 0) (v : Nat) M = inner fu F (acc v 0) (v : Nat) 0 M) (hi : ∀ fu fu' v w M, v < n → w < n → I M → ∃ M', inner fu (fu' + 1) (acc v w) (v : Nat) (w : Nat) M = inner fu fu' (acc v (w + 1)) (v : Nat) ((w : Int) + 1) M' ∧ I M') (hx : ∀ fu fu' v M, v < n → I M → inner fu (fu' + 1) (acc v n) (v : Nat) (n : Nat) M = outer fu (acc (v + 1) 0) ((v : Int) + 1) M) (he : ∀ fu M, I M → outer (fu + 1) (acc n 0) (n : Nat) M = R M) (M0 : Mem) (h0 : I M0) : ∃ M', outer F (acc 0 0) 0 M0 = R M' ∧ I M' := by
  refine lpe (f := fun fu (y : σ × Int × Mem) => outer fu y.1 y.2.1 y.2.2) (I := fun v y => y.1 = acc v 0 ∧ y.2.1 = (v : Nat) ∧ I y.2.2) (Q := fun r => ∃ M', r = R M' ∧ I M') n ?_ ?_ n 0 F (acc 0 0, 0, M0) (by omega) (by omega) ⟨rfl, rfl, h0⟩
  · rintro v fu ⟨y1, y2, M⟩ hv ⟨q1, q2, q3⟩
    dsimp only at q1 q2 q3 ⊢
    subst q1 q2
    right
    rw [ho fu v M hv q3]
    refine lpe (f := fun fu' (y : σ × Int × Mem) => inner fu fu' y.1 (v : Nat) y.2.1 y.2.2) (I := fun w y => y.1 = acc v w ∧ y.2.1 = (w : Nat) ∧ I y.2.2) (Q := fun r => ∃ y : σ × Int × Mem, r = outer fu y.1 y.2.1 y.2.2 ∧ y.1 = acc (v + 1) 0 ∧ y.2.1 = ((v + 1 : Nat) : Int) ∧ I y.2.2) n ?_ ?_ n 0 F (acc v 0, 0, M) (by omega) (by omega) ⟨rfl, rfl, q3⟩
    · rintro w fu' ⟨y1, y2, M⟩ hw ⟨q1, q2, q3⟩
      dsimp only at q1 q2 q3 ⊢
      subst q1 q2
      right
      obtain ⟨M', e, hI⟩ := hi fu fu' v w M hv hw q3
      exact ⟨(acc v (w + 1), (w : Int) + 1, M'), e, rfl, rfl, hI⟩
    · rintro fu' ⟨y1, y2, M⟩ ⟨q1, q2, q3⟩
      dsimp only at q1 q2 q3 ⊢
      subst q1 q2
      exact ⟨(acc (v + 1) 0, (v : Int) + 1, M), hx fu fu' v M hv q3, rfl, rfl, q3⟩
  · rintro fu ⟨y1, y2, M⟩ ⟨q1, q2, q3⟩
    dsimp only at q1 q2 q3 ⊢
    subst q1 q2
    exact ⟨M, he fu M q3, q3⟩
/-- a count of pairs, as far as it has come -/
def cac (p : Nat → Nat → Bool) (n v w : Nat) : Int := (su (fun v => ct (p v) n) v : Int) + (ct (p v) w : Int)
theorem cac_n (p : Nat → Nat → Bool) (n v : Nat) : cac p n v n = cac p n (v + 1) 0 := by
  unfold cac
  rw [su]
  show _ = ((su (fun v => ct (p v) n) v + ct (p v) n : Nat) : Int) + ((0 : Nat) : Int)
  omega
theorem cac_t {p : Nat → Nat → Bool} {n v w : Nat} (h : p v w = true) : cac p n v w + 1 = cac p n v (w + 1) := by unfold cac; rw [ct_t h]; omega
theorem cac_f {p : Nat → Nat → Bool} {n v w : Nat} (h : p v w = false) : cac p n v w = cac p n v (w + 1) := by unfold cac; rw [ct_f h]
theorem cac_e (p : Nat → Nat → Bool) (n : Nat) : cac p n n 0 = (cnt2 p n : Int) := by unfold cac cnt2; show _ + ((0 : Nat) : Int) = _; omega
section Letters
variable {F : Nat} {M : Mem} {A : Ab} {x y z : Int}
/-- scratch of the class's letters -/
def fL (M0 M : Mem) : Prop := ∀ a i, a ≠ 57 → a ≠ 58 → a ≠ 59 → M a i = M0 a i
def fM (M0 M : Mem) : Prop := ∀ a i, (a ≠ 64 ∨ i ≠ 14 ∧ i ≠ 15 ∧ i ≠ 16) → a ≠ 74 → M a i = M0 a i
theorem arr_ok (hF : 100000 ≤ F) {s : Sg} (f : WF s) {v w : Nat} (hv : v < sN s) (hw : w < sN s) {br : Int} (hbr : inR br) (M : Mem) (hS : SC 1 M s) : ∃ M', f_X9_arrives F v w br M = some (bi (wk s w br (sN s) v).2, M') ∧ M' 57 2 = 1 + (wk s w br (sN s) v).1.length ∧ M' 57 1 = lsum s (wk s w br (sN s) v).1 ∧ (∀ (j : Nat) x, (wk s w br (sN s) v).1[j]? = some x → M' 59 j = x.1) ∧ fL M M' := by
  obtain ⟨M', b0, b1, b2, b3, b4, b5, b6⟩ := trav_ok hF f hv hw hbr M hS
  refine ⟨M', ?_, b2, b3, fun j x hx => (b5 j x hx).2, b6⟩
  unfold f_X9_arrives
  rw [b0, ob_s, b1, chk_t (bi_bit _)]
theorem SC_fL {M0 : Mem} {s : Sg} (h : SC 1 M0 s) (f : fL M0 M) : SC 1 M s := h.fr (fun a i q1 q2 => f a i (by omega) (by omega) (by omega))
theorem SM_fM {M0 : Mem} {s : Sg} (w : WN s) (h : SM 65 0 M0 s) (f : fM M0 M) : SM 65 0 M s := h.fr (fun j _ _ => f 65 j (by omega) (by decide)) w
theorem fL_t {M0 M1 M2 : Mem} (h : fL M0 M1) (k : fL M1 M2) : fL M0 M2 := fun a i q1 q2 q3 => (k a i q1 q2 q3).trans (h a i q1 q2 q3)
theorem fM_t {M0 M1 M2 : Mem} (h : fM M0 M1) (k : fM M1 M2) : fM M0 M2 := fun a i q1 q2 => (k a i q1 q2).trans (h a i q1 q2)
def arvP (s : Sg) (v w : Nat) : Bool := !decide (v = w) && (wk s w (-1) (sN s) v).2
theorem arrv_ok (hF : 100000 ≤ F) {s : Sg} (f : WF s) (M0 : Mem) (hS : SC 1 M0 s) : ∃ M', f_X9_arriving F M0 = some ((cnt2 (arvP s) (sN s) : Int), M') ∧ fL M0 M' := by
  have w1 := f.1.1
  refine nest (n := sN s) (F := F) (by omega) (fun fu a v M => f_X9_arriving_4 F fu a v M) (fun fu fu' a v w M => f_X9_arriving_17 F (f_X9_arriving_4 F fu) fu' a v w M) (fL M0) (cac (arvP s) (sN s)) (fun M => some ((cnt2 (arvP s) (sN s) : Int), M)) ?_ ?_ ?_ ?_ M0 (fun _ _ _ _ _ => rfl)
  · intro fu v M hv hf
    have e0 := (SC_fL hS hf).1
    rw [f_X9_arriving_4, chk_t (by omega), if_neg (by omega)]
  · intro fu fu' v w M hv hw hf
    have hS2 := SC_fL hS hf
    have e0 := hS2.1
    rw [f_X9_arriving_17, chk_t (by omega), if_neg (by omega)]
    by_cases c : v = w
    · rw [if_pos (by omega)]
      refine ⟨M, ?_, hf⟩
      rw [cac_f (by unfold arvP; rw [decide_eq_true c]; rfl)]
    · obtain ⟨M', a1, -, -, -, a2⟩ := arr_ok hF f hv hw (br := -1) (by decide) M hS2
      rw [if_neg (by omega), a1, ob_s]
      dsimp only
      rw [chk_t (bi_R _)]
      refine ⟨M', ?_, fL_t hf a2⟩
      cases hb : (wk s w (-1) (sN s) v).2 with
      | false => rw [if_pos (by decide), cac_f (by unfold arvP; rw [hb, Bool.and_false])]
      | true => rw [if_neg (by decide), cac_t (by unfold arvP; rw [hb, decide_eq_false c]; rfl)]
  · intro fu fu' v M hv hf
    have e0 := (SC_fL hS hf).1
    rw [f_X9_arriving_17, chk_t (by omega), if_pos (by omega), cac_n]
  · intro fu M hf
    have e0 := (SC_fL hS hf).1
    rw [f_X9_arriving_4, chk_t (by omega), if_pos (by omega), cac_e]
theorem marrv_ok (hF : 100000 ≤ F) {s : Sg} (f : WF s) (M0 : Mem) (hS : SM 65 0 M0 s) : ∃ M', f_X10_arrivals F M0 = some ((cnt2 (arvP s) (sN s) : Int), M') ∧ fM M0 M' := by
  have w1 := f.1.1
  refine nest (n := sN s) (F := F) (by omega) (fun fu a v M => f_X10_arrivals_4 F fu a v M) (fun fu fu' a v w M => f_X10_arrivals_16 F (f_X10_arrivals_4 F fu) fu' a v w M) (fM M0) (cac (arvP s) (sN s)) (fun M => some ((cnt2 (arvP s) (sN s) : Int), M)) ?_ ?_ ?_ ?_ M0 (fun _ _ _ _ => rfl)
  · intro fu v M hv hf
    have e0 : M 65 0 = sN s := (SM_fM f.1 hS hf).1
    rw [f_X10_arrivals_4, chk_t (by omega), if_neg (by omega)]
  · intro fu fu' v w M hv hw hf
    have hS2 := SM_fM f.1 hS hf
    have e0 : M 65 0 = sN s := hS2.1
    rw [f_X10_arrivals_16, chk_t (by omega), if_neg (by omega)]
    by_cases c : v = w
    · rw [if_pos (by omega)]
      refine ⟨M, ?_, hf⟩
      rw [Int.add_zero, cac_f (by unfold arvP; rw [decide_eq_true c]; rfl)]
    · obtain ⟨M', a1, -, -, -, -, -, a2⟩ := goes_ok hF f hv hw (br := -1) (by decide) M hS2
      rw [if_neg (by omega), a1, ob_s]
      dsimp only
      rw [chk_t (bi_R _)]
      refine ⟨M', ?_, fM_t hf a2⟩
      cases hb : (wk s w (-1) (sN s) v).2 with
      | false => rw [if_pos (by decide), Int.add_zero, cac_f (by unfold arvP; rw [hb, Bool.and_false])]
      | true => rw [if_neg (by decide), cac_t (by unfold arvP; rw [hb, decide_eq_false c]; rfl)]
  · intro fu fu' v M hv hf
    have e0 : M 65 0 = sN s := (SM_fM f.1 hS hf).1
    rw [f_X10_arrivals_16, chk_t (by omega), if_pos (by omega), cac_n]
  · intro fu M hf
    have e0 : M 65 0 = sN s := (SM_fM f.1 hS hf).1
    rw [f_X10_arrivals_4, chk_t (by omega), if_pos (by omega), cac_e]
theorem op_arriving (hF : 100000 ≤ F) (w : WA A) (hC : JC M A) (hM : JM M A) : OpP (f_X9_arriving F M) (f_X10_arriving F) := by
  obtain ⟨s, cc, hs, tl, tx⟩ := A
  have wf : WF s := w.1
  have hj : cnt2 (arvP s) (sN s) ≤ 81 := cnt2_le wf.1.1 (sN s) (Nat.le_refl _)
  obtain ⟨M1, a1, a2⟩ := arrv_ok hF wf M hC.1
  refine OpP.rd (r := cnt2 (arvP s) (sN s)) w (by omega) hC hM ⟨M1, a1, fun a i q => a2 a i (by omega) (by omega) (by omega)⟩ (fun M1 h => ?_)
  obtain ⟨M2, b1, b2⟩ := marrv_ok hF wf (mset M1 64 3 0) (h.r3 w 0).1
  refine ⟨M2, by unfold f_X10_arriving; rw [b1, ob_s], fun a i q => ?_⟩
  rw [b2 a i (by omega) (by omega)]; unfold mset; rw [if_neg (by omega)]
theorem op_send (hF : 100000 ≤ F) (w : WA A) (hC : JC M A) (hM : JM M A) (hx : inR x) (hy : inR y) : OpK (f_L_send F x y M) (f_X10_send F x y) := by
  obtain ⟨s, cc, hs, tl, tx⟩ := A
  have hS : SC 1 M s := hC.1
  have wf : WF s := w.1
  have wn : WN s := w.1.1
  have w1 := wn.1
  by_cases c : 0 ≤ x ∧ x < sN s
  · by_cases d : 0 ≤ y ∧ y < sN s
    · obtain ⟨u, rfl⟩ : ∃ v : Nat, x = v := ⟨x.toNat, by omega⟩
      obtain ⟨v, rfl⟩ : ∃ v : Nat, y = v := ⟨y.toNat, by omega⟩
      have hu : u < sN s := by omega
      have hv : v < sN s := by omega
      have hl := wk_sum wf hv (-1) (sN s) u hu
      obtain ⟨M1, b0, b1, b2, b3, b4, b5, b6⟩ := trav_ok hF wf hu hv (br := -1) (by decide) M hS
      refine OpK.rd (r := if (wk s v (-1) (sN s) u).2 = true then (lsum s (wk s v (-1) (sN s) u).1 : Int) else -1) w (by split <;> omega) hC hM ⟨M1, ?_, fun a i q => b6 a i (by omega) (by omega) (by omega)⟩ (fun N h => ?_)
      · unfold f_L_send f_X9_send
        rw [nN_t hS wn c, ob_s, ox_inr, nN_t hS wn d, ob_s, ox_inr, b0, ob_s, b1]
        cases hb : (wk s v (-1) (sN s) u).2 with
        | false =>
          rw [if_pos (by decide), ob_s]
          dsimp only
          rw [ox_inr, chk_t (by decide)]; rfl
        | true =>
          rw [if_neg (by decide), ob_s, b3]
          dsimp only
          rw [ox_inr, chk_t (by omega)]; rfl
      · obtain ⟨M2, a1, a2, a3, a4, a5, a6, a7⟩ := goes_ok hF wf hu hv (br := -1) (by decide) (mset N 64 3 0) (h.r3 w 0).1
        refine ⟨M2, ?_, by rw [a7 64 3 (by omega) (by decide), ms_eq], fun a i q => ?_⟩
        · unfold f_X10_send
          rw [mN_t h.1 wn c, mN_t h.1 wn d, rf_0]
          dsimp only
          rw [a1, ob_s]
          dsimp only
          rw [chk_t (bi_R _)]
          cases hb : (wk s v (-1) (sN s) u).2 with
          | false => rw [if_pos (by decide), if_neg (by decide)]
          | true => rw [if_neg (by decide), if_pos rfl, a3]
        · rw [a7 a i (by omega) (by omega)]; unfold mset; rw [if_neg (by omega)]
    · refine OpK.no (k := 1) w hC hM (by decide) (by decide) ?_ (fun M1 h => ?_)
      · unfold f_L_send f_X9_send
        rw [nN_t hS wn c, ob_s, ox_inr, nN_f hS hy d, ob_s, ox_inl, ob_s, ox_inl, if_pos rfl]
      · unfold f_X10_send
        rw [mN_t h.1 wn c, mN_f h.1 wn hy d, rf_p (by decide) (by decide) (fun q => ob (f_X10_goes F x y (-1) q.2) fun q16 => chk (inR q16.1) (if q16.1 = 0 then some ((-1), q16.2) else some (q16.2 64 16, q16.2)))]
  · refine OpK.no (k := 1) w hC hM (by decide) (by decide) ?_ (fun M1 h => ?_)
    · unfold f_L_send f_X9_send
      rw [nN_f hS hx c, ob_s, ox_inl, ob_s, ox_inl, if_pos rfl]
    · unfold f_X10_send
      rw [mN_f h.1 wn hx c, rf_p (by decide) (by decide) (fun q => ob (f_X10_goes F x y (-1) q.2) fun q16 => chk (inR q16.1) (if q16.1 = 0 then some ((-1), q16.2) else some (q16.2 64 16, q16.2)))]
theorem wk_node {s : Sg} (f : WF s) {w : Nat} (hw : w < sN s) (br : Int) : ∀ d p, p < sN s → ∀ (j : Nat) x, (wk s w br d p).1[j]? = some x → x.2 < sN s
  | 0, p, _, j, x, h => by simp [wk] at h
  | d + 1, p, hp, j, x, h => by
    rw [wk] at h
    split at h
    · simp at h
    · split at h
      · simp at h
      · rename_i c1 c2
        rcases nxl_ok f hw hp br with hn | ⟨l, hn, hl, ht⟩
        · exact absurd hn c2
        · rw [hn, Int.toNat_natCast] at h
          have ho := oth_lt f.1 hl p
          cases j with
          | zero =>
            have h : some (l, oth s l p) = some x := h
            cases h
            exact ho
          | succ j => exact wk_node f hw br d (oth s l p) ho j x h
theorem op_wayNode (hF : 100000 ≤ F) (w : WA A) (hC : JC M A) (hM : JM M A) (hx : inR x) (hy : inR y) (hz : inR z) : OpK (f_L_wayNode F x y z M) (f_X10_wayNode F x y z) := by
  obtain ⟨s, cc, hs, tl, tx⟩ := A
  have hS : SC 1 M s := hC.1
  have wf : WF s := w.1
  have wn : WN s := w.1.1
  have w1 := wn.1
  have ref : ∀ (k : Int) M1, 0 < k → k < 10 → f_X10_wayNode_30 F x y z k M1 = some (0, mset M1 64 3 k) := by
    intro k M1 h1 h2
    unfold f_X10_wayNode_30
    rw [chk_t hz, rf_p h1 h2 (fun q => ob (f_X10_goes F x y (-1) q.2) fun q7 => if q7.2 64 14 ≤ z then some ((-1), q7.2) else chk (0 ≤ z ∧ z < 10) (some (q7.2 74 z, q7.2)))]
  by_cases c : 0 ≤ x ∧ x < sN s
  · by_cases d : 0 ≤ y ∧ y < sN s
    · by_cases e : 0 ≤ z
      · obtain ⟨u, rfl⟩ : ∃ v : Nat, x = v := ⟨x.toNat, by omega⟩
        obtain ⟨v, rfl⟩ : ∃ v : Nat, y = v := ⟨y.toNat, by omega⟩
        obtain ⟨j, rfl⟩ : ∃ v : Nat, z = v := ⟨z.toNat, by omega⟩
        have hu : u < sN s := by omega
        have hv : v < sN s := by omega
        have hlen := wk_len s v (-1) (sN s) u
        obtain ⟨M1, b0, b1, b2, b3, b4, b5, b6⟩ := trav_ok hF wf hu hv (br := -1) (by decide) M hS
        -- the node, or none
        have key : ∀ r : Int, inR r → (if M1 57 2 ≤ (j : Int) then (-1 : Int) else M1 58 j) = r → (∀ M2 : Mem, M2 64 14 = 1 + (wk s v (-1) (sN s) u).1.length → M2 74 0 = u → (∀ (j : Nat) x, (wk s v (-1) (sN s) u).1[j]? = some x → M2 74 (1 + (j : Int)) = x.2) → (if M2 64 14 ≤ (j : Int) then (-1 : Int) else M2 74 j) = r) → OpK (f_L_wayNode F u v j M) (f_X10_wayNode F u v j) := by
          intro r hr h1 h2
          refine OpK.rd (r := r) w hr hC hM ⟨M1, ?_, fun a i q => b6 a i (by omega) (by omega) (by omega)⟩ (fun N h => ?_)
          · unfold f_L_wayNode f_X9_wayNode
            rw [chk_t hz, nN_t hS wn c, ob_s, ox_inr, nN_t hS wn d, ob_s, ox_inr, if_pos e, b0, ob_s]
            by_cases k : M1 57 2 ≤ (j : Int)
            · rw [if_pos k] at h1
              rw [if_pos k, ob_s, h1]
              dsimp only
              rw [ox_inr, chk_t hr]
            · rw [if_neg k] at h1
              rw [if_neg k, chk_t (by omega), ob_s, h1]
              dsimp only
              rw [ox_inr, chk_t hr]
          · obtain ⟨M2, a1, a2, a3, a4, a5, a6, a7⟩ := goes_ok hF wf hu hv (br := -1) (by decide) (mset N 64 3 0) (h.r3 w 0).1
            have h2 := h2 M2 a2 a5 a6
            refine ⟨M2, ?_, by rw [a7 64 3 (by omega) (by decide), ms_eq], fun a i q => ?_⟩
            · unfold f_X10_wayNode
              rw [chk_t hz, mN_t h.1 wn c, mN_t h.1 wn d, if_pos e]
              unfold f_X10_wayNode_30
              rw [chk_t hz, rf_0]
              dsimp only
              rw [a1, ob_s]
              dsimp only
              by_cases k : M2 64 14 ≤ (j : Int)
              · rw [if_pos k] at h2
                rw [if_pos k, h2]
              · rw [if_neg k] at h2
                rw [if_neg k, chk_t (by omega), h2]
            · rw [a7 a i (by omega) (by omega)]; unfold mset; rw [if_neg (by omega)]
        cases j with
        | zero =>
          refine key u (by omega) ?_ (fun M2 h1 h2 _ => ?_)
          · rw [if_neg (by omega)]; exact b4
          · rw [if_neg (by omega)]; exact h2
        | succ j =>
          by_cases k : j < (wk s v (-1) (sN s) u).1.length
          · have hg : (wk s v (-1) (sN s) u).1[j]? = some ((wk s v (-1) (sN s) u).1[j]) := List.getElem?_eq_getElem k
            have hn := wk_node wf hv (-1) (sN s) u hu j _ hg
            refine key (((wk s v (-1) (sN s) u).1[j]).2 : Nat) (by omega) ?_ (fun M2 h1 _ h3 => ?_)
            · rw [if_neg (by omega), ← (b5 j _ hg).1]; congr 1; omega
            · rw [if_neg (by omega), ← h3 j _ hg]; congr 1; omega
          · refine key (-1) (by decide) ?_ (fun M2 h1 _ h3 => ?_)
            · rw [if_pos (by omega)]
            · rw [if_pos (by omega)]
      · refine OpK.no (k := 2) w hC hM (by decide) (by decide) ?_ (fun M1 h => ?_)
        · unfold f_L_wayNode f_X9_wayNode
          rw [chk_t hz, nN_t hS wn c, ob_s, ox_inr, nN_t hS wn d, ob_s, ox_inr, if_neg e, ob_s, ox_inl, if_neg (by decide), if_pos rfl]
        · unfold f_X10_wayNode
          rw [chk_t hz, mN_t h.1 wn c, mN_t h.1 wn d, if_neg e, ref 2 M1 (by decide) (by decide)]
    · refine OpK.no (k := 1) w hC hM (by decide) (by decide) ?_ (fun M1 h => ?_)
      · unfold f_L_wayNode f_X9_wayNode
        rw [chk_t hz, nN_t hS wn c, ob_s, ox_inr, nN_f hS hy d, ob_s, ox_inl, ob_s, ox_inl, if_pos rfl]
      · unfold f_X10_wayNode
        rw [chk_t hz, mN_t h.1 wn c, mN_f h.1 wn hy d, ref 1 M1 (by decide) (by decide)]
  · refine OpK.no (k := 1) w hC hM (by decide) (by decide) ?_ (fun M1 h => ?_)
    · unfold f_L_wayNode f_X9_wayNode
      rw [chk_t hz, nN_f hS hx c, ob_s, ox_inl, ob_s, ox_inl, if_pos rfl]
    · unfold f_X10_wayNode
      rw [chk_t hz, mN_f h.1 wn hx c, ref 1 M1 (by decide) (by decide)]
end Letters
