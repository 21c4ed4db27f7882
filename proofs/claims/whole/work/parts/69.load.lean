/-! load, lost letters, stretch -/
theorem nan_ok : ∀ a : Nat, a < 82 → ∀ b : Nat, b < 82 → 1 ≤ b → notNaN (FP.ddiv (FP.i2d (iI (a : Int))) (FP.i2d (iI (b : Int)))) := by decide +kernel
theorem wk_way {s : Sg} (f : WF s) {w : Nat} (hw : w < sN s) (br : Int) : ∀ d p, p < sN s → (wk s w br d p).2 = true → Way s p w (lsum s (wk s w br d p).1)
  | 0, p, _, h => by
    have h : decide (p = w) = true := h
    rw [decide_eq_true_eq] at h
    rw [h]; exact Way.nil w
  | d + 1, p, hp, h => by
    rw [wk] at h ⊢
    split at h
    · rename_i c
      rw [if_pos c, c]; exact Way.nil w
    · rename_i c1
      split at h
      · cases h
      · rename_i c2
        rw [if_neg c1, if_neg c2]
        rcases nxl_ok f hw hp br with hn | ⟨l, hn, hl, ht⟩
        · exact absurd hn c2
        · rw [hn, Int.toNat_natCast] at h ⊢
          have ho := oth_lt f.1 hl p
          exact (Way.link hl ht).app (wk_way f hw br d (oth s l p) ho h)
theorem way_0 {s : Sg} (w : WN s) {u v : Nat} (h : Way s u v 0) : u = v := by
  obtain ⟨m, h⟩ := h
  cases m with
  | zero => exact h.1
  | succ m =>
    obtain ⟨i, hi, _, hl, _⟩ := h
    have := (w.2.2.1 i hi).2.2.2.1
    omega
/-- a letter that arrives goes some distance -/
theorem arr_dis {s : Sg} (f : WF s) {v w : Nat} (hv : v < sN s) (hw : w < sN s) (hne : v ≠ w) {br : Int} (h : (wk s w br (sN s) v).2 = true) : 1 ≤ dis s v w ∧ dis s v w < 82 ∧ lsum s (wk s w br (sN s) v).1 < 82 := by
  have w1 := f.1.1
  have h1 := wk_sum f hw br (sN s) v hv
  have h2 := (dis_D f.1 v w hv hw).2.1 _ (wk_way f hw br (sN s) v hv h)
  refine ⟨?_, by omega, by omega⟩
  rcases Nat.eq_zero_or_pos (dis s v w) with q | q
  · have := (dis_D f.1 v w hv hw).2.2 (by omega)
    rw [q] at this
    exact absurd (way_0 f.1 this) hne
  · exact q
section Loads
variable {F : Nat} {M : Mem} {A : Ab} {x y z : Int}
theorem went_ok (hF : 100000 ≤ F) {L : List (Nat × Nat)} (hL : L.length ≤ 9) (h2 : M 57 2 = 1 + L.length) (h9 : ∀ (j : Nat) x, L[j]? = some x → M 59 j = x.1) {k : Nat} (hk : k < 100) : f_X2_wentOver F k M = some (bi (lany k L)) := by
  refine lpe (f := fun fu (y : Int) => f_X2_wentOver_2 F fu k y M) (I := fun i y => y = i ∧ ∀ (j : Nat) x, j < i → L[j]? = some x → x.1 ≠ k) (Q := fun r => r = some (bi (lany k L))) L.length ?_ ?_ L.length 0 F 0 (by omega) (by omega) ⟨rfl, fun j x hj => absurd hj (Nat.not_lt_zero j)⟩
  · rintro i fu y hi ⟨q1, q2⟩
    subst q1
    have hg : L[i]? = some (L[i]) := List.getElem?_eq_getElem hi
    rw [f_X2_wentOver_2, chk_t (by omega), chk_t (by omega), if_neg (by omega), chk_t (by omega), h9 i _ hg]
    by_cases c : (L[i]).1 = k
    · left
      have : lany k L = true := (lany_iff k L).mpr ⟨i, _, hg, c⟩
      rw [if_pos (by omega), this]; rfl
    · right
      rw [if_neg (by omega)]
      refine ⟨(i : Int) + 1, rfl, rfl, fun j x hj hx => ?_⟩
      by_cases e : j = i
      · subst e
        rw [hg] at hx
        cases hx
        exact c
      · exact q2 j x (by omega) hx
  · rintro fu y ⟨q1, q2⟩
    subst q1
    have : lany k L = false := by
      cases hb : lany k L with
      | false => rfl
      | true =>
        obtain ⟨j, x, h1, h3⟩ := (lany_iff k L).mp hb
        have hj : j < L.length := by
          rcases Nat.lt_or_ge j L.length with q | q
          · exact q
          · rw [List.getElem?_eq_none q] at h1; cases h1
        exact absurd h3 (q2 j x hj h1)
    rw [f_X2_wentOver_2, chk_t (by omega), chk_t (by omega), if_pos (by omega), this]; rfl
def ldP (s : Sg) (k v w : Nat) : Bool := !decide (v = w) && ((wk s w (-1) (sN s) v).2 && lany k (wk s w (-1) (sN s) v).1)
def lsP (s : Sg) (k v w : Nat) : Bool := !decide (v = w) && ((wk s w (-1) (sN s) v).2 && !(wk s w k (sN s) v).2)
theorem load_ok (hF : 100000 ≤ F) {s : Sg} (f : WF s) {k : Nat} (hk : k < sK s) (M0 : Mem) (hS : SC 1 M0 s) : ∃ M', f_X9_load_9 F F k 0 0 M0 = some (.inr (cnt2 (ldP s k) (sN s) : Int), M') ∧ fL M0 M' := by
  have w1 := f.1.1
  have w2 := f.1.2.1
  refine nest (n := sN s) (F := F) (by omega) (fun fu a v M => f_X9_load_9 F fu k a v M) (fun fu fu' a v w M => f_X9_load_23 F (f_X9_load_9 F fu) fu' k a v w M) (fL M0) (cac (ldP s k) (sN s)) (fun M => some (.inr (cnt2 (ldP s k) (sN s) : Int), M)) ?_ ?_ ?_ ?_ M0 (fun _ _ _ _ _ => rfl)
  · intro fu v M hv hf
    have e0 := (SC_fL hS hf).1
    rw [f_X9_load_9, chk_t (by omega), if_neg (by omega)]
  · intro fu fu' v w M hv hw hf
    have hS2 := SC_fL hS hf
    have e0 := hS2.1
    rw [f_X9_load_23, chk_t (by omega), if_neg (by omega)]
    by_cases c : v = w
    · rw [if_pos (by omega)]
      refine ⟨M, ?_, hf⟩
      rw [cac_f (by unfold ldP; rw [decide_eq_true c]; rfl)]
    · obtain ⟨M', a1, a2, a3, a4, a5⟩ := arr_ok hF f hv hw (br := -1) (by decide) M hS2
      have hlen := wk_len s w (-1) (sN s) v
      rw [if_neg (by omega), a1, ob_s]
      dsimp only
      rw [chk_t (bi_R _)]
      refine ⟨M', ?_, fL_t hf a5⟩
      cases hb : (wk s w (-1) (sN s) v).2 with
      | false => rw [if_pos (by decide), cac_f (by unfold ldP; rw [hb, Bool.false_and, Bool.and_false])]
      | true =>
        rw [if_neg (by decide), went_ok hF (by omega) a2 a4 (by omega), ob_s, chk_t (bi_R _)]
        cases hb2 : lany k (wk s w (-1) (sN s) v).1 with
        | false => rw [if_pos (by decide), cac_f (by unfold ldP; rw [hb2, Bool.and_false, Bool.and_false])]
        | true => rw [if_neg (by decide), cac_t (by unfold ldP; rw [hb, hb2, decide_eq_false c]; rfl)]
  · intro fu fu' v M hv hf
    have e0 := (SC_fL hS hf).1
    rw [f_X9_load_23, chk_t (by omega), if_pos (by omega), cac_n]
  · intro fu M hf
    have e0 := (SC_fL hS hf).1
    rw [f_X9_load_9, chk_t (by omega), if_pos (by omega), cac_e]
theorem mload_ok (hF : 100000 ≤ F) {s : Sg} (f : WF s) {k : Nat} (hk : k < sK s) (M0 : Mem) (hS : SM 65 0 M0 s) : ∃ M', f_X10_load_26 F F k 0 0 M0 = some ((cnt2 (ldP s k) (sN s) : Int), M') ∧ fM M0 M' := by
  have w1 := f.1.1
  have w2 := f.1.2.1
  refine nest (n := sN s) (F := F) (by omega) (fun fu a v M => f_X10_load_26 F fu k a v M) (fun fu fu' a v w M => f_X10_load_39 F (f_X10_load_26 F fu) fu' k a v w M) (fM M0) (cac (ldP s k) (sN s)) (fun M => some ((cnt2 (ldP s k) (sN s) : Int), M)) ?_ ?_ ?_ ?_ M0 (fun _ _ _ _ => rfl)
  · intro fu v M hv hf
    have e0 : M 65 0 = sN s := (SM_fM f.1 hS hf).1
    rw [f_X10_load_26, chk_t (by omega), if_neg (by omega)]
  · intro fu fu' v w M hv hw hf
    have hS2 := SM_fM f.1 hS hf
    have e0 : M 65 0 = sN s := hS2.1
    rw [f_X10_load_39, chk_t (by omega), if_neg (by omega)]
    by_cases c : v = w
    · rw [if_pos (by omega)]
      refine ⟨M, ?_, hf⟩
      rw [Int.add_zero, cac_f (by unfold ldP; rw [decide_eq_true c]; rfl)]
    · obtain ⟨M', a1, -, -, a4, -, -, a5⟩ := goes_ok hF f hv hw (br := -1) (by decide) M hS2
      rw [if_neg (by omega), a1, ob_s]
      dsimp only
      rw [chk_t (bi_R _)]
      refine ⟨M', ?_, fM_t hf a5⟩
      cases hb : (wk s w (-1) (sN s) v).2 with
      | false => rw [if_pos (by decide), Int.add_zero, cac_f (by unfold ldP; rw [hb, Bool.false_and, Bool.and_false])]
      | true =>
        rw [if_neg (by decide), mhas (by omega), ob_s, chk_t (bi_R _), a4 k (by omega)]
        cases hb2 : lany k (wk s w (-1) (sN s) v).1 with
        | false => rw [if_pos (by decide), Int.add_zero, cac_f (by unfold ldP; rw [hb2, Bool.and_false, Bool.and_false])]
        | true => rw [if_neg (by decide), cac_t (by unfold ldP; rw [hb, hb2, decide_eq_false c]; rfl)]
  · intro fu fu' v M hv hf
    have e0 : M 65 0 = sN s := (SM_fM f.1 hS hf).1
    rw [f_X10_load_39, chk_t (by omega), if_pos (by omega), cac_n]
  · intro fu M hf
    have e0 : M 65 0 = sN s := (SM_fM f.1 hS hf).1
    rw [f_X10_load_26, chk_t (by omega), if_pos (by omega), cac_e]
theorem lost_ok (hF : 100000 ≤ F) {s : Sg} (f : WF s) {k : Nat} (hk : k < sK s) (M0 : Mem) (hS : SC 1 M0 s) : ∃ M', f_X9_lostWithout_9 F F k 0 0 M0 = some (.inr (cnt2 (lsP s k) (sN s) : Int), M') ∧ fL M0 M' := by
  have w1 := f.1.1
  have w2 := f.1.2.1
  refine nest (n := sN s) (F := F) (by omega) (fun fu a v M => f_X9_lostWithout_9 F fu k a v M) (fun fu fu' a v w M => f_X9_lostWithout_23 F (f_X9_lostWithout_9 F fu) fu' k a v w M) (fL M0) (cac (lsP s k) (sN s)) (fun M => some (.inr (cnt2 (lsP s k) (sN s) : Int), M)) ?_ ?_ ?_ ?_ M0 (fun _ _ _ _ _ => rfl)
  · intro fu v M hv hf
    have e0 := (SC_fL hS hf).1
    rw [f_X9_lostWithout_9, chk_t (by omega), if_neg (by omega)]
  · intro fu fu' v w M hv hw hf
    have hS2 := SC_fL hS hf
    have e0 := hS2.1
    rw [f_X9_lostWithout_23, chk_t (by omega), if_neg (by omega)]
    by_cases c : v = w
    · rw [if_pos (by omega)]
      refine ⟨M, ?_, hf⟩
      rw [cac_f (by unfold lsP; rw [decide_eq_true c]; rfl)]
    · obtain ⟨M', a1, -, -, -, a5⟩ := arr_ok hF f hv hw (br := -1) (by decide) M hS2
      rw [if_neg (by omega), a1, ob_s]
      dsimp only
      rw [chk_t (bi_R _)]
      cases hb : (wk s w (-1) (sN s) v).2 with
      | false => exact ⟨M', by rw [if_pos (by decide), cac_f (by unfold lsP; rw [hb, Bool.false_and, Bool.and_false])], fL_t hf a5⟩
      | true =>
        obtain ⟨M'', b1, -, -, -, b5⟩ := arr_ok hF f hv hw (br := (k : Int)) (by omega) M' (SC_fL hS2 a5)
        rw [if_neg (by decide), b1, ob_s]
        dsimp only
        rw [chk_t (bi_R _)]
        refine ⟨M'', ?_, fL_t (fL_t hf a5) b5⟩
        cases hb2 : (wk s w k (sN s) v).2 with
        | false => rw [if_pos (by decide), cac_t (by unfold lsP; rw [hb, hb2, decide_eq_false c]; rfl)]
        | true => rw [if_neg (by decide), cac_f (by unfold lsP; rw [hb2, Bool.not_true, Bool.and_false, Bool.and_false])]
  · intro fu fu' v M hv hf
    have e0 := (SC_fL hS hf).1
    rw [f_X9_lostWithout_23, chk_t (by omega), if_pos (by omega), cac_n]
  · intro fu M hf
    have e0 := (SC_fL hS hf).1
    rw [f_X9_lostWithout_9, chk_t (by omega), if_pos (by omega), cac_e]
theorem mlost_ok (hF : 100000 ≤ F) {s : Sg} (f : WF s) {k : Nat} (hk : k < sK s) (M0 : Mem) (hS : SM 65 0 M0 s) : ∃ M', f_X10_lostWithout_26 F F k 0 0 M0 = some ((cnt2 (lsP s k) (sN s) : Int), M') ∧ fM M0 M' := by
  have w1 := f.1.1
  have w2 := f.1.2.1
  refine nest (n := sN s) (F := F) (by omega) (fun fu a v M => f_X10_lostWithout_26 F fu k a v M) (fun fu fu' a v w M => f_X10_lostWithout_39 F (f_X10_lostWithout_26 F fu) fu' k a v w M) (fM M0) (cac (lsP s k) (sN s)) (fun M => some ((cnt2 (lsP s k) (sN s) : Int), M)) ?_ ?_ ?_ ?_ M0 (fun _ _ _ _ => rfl)
  · intro fu v M hv hf
    have e0 : M 65 0 = sN s := (SM_fM f.1 hS hf).1
    rw [f_X10_lostWithout_26, chk_t (by omega), if_neg (by omega)]
  · intro fu fu' v w M hv hw hf
    have hS2 := SM_fM f.1 hS hf
    have e0 : M 65 0 = sN s := hS2.1
    rw [f_X10_lostWithout_39, chk_t (by omega), if_neg (by omega)]
    by_cases c : v = w
    · rw [if_pos (by omega)]
      refine ⟨M, ?_, hf⟩
      rw [Int.add_zero, cac_f (by unfold lsP; rw [decide_eq_true c]; rfl)]
    · obtain ⟨M', a1, -, -, -, -, -, a5⟩ := goes_ok hF f hv hw (br := -1) (by decide) M hS2
      rw [if_neg (by omega), a1, ob_s]
      dsimp only
      rw [chk_t (bi_R _)]
      cases hb : (wk s w (-1) (sN s) v).2 with
      | false => exact ⟨M', by rw [if_pos (by decide), Int.add_zero, cac_f (by unfold lsP; rw [hb, Bool.false_and, Bool.and_false])], fM_t hf a5⟩
      | true =>
        obtain ⟨M'', b1, -, -, -, -, -, b5⟩ := goes_ok hF f hv hw (br := (k : Int)) (by omega) M' (SM_fM f.1 hS2 a5)
        rw [if_neg (by decide), b1, ob_s]
        dsimp only
        rw [chk_t (bi_R _)]
        refine ⟨M'', ?_, fM_t (fM_t hf a5) b5⟩
        cases hb2 : (wk s w k (sN s) v).2 with
        | false => rw [if_pos (by decide), cac_t (by unfold lsP; rw [hb, hb2, decide_eq_false c]; rfl)]
        | true => rw [if_neg (by decide), Int.add_zero, cac_f (by unfold lsP; rw [hb2, Bool.not_true, Bool.and_false, Bool.and_false])]
  · intro fu fu' v M hv hf
    have e0 : M 65 0 = sN s := (SM_fM f.1 hS hf).1
    rw [f_X10_lostWithout_39, chk_t (by omega), if_pos (by omega), cac_n]
  · intro fu M hf
    have e0 : M 65 0 = sN s := (SM_fM f.1 hS hf).1
    rw [f_X10_lostWithout_26, chk_t (by omega), if_pos (by omega), cac_e]
theorem op_load (hF : 100000 ≤ F) (w : WA A) (hC : JC M A) (hM : JM M A) (hx : inR x) : OpK (f_L_load F x M) (f_X10_load F x) := by
  obtain ⟨s, cc, hs, tl, tx⟩ := A
  have hS : SC 1 M s := hC.1
  have wf : WF s := w.1
  have wn : WN s := w.1.1
  by_cases c : 0 ≤ x ∧ x < sK s
  · obtain ⟨k, rfl⟩ : ∃ v : Nat, x = v := ⟨x.toNat, by omega⟩
    have hk : k < sK s := by omega
    have hj : cnt2 (ldP s k) (sN s) ≤ 81 := cnt2_le wn.1 (sN s) (Nat.le_refl _)
    obtain ⟨M1, a1, a2⟩ := load_ok hF wf hk M hS
    refine OpK.rd (r := cnt2 (ldP s k) (sN s)) w (by omega) hC hM ⟨M1, ?_, fun a i q => a2 a i (by omega) (by omega) (by omega)⟩ (fun N h => ?_)
    · unfold f_L_load f_X9_load
      rw [nL_t hS wn c, ob_s, ox_inr, a1, ob_s]
      dsimp only
      rw [ox_inr, chk_t (by omega)]
    · obtain ⟨M2, b1, b2⟩ := mload_ok hF wf hk (mset N 64 3 0) (h.r3 w 0).1
      refine ⟨M2, ?_, by rw [b2 64 3 (by omega) (by decide), ms_eq], fun a i q => ?_⟩
      · unfold f_X10_load
        rw [mL_t h.1 wn c, rf_0]
        exact b1
      · rw [b2 a i (by omega) (by omega)]; unfold mset; rw [if_neg (by omega)]
  · refine OpK.no (k := 1) w hC hM (by decide) (by decide) ?_ (fun M1 h => ?_)
    · unfold f_L_load f_X9_load
      rw [nL_f hS hx c, ob_s, ox_inl, ob_s, ox_inl, if_pos rfl]
    · unfold f_X10_load
      rw [mL_f h.1 wn hx c, rf_p (by decide) (by decide) (fun q => f_X10_load_26 F F x 0 0 q.2)]
theorem op_lostWithout (hF : 100000 ≤ F) (w : WA A) (hC : JC M A) (hM : JM M A) (hx : inR x) : OpK (f_L_lostWithout F x M) (f_X10_lostWithout F x) := by
  obtain ⟨s, cc, hs, tl, tx⟩ := A
  have hS : SC 1 M s := hC.1
  have wf : WF s := w.1
  have wn : WN s := w.1.1
  by_cases c : 0 ≤ x ∧ x < sK s
  · obtain ⟨k, rfl⟩ : ∃ v : Nat, x = v := ⟨x.toNat, by omega⟩
    have hk : k < sK s := by omega
    have hj : cnt2 (lsP s k) (sN s) ≤ 81 := cnt2_le wn.1 (sN s) (Nat.le_refl _)
    obtain ⟨M1, a1, a2⟩ := lost_ok hF wf hk M hS
    refine OpK.rd (r := cnt2 (lsP s k) (sN s)) w (by omega) hC hM ⟨M1, ?_, fun a i q => a2 a i (by omega) (by omega) (by omega)⟩ (fun N h => ?_)
    · unfold f_L_lostWithout f_X9_lostWithout
      rw [nL_t hS wn c, ob_s, ox_inr, a1, ob_s]
      dsimp only
      rw [ox_inr, chk_t (by omega)]
    · obtain ⟨M2, b1, b2⟩ := mlost_ok hF wf hk (mset N 64 3 0) (h.r3 w 0).1
      refine ⟨M2, ?_, by rw [b2 64 3 (by omega) (by decide), ms_eq], fun a i q => ?_⟩
      · unfold f_X10_lostWithout
        rw [mL_t h.1 wn c, rf_0]
        exact b1
      · rw [b2 a i (by omega) (by omega)]; unfold mset; rw [if_neg (by omega)]
  · refine OpK.no (k := 1) w hC hM (by decide) (by decide) ?_ (fun M1 h => ?_)
    · unfold f_L_lostWithout f_X9_lostWithout
      rw [nL_f hS hx c, ob_s, ox_inl, ob_s, ox_inl, if_pos rfl]
    · unfold f_X10_lostWithout
      rw [mL_f h.1 wn hx c, rf_p (by decide) (by decide) (fun q => f_X10_lostWithout_26 F F x 0 0 q.2)]
/-- a quotient -/
def quo (s : Sg) (v w : Nat) : UInt64 := FP.ddiv (FP.i2d (iI (lsum s (wk s w (-1) (sN s) v).1 : Int))) (FP.i2d (iI (dis s v w : Int)))
def sst (s : Sg) (v w : Nat) (a : UInt64) : UInt64 := if arvP s v w = true then (if (Op.cmpValue (FP.dcmp (quo s v w) a) .l).toInt ≤ 0 then a else quo s v w) else a
def srow (s : Sg) (v : Nat) : Nat → UInt64 → UInt64
  | 0, a => a
  | w + 1, a => sst s v w (srow s v w a)
def stot (s : Sg) : Nat → UInt64
  | 0 => 0
  | v + 1 => srow s v (sN s) (stot s v)
/-- 0 is the distance of the same node alone -/
theorem dis_0 {s : Sg} (w : WN s) {v u : Nat} (hv : v < sN s) (hu : u < sN s) : dis s v u = 0 ↔ v = u := by
  constructor
  · intro q
    have := (dis_D w v u hv hu).2.2 (by omega)
    rw [q] at this
    exact way_0 w this
  · intro q
    subst q
    have := (dis_D w v v hv hv).2.1 0 (Way.nil v)
    omega
theorem str_ok (hF : 100000 ≤ F) {s : Sg} (f : WF s) (M0 : Mem) (hS : SC 1 M0 s) (hY : WY M0 s) : ∃ M', f_X9_stretch F M0 = some (stot s (sN s), M') ∧ fL M0 M' := by
  have w1 := f.1.1
  refine nest (n := sN s) (F := F) (by omega) (fun fu a v M => f_X9_stretch_4 F fu a v M) (fun fu fu' a v w M => f_X9_stretch_18 F (f_X9_stretch_4 F fu) fu' a v w M) (fL M0) (fun v w => srow s v w (stot s v)) (fun M => some (stot s (sN s), M)) ?_ ?_ ?_ ?_ M0 (fun _ _ _ _ _ => rfl)
  · intro fu v M hv hf
    have e0 := (SC_fL hS hf).1
    rw [f_X9_stretch_4, chk_t (by omega), if_neg (by omega)]
  · intro fu fu' v w M hv hw hf
    have hS2 := SC_fL hS hf
    have e0 := hS2.1
    have er : srow s v (w + 1) (stot s v) = sst s v w (srow s v w (stot s v)) := rfl
    have hYM : WY M s := hY.fr (fun a i q1 q2 => hf a i (by omega) (by omega) (by omega))
    have hd := dis_0 f.1 hv hw
    have hdl := dis_le f.1 hv hw
    rw [f_X9_stretch_18, chk_t (by omega), if_neg (by omega), bet_eq f.1 hYM hv hw, ob_s, chk_t (by omega), er]
    by_cases c : v = w
    · rw [if_pos (by omega)]
      refine ⟨M, ?_, hf⟩
      have : sst s v w (srow s v w (stot s v)) = srow s v w (stot s v) := by unfold sst arvP; rw [decide_eq_true c]; rfl
      rw [this]
    · obtain ⟨M', a1, -, a3, -, a5⟩ := arr_ok hF f hv hw (br := -1) (by decide) M hS2
      rw [if_neg (by omega), a1, ob_s]
      dsimp only
      rw [chk_t (bi_R _)]
      refine ⟨M', ?_, fL_t hf a5⟩
      cases hb : (wk s w (-1) (sN s) v).2 with
      | false =>
        have : sst s v w (srow s v w (stot s v)) = srow s v w (stot s v) := by unfold sst arvP; rw [hb, Bool.and_false]; rfl
        rw [if_pos (by decide), this]
      | true =>
        have har : arvP s v w = true := by unfold arvP; rw [hb, decide_eq_false c]; rfl
        obtain ⟨d1, d2, d3⟩ := arr_dis f hv hw c hb
        have eq : FP.ddiv (FP.i2d (iI (M' 57 1))) (FP.i2d (iI (dis s v w : Int))) = quo s v w := by unfold quo; rw [a3]
        rw [if_neg (by decide), chk_t (by rw [a3]; exact nan_ok _ d3 _ d2 d1)]
        unfold sst
        rw [if_pos har]
        by_cases q : (Op.cmpValue (FP.dcmp (quo s v w) (srow s v w (stot s v))) .l).toInt ≤ 0
        · rw [if_pos q, if_pos (by rw [eq]; exact q)]
        · rw [if_neg q, if_neg (by rw [eq]; exact q), eq]
  · intro fu fu' v M hv hf
    have e0 := (SC_fL hS hf).1
    rw [f_X9_stretch_18, chk_t (by omega), if_pos (by omega)]; rfl
  · intro fu M hf
    have e0 := (SC_fL hS hf).1
    rw [f_X9_stretch_4, chk_t (by omega), if_pos (by omega)]; rfl
theorem mstr_ok (hF : 100000 ≤ F) {s : Sg} (f : WF s) (M0 : Mem) (hS : SM 65 0 M0 s) (hD : FM M0 (sN s) (dis s)) : ∃ M', f_X10_stretch_13 F F 0 0 M0 = some (stot s (sN s), M') ∧ fM M0 M' := by
  have w1 := f.1.1
  refine nest (n := sN s) (F := F) (by omega) (fun fu a v M => f_X10_stretch_13 F fu a v M) (fun fu fu' a v w M => f_X10_stretch_26 F (f_X10_stretch_13 F fu) fu' a v w M) (fM M0) (fun v w => srow s v w (stot s v)) (fun M => some (stot s (sN s), M)) ?_ ?_ ?_ ?_ M0 (fun _ _ _ _ => rfl)
  · intro fu v M hv hf
    have e0 : M 65 0 = sN s := (SM_fM f.1 hS hf).1
    rw [f_X10_stretch_13, chk_t (by omega), if_neg (by omega)]
  · intro fu fu' v w M hv hw hf
    have hS2 := SM_fM f.1 hS hf
    have e0 : M 65 0 = sN s := hS2.1
    have er : srow s v (w + 1) (stot s v) = sst s v w (srow s v w (stot s v)) := rfl
    rw [f_X10_stretch_26, chk_t (by omega), if_neg (by omega), er]
    by_cases c : v = w
    · rw [if_pos (by omega)]
      refine ⟨M, ?_, hf⟩
      have : sst s v w (srow s v w (stot s v)) = srow s v w (stot s v) := by unfold sst arvP; rw [decide_eq_true c]; rfl
      rw [this]
    · obtain ⟨M', a1, -, a3, -, -, -, a5⟩ := goes_ok hF f hv hw (br := -1) (by decide) M hS2
      rw [if_neg (by omega), a1, ob_s]
      dsimp only
      rw [chk_t (bi_R _)]
      refine ⟨M', ?_, fM_t hf a5⟩
      cases hb : (wk s w (-1) (sN s) v).2 with
      | false =>
        have : sst s v w (srow s v w (stot s v)) = srow s v w (stot s v) := by unfold sst arvP; rw [hb, Bool.and_false]; rfl
        rw [if_pos (by decide), this]
      | true =>
        have har : arvP s v w = true := by unfold arvP; rw [hb, decide_eq_false c]; rfl
        obtain ⟨d1, d2, d3⟩ := arr_dis f hv hw c hb
        have hD2 : FM M' (sN s) (dis s) := fun a b ha hb => by rw [a5 68 _ (by omega) (by decide), hf 68 _ (by omega) (by decide)]; exact hD a b ha hb
        have eq : FP.ddiv (FP.i2d (iI (M' 64 16))) (FP.i2d (iI (dis s v w : Int))) = quo s v w := by unfold quo; rw [a3]
        rw [if_neg (by decide), mfar f.1 hD2 hv hw, ob_s, chk_t (by rw [a3]; exact nan_ok _ d3 _ d2 d1)]
        unfold sst
        rw [if_pos har]
        by_cases q : (Op.cmpValue (FP.dcmp (quo s v w) (srow s v w (stot s v))) .l).toInt ≤ 0
        · rw [if_pos q, if_pos (by rw [eq]; exact q)]
        · rw [if_neg q, if_neg (by rw [eq]; exact q), eq]
  · intro fu fu' v M hv hf
    have e0 : M 65 0 = sN s := (SM_fM f.1 hS hf).1
    rw [f_X10_stretch_26, chk_t (by omega), if_pos (by omega)]; rfl
  · intro fu M hf
    have e0 : M 65 0 = sN s := (SM_fM f.1 hS hf).1
    rw [f_X10_stretch_13, chk_t (by omega), if_pos (by omega)]; rfl
theorem op_stretch (hF : 100000 ≤ F) (w : WA A) (hC : JC M A) (hM : JM M A) : ∃ r M1 M2, f_X9_stretch F M = some (r, M1) ∧ f_X10_stretch F M1 = some (r, M2) ∧ St M2 := by
  have hS := hC.1
  have wf := w.1
  obtain ⟨M1, a1, a2⟩ := str_ok hF wf M hS hC.2.2.2.1
  have hM1 : JM M1 A := hM.fr w (fun a i q => a2 a i (by omega) (by omega) (by omega))
  obtain ⟨M2, b1, b2, b3, b4, b5⟩ := far_after hF w hM1
  obtain ⟨M3, c1, c2⟩ := mstr_ok hF wf M2 b2.1 b3
  refine ⟨_, M1, M3, a1, ?_, A, w, (hC.fr (fun a i q => a2 a i (by omega) (by omega) (by omega))).fr (fun a i q => ?_), b2.fr w (fun a i q => c2 a i (by omega) (by omega))⟩
  · unfold f_X10_stretch
    rw [b1, ob_s, c1]
  · rw [c2 a i (by omega) (by omega)]; exact b5 a i (by omega) (by omega)
end Loads
