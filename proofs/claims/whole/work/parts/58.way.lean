/-! letters -/
/-- another link of v than br, the lowest -/
def low (s : Sg) (br : Int) (v : Nat) : Int := if ffr (fun j => !decide ((j : Int) = br) && tch s j v) 0 (sK s) < sK s then (ffr (fun j => !decide ((j : Int) = br) && tch s j v) 0 (sK s) : Int) else -1
/-- the link over which a letter to w goes on from p -/
def nxl (s : Sg) (w : Nat) (br : Int) (p : Nat) : Int := if sE s p (sB s w) = -1 then -1 else if sE s p (sB s w) = br then low s br p else sE s p (sB s w)
/-- the links and nodes of the rest of the way, and whether it arrives -/
def wk (s : Sg) (w : Nat) (br : Int) : Nat → Nat → List (Nat × Nat) × Bool
  | 0, p => ([], decide (p = w))
  | f + 1, p => if p = w then ([], true) else if nxl s w br p = -1 then ([], false) else (((nxl s w br p).toNat, oth s (nxl s w br p).toNat p) :: (wk s w br f (oth s (nxl s w br p).toNat p)).1, (wk s w br f (oth s (nxl s w br p).toNat p)).2)
def lsum (s : Sg) : List (Nat × Nat) → Nat
  | [] => 0
  | x :: l => sL s x.1 + lsum s l
def lany (k : Nat) : List (Nat × Nat) → Bool
  | [] => false
  | x :: l => decide (x.1 = k) || lany k l
theorem low_ok (s : Sg) (br : Int) (v : Nat) : low s br v = -1 ∨ ∃ l : Nat, low s br v = l ∧ l < sK s ∧ tch s l v = true := by
  unfold low
  split
  · rename_i h
    right
    have := ffr_yes (fun j => !decide ((j : Int) = br) && tch s j v) 0 (sK s) (by omega)
    rw [Bool.and_eq_true] at this
    exact ⟨_, rfl, h, this.2⟩
  · left; rfl
theorem nxl_ok {s : Sg} (f : WF s) {w p : Nat} (hw : w < sN s) (hp : p < sN s) (br : Int) : nxl s w br p = -1 ∨ ∃ l : Nat, nxl s w br p = l ∧ l < sK s ∧ tch s l p = true := by
  have hb := f.2.1.1 w hw
  have he := (f.2.2 p _ hp hb).1
  unfold nxl
  by_cases c1 : sE s p (sB s w) = -1
  · left; rw [if_pos c1]
  · rw [if_neg c1]
    by_cases c2 : sE s p (sB s w) = br
    · rw [if_pos c2]; exact low_ok s br p
    · rw [if_neg c2]
      rcases he with h | ⟨i, h1, h2, h3⟩
      · exact absurd h c1
      · exact Or.inr ⟨i, h2, h1, tch_iff.mpr h3⟩
theorem trav_loop {F : Nat} (hF : 100000 ≤ F) {s : Sg} (f : WF s) {w : Nat} (hw : w < sN s) {br : Int} (hbr : inR br) : ∀ (d i fu p : Nat) (z : Nat) (M : Mem), i + d = sN s → d < fu → p < sN s → z ≤ 9 * i → SC 1 M s → M 57 2 = i + 1 → M 57 1 = z → ∃ M', f_X2_travel_23 F fu w br p i M = some M' ∧ M' 57 0 = bi (wk s w br d p).2 ∧ M' 57 2 = i + 1 + (wk s w br d p).1.length ∧ M' 57 1 = z + lsum s (wk s w br d p).1 ∧ (∀ (j : Nat) x, (wk s w br d p).1[j]? = some x → M' 58 ((i : Int) + 1 + j) = x.2 ∧ M' 59 ((i : Int) + j) = x.1) ∧ (∀ j : Int, j ≤ i → M' 58 j = M 58 j) ∧ (∀ j : Int, j < i → M' 59 j = M 59 j) ∧ ∀ a j, a ≠ 57 → a ≠ 58 → a ≠ 59 → M' a j = M a j := by
  have wn := f.1
  have w1 := f.1.1
  have w2 := f.1.2.1
  have hb := f.2.1.1 w hw
  intro d
  induction d with
  | zero =>
    intro i fu p z M h1 h2 hp hz hS e2 e1
    obtain ⟨fu, rfl⟩ := fuel_s h2
    have e0 := hS.1
    rw [f_X2_travel_23, chk_t (by omega), if_pos (by omega)]
    have nil : wk s w br 0 p = ([], decide (p = w)) := rfl
    rw [nil]
    by_cases c : p = w
    · rw [if_pos (by omega), decide_eq_true c]
      refine ⟨_, rfl, ms_eq _ _ _ _, ?_, ?_, fun j x h => by simp at h, fun j _ => ms_a (by decide), fun j _ => ms_a (by decide), fun a j h _ _ => ms_a h⟩
      · rw [ms_i (by decide)]; simpa using e2
      · rw [ms_i (by decide)]; simpa [lsum] using e1
    · rw [if_neg (by omega), decide_eq_false c]
      refine ⟨_, rfl, ms_eq _ _ _ _, ?_, ?_, fun j x h => by simp at h, fun j _ => ms_a (by decide), fun j _ => ms_a (by decide), fun a j h _ _ => ms_a h⟩
      · rw [ms_i (by decide)]; simpa using e2
      · rw [ms_i (by decide)]; simpa [lsum] using e1
  | succ d ih =>
    intro i fu p z M h1 h2 hp hz hS e2 e1
    obtain ⟨fu, rfl⟩ := fuel_s h2
    have e0 := hS.1
    rw [f_X2_travel_23, chk_t (by omega), if_neg (by omega)]
    by_cases c : p = w
    · have nil : wk s w br (d + 1) p = ([], true) := by rw [wk, if_pos c]
      rw [if_pos (by omega), if_pos (by omega), nil]
      refine ⟨_, rfl, ms_eq _ _ _ _, ?_, ?_, fun j x h => by simp at h, fun j _ => ms_a (by decide), fun j _ => ms_a (by decide), fun a j h _ _ => ms_a h⟩
      · rw [ms_i (by decide)]; simpa using e2
      · rw [ms_i (by decide)]; simpa [lsum] using e1
    · have e5 : M 5 w = sB s w := hS.2.2.2.1 w hw
      have e6 : f_X6_entryAt 1 p (sB s w : Int) M = some (sE s p (sB s w)) := by
        unfold f_X6_entryAt; rw [chk_t (by omega)]; exact congrArg some (hS.2.2.2.2 p _ hp hb)
      have hr : inR (sE s p (sB s w)) := by
        rcases (f.2.2 p _ hp hb).1 with h | ⟨l, q1, q2, q3⟩
        · omega
        · omega
      have hlow : f_X6_lowestLinkBut F 1 br p M = some (low s br p) := lowest_eq hF hS wn hbr (by omega)
      -- all three roads go over the next link
      have key : f_X2_travel_75 F (f_X2_travel_23 F fu) w br p i (nxl s w br p) M = (if p = w then some M else f_X2_travel_75 F (f_X2_travel_23 F fu) w br p i (nxl s w br p) M) := by rw [if_neg c]
      have road : (if sE s p (sB s w) = -1 then f_X2_travel_75 F (f_X2_travel_23 F fu) w br p i (sE s p (sB s w)) M else if sE s p (sB s w) = br then ob (f_X6_lowestLinkBut F 1 br p M) fun q32 => f_X2_travel_75 F (f_X2_travel_23 F fu) w br p i q32 M else f_X2_travel_75 F (f_X2_travel_23 F fu) w br p i (sE s p (sB s w)) M) = f_X2_travel_75 F (f_X2_travel_23 F fu) w br p i (nxl s w br p) M := by
        unfold nxl
        by_cases k1 : sE s p (sB s w) = -1
        · rw [if_pos k1, if_pos k1, k1]
        · rw [if_neg k1, if_neg k1]
          by_cases k2 : sE s p (sB s w) = br
          · rw [if_pos k2, if_pos k2, hlow, ob_s]
          · rw [if_neg k2, if_neg k2]
      rw [if_neg (by omega), chk_t (by omega), e5, e6, ob_s, chk_t hr, road]
      unfold f_X2_travel_75
      rcases nxl_ok f hw hp br with hn | ⟨l, hn, hl, ht⟩
      · have nil : wk s w br (d + 1) p = ([], false) := by rw [wk, if_neg c, if_pos hn]
        rw [chk_t (by omega), if_pos hn, if_neg (by omega), nil]
        refine ⟨_, rfl, ms_eq _ _ _ _, ?_, ?_, fun j x h => by simp at h, fun j _ => ms_a (by decide), fun j _ => ms_a (by decide), fun a j h _ _ => ms_a h⟩
        · rw [ms_i (by decide)]; simpa using e2
        · rw [ms_i (by decide)]; simpa [lsum] using e1
      · have ho := oth_lt wn hl p
        have hlen := wn.2.2.1 l hl
        have con : wk s w br (d + 1) p = ((l, oth s l p) :: (wk s w br d (oth s l p)).1, (wk s w br d (oth s l p)).2) := by
          rw [wk, if_neg c, if_neg (by omega), hn]; rfl
        have a2 : mset (mset M 59 i l) 58 ((i : Int) + 1) (oth s l p) 57 2 = (i : Int) + 1 := by rw [ms_a (by decide), ms_a (by decide)]; exact e2
        have a1 : mset (mset (mset M 59 i l) 58 ((i : Int) + 1) (oth s l p)) 57 2 ((i : Int) + 1 + 1) 57 1 = z := by rw [ms_i (by decide), ms_a (by decide), ms_a (by decide)]; exact e1
        have a4 : mset (mset (mset M 59 i l) 58 ((i : Int) + 1) (oth s l p)) 57 2 ((i : Int) + 1 + 1) 4 l = sL s l := by rw [ms_a (by decide), ms_a (by decide), ms_a (by decide)]; exact (hS.2.2.1 l hl).2.2
        rw [chk_t (by omega), if_neg (by omega), hn, oth_eq hS wn hl (by omega), ob_s, chk_t (by omega), chk_t (by omega), chk_t (by omega), a2, chk_t (by omega), chk_t (by omega), a1, a4, chk_t (by omega), con]
        obtain ⟨M', b0, b1, b2, b3, b4, b5, b6, b7⟩ := ih (i + 1) fu (oth s l p) (z + sL s l) (mset (mset (mset (mset M 59 i l) 58 ((i : Int) + 1) (oth s l p)) 57 2 ((i : Int) + 1 + 1)) 57 1 ((z : Int) + (sL s l : Int))) (by omega) (by omega) ho (by omega) (hS.fr (fun a j q1 q2 => by rw [ms_a (by omega), ms_a (by omega), ms_a (by omega), ms_a (by omega)])) (by rw [ms_i (by decide), ms_eq]; omega) (by rw [ms_eq]; omega)
        refine ⟨M', b0, b1, ?_, ?_, fun j x hx => ?_, fun j hj => ?_, fun j hj => ?_, fun a j k1 k2 k3 => ?_⟩
        · rw [b2, List.length_cons]; omega
        · rw [b3]; show _ = (z : Int) + ((sL s l + lsum s _ : Nat) : Int); omega
        · cases j with
          | zero =>
            have hx : some (l, oth s l p) = some x := hx
            cases hx
            constructor
            · rw [b5 _ (by omega), ms_a (by decide), ms_a (by decide)]
              rw [show (i : Int) + 1 + ((0 : Nat) : Int) = (i : Int) + 1 by omega, ms_eq]
            · rw [b6 _ (by omega), ms_a (by decide), ms_a (by decide), ms_a (by decide)]
              rw [show (i : Int) + ((0 : Nat) : Int) = (i : Int) by omega, ms_eq]
          | succ j =>
            have hx : (wk s w br d (oth s l p)).1[j]? = some x := hx
            obtain ⟨r1, r2⟩ := b4 j x hx
            constructor
            · rw [← r1]; congr 1; omega
            · rw [← r2]; congr 1; omega
        · rw [b5 j (by omega), ms_a (by decide), ms_a (by decide), ms_i (by omega), ms_a (by decide)]
        · rw [b6 j (by omega), ms_a (by decide), ms_a (by decide), ms_a (by decide), ms_i (by omega)]
        · rw [b7 a j k1 k2 k3, ms_a k1, ms_a k1, ms_a k2, ms_a k3]
theorem trav_ok {F : Nat} (hF : 100000 ≤ F) {s : Sg} (f : WF s) {v w : Nat} (hv : v < sN s) (hw : w < sN s) {br : Int} (hbr : inR br) (M : Mem) (hS : SC 1 M s) : ∃ M', f_X2_travel F v w br M = some M' ∧ M' 57 0 = bi (wk s w br (sN s) v).2 ∧ M' 57 2 = 1 + (wk s w br (sN s) v).1.length ∧ M' 57 1 = lsum s (wk s w br (sN s) v).1 ∧ M' 58 0 = v ∧ (∀ (j : Nat) x, (wk s w br (sN s) v).1[j]? = some x → M' 58 (1 + (j : Int)) = x.2 ∧ M' 59 j = x.1) ∧ ∀ a j, a ≠ 57 → a ≠ 58 → a ≠ 59 → M' a j = M a j := by
  have w1 := f.1.1
  unfold f_X2_travel
  rw [chk_t (by omega)]
  obtain ⟨M', b0, b1, b2, b3, b4, b5, b6, b7⟩ := trav_loop hF f hw hbr (sN s) 0 F v 0 (mset (mset (mset M 58 0 v) 57 2 1) 57 1 0) (by omega) (by omega) hv (by omega) (hS.fr (fun a j q1 q2 => by rw [ms_a (by omega), ms_a (by omega), ms_a (by omega)])) (by rw [ms_i (by decide), ms_eq]; rfl) (by rw [ms_eq]; rfl)
  refine ⟨M', b0, b1, by rw [b2]; omega, by rw [b3]; omega, ?_, fun j x hx => ?_, fun a j k1 k2 k3 => ?_⟩
  · rw [b5 0 (by omega), ms_a (by decide), ms_a (by decide), ms_eq]
  · obtain ⟨r1, r2⟩ := b4 j x hx
    constructor
    · rw [← r1]; congr 1
    · rw [← r2]; congr 1; omega
  · rw [b7 a j k1 k2 k3, ms_a k1, ms_a k1, ms_a k2]
theorem mlow {F : Nat} (hF : 100000 ≤ F) {s : Sg} (w : WN s) {M : Mem} (hS : SM 65 0 M s) {br : Int} (hbr : inR br) {v : Nat} (hv : v < 100) : f_X10_lowestOther F v br M = some (low s br v) := by
  have w2 := w.2.1
  have e1 : M 65 1 = sK s := hS.2.1
  refine lpe (f := fun fu (y : Int) => f_X10_lowestOther_2 F fu v br y M) (I := fun i y => y = i ∧ ∀ j, j < i → (!decide ((j : Int) = br) && tch s j v) = false) (Q := fun r => r = some (low s br v)) (sK s) ?_ ?_ (sK s) 0 F 0 (by omega) (by omega) ⟨rfl, fun j hj => absurd hj (Nat.not_lt_zero j)⟩
  · rintro i fu y hi ⟨q1, q2⟩
    subst q1
    have no : (!decide ((i : Int) = br) && tch s i v) = false → ∀ j, j < i + 1 → (!decide ((j : Int) = br) && tch s j v) = false := by
      intro hh j hj
      by_cases e : j = i
      · rw [e]; exact hh
      · exact q2 j (by omega)
    rw [f_X10_lowestOther_2, chk_t (by omega), if_neg (by omega)]
    by_cases c : (i : Int) = br
    · right
      rw [if_pos c]
      exact ⟨(i : Int) + 1, rfl, rfl, no (by rw [decide_eq_true c]; rfl)⟩
    · rw [if_neg c, misOf hS w hi hv, ob_s, chk_t (bi_R _)]
      cases ht : tch s i v with
      | false =>
        right
        rw [if_pos (by decide)]
        exact ⟨(i : Int) + 1, rfl, rfl, no (by rw [ht, Bool.and_false])⟩
      | true =>
        left
        rw [if_neg (by decide)]
        have : ffr (fun j => !decide ((j : Int) = br) && tch s j v) 0 (sK s) = i := ffr_at hi (by rw [ht, decide_eq_false c]; rfl) q2
        unfold low
        rw [this, if_pos hi]
  · rintro fu y ⟨q1, q2⟩
    subst q1
    rw [f_X10_lowestOther_2, chk_t (by omega), if_pos (by omega)]
    unfold low
    rw [if_neg]
    intro hh
    have := ffr_yes (fun j => !decide ((j : Int) = br) && tch s j v) 0 (sK s) (by omega)
    rw [q2 _ hh] at this
    cases this
theorem goes_loop {F : Nat} (hF : 100000 ≤ F) {s : Sg} (f : WF s) {w : Nat} (hw : w < sN s) {br : Int} (hbr : inR br) : ∀ (d i fu p : Nat) (z : Nat) (M : Mem), i + d = sN s → d + 1 < fu → p < sN s → z ≤ 9 * i → SM 65 0 M s → M 64 14 = i + 1 → M 64 16 = z → ∃ M', f_X10_goes_25 F fu w br p M = some (bi (wk s w br d p).2, M') ∧ M' 64 14 = i + 1 + (wk s w br d p).1.length ∧ M' 64 16 = z + lsum s (wk s w br d p).1 ∧ (∀ k, k < 32 → btI (M' 64 15) k = (btI (M 64 15) k || lany k (wk s w br d p).1)) ∧ (∀ (j : Nat) x, (wk s w br d p).1[j]? = some x → M' 74 ((i : Int) + 1 + j) = x.2) ∧ (∀ j : Int, j ≤ i → M' 74 j = M 74 j) ∧ ∀ a j, (a ≠ 64 ∨ j ≠ 14 ∧ j ≠ 15 ∧ j ≠ 16) → a ≠ 74 → M' a j = M a j := by
  have wn := f.1
  have w1 := f.1.1
  have w2 := f.1.2.1
  have hb := f.2.1.1 w hw
  intro d
  induction d with
  | zero =>
    intro i fu p z M h1 h2 hp hz hS e2 e1
    obtain ⟨fu, rfl⟩ : ∃ g, fu = g + 1 := ⟨fu - 1, by omega⟩
    have e0 : M 65 0 = sN s := hS.1
    have nil : wk s w br 0 p = ([], decide (p = w)) := rfl
    rw [f_X10_goes_25, chk_t (by omega), nil]
    by_cases c : p = w
    · rw [if_pos (by omega), if_pos (by omega), decide_eq_true c]
      exact ⟨M, rfl, by simpa using e2, by simpa [lsum] using e1, fun k _ => by simp [lany], fun j x h => by simp at h, fun _ _ => rfl, fun _ _ _ _ => rfl⟩
    · rw [if_neg (by omega), if_pos (by omega), if_neg (by omega), decide_eq_false c]
      exact ⟨M, rfl, by simpa using e2, by simpa [lsum] using e1, fun k _ => by simp [lany], fun j x h => by simp at h, fun _ _ => rfl, fun _ _ _ _ => rfl⟩
  | succ d ih =>
    intro i fu p z M h1 h2 hp hz hS e2 e1
    obtain ⟨fu, rfl⟩ : ∃ g, fu = g + 1 := ⟨fu - 1, by omega⟩
    have e0 : M 65 0 = sN s := hS.1
    rw [f_X10_goes_25, chk_t (by omega)]
    by_cases c : p = w
    · have nil : wk s w br (d + 1) p = ([], true) := by rw [wk, if_pos c]
      rw [if_pos (by omega), if_pos (by omega), nil]
      exact ⟨M, rfl, by simpa using e2, by simpa [lsum] using e1, fun k _ => by simp [lany], fun j x h => by simp at h, fun _ _ => rfl, fun _ _ _ _ => rfl⟩
    · have e5 := mlabel hS hw
      have hr : inR (sE s p (sB s w)) := by
        rcases (f.2.2 p _ hp hb).1 with h | ⟨l, q1, q2, q3⟩
        · omega
        · omega
      have road : (if sE s p (sB s w) = -1 then f_X10_goes_85 F (f_X10_goes_25 F fu) w br p (sE s p (sB s w)) M else if sE s p (sB s w) = br then ob (f_X10_lowestOther F p br M) fun q25 => f_X10_goes_85 F (f_X10_goes_25 F fu) w br p q25 M else f_X10_goes_85 F (f_X10_goes_25 F fu) w br p (sE s p (sB s w)) M) = f_X10_goes_85 F (f_X10_goes_25 F fu) w br p (nxl s w br p) M := by
        unfold nxl
        by_cases k1 : sE s p (sB s w) = -1
        · rw [if_pos k1, if_pos k1, k1]
        · rw [if_neg k1, if_neg k1]
          by_cases k2 : sE s p (sB s w) = br
          · rw [if_pos k2, if_pos k2, mlow hF wn hS hbr (by omega), ob_s]
          · rw [if_neg k2, if_neg k2]
      rw [if_neg (by omega), if_neg (by omega), chk_t (by omega), e5, mentry hS wn hp hb, ob_s, chk_t hr, road]
      unfold f_X10_goes_85
      rcases nxl_ok f hw hp br with hn | ⟨l, hn, hl, ht⟩
      · have nil : wk s w br (d + 1) p = ([], false) := by rw [wk, if_neg c, if_pos hn]
        rw [chk_t (by omega), if_pos hn, nil]
        exact ⟨M, rfl, by simpa using e2, by simpa [lsum] using e1, fun k _ => by simp [lany], fun j x h => by simp at h, fun _ _ => rfl, fun _ _ _ _ => rfl⟩
      · have ho := oth_lt wn hl p
        have hlen := wn.2.2.1 l hl
        have con : wk s w br (d + 1) p = ((l, oth s l p) :: (wk s w br d (oth s l p)).1, (wk s w br d (oth s l p)).2) := by
          rw [wk, if_neg c, if_neg (by omega), hn]; rfl
        have hS1 : SM 65 0 (mset M 64 15 (bor (M 64 15) (bshl 1 l))) s := hS.fr (fun j _ _ => ms_a (by decide)) wn
        have a1 : mset M 64 15 (bor (M 64 15) (bshl 1 l)) 64 16 = z := by rw [ms_i (by decide)]; exact e1
        have a2 : mset (mset M 64 15 (bor (M 64 15) (bshl 1 l))) 64 16 ((z : Int) + (sL s l : Int)) 64 14 = (i : Int) + 1 := by rw [ms_i (by decide), ms_i (by decide)]; exact e2
        have a3 : mset (mset (mset M 64 15 (bor (M 64 15) (bshl 1 l))) 64 16 ((z : Int) + (sL s l : Int))) 74 ((i : Int) + 1) (oth s l p) 64 14 = (i : Int) + 1 := by rw [ms_a (by decide)]; exact a2
        rw [chk_t (by omega), if_neg (by omega), hn, moth hS wn hl (by omega), ob_s, mpart2 hS1 wn hl, ob_s, a1, chk_t (by omega), a2, chk_t (by omega), chk_t (by omega), a3, chk_t (by omega), con]
        obtain ⟨M', b0, b2, b3, bb, b4, b5, b7⟩ := ih (i + 1) fu (oth s l p) (z + sL s l) (mset (mset (mset (mset M 64 15 (bor (M 64 15) (bshl 1 l))) 64 16 ((z : Int) + (sL s l : Int))) 74 ((i : Int) + 1) (oth s l p)) 64 14 ((i : Int) + 1 + 1)) (by omega) (by omega) ho (by omega) (hS.fr (fun j _ _ => by rw [ms_a (by decide), ms_a (by decide), ms_a (by decide), ms_a (by decide)]) wn) (by rw [ms_eq]; omega) (by rw [ms_i (by decide), ms_a (by decide), ms_eq]; omega)
        refine ⟨M', b0, ?_, ?_, fun k hk => ?_, fun j x hx => ?_, fun j hj => ?_, fun a j k1 k2 => ?_⟩
        · rw [b2, List.length_cons]; omega
        · rw [b3]; show _ = (z : Int) + ((sL s l + lsum s _ : Nat) : Int); omega
        · rw [bb k hk, ms_i (by decide), ms_a (by decide), ms_i (by decide), ms_eq, btI_or, btI_shl l (by omega) k hk]
          show _ = (btI (M 64 15) k || (decide (l = k) || lany k _))
          rw [Bool.or_assoc]
          congr 2
          exact decide_eq_decide.mpr ⟨fun q => q.symm, fun q => q.symm⟩
        · cases j with
          | zero =>
            have hx : some (l, oth s l p) = some x := hx
            cases hx
            rw [b5 _ (by omega), ms_a (by decide)]
            rw [show (i : Int) + 1 + ((0 : Nat) : Int) = (i : Int) + 1 by omega, ms_eq]
          | succ j =>
            have hx : (wk s w br d (oth s l p)).1[j]? = some x := hx
            rw [← b4 j x hx]; congr 1; omega
        · rw [b5 j (by omega), ms_a (by decide), ms_i (by omega), ms_a (by decide), ms_a (by decide)]
        · rw [b7 a j k1 k2]
          unfold mset
          rw [if_neg (by omega), if_neg (by omega), if_neg (by omega), if_neg (by omega)]
theorem goes_ok {F : Nat} (hF : 100000 ≤ F) {s : Sg} (f : WF s) {v w : Nat} (hv : v < sN s) (hw : w < sN s) {br : Int} (hbr : inR br) (M : Mem) (hS : SM 65 0 M s) : ∃ M', f_X10_goes F v w br M = some (bi (wk s w br (sN s) v).2, M') ∧ M' 64 14 = 1 + (wk s w br (sN s) v).1.length ∧ M' 64 16 = lsum s (wk s w br (sN s) v).1 ∧ (∀ k, k < 32 → btI (M' 64 15) k = lany k (wk s w br (sN s) v).1) ∧ M' 74 0 = v ∧ (∀ (j : Nat) x, (wk s w br (sN s) v).1[j]? = some x → M' 74 (1 + (j : Int)) = x.2) ∧ ∀ a j, (a ≠ 64 ∨ j ≠ 14 ∧ j ≠ 15 ∧ j ≠ 16) → a ≠ 74 → M' a j = M a j := by
  have w1 := f.1.1
  unfold f_X10_goes
  rw [chk_t (by omega)]
  obtain ⟨M', b0, b2, b3, bb, b4, b5, b7⟩ := goes_loop hF f hw hbr (sN s) 0 F v 0 (mset (mset (mset (mset M 74 0 v) 64 14 1) 64 15 0) 64 16 0) (by omega) (by omega) hv (by omega) (hS.fr (fun j _ _ => by rw [ms_a (by decide), ms_a (by decide), ms_a (by decide), ms_a (by decide)]) f.1) (by rw [ms_i (by decide), ms_i (by decide), ms_eq]; rfl) (by rw [ms_eq]; rfl)
  refine ⟨M', b0, by rw [b2]; omega, by rw [b3]; omega, fun k hk => ?_, ?_, fun j x hx => ?_, fun a j k1 k2 => ?_⟩
  · rw [bb k hk, ms_i (by decide), ms_eq, btI_0, Bool.false_or]
  · rw [b5 0 (by omega), ms_a (by decide), ms_a (by decide), ms_a (by decide), ms_eq]
  · rw [← b4 j x hx]; congr 1
  · rw [b7 a j k1 k2]
    unfold mset
    rw [if_neg (by omega), if_neg (by omega), if_neg (by omega), if_neg (by omega)]
