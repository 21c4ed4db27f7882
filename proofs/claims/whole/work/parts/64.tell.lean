/-! calls that only tell: links, distances, kinds, checks -/
section Tell2
variable {F : Nat} {M : Mem} {A : Ab} {x y z : Int}
theorem op_link (w : WA A) (hC : JC M A) (hM : JM M A) (hx : inR x) (hy : inR y) : OpK (f_L_link x y M) (f_X10_link x y) := by
  obtain ⟨s, c, hs, tl, tx⟩ := A
  have hS : SC 1 M s := hC.1
  have wn : WN s := w.1.1
  have w1 := wn.1
  have w2 := wn.2.1
  by_cases c : 0 ≤ x ∧ x < sK s
  · by_cases d : 0 ≤ y ∧ y ≤ 2
    · obtain ⟨i, rfl⟩ : ∃ v : Nat, x = v := ⟨x.toNat, by omega⟩
      have hi : i < sK s := by omega
      have hl := wn.2.2.1 i hi
      obtain ⟨a1, a2, a3⟩ := hS.2.2.1 i hi
      have a1 : M 2 i = sF s i := a1
      have a2 : M 3 i = sS s i := a2
      have a3 : M 4 i = sL s i := a3
      have key : ∀ r : Int, inR r → f_X6_linkValue 1 i y M = some r → (∀ M1, SM 65 0 M1 s → f_X10_part i y M1 = some r) → OpK (f_L_link i y M) (f_X10_link i y) := by
        intro r hr h1 h2
        refine OpK.rd (r := r) w hr hC hM ⟨M, ?_, fun _ _ _ => rfl⟩ (fun M1 h => ⟨mset M1 64 3 0, ?_, ms_eq _ _ _ _, fun a i q => ?_⟩)
        · unfold f_L_link f_X9_link
          rw [nL_t hS wn c, ob_s, ox_inr, nR_t hy (by decide) (by decide) d, ob_s, ox_inr, h1, ob_s, ob_s, ox_inr, chk_t hr]
        · unfold f_X10_link
          rw [mL_t h.1 wn c, mW_t hy (by decide) (by decide) d, rf_0]
          dsimp only
          rw [h2 _ (h.r3 w 0).1, ob_s]
        · unfold mset; rw [if_neg (by omega)]
      rcases (show y = 0 ∨ y = 1 ∨ y = 2 by omega) with rfl | rfl | rfl
      · refine key (sF s i) (by omega) ?_ (fun M1 h => mpart0 h wn hi)
        unfold f_X6_linkValue
        rw [chk_t (by decide), if_neg (by decide), if_pos rfl, chk_t (by omega)]; exact congrArg some a1
      · refine key (sS s i) (by omega) ?_ (fun M1 h => mpart1 h wn hi)
        unfold f_X6_linkValue
        rw [chk_t (by decide), if_neg (by decide), if_neg (by decide), chk_t (by omega)]; exact congrArg some a2
      · refine key (sL s i) (by omega) ?_ (fun M1 h => mpart2 h wn hi)
        unfold f_X6_linkValue
        rw [chk_t (by decide), if_pos rfl, chk_t (by omega)]; exact congrArg some a3
    · refine OpK.no (k := 2) w hC hM (by decide) (by decide) ?_ (fun M1 h => ?_)
      · unfold f_L_link f_X9_link
        rw [nL_t hS wn c, ob_s, ox_inr, nR_f hy (by decide) (by decide) d, ob_s, ox_inl, ob_s, ox_inl, if_neg (by decide), if_pos rfl]
      · unfold f_X10_link
        rw [mL_t h.1 wn c, mW_f hy (by decide) (by decide) d, rf_p (by decide) (by decide) (fun q => ob (f_X10_part x y q.2) fun q7 => some (q7, q.2))]
  · refine OpK.no (k := 1) w hC hM (by decide) (by decide) ?_ (fun M1 h => ?_)
    · unfold f_L_link f_X9_link
      rw [nL_f hS hx c, ob_s, ox_inl, ob_s, ox_inl, if_pos rfl]
    · unfold f_X10_link
      rw [mL_f h.1 wn hx c, rf_p (by decide) (by decide) (fun q => ob (f_X10_part x y q.2) fun q7 => some (q7, q.2))]
theorem bet_eq {s : Sg} (w : WN s) (hY : WY M s) {u v : Nat} (hu : u < sN s) (hv : v < sN s) : f_X8_between u v M = some (dis s u v : Int) := by
  have := w.1
  unfold f_X8_between
  rw [chk_t (by omega), hY.1 u v hu hv]
/-- behind laysFar: what stays -/
theorem far_after (hF : 100000 ≤ F) (w : WA A) {M1 : Mem} (h : JM M1 A) : ∃ M2, f_X10_laysFar F (mset M1 64 3 0) = some M2 ∧ JM M2 A ∧ FM M2 (sN A.1) (dis A.1) ∧ M2 64 3 = 0 ∧ ∀ a i, (a ≠ 64 ∨ i ≠ 3) → a ≠ 68 → M2 a i = M1 a i := by
  obtain ⟨M2, a1, a2, a3⟩ := far_ok hF w.1.1 (mset M1 64 3 0) (h.r3 w 0).1
  refine ⟨M2, a1, (h.r3 w 0).fr w (fun a i q => a3 a i (by omega)), a2, by rw [a3 64 3 (by decide), ms_eq], fun a i h1 h2 => ?_⟩
  rw [a3 a i h2]; unfold mset; rw [if_neg (by omega)]
theorem op_distance (hF : 100000 ≤ F) (w : WA A) (hC : JC M A) (hM : JM M A) (hx : inR x) (hy : inR y) : OpK (f_L_distance x y M) (f_X10_distance F x y) := by
  obtain ⟨s, c, hs, tl, tx⟩ := A
  have hS : SC 1 M s := hC.1
  have wn : WN s := w.1.1
  have w1 := wn.1
  by_cases c : 0 ≤ x ∧ x < sN s
  · by_cases d : 0 ≤ y ∧ y < sN s
    · obtain ⟨u, rfl⟩ : ∃ v : Nat, x = v := ⟨x.toNat, by omega⟩
      obtain ⟨v, rfl⟩ : ∃ v : Nat, y = v := ⟨y.toNat, by omega⟩
      have hu : u < sN s := by omega
      have hv : v < sN s := by omega
      have hd := dis_le wn hu hv
      refine OpK.rd (r := if dis s u v = 1000 then -1 else (dis s u v : Int)) w (by split <;> omega) hC hM ⟨M, ?_, fun _ _ _ => rfl⟩ (fun M1 h => ?_)
      · unfold f_L_distance f_X9_distance
        rw [nN_t hS wn c, ob_s, ox_inr, nN_t hS wn d, ob_s, ox_inr, bet_eq wn hC.2.2.2.1 hu hv, ob_s, chk_t (by omega)]
        by_cases e : dis s u v = 1000
        · rw [if_pos (by omega), ob_s, ox_inr, if_pos e, chk_t (by decide)]
        · rw [if_neg (by omega), ob_s, ox_inr, if_neg e, chk_t (by omega)]
      · obtain ⟨M2, a1, a2, a3, a4, a5⟩ := far_after hF w h
        refine ⟨M2, ?_, a4, fun a i q => a5 a i (by omega) (by omega)⟩
        unfold f_X10_distance
        rw [mN_t h.1 wn c, mN_t h.1 wn d, rf_0]
        dsimp only
        rw [a1, ob_s, mfar wn a3 hu hv, ob_s, chk_t (by omega)]
        by_cases e : dis s u v = 1000
        · rw [if_pos (by omega), if_pos e]
        · rw [if_neg (by omega), if_neg e, ob_s]
    · refine OpK.no (k := 1) w hC hM (by decide) (by decide) ?_ (fun M1 h => ?_)
      · unfold f_L_distance f_X9_distance
        rw [nN_t hS wn c, ob_s, ox_inr, nN_f hS hy d, ob_s, ox_inl, ob_s, ox_inl, if_pos rfl]
      · unfold f_X10_distance
        rw [mN_t h.1 wn c, mN_f h.1 wn hy d, rf_p (by decide) (by decide) (fun q => ob (f_X10_laysFar F q.2) fun q18 => ob (f_X10_farFrom x y q18) fun q19 => chk (inR q19) (if q19 = 1000 then some ((-1), q18) else ob (f_X10_farFrom x y q18) fun q22 => some (q22, q18)))]
  · refine OpK.no (k := 1) w hC hM (by decide) (by decide) ?_ (fun M1 h => ?_)
    · unfold f_L_distance f_X9_distance
      rw [nN_f hS hx c, ob_s, ox_inl, ob_s, ox_inl, if_pos rfl]
    · unfold f_X10_distance
      rw [mN_f h.1 wn hx c, rf_p (by decide) (by decide) (fun q => ob (f_X10_laysFar F q.2) fun q18 => ob (f_X10_farFrom x y q18) fun q19 => chk (inR q19) (if q19 = 1000 then some ((-1), q18) else ob (f_X10_farFrom x y q18) fun q22 => some (q22, q18)))]
theorem op_goodLinks (hF : 100000 ≤ F) (w : WA A) (hC : JC M A) (hM : JM M A) (hx : inR x) (hy : inR y) : OpK (f_L_goodLinks x y M) (f_X10_goodLinks F x y) := by
  obtain ⟨s, c, hs, tl, tx⟩ := A
  have hS : SC 1 M s := hC.1
  have wn : WN s := w.1.1
  have w1 := wn.1
  by_cases c : 0 ≤ x ∧ x < sN s
  · by_cases d : 0 ≤ y ∧ y < sN s
    · obtain ⟨u, rfl⟩ : ∃ v : Nat, x = v := ⟨x.toNat, by omega⟩
      obtain ⟨v, rfl⟩ : ∃ v : Nat, y = v := ⟨y.toNat, by omega⟩
      have hu : u < sN s := by omega
      have hv : v < sN s := by omega
      have hR := bts_R (gdb s u v) (sK s)
      refine OpK.rd (r := bts (gdb s u v) (sK s)) w hR hC hM ⟨M, ?_, fun _ _ _ => rfl⟩ (fun M1 h => ?_)
      · have e : f_X8_good u v M = some (bts (gdb s u v) (sK s)) := by
          unfold f_X8_good; rw [chk_t (by omega)]; exact congrArg some (hC.2.2.2.1.2 u v hu hv).1
        unfold f_L_goodLinks f_X9_goodLinks
        rw [nN_t hS wn c, ob_s, ox_inr, nN_t hS wn d, ob_s, ox_inr, e, ob_s, ob_s, ox_inr, chk_t hR]
      · obtain ⟨M2, a1, a2, a3, a4, a5⟩ := far_after hF w h
        refine ⟨M2, ?_, a4, fun a i q => a5 a i (by omega) (by omega)⟩
        unfold f_X10_goodLinks
        rw [mN_t h.1 wn c, mN_t h.1 wn d, rf_0]
        dsimp only
        rw [a1, ob_s, mgood hF wn a2.1 a3 hu hv, ob_s]
    · refine OpK.no (k := 1) w hC hM (by decide) (by decide) ?_ (fun M1 h => ?_)
      · unfold f_L_goodLinks f_X9_goodLinks
        rw [nN_t hS wn c, ob_s, ox_inr, nN_f hS hy d, ob_s, ox_inl, ob_s, ox_inl, if_pos rfl]
      · unfold f_X10_goodLinks
        rw [mN_t h.1 wn c, mN_f h.1 wn hy d, rf_p (by decide) (by decide) (fun q => ob (f_X10_laysFar F q.2) fun q15 => ob (f_X10_good F x y q15) fun q16 => some (q16, q15))]
  · refine OpK.no (k := 1) w hC hM (by decide) (by decide) ?_ (fun M1 h => ?_)
    · unfold f_L_goodLinks f_X9_goodLinks
      rw [nN_f hS hx c, ob_s, ox_inl, ob_s, ox_inl, if_pos rfl]
    · unfold f_X10_goodLinks
      rw [mN_f h.1 wn hx c, rf_p (by decide) (by decide) (fun q => ob (f_X10_laysFar F q.2) fun q15 => ob (f_X10_good F x y q15) fun q16 => some (q16, q15))]
/-! check -/
/-- what check answers -/
def jdg (s : Sg) (v w : Nat) : Nat := if v = w then 0 else if dis s v w = 1000 then 4 else if sE s v (sB s w) = -1 then 3 else if btI (bts (gdb s v w) (sK s)) (sE s v (sB s w)).toNat = true then 1 else 2
theorem judge_eq {s : Sg} (f : WF s) (hS : SC 1 M s) (hY : WY M s) {v w : Nat} (hv : v < sN s) (hw : w < sN s) : f_X9_judge v w M = some (jdg s v w : Int) := by
  have wn := f.1
  have w1 := wn.1
  have w2 := wn.2.1
  have hd := dis_le wn hv hw
  have hb := f.2.1.1 w hw
  have e5 : M 5 w = sB s w := hS.2.2.2.1 w hw
  have e6 : f_X6_entryAt 1 v (sB s w : Int) M = some (sE s v (sB s w)) := by
    unfold f_X6_entryAt; rw [chk_t (by omega)]; exact congrArg some (hS.2.2.2.2 v _ hv hb)
  have e7 : f_X8_good v w M = some (bts (gdb s v w) (sK s)) := by
    unfold f_X8_good; rw [chk_t (by omega)]; exact congrArg some (hY.2 v w hv hw).1
  unfold f_X9_judge jdg
  rw [chk_t (by omega)]
  by_cases c1 : v = w
  · rw [if_pos (by omega), if_pos c1]; rfl
  · rw [if_neg (by omega), if_neg c1, bet_eq wn hY hv hw, ob_s, chk_t (by omega)]
    by_cases c2 : dis s v w = 1000
    · rw [if_pos (by omega), if_pos c2]; rfl
    · rw [if_neg (by omega), if_neg c2, chk_t (by omega), e5, e6, ob_s]
      rcases (f.2.2 v _ hv hb).1 with h | ⟨i, h1, h2, -⟩
      · rw [chk_t (by omega), if_pos h, if_pos h]; rfl
      · rw [chk_t (by omega), if_neg (by omega), if_neg (by omega), e7, ob_s, h2, has_bt _ (by omega), Int.toNat_natCast]
        cases btI (bts (gdb s v w) (sK s)) i with
        | true => rw [if_pos (by decide), if_pos rfl]; rfl
        | false => rw [if_neg (by decide), if_neg (by decide)]; rfl
theorem checks_eq (hF : 100000 ≤ F) {s : Sg} (f : WF s) (hS : SM 65 0 M s) (hD : FM M (sN s) (dis s)) {v w : Nat} (hv : v < sN s) (hw : w < sN s) : f_X10_checks F v w M = some (jdg s v w : Int) := by
  have wn := f.1
  have w1 := wn.1
  have w2 := wn.2.1
  have hd := dis_le wn hv hw
  have hb := f.2.1.1 w hw
  have e5 := mlabel hS hw
  unfold f_X10_checks jdg
  rw [chk_t (by omega)]
  by_cases c1 : v = w
  · rw [if_pos (by omega), if_pos c1]; rfl
  · rw [if_neg (by omega), if_neg c1, mfar wn hD hv hw, ob_s, chk_t (by omega)]
    by_cases c2 : dis s v w = 1000
    · rw [if_pos (by omega), if_pos c2]; rfl
    · rw [if_neg (by omega), if_neg c2, chk_t (by omega), e5, mentry hS wn hv hb, ob_s]
      rcases (f.2.2 v _ hv hb).1 with h | ⟨i, h1, h2, -⟩
      · rw [chk_t (by omega), if_pos h, if_pos h]; rfl
      · rw [chk_t (by omega), if_neg (by omega), if_neg (by omega), mgood hF wn hS hD hv hw, ob_s, h2, mhas (by omega), ob_s, chk_t (bi_R _), Int.toNat_natCast]
        cases btI (bts (gdb s v w) (sK s)) i with
        | true => rw [if_neg (by decide), if_pos rfl]; rfl
        | false => rw [if_pos (by decide), if_neg (by decide)]; rfl
theorem jdg_le (s : Sg) (v w : Nat) : jdg s v w ≤ 4 := by
  unfold jdg
  split; omega
  split; omega
  split; omega
  split <;> omega
theorem op_check (hF : 100000 ≤ F) (w : WA A) (hC : JC M A) (hM : JM M A) (hx : inR x) (hy : inR y) : OpK (f_L_check x y M) (f_X10_check F x y) := by
  obtain ⟨s, c, hs, tl, tx⟩ := A
  have wf : WF s := w.1
  have hY : WY M s := hC.2.2.2.1
  have hS : SC 1 M s := hC.1
  have wn : WN s := w.1.1
  have w1 := wn.1
  by_cases c : 0 ≤ x ∧ x < sN s
  · by_cases d : 0 ≤ y ∧ y < sN s
    · obtain ⟨u, rfl⟩ : ∃ v : Nat, x = v := ⟨x.toNat, by omega⟩
      obtain ⟨v, rfl⟩ : ∃ v : Nat, y = v := ⟨y.toNat, by omega⟩
      have hu : u < sN s := by omega
      have hv : v < sN s := by omega
      have hj := jdg_le s u v
      refine OpK.rd (r := jdg s u v) w (by omega) hC hM ⟨M, ?_, fun _ _ _ => rfl⟩ (fun M1 h => ?_)
      · unfold f_L_check f_X9_check
        rw [nN_t hS wn c, ob_s, ox_inr, nN_t hS wn d, ob_s, ox_inr, judge_eq wf hS hY hu hv, ob_s, ob_s, ox_inr, chk_t (by omega)]
      · obtain ⟨M2, a1, a2, a3, a4, a5⟩ := far_after hF w h
        refine ⟨M2, ?_, a4, fun a i q => a5 a i (by omega) (by omega)⟩
        unfold f_X10_check
        rw [mN_t h.1 wn c, mN_t h.1 wn d, rf_0]
        dsimp only
        rw [a1, ob_s, checks_eq hF wf a2.1 a3 hu hv, ob_s]
    · refine OpK.no (k := 1) w hC hM (by decide) (by decide) ?_ (fun M1 h => ?_)
      · unfold f_L_check f_X9_check
        rw [nN_t hS wn c, ob_s, ox_inr, nN_f hS hy d, ob_s, ox_inl, ob_s, ox_inl, if_pos rfl]
      · unfold f_X10_check
        rw [mN_t h.1 wn c, mN_f h.1 wn hy d, rf_p (by decide) (by decide) (fun q => ob (f_X10_laysFar F q.2) fun q15 => ob (f_X10_checks F x y q15) fun q16 => some (q16, q15))]
  · refine OpK.no (k := 1) w hC hM (by decide) (by decide) ?_ (fun M1 h => ?_)
    · unfold f_L_check f_X9_check
      rw [nN_f hS hx c, ob_s, ox_inl, ob_s, ox_inl, if_pos rfl]
    · unfold f_X10_check
      rw [mN_f h.1 wn hx c, rf_p (by decide) (by decide) (fun q => ob (f_X10_laysFar F q.2) fun q15 => ob (f_X10_checks F x y q15) fun q16 => some (q16, q15))]
/-- how many pairs of a kind -/
def cnt2 (p : Nat → Nat → Bool) (n : Nat) : Nat := su (fun v => ct (p v) n) n
theorem cnt2_le {p : Nat → Nat → Bool} {n : Nat} (hn : n ≤ 9) (m : Nat) (hm : m ≤ n) : su (fun v => ct (p v) n) m ≤ 81 := by
  have h1 := su_bd (f := fun v => ct (p v) n) (c := 9) (n := m) (fun i _ => by have := ct_le (p i) n; omega)
  omega
theorem pairs_eq (hF : 100000 ≤ F) {s : Sg} (f : WF s) (hS : SC 1 M s) (hY : WY M s) {r : Int} (hr : inR r) : f_X9_pairsJudged F r M = some (cnt2 (fun v w => decide ((jdg s v w : Int) = r)) (sN s) : Int) := by
  have w1 := f.1.1
  have e0 := hS.1
  refine lpe (f := fun fu (y : Int × Int) => f_X9_pairsJudged_4 F fu r y.1 y.2 M) (I := fun v y => y.1 = su (fun v => ct (fun w => decide ((jdg s v w : Int) = r)) (sN s)) v ∧ y.2 = v) (Q := fun q => q = some (cnt2 (fun v w => decide ((jdg s v w : Int) = r)) (sN s) : Int)) (sN s) ?_ ?_ (sN s) 0 F (0, 0) (by omega) (by omega) ⟨rfl, rfl⟩
  · rintro v fu ⟨y1, y2⟩ hv ⟨q1, q2⟩
    dsimp only at q1 q2 ⊢
    subst q1 q2
    right
    rw [f_X9_pairsJudged_4, chk_t (by omega), if_neg (by omega)]
    refine lpe (f := fun fu' (y : Int × Int) => f_X9_pairsJudged_18 F (f_X9_pairsJudged_4 F fu) fu' r y.1 v y.2 M) (I := fun x y => y.1 = (su (fun v => ct (fun w => decide ((jdg s v w : Int) = r)) (sN s)) v : Int) + ct (fun w => decide ((jdg s v w : Int) = r)) x ∧ y.2 = x) (Q := fun q => ∃ y : Int × Int, q = f_X9_pairsJudged_4 F fu r y.1 y.2 M ∧ y.1 = su (fun v => ct (fun w => decide ((jdg s v w : Int) = r)) (sN s)) (v + 1) ∧ y.2 = ((v + 1 : Nat) : Int)) (sN s) ?_ ?_ (sN s) 0 F (_, 0) (by omega) (by omega) ⟨(Int.add_zero _).symm, rfl⟩
    · rintro x fu' ⟨y1, y2⟩ hx ⟨q1, q2⟩
      dsimp only at q1 q2 ⊢
      subst q1 q2
      right
      have hj := jdg_le s v x
      rw [f_X9_pairsJudged_18, chk_t (by omega), if_neg (by omega), judge_eq f hS hY hv hx, ob_s, chk_t (by omega)]
      by_cases c : (jdg s v x : Int) = r
      · rw [if_pos c]
        exact ⟨((su (fun v => ct (fun w => decide ((jdg s v w : Int) = r)) (sN s)) v : Int) + ct (fun w => decide ((jdg s v w : Int) = r)) x + 1, (x : Int) + 1), rfl, by dsimp only; rw [ct_t (p := fun w => decide ((jdg s v w : Int) = r)) (decide_eq_true c)]; omega, rfl⟩
      · rw [if_neg c]
        exact ⟨((su (fun v => ct (fun w => decide ((jdg s v w : Int) = r)) (sN s)) v : Int) + ct (fun w => decide ((jdg s v w : Int) = r)) x, (x : Int) + 1), rfl, by dsimp only; rw [ct_f (p := fun w => decide ((jdg s v w : Int) = r)) (decide_eq_false c)], rfl⟩
    · rintro fu' ⟨y1, y2⟩ ⟨q1, q2⟩
      dsimp only at q1 q2 ⊢
      subst q1 q2
      rw [f_X9_pairsJudged_18, chk_t (by omega), if_pos (by omega)]
      exact ⟨(_, (v : Int) + 1), rfl, by dsimp only; rw [su]; omega, rfl⟩
  · rintro fu ⟨y1, y2⟩ ⟨q1, q2⟩
    dsimp only at q1 q2 ⊢
    subst q1 q2
    rw [f_X9_pairsJudged_4, chk_t (by omega), if_pos (by omega)]; rfl
theorem mpairs_eq (hF : 100000 ≤ F) {s : Sg} (f : WF s) (hS : SM 65 0 M s) (hD : FM M (sN s) (dis s)) {r : Int} (hr : inR r) : f_X10_checkedFor F r M = some (cnt2 (fun v w => decide ((jdg s v w : Int) = r)) (sN s) : Int) := by
  have w1 := f.1.1
  have e0 : M 65 0 = sN s := hS.1
  refine lpe (f := fun fu (y : Int × Int) => f_X10_checkedFor_4 F fu r y.1 y.2 M) (I := fun v y => y.1 = su (fun v => ct (fun w => decide ((jdg s v w : Int) = r)) (sN s)) v ∧ y.2 = v) (Q := fun q => q = some (cnt2 (fun v w => decide ((jdg s v w : Int) = r)) (sN s) : Int)) (sN s) ?_ ?_ (sN s) 0 F (0, 0) (by omega) (by omega) ⟨rfl, rfl⟩
  · rintro v fu ⟨y1, y2⟩ hv ⟨q1, q2⟩
    dsimp only at q1 q2 ⊢
    subst q1 q2
    right
    rw [f_X10_checkedFor_4, chk_t (by omega), if_neg (by omega)]
    refine lpe (f := fun fu' (y : Int × Int) => f_X10_checkedFor_17 F (f_X10_checkedFor_4 F fu) fu' r y.1 v y.2 M) (I := fun x y => y.1 = (su (fun v => ct (fun w => decide ((jdg s v w : Int) = r)) (sN s)) v : Int) + ct (fun w => decide ((jdg s v w : Int) = r)) x ∧ y.2 = x) (Q := fun q => ∃ y : Int × Int, q = f_X10_checkedFor_4 F fu r y.1 y.2 M ∧ y.1 = su (fun v => ct (fun w => decide ((jdg s v w : Int) = r)) (sN s)) (v + 1) ∧ y.2 = ((v + 1 : Nat) : Int)) (sN s) ?_ ?_ (sN s) 0 F (_, 0) (by omega) (by omega) ⟨(Int.add_zero _).symm, rfl⟩
    · rintro x fu' ⟨y1, y2⟩ hx ⟨q1, q2⟩
      dsimp only at q1 q2 ⊢
      subst q1 q2
      right
      have hj := jdg_le s v x
      rw [f_X10_checkedFor_17, chk_t (by omega), if_neg (by omega), checks_eq hF f hS hD hv hx, ob_s, chk_t (by omega)]
      by_cases c : (jdg s v x : Int) = r
      · rw [if_pos c]
        exact ⟨((su (fun v => ct (fun w => decide ((jdg s v w : Int) = r)) (sN s)) v : Int) + ct (fun w => decide ((jdg s v w : Int) = r)) x + 1, (x : Int) + 1), rfl, by dsimp only; rw [ct_t (p := fun w => decide ((jdg s v w : Int) = r)) (decide_eq_true c)]; omega, rfl⟩
      · rw [if_neg c]
        exact ⟨((su (fun v => ct (fun w => decide ((jdg s v w : Int) = r)) (sN s)) v : Int) + ct (fun w => decide ((jdg s v w : Int) = r)) x + 0, (x : Int) + 1), rfl, by dsimp only; rw [ct_f (p := fun w => decide ((jdg s v w : Int) = r)) (decide_eq_false c)]; omega, rfl⟩
    · rintro fu' ⟨y1, y2⟩ ⟨q1, q2⟩
      dsimp only at q1 q2 ⊢
      subst q1 q2
      rw [f_X10_checkedFor_17, chk_t (by omega), if_pos (by omega)]
      exact ⟨(_, (v : Int) + 1), rfl, by dsimp only; rw [su]; omega, rfl⟩
  · rintro fu ⟨y1, y2⟩ ⟨q1, q2⟩
    dsimp only at q1 q2 ⊢
    subst q1 q2
    rw [f_X10_checkedFor_4, chk_t (by omega), if_pos (by omega)]; rfl
theorem op_checked (hF : 100000 ≤ F) (w : WA A) (hC : JC M A) (hM : JM M A) (hx : inR x) : OpK (f_L_checked F x M) (f_X10_checked F x) := by
  obtain ⟨s, c, hs, tl, tx⟩ := A
  have wf : WF s := w.1
  have hY : WY M s := hC.2.2.2.1
  have hS : SC 1 M s := hC.1
  have wn : WN s := w.1.1
  have w1 := wn.1
  by_cases c : 0 ≤ x ∧ x ≤ 4
  · have hj : cnt2 (fun v w => decide ((jdg s v w : Int) = x)) (sN s) ≤ 81 := cnt2_le w1 (sN s) (Nat.le_refl _)
    refine OpK.rd (r := cnt2 (fun v w => decide ((jdg s v w : Int) = x)) (sN s)) w (by omega) hC hM ⟨M, ?_, fun _ _ _ => rfl⟩ (fun M1 h => ?_)
    · unfold f_L_checked f_X9_checked
      rw [nR_t hx (by decide) (by decide) c, ob_s, ox_inr, pairs_eq hF wf hS hY hx, ob_s, ob_s, ox_inr, chk_t (by omega)]
    · obtain ⟨M2, a1, a2, a3, a4, a5⟩ := far_after hF w h
      refine ⟨M2, ?_, a4, fun a i q => a5 a i (by omega) (by omega)⟩
      unfold f_X10_checked
      rw [mW_t hx (by decide) (by decide) c, rf_0]
      dsimp only
      rw [a1, ob_s, mpairs_eq hF wf a2.1 a3 hx, ob_s]
  · refine OpK.no (k := 1) w hC hM (by decide) (by decide) ?_ (fun M1 h => ?_)
    · unfold f_L_checked f_X9_checked
      rw [nR_f hx (by decide) (by decide) c, ob_s, ox_inl, ob_s, ox_inl, if_pos rfl]
    · unfold f_X10_checked
      rw [mW_f hx (by decide) (by decide) c, rf_p (by decide) (by decide) (fun q => ob (f_X10_laysFar F q.2) fun q7 => ob (f_X10_checkedFor F x q7) fun q8 => some (q8, q7))]
end Tell2
