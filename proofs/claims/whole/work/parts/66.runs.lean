/-! runs, sizes, compactness, best sizes -/
def tsz (s : Sg) (v : Nat) : Nat := ct (rb (sN s - 1) (rgE s v)) (sN s - 1)
def tmx (s : Sg) (v : Nat) : Nat := mxr (fun p => rof (sN s - 1) (rgE s v) (rgE s v p)) (sN s - 1)
theorem tsz_le (s : Sg) (v : Nat) : tsz s v ≤ sN s - 1 := ct_le _ _
theorem tmx_le (s : Sg) (v : Nat) : tmx s v ≤ sN s - 1 := mxr_le (fun _ _ => rof_le _ _ _)
theorem su_tsz {s : Sg} (w : WN s) (n : Nat) (hn : n ≤ sN s) : su (tsz s) n ≤ 81 := by
  have h1 := su_bd (f := tsz s) (c := 9) (n := n) (fun i _ => by have := tsz_le s i; have := w.1; omega)
  have := w.1
  omega
section Sizes
variable {F : Nat} {M : Mem} {A : Ab} {x y z : Int}
theorem okE_rg {s : Sg} (g : WG s) {v : Nat} (hv : v < sN s) : okE (sN s - 1) (sK s) (rgE s v) := fun _ hp => rgE_ok g hv hp
theorem nets_ok (hF : 100000 ≤ F) {s : Sg} (g : WG s) (M0 : Mem) (hS : SC 1 M0 s) : ∃ M', f_X9_networkSize F M0 = some ((su (tsz s) (sN s) : Int), M') ∧ ∀ a i, a ≠ 44 → a ≠ 45 → M' a i = M0 a i := by
  have w1 := g.1.1
  refine lpe (f := fun fu (y : Int × Int × Mem) => f_X9_networkSize_4 F fu y.1 y.2.1 y.2.2) (I := fun v y => y.1 = su (tsz s) v ∧ y.2.1 = v ∧ ∀ a i, a ≠ 44 → a ≠ 45 → y.2.2 a i = M0 a i) (Q := fun r => ∃ M', r = some ((su (tsz s) (sN s) : Int), M') ∧ ∀ a i, a ≠ 44 → a ≠ 45 → M' a i = M0 a i) (sN s) ?_ ?_ (sN s) 0 F (0, 0, M0) (by omega) (by omega) ⟨rfl, rfl, fun _ _ _ _ => rfl⟩
  · rintro v fu ⟨y1, y2, M⟩ hv ⟨q1, q2, q3⟩
    dsimp only at q1 q2 q3 ⊢
    subst q1 q2
    right
    have hS2 : SC 1 M s := hS.fr (fun a i k1 k2 => q3 a i (by omega) (by omega))
    have e0 := hS2.1
    obtain ⟨M1, a1, a2, a3⟩ := read_ok hF g hv M hS2
    refine ⟨((su (tsz s) v : Int) + (tsz s v : Int), (v : Int) + 1, M1), ?_, by dsimp only; rw [su]; omega, rfl, fun a i k1 k2 => (a3 a i k1 k2).trans (q3 a i k1 k2)⟩
    rw [f_X9_networkSize_4, chk_t (by omega), if_neg (by omega), a1, ob_s, allRuns_eq hF (by omega) a2, ob_s]; rfl
  · rintro fu ⟨y1, y2, M⟩ ⟨q1, q2, q3⟩
    dsimp only at q1 q2 q3 ⊢
    subst q1 q2
    have e0 : M 1 0 = sN s := by rw [q3 1 0 (by decide) (by decide)]; exact hS.1
    exact ⟨M, by rw [f_X9_networkSize_4, chk_t (by omega), if_pos (by omega)], q3⟩
theorem comp_ok (hF : 100000 ≤ F) {s : Sg} (g : WG s) (M0 : Mem) (hS : SC 1 M0 s) : ∃ M', f_X9_compactness F M0 = some ((mxr (tmx s) (sN s) : Int), M') ∧ ∀ a i, a ≠ 44 → a ≠ 45 → M' a i = M0 a i := by
  have w1 := g.1.1
  have w2 := g.1.2.1
  refine lpe (f := fun fu (y : Int × Int × Mem) => f_X9_compactness_4 F fu y.1 y.2.1 y.2.2) (I := fun v y => y.1 = mxr (tmx s) v ∧ y.2.1 = v ∧ ∀ a i, a ≠ 44 → a ≠ 45 → y.2.2 a i = M0 a i) (Q := fun r => ∃ M', r = some ((mxr (tmx s) (sN s) : Int), M') ∧ ∀ a i, a ≠ 44 → a ≠ 45 → M' a i = M0 a i) (sN s) ?_ ?_ (sN s) 0 F (0, 0, M0) (by omega) (by omega) ⟨rfl, rfl, fun _ _ _ _ => rfl⟩
  · rintro v fu ⟨y1, y2, M⟩ hv ⟨q1, q2, q3⟩
    dsimp only at q1 q2 q3 ⊢
    subst q1 q2
    right
    have hS2 : SC 1 M s := hS.fr (fun a i k1 k2 => q3 a i (by omega) (by omega))
    have e0 := hS2.1
    obtain ⟨M1, a1, a2, a3⟩ := read_ok hF g hv M hS2
    have b1 := tmx_le s v
    have b2 := mxr_le (g := tmx s) (c := sN s - 1) (n := v) (fun i _ => tmx_le s i)
    have d1 : f_X4_mostRuns F 44 M1 = some (tmx s v : Int) := mostRuns_eq hF (show sN s - 1 ≤ 9 by omega) a2 (fun p hp => by have := okE_rg g hv p hp; omega)
    refine ⟨(imax (mxr (tmx s) v : Int) (tmx s v : Int), (v : Int) + 1, M1), ?_, by dsimp only; rw [imax_n]; rfl, rfl, fun a i k1 k2 => (a3 a i k1 k2).trans (q3 a i k1 k2)⟩
    rw [f_X9_compactness_4, chk_t (by omega), if_neg (by omega), a1, ob_s, d1, ob_s, chk_t (by omega)]
  · rintro fu ⟨y1, y2, M⟩ ⟨q1, q2, q3⟩
    dsimp only at q1 q2 q3 ⊢
    subst q1 q2
    have e0 : M 1 0 = sN s := by rw [q3 1 0 (by decide) (by decide)]; exact hS.1
    have b2 := mxr_le (g := tmx s) (c := sN s - 1) (n := sN s) (fun i _ => tmx_le s i)
    exact ⟨M, by rw [f_X9_compactness_4, chk_t (by omega), if_pos (by omega)], q3⟩
theorem mnets_ok (hF : 100000 ≤ F) {s : Sg} (g : WG s) (M0 : Mem) (hS : SM 65 0 M0 s) : ∃ M', f_X10_netSize F M0 = some ((su (tsz s) (sN s) : Int), M') ∧ ∀ a i, (a ≠ 64 ∨ i ≠ 10) → a ≠ 70 → a ≠ 71 → M' a i = M0 a i := by
  have w1 := g.1.1
  have w2 := g.1.2.1
  refine lpe (f := fun fu (y : Int × Int × Mem) => f_X10_netSize_4 F fu y.1 y.2.1 y.2.2) (I := fun v y => y.1 = su (tsz s) v ∧ y.2.1 = v ∧ ∀ a i, (a ≠ 64 ∨ i ≠ 10) → a ≠ 70 → a ≠ 71 → y.2.2 a i = M0 a i) (Q := fun r => ∃ M', r = some ((su (tsz s) (sN s) : Int), M') ∧ ∀ a i, (a ≠ 64 ∨ i ≠ 10) → a ≠ 70 → a ≠ 71 → M' a i = M0 a i) (sN s) ?_ ?_ (sN s) 0 F (0, 0, M0) (by omega) (by omega) ⟨rfl, rfl, fun _ _ _ _ _ => rfl⟩
  · rintro v fu ⟨y1, y2, M⟩ hv ⟨q1, q2, q3⟩
    dsimp only at q1 q2 q3 ⊢
    subst q1 q2
    right
    have hS2 : SM 65 0 M s := hS.fr (fun j _ _ => q3 65 j (by omega) (by decide) (by decide)) g.1
    have e0 : M 65 0 = sN s := hS2.1
    obtain ⟨M1, a1, a2, a3⟩ := mring_ok hF g hv M hS2
    have ek : M1 65 1 = sK s := by rw [a3 65 1 (by omega) (by decide) (by decide)]; exact hS2.2.1
    have d2 : f_X10_ringSize F M1 = some (tsz s v : Int) := msize hF (by omega) w2 a2 ek (okE_rg g hv)
    refine ⟨((su (tsz s) v : Int) + (tsz s v : Int), (v : Int) + 1, M1), ?_, by dsimp only; rw [su]; omega, rfl, fun a i k1 k2 k3 => (a3 a i k1 k2 k3).trans (q3 a i k1 k2 k3)⟩
    rw [f_X10_netSize_4, chk_t (by omega), if_neg (by omega), a1, ob_s, d2, ob_s]
  · rintro fu ⟨y1, y2, M⟩ ⟨q1, q2, q3⟩
    dsimp only at q1 q2 q3 ⊢
    subst q1 q2
    have e0 : M 65 0 = sN s := by rw [q3 65 0 (by omega) (by decide) (by decide)]; exact hS.1
    exact ⟨M, by rw [f_X10_netSize_4, chk_t (by omega), if_pos (by omega)], q3⟩
theorem mcomp_ok (hF : 100000 ≤ F) {s : Sg} (g : WG s) (M0 : Mem) (hS : SM 65 0 M0 s) : ∃ M', f_X10_mostRuns F M0 = some ((mxr (tmx s) (sN s) : Int), M') ∧ ∀ a i, (a ≠ 64 ∨ i ≠ 10) → a ≠ 70 → a ≠ 71 → M' a i = M0 a i := by
  have w1 := g.1.1
  have w2 := g.1.2.1
  refine lpe (f := fun fu (y : Int × Int × Mem) => f_X10_mostRuns_4 F fu y.1 y.2.1 y.2.2) (I := fun v y => y.1 = mxr (tmx s) v ∧ y.2.1 = v ∧ ∀ a i, (a ≠ 64 ∨ i ≠ 10) → a ≠ 70 → a ≠ 71 → y.2.2 a i = M0 a i) (Q := fun r => ∃ M', r = some ((mxr (tmx s) (sN s) : Int), M') ∧ ∀ a i, (a ≠ 64 ∨ i ≠ 10) → a ≠ 70 → a ≠ 71 → M' a i = M0 a i) (sN s) ?_ ?_ (sN s) 0 F (0, 0, M0) (by omega) (by omega) ⟨rfl, rfl, fun _ _ _ _ _ => rfl⟩
  · rintro v fu ⟨y1, y2, M⟩ hv ⟨q1, q2, q3⟩
    dsimp only at q1 q2 q3 ⊢
    subst q1 q2
    right
    have hS2 : SM 65 0 M s := hS.fr (fun j _ _ => q3 65 j (by omega) (by decide) (by decide)) g.1
    have e0 : M 65 0 = sN s := hS2.1
    obtain ⟨M1, a1, a2, a3⟩ := mring_ok hF g hv M hS2
    have ek : M1 65 1 = sK s := by rw [a3 65 1 (by omega) (by decide) (by decide)]; exact hS2.2.1
    have d1 : f_X10_ringMost F M1 = some (tmx s v : Int) := mmost hF (by omega) w2 a2 ek (okE_rg g hv)
    have b1 := tmx_le s v
    have b2 := mxr_le (g := tmx s) (c := sN s - 1) (n := v) (fun i _ => tmx_le s i)
    have hm : mxr (tmx s) (v + 1) = max (mxr (tmx s) v) (tmx s v) := rfl
    rw [f_X10_mostRuns_4, chk_t (by omega), if_neg (by omega), a1, ob_s, d1, ob_s, chk_t (by omega)]
    by_cases c : tmx s v ≤ mxr (tmx s) v
    · rw [if_pos (by omega)]
      exact ⟨((mxr (tmx s) v : Int), (v : Int) + 1, M1), rfl, by dsimp only; rw [hm, Nat.max_eq_left c], rfl, fun a i k1 k2 k3 => (a3 a i k1 k2 k3).trans (q3 a i k1 k2 k3)⟩
    · rw [if_neg (by omega), ob_s]
      exact ⟨((tmx s v : Int), (v : Int) + 1, M1), rfl, by dsimp only; rw [hm, Nat.max_eq_right (by omega)], rfl, fun a i k1 k2 k3 => (a3 a i k1 k2 k3).trans (q3 a i k1 k2 k3)⟩
  · rintro fu ⟨y1, y2, M⟩ ⟨q1, q2, q3⟩
    dsimp only at q1 q2 q3 ⊢
    subst q1 q2
    have e0 : M 65 0 = sN s := by rw [q3 65 0 (by omega) (by decide) (by decide)]; exact hS.1
    have b2 := mxr_le (g := tmx s) (c := sN s - 1) (n := sN s) (fun i _ => tmx_le s i)
    exact ⟨M, by rw [f_X10_mostRuns_4, chk_t (by omega), if_pos (by omega)], q3⟩
theorem op_compactness (hF : 100000 ≤ F) (w : WA A) (hC : JC M A) (hM : JM M A) : OpP (f_X9_compactness F M) (f_X10_compactness F) := by
  obtain ⟨s, c, hs, tl, tx⟩ := A
  have g : WG s := w.1.g
  have w1 := g.1.1
  have b2 := mxr_le (g := tmx s) (c := sN s - 1) (n := sN s) (fun i _ => tmx_le s i)
  obtain ⟨M1, a1, a2⟩ := comp_ok hF g M hC.1
  refine OpP.rd (r := mxr (tmx s) (sN s)) w (by omega) hC hM ⟨M1, a1, fun a i q => a2 a i (by omega) (by omega)⟩ (fun M1 h => ?_)
  obtain ⟨M2, b1, b2⟩ := mcomp_ok hF g (mset M1 64 3 0) (h.r3 w 0).1
  refine ⟨M2, by unfold f_X10_compactness; rw [b1, ob_s], fun a i q => ?_⟩
  rw [b2 a i (by omega) (by omega) (by omega)]; unfold mset; rw [if_neg (by omega)]
theorem op_tableSize (hF : 100000 ≤ F) (w : WA A) (hC : JC M A) (hM : JM M A) (hx : inR x) : OpK (f_L_tableSize F x M) (f_X10_tableSize F x) := by
  obtain ⟨s, c, hs, tl, tx⟩ := A
  have g : WG s := w.1.g
  have hS : SC 1 M s := hC.1
  have wn : WN s := w.1.1
  have w1 := wn.1
  have w2 := wn.2.1
  by_cases e : x = -1
  · subst e
    have b2 := su_tsz wn (sN s) (Nat.le_refl _)
    obtain ⟨M1, a1, a2⟩ := nets_ok hF g M hS
    refine OpK.rd (r := su (tsz s) (sN s)) w (by omega) hC hM ⟨M1, ?_, fun a i q => a2 a i (by omega) (by omega)⟩ (fun M1 h => ?_)
    · unfold f_L_tableSize f_X9_tableSize
      rw [chk_t (by decide), if_pos rfl, a1, ob_s, ob_s]
      dsimp only
      rw [ox_inr, chk_t (by omega)]
    · obtain ⟨M2, b1, b2⟩ := mnets_ok hF g (mset M1 64 3 0) (h.r3 w 0).1
      refine ⟨M2, ?_, by rw [b2 64 3 (by omega) (by decide) (by decide), ms_eq], fun a i q => ?_⟩
      · unfold f_X10_tableSize
        rw [chk_t (by decide), if_pos rfl, rf_0]
        dsimp only
        rw [if_pos rfl, b1, ob_s]
      · rw [b2 a i (by omega) (by omega) (by omega)]; unfold mset; rw [if_neg (by omega)]
  · by_cases c : 0 ≤ x ∧ x < sN s
    · obtain ⟨v, rfl⟩ : ∃ v : Nat, x = v := ⟨x.toNat, by omega⟩
      have hv : v < sN s := by omega
      have b2 := tsz_le s v
      obtain ⟨M1, a1, a2, a3⟩ := read_ok hF g hv M hS
      refine OpK.rd (r := tsz s v) w (by omega) hC hM ⟨M1, ?_, fun a i q => a3 a i (by omega) (by omega)⟩ (fun M1 h => ?_)
      · unfold f_L_tableSize f_X9_tableSize
        rw [chk_t hx, if_neg e, nN_t hS wn c, ob_s, ox_inr, a1, ob_s, allRuns_eq hF (by omega) a2, ob_s, ob_s]
        dsimp only
        rw [ox_inr, chk_t (by have := tsz_le s v; unfold tsz at this; omega)]; rfl
      · obtain ⟨M2, b1, b2, b3⟩ := mring_ok hF g hv (mset M1 64 3 0) (h.r3 w 0).1
        have ek : M2 65 1 = sK s := by rw [b3 65 1 (by omega) (by decide) (by decide)]; exact (h.r3 w 0).1.2.1
        have d2 : f_X10_ringSize F M2 = some (tsz s v : Int) := msize hF (by omega) w2 b2 ek (okE_rg g hv)
        refine ⟨M2, ?_, by rw [b3 64 3 (by omega) (by decide) (by decide), ms_eq], fun a i q => ?_⟩
        · unfold f_X10_tableSize
          rw [chk_t hx, if_neg e, mN_t h.1 wn c, rf_0]
          dsimp only
          rw [if_neg e, b1, ob_s, d2, ob_s]
        · rw [b3 a i (by omega) (by omega) (by omega)]; unfold mset; rw [if_neg (by omega)]
    · refine OpK.no (k := 1) w hC hM (by decide) (by decide) ?_ (fun M1 h => ?_)
      · unfold f_L_tableSize f_X9_tableSize
        rw [chk_t hx, if_neg e, nN_f hS hx c, ob_s, ox_inl, ob_s, ox_inl, if_pos rfl]
      · unfold f_X10_tableSize
        rw [chk_t hx, if_neg e, mN_f h.1 wn hx c, rf_p (by decide) (by decide) (fun q => if x = (-1) then ob (f_X10_netSize F q.2) fun q18 => some (q18.1, q18.2) else ob (f_X10_laysRing F x q.2) fun q16 => ob (f_X10_ringSize F q16) fun q17 => some (q17, q16))]
theorem op_bestSize (hF : 100000 ≤ F) (w : WA A) (hC : JC M A) (hM : JM M A) (hx : inR x) : OpK (f_L_bestSize F x M) (f_X10_bestSize F x) := by
  obtain ⟨s, c, hs, tl, tx⟩ := A
  have g : WG s := w.1.g
  have hS : SC 1 M s := hC.1
  have wn : WN s := w.1.1
  have w1 := wn.1
  have w2 := wn.2.1
  have e0 := hS.1
  by_cases c : 0 ≤ x ∧ x < sN s
  · obtain ⟨v, rfl⟩ : ∃ v : Nat, x = v := ⟨x.toNat, by omega⟩
    have hv : v < sN s := by omega
    have hb := g.2.1.1 v hv
    have b2 := siz_le s v
    have hY : WY M s := hC.2.2.2.1
    obtain ⟨M1, a1, a2, a3, a4⟩ := seat_ok hF wn g.2.1 (a := 5) (Or.inl ⟨rfl, rfl⟩) w1 M (fun u hu => hS.2.2.2.1 u hu)
    obtain ⟨M2, c1, c2, c3⟩ := best_ok hF (t := 44) (Or.inl rfl) wn g.2.1 hv M1 (hY.fr (fun a i k1 k2 => a4 a i (by omega) (by omega))) a2 a3
    have e5 : M1 5 v = sB s v := by rw [a4 5 v (by omega) (by decide)]; exact hS.2.2.2.1 v hv
    refine OpK.rd (r := siz s v) w (by omega) hC hM ⟨M2, ?_, fun a i q => by rw [c3 a i (by omega) (by omega) (by omega) (by omega) (by omega), a4 a i (by omega) (by omega)]⟩ (fun M1 h => ?_)
    · unfold f_L_bestSize f_X9_bestSize
      rw [nN_t hS wn c, ob_s, ox_inr, e0, a1, ob_s, chk_t (by omega), e5, c1, ob_s, allRuns_eq hF (by omega) c2, ob_s, ob_s]
      dsimp only
      rw [ox_inr, chk_t (by have := siz_le s v; unfold siz at this; omega)]; rfl
    · obtain ⟨M2, a1, a2, a3, a4, a5⟩ := far_after hF w h
      obtain ⟨M3, b1, b2, b3⟩ := mbest_ok hF g hv M2 a2.1 a3
      have ek : M3 65 1 = sK s := by rw [b3 65 1 (by omega) (by decide) (by decide) (by decide) (by decide)]; exact a2.1.2.1
      have d2 : f_X10_ringSize F M3 = some (siz s v : Int) := msize hF (by omega) w2 b2 ek (bstE_ok wn hv)
      refine ⟨M3, ?_, by rw [b3 64 3 (by omega) (by decide) (by decide) (by decide) (by decide)]; exact a4, fun a i q => ?_⟩
      · unfold f_X10_bestSize
        rw [mN_t h.1 wn c, rf_0]
        dsimp only
        rw [a1, ob_s, b1, ob_s, d2, ob_s]
      · rw [b3 a i (by omega) (by omega) (by omega) (by omega) (by omega)]; exact a5 a i (by omega) (by omega)
  · refine OpK.no (k := 1) w hC hM (by decide) (by decide) ?_ (fun M1 h => ?_)
    · unfold f_L_bestSize f_X9_bestSize
      rw [nN_f hS hx c, ob_s, ox_inl, ob_s, ox_inl, if_pos rfl]
    · unfold f_X10_bestSize
      rw [mN_f h.1 wn hx c, rf_p (by decide) (by decide) (fun q => ob (f_X10_laysFar F q.2) fun q7 => ob (f_X10_laysBest F x q7) fun q8 => ob (f_X10_ringSize F q8) fun q9 => some (q9, q8))]
theorem op_runs (hF : 100000 ≤ F) (w : WA A) (hC : JC M A) (hM : JM M A) (hx : inR x) (hy : inR y) : OpK (f_L_runs F x y M) (f_X10_runs F x y) := by
  obtain ⟨s, c, hs, tl, tx⟩ := A
  have g : WG s := w.1.g
  have hS : SC 1 M s := hC.1
  have wn : WN s := w.1.1
  have w1 := wn.1
  have w2 := wn.2.1
  by_cases c : 0 ≤ x ∧ x < sN s
  · by_cases d : 0 ≤ y ∧ y < sK s
    · obtain ⟨v, rfl⟩ : ∃ v : Nat, x = v := ⟨x.toNat, by omega⟩
      obtain ⟨l, rfl⟩ : ∃ v : Nat, y = v := ⟨y.toNat, by omega⟩
      have hv : v < sN s := by omega
      have hl : l < sK s := by omega
      cases ht : tch s l v with
      | true =>
        have b2 := rof_le (sN s - 1) (rgE s v) l
        obtain ⟨M1, a1, a2, a3⟩ := read_ok hF g hv M hS
        refine OpK.rd (r := rof (sN s - 1) (rgE s v) l) w (by omega) hC hM ⟨M1, ?_, fun a i q => a3 a i (by omega) (by omega)⟩ (fun M1 h => ?_)
        · unfold f_L_runs f_X9_runs
          rw [nN_t hS wn c, ob_s, ox_inr, nL_t hS wn d, ob_s, ox_inr, tch_eq hS wn hl (by omega), ob_s, chk_t (bi_R _), ht, if_neg (by decide), a1, ob_s, runsOf_eq hF (by omega) a2 (by omega), ob_s, ob_s]
          dsimp only
          rw [ox_inr, chk_t (by omega)]
        · obtain ⟨M2, b1, b2, b3⟩ := mring_ok hF g hv (mset M1 64 3 0) (h.r3 w 0).1
          refine ⟨M2, ?_, by rw [b3 64 3 (by omega) (by decide) (by decide), ms_eq], fun a i q => ?_⟩
          · unfold f_X10_runs
            rw [mN_t h.1 wn c, mL_t h.1 wn d]
            unfold f_X10_runs_21
            rw [chk_t (by decide), if_neg (by decide), misOf h.1 wn hl (by omega), ob_s, chk_t (bi_R _), ht, if_neg (by decide), rf_0]
            dsimp only
            rw [b1, ob_s, mruns hF (by omega) b2 (by omega) (by omega), ob_s]
          · rw [b3 a i (by omega) (by omega) (by omega)]; unfold mset; rw [if_neg (by omega)]
      | false =>
        refine OpK.no (k := 2) w hC hM (by decide) (by decide) ?_ (fun M1 h => ?_)
        · unfold f_L_runs f_X9_runs
          rw [nN_t hS wn c, ob_s, ox_inr, nL_t hS wn d, ob_s, ox_inr, tch_eq hS wn hl (by omega), ob_s, chk_t (bi_R _), ht, if_pos (by decide), ob_s, ox_inl, if_neg (by decide), if_pos rfl]
        · unfold f_X10_runs
          rw [mN_t h.1 wn c, mL_t h.1 wn d]
          unfold f_X10_runs_21
          rw [chk_t (by decide), if_neg (by decide), misOf h.1 wn hl (by omega), ob_s, chk_t (bi_R _), ht, if_pos (by decide), rf_p (by decide) (by decide) (fun q => ob (f_X10_laysRing F v q.2) fun q11 => ob (f_X10_runsOf F l q11) fun q12 => some (q12, q11))]
    · refine OpK.no (k := 1) w hC hM (by decide) (by decide) ?_ (fun M1 h => ?_)
      · unfold f_L_runs f_X9_runs
        rw [nN_t hS wn c, ob_s, ox_inr, nL_f hS hy d, ob_s, ox_inl, ob_s, ox_inl, if_pos rfl]
      · unfold f_X10_runs
        rw [mN_t h.1 wn c, mL_f h.1 wn hy d]
        unfold f_X10_runs_21
        rw [chk_t (by decide), if_pos rfl, rf_p (by decide) (by decide) (fun q => ob (f_X10_laysRing F x q.2) fun q11 => ob (f_X10_runsOf F y q11) fun q12 => some (q12, q11))]
  · refine OpK.no (k := 1) w hC hM (by decide) (by decide) ?_ (fun M1 h => ?_)
    · unfold f_L_runs f_X9_runs
      rw [nN_f hS hx c, ob_s, ox_inl, ob_s, ox_inl, if_pos rfl]
    · unfold f_X10_runs
      rw [mN_f h.1 wn hx c]
      unfold f_X10_runs_21
      rw [chk_t (by decide), if_pos rfl, rf_p (by decide) (by decide) (fun q => ob (f_X10_laysRing F x q.2) fun q11 => ob (f_X10_runsOf F y q11) fun q12 => some (q12, q11))]
end Sizes
