/-! the search of the model, whole -/
theorem up_2 {c z : Nat} {b : Nat → Nat} {a : Acc} (hz : z ≤ 1000) (ha : a.2.1 ≤ 1000) : (up c z b a).2.1 ≤ 1000 := by
  unfold up
  split
  · exact hz
  · exact ha
theorem mback {F : Nat} (hF : 100000 ≤ F) {kb : Nat → Int} (v1 : Int) (M0 : Mem) (hk : ∀ v : Nat, v < 9 → M0 76 v = kb v) : ∃ M', f_X10_bestOf_248 F F v1 0 M0 = some (v1, M') ∧ (∀ v : Nat, v < 9 → M' 65 (50 + (v : Int)) = kb v) ∧ ∀ c k, (c ≠ 65 ∨ k < 50 ∨ 59 ≤ k) → M' c k = M0 c k := by
  refine lpe (f := fun fu (y : Int × Mem) => f_X10_bestOf_248 F fu v1 y.1 y.2) (I := fun i y => y.1 = i ∧ (∀ v : Nat, v < i → y.2 65 (50 + (v : Int)) = kb v) ∧ ∀ c k, (c ≠ 65 ∨ k < 50 ∨ 59 ≤ k) → y.2 c k = M0 c k) (Q := fun r => ∃ M', r = some (v1, M') ∧ (∀ v : Nat, v < 9 → M' 65 (50 + (v : Int)) = kb v) ∧ ∀ c k, (c ≠ 65 ∨ k < 50 ∨ 59 ≤ k) → M' c k = M0 c k) 9 ?_ ?_ 9 0 F (0, M0) (by omega) (by omega) ⟨rfl, fun v hv => absurd hv (Nat.not_lt_zero v), fun _ _ _ => rfl⟩
  · rintro i fu ⟨y1, M⟩ hi ⟨q1, q2, q3⟩
    dsimp only at q1 q2 q3 ⊢
    subst q1
    right
    have e : M 76 i = kb i := by rw [q3 76 i (by omega)]; exact hk i hi
    refine ⟨((i : Int) + 1, mset M 65 (50 + (i : Int)) (kb i)), ?_, rfl, fun v hv => ?_, fun c k h => ?_⟩
    · rw [f_X10_bestOf_248, chk_t (by omega), if_neg (by omega), chk_t (by omega), chk_t (by omega), e]
    · dsimp only
      by_cases e : v = i
      · subst e; rw [ms_eq]
      · rw [ms_i (by omega)]; exact q2 v (by omega)
    · dsimp only
      have : mset M 65 (50 + (i : Int)) (kb i) c k = M c k := by unfold mset; rw [if_neg (by omega)]
      rw [this]; exact q3 c k h
  · rintro fu ⟨y1, M⟩ ⟨q1, q2, q3⟩
    dsimp only at q1 q2 q3 ⊢
    subst q1
    exact ⟨M, by rw [f_X10_bestOf_248, chk_t (by omega), if_pos (by omega)], q2, q3⟩
theorem mloop_ok {F : Nat} (hF : 100000 ≤ F) {s : Sg} (g : WG s) {kb : Nat → Int} : ∀ (f : Nat) (l : List Nat) (a : Acc) (i fu : Nat) (M0 : Mem), tmL f (sN s) l = true → i + f ≤ 720 → f + 1 < fu → PB (sN s) (lf l) → a.1 ≤ 1000 → a.2.1 ≤ 1000 → (∀ k, a.2.2.2 k ≤ i) → SM 65 0 M0 (sLab s (lf l)) → FM M0 (sN s) (dis s) → MA M0 (sN s) a → (∀ v : Nat, v < 9 → M0 76 v = kb v) → ∃ M', f_X10_bestOf_74 F fu a.1 a.2.1 1 M0 = some (((sf s f l a).1 : Int), M') ∧ MA M' (sN s) (sf s f l a) ∧ (∀ v : Nat, v < 9 → M' 65 (50 + (v : Int)) = kb v) ∧ ∀ c k, (c ≠ 64 ∨ k ≠ 10) → (c ≠ 65 ∨ k < 50 ∨ 59 ≤ k) → c ≠ 70 → c ≠ 71 → c ≠ 72 → c ≠ 73 → c ≠ 75 → c ≠ 77 → M' c k = M0 c k := by
  have w := g.1
  have w1 := w.1
  intro f
  induction f with
  | zero => intro l a i fu M0 h; cases h
  | succ f ih =>
    intro l a i fu M0 ht hi hfu hb ha ha2 htal hS hD hA hk
    obtain ⟨fu, rfl⟩ : ∃ g, fu = g + 2 := ⟨fu - 2, by omega⟩
    obtain ⟨M1, a1, a2, a3, a4⟩ := mround_ok hF g hb (f_X10_bestOf_74 F (fu + 1)) ha ha2 (show i < 720 by omega) htal M0 hS hD hA
    have hev : evc (sLab s (lf l)) ≤ sN s - 1 := evc_le (sLab s (lf l))
    have b4 : evz (sLab s (lf l)) ≤ 81 := su_bd1 (s := sLab s (lf l)) (WN_NE (NE.lab s (lf l)) w) (sN s) (Nat.le_refl _)
    by_cases c : pv (lf l) (sN s - 1) = 0
    · have e : sf s (f + 1) l a = up (evc (sLab s (lf l))) (evz (sLab s (lf l))) (lf l) a := by rw [sf, if_pos c]
      rw [if_pos c] at a1
      obtain ⟨M2, b1, b2, b3⟩ := mback hF (kb := kb) (up (evc (sLab s (lf l))) (evz (sLab s (lf l))) (lf l) a).1 M1 (fun v hv => by rw [a4 76 v (by omega) (by omega) (by decide) (by decide) (by decide) (by decide) (by decide) (by decide)]; exact hk v hv)
      rw [e]
      refine ⟨M2, ?_, ?_, b2, fun c k k1 k2 k3 k4 k5 k6 k7 k8 => (b3 c k k2).trans (a4 c k k1 k2 k3 k4 k5 k6 k7 k8)⟩
      · rw [f_X10_bestOf_74, chk_t (by decide), if_neg (by decide), a1, f_X10_bestOf_74, chk_t (by decide), if_pos rfl, b1]
      · exact ⟨fun q v hv => by rw [b3 75 _ (by omega)]; exact a3.1 q v hv, fun k hk => by rw [b3 77 _ (by omega)]; exact a3.2 k hk⟩
    · have e : sf s (f + 1) l a = sf s f (nxL (sN s) l) (up (evc (sLab s (lf l))) (evz (sLab s (lf l))) (lf l) a) := by rw [sf, if_neg c]
      rw [if_neg c] at a1
      have ht2 : tmL f (sN s) (nxL (sN s) l) = true := by rw [tmL, if_neg c] at ht; exact ht
      have hS1 : SM 65 0 M1 (sLab s (lf (nxL (sN s) l))) := SM.relab (s := sLab s (lf l)) (WN_NE (NE.lab s (lf l)) w) hS (fun j hj => a4 65 j (by omega) (by omega) (by decide) (by decide) (by decide) (by decide) (by decide) (by decide)) (fun v hv => by rw [lf_nx hv]; exact a2 c v hv)
      obtain ⟨M2, d1, d2, d3, d4⟩ := ih (nxL (sN s) l) (up (evc (sLab s (lf l))) (evz (sLab s (lf l))) (lf l) a) (i + 1) (fu + 1) M1 ht2 (by omega) (by omega) (hb.nxM c) (Nat.le_of_lt (up_1 (by omega) ha)) (up_2 (by omega) ha2) (up_t htal) hS1 (fun x y hx hy => by rw [a4 68 _ (by omega) (by omega) (by decide) (by decide) (by decide) (by decide) (by decide) (by decide)]; exact hD x y hx hy) a3 (fun v hv => by rw [a4 76 v (by omega) (by omega) (by decide) (by decide) (by decide) (by decide) (by decide) (by decide)]; exact hk v hv)
      rw [e]
      refine ⟨M2, ?_, d2, d3, fun c k k1 k2 k3 k4 k5 k6 k7 k8 => (d4 c k k1 k2 k3 k4 k5 k6 k7 k8).trans (a4 c k k1 k2 k3 k4 k5 k6 k7 k8)⟩
      rw [f_X10_bestOf_74, chk_t (by decide), if_neg (by decide), a1, d1]
theorem mbestOf_ok {F : Nat} (hF : 100000 ≤ F) {s : Sg} (g : WG s) (h6 : sN s ≤ 6) (M0 : Mem) (hS : SM 65 0 M0 s) : ∃ M', f_X10_bestOf F M0 = some (((srch s).1 : Int), M') ∧ SM 65 0 M' s ∧ MA M' (sN s) (srch s) ∧ ∀ c k, (c ≠ 64 ∨ k ≠ 10) → c ≠ 65 → c ≠ 68 → c ≠ 70 → c ≠ 71 → c ≠ 72 → c ≠ 73 → c ≠ 75 → c ≠ 76 → c ≠ 77 → M' c k = M0 c k := by
  have w := g.1
  have w1 := w.1
  obtain ⟨M1, a1, a2, a3⟩ := far_ok hF w M0 hS
  unfold f_X10_bestOf
  rw [a1, ob_s]
  refine lpe (f := fun fu (y : Int × Mem) => f_X10_bestOf_6 F fu y.1 y.2) (I := fun i y => y.1 = i ∧ (∀ k : Nat, k < i → y.2 77 k = 0) ∧ ∀ c k, c ≠ 77 → y.2 c k = M1 c k) (Q := fun r => ∃ M', r = some (((srch s).1 : Int), M') ∧ SM 65 0 M' s ∧ MA M' (sN s) (srch s) ∧ ∀ c k, (c ≠ 64 ∨ k ≠ 10) → c ≠ 65 → c ≠ 68 → c ≠ 70 → c ≠ 71 → c ≠ 72 → c ≠ 73 → c ≠ 75 → c ≠ 76 → c ≠ 77 → M' c k = M0 c k) 10 ?_ ?_ 10 0 F (0, M1) (by omega) (by omega) ⟨rfl, fun v hv => absurd hv (Nat.not_lt_zero v), fun _ _ _ => rfl⟩
  · rintro i fu ⟨y1, M⟩ hi ⟨q1, q2, q3⟩
    dsimp only at q1 q2 q3 ⊢
    subst q1
    right
    refine ⟨((i : Int) + 1, mset M 77 i 0), ?_, rfl, fun v hv => ?_, fun c k h => ?_⟩
    · rw [f_X10_bestOf_6, chk_t (by omega), if_neg (by omega), chk_t (by omega)]
    · dsimp only
      by_cases e : v = i
      · subst e; rw [ms_eq]
      · rw [ms_i (by omega)]; exact q2 v (by omega)
    · dsimp only; rw [ms_a h]; exact q3 c k h
  · rintro fu ⟨y1, M⟩ ⟨q1, q2, q3⟩
    dsimp only at q1 q2 q3 ⊢
    subst q1
    rw [f_X10_bestOf_6, chk_t (by omega), if_pos (by omega)]
    refine lpe (f := fun fu (y : Int × Mem) => f_X10_bestOf_27 F fu y.1 y.2) (I := fun i y => y.1 = i ∧ (∀ v : Nat, v < i → y.2 76 v = M0 65 (50 + (v : Int)) ∧ y.2 65 (50 + (v : Int)) = v) ∧ (∀ v : Nat, i ≤ v → y.2 65 (50 + (v : Int)) = M0 65 (50 + (v : Int))) ∧ ∀ c k, c ≠ 76 → (c ≠ 65 ∨ k < 50 ∨ 59 ≤ k) → y.2 c k = M c k) (Q := fun r => ∃ M', r = some (((srch s).1 : Int), M') ∧ SM 65 0 M' s ∧ MA M' (sN s) (srch s) ∧ ∀ c k, (c ≠ 64 ∨ k ≠ 10) → c ≠ 65 → c ≠ 68 → c ≠ 70 → c ≠ 71 → c ≠ 72 → c ≠ 73 → c ≠ 75 → c ≠ 76 → c ≠ 77 → M' c k = M0 c k) 9 ?_ ?_ 9 0 F (0, M) (by omega) (by omega) ⟨rfl, fun v hv => absurd hv (Nat.not_lt_zero v), fun v _ => (q3 65 _ (by decide)).trans (a3 65 _ (by decide)), fun _ _ _ _ => rfl⟩
    · rintro i fu ⟨y1, N⟩ hi ⟨p1, p2, p3, p4⟩
      dsimp only at p1 p2 p3 p4 ⊢
      subst p1
      right
      have e := p3 i (Nat.le_refl _)
      refine ⟨((i : Int) + 1, mset (mset N 76 i (N 65 (50 + (i : Int)))) 65 (50 + (i : Int)) i), ?_, rfl, fun v hv => ?_, fun v hv => ?_, fun c k h1 h2 => ?_⟩
      · rw [f_X10_bestOf_27, chk_t (by omega), if_neg (by omega), chk_t (by omega), chk_t (by omega)]
      · dsimp only
        by_cases q : v = i
        · subst q
          exact ⟨by rw [ms_a (by decide), ms_eq]; exact e, ms_eq _ _ _ _⟩
        · obtain ⟨r1, r2⟩ := p2 v (by omega)
          exact ⟨by rw [ms_a (by decide), ms_i (by omega)]; exact r1, by rw [ms_i (by omega), ms_a (by decide)]; exact r2⟩
      · dsimp only
        rw [ms_i (by omega), ms_a (by decide)]; exact p3 v (by omega)
      · dsimp only
        have : mset (mset N 76 i (N 65 (50 + (i : Int)))) 65 (50 + (i : Int)) i c k = mset N 76 i (N 65 (50 + (i : Int))) c k := by unfold mset; rw [if_neg (by omega)]
        rw [this, ms_a h1]; exact p4 c k h1 h2
    · rintro fu ⟨y1, N⟩ ⟨p1, p2, p3, p4⟩
      dsimp only at p1 p2 p3 p4 ⊢
      subst p1
      have hS1 : SM 65 0 N (sLab s (lf (List.range (sN s)))) := SM.relab w hS (fun j hj => by rw [p4 65 j (by decide) (by omega), q3 65 j (by decide), a3 65 j (by decide)]) (fun v hv => by rw [lf_range hv]; exact (p2 v (by omega)).2)
      obtain ⟨M', d1, d2, d3, d4⟩ := mloop_ok hF g (kb := fun v => M0 65 (50 + (v : Int))) 720 (List.range (sN s)) (1000, 1000, fun _ => 0, fun _ => 0) 0 F N (tm_720 (sN s) h6) (by omega) (by omega) (PB.range _) (Nat.le_refl _) (Nat.le_refl _) (fun _ => Nat.le_refl _) hS1 (fun x y hx hy => by rw [p4 68 _ (by decide) (by omega), q3 68 _ (by decide)]; exact a2 x y hx hy) ⟨fun q => absurd rfl q, fun k hk => by rw [p4 77 _ (by decide) (by omega)]; exact q2 k hk⟩ (fun v hv => (p2 v hv).1)
      refine ⟨M', ?_, ?_, d2, fun c k k1 k2 k3 k4 k5 k6 k7 k8 k9 k10 => ?_⟩
      · rw [f_X10_bestOf_27, chk_t (by omega), if_pos (by omega)]; exact d1
      · refine hS.fr (fun j h1 h2 => ?_) w
        by_cases q : j < 50 ∨ 59 ≤ j
        · rw [d4 65 j (by omega) (by omega) (by decide) (by decide) (by decide) (by decide) (by decide) (by decide), p4 65 j (by decide) (by omega), q3 65 j (by decide), a3 65 j (by decide)]
        · have := d3 (j - 50).toNat (by omega)
          rw [show (50 : Int) + (((j - 50).toNat : Nat) : Int) = j by omega] at this
          exact this
      · rw [d4 c k k1 (by omega) k4 k5 k6 k7 k8 k10, p4 c k k9 (by omega), q3 c k k10, a3 c k k3]
theorem up_pb {n c z : Nat} {b : Nat → Nat} (hb : PB n b) {a : Acc} (ha : a.1 ≤ 1000) (hc : c < 1000) (h : a.1 = 1000 ∨ PB n a.2.2.1) : PB n (up c z b a).2.2.1 := by
  unfold up
  split
  · exact hb
  · rename_i q
    rcases h with h | h
    · omega
    · exact h
theorem sf_ok {s : Sg} (w : WN s) : ∀ (f : Nat) (l : List Nat) (a : Acc), tmL f (sN s) l = true → PB (sN s) (lf l) → a.1 ≤ 1000 → (a.1 = 1000 ∨ PB (sN s) a.2.2.1) → (sf s f l a).1 < 1000 ∧ PB (sN s) (sf s f l a).2.2.1 := by
  have w1 := w.1
  intro f
  induction f with
  | zero => intro l a h; cases h
  | succ f ih =>
    intro l a ht hb ha hp
    have hev : evc (sLab s (lf l)) ≤ sN s - 1 := evc_le (sLab s (lf l))
    have h1 := up_1 (c := evc (sLab s (lf l))) (z := evz (sLab s (lf l))) (b := lf l) (show evc (sLab s (lf l)) < 1000 by omega) ha
    have h2 := up_pb (c := evc (sLab s (lf l))) (z := evz (sLab s (lf l))) hb ha (by omega) hp
    by_cases c : pv (lf l) (sN s - 1) = 0
    · have e : sf s (f + 1) l a = up (evc (sLab s (lf l))) (evz (sLab s (lf l))) (lf l) a := by rw [sf, if_pos c]
      rw [e]; exact ⟨h1, h2⟩
    · have e : sf s (f + 1) l a = sf s f (nxL (sN s) l) (up (evc (sLab s (lf l))) (evz (sLab s (lf l))) (lf l) a) := by rw [sf, if_neg c]
      have ht2 : tmL f (sN s) (nxL (sN s) l) = true := by rw [tmL, if_neg c] at ht; exact ht
      rw [e]
      exact ih _ _ ht2 (hb.nxM c) (Nat.le_of_lt h1) (Or.inr h2)
theorem srch_ok {s : Sg} (w : WN s) (h6 : sN s ≤ 6) : (srch s).1 < 1000 ∧ PB (sN s) (srch s).2.2.1 := sf_ok w 720 _ _ (tm_720 _ h6) (PB.range _) (Nat.le_refl _) (Or.inl rfl)
