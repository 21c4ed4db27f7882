/-! tables made, and changed by hand -/
def plc (own l : Nat) : Nat := if l < own then l else l - 1
theorem plc_lab (own p : Nat) : plc own (lab own p) = p := by
  unfold plc lab
  by_cases c : p < own
  · rw [if_pos c, if_pos c]
  · rw [if_neg c, if_neg (by omega)]; omega
theorem lab_plc {own l : Nat} (h : l ≠ own) : lab own (plc own l) = l := by
  unfold plc lab
  by_cases c : l < own
  · rw [if_pos c, if_pos c]
  · rw [if_neg c, if_neg (by omega)]; omega
theorem lab_ne (own p : Nat) : lab own p ≠ own := by unfold lab; split <;> omega
def mkE (s : Sg) (v l : Nat) : Int := if l = sB s v then -1 else bstE s v (plc (sB s v) l)
/-- the tables of the nodes below v are made -/
abbrev sMk (s : Sg) (v : Nat) : Sg := sEnt s (fun u l => if u < v then mkE s u l else sE s u l)
theorem bst_tch {s : Sg} (w : WN s) {v : Nat} (hv : v < sN s) {p : Nat} (hp : p < sN s - 1) : bstE s v p = -1 ∨ ∃ i : Nat, i < sK s ∧ bstE s v p = i ∧ (sF s i = v ∨ sS s i = v) := by
  have w1 := w.1
  obtain ⟨h1, h2⟩ := bst_C (ne_chC w hv (sB s v) (nd s) (sN s - 1)) (by omega) p hp
  unfold bstE
  by_cases c : bst (chC s v (sB s v) (nd s)) (sN s - 1) p = 16
  · left; unfold dec; rw [if_pos c]
  · right
    have h2 : chP s v (nd s (lab (sB s v) p)) (bst (chC s v (sB s v) (nd s)) (sN s - 1) p) = true := h2
    unfold chP at h2
    split at h2
    · exact absurd (of_decide_eq_true h2) c
    · rw [Bool.and_eq_true] at h2
      refine ⟨_, of_decide_eq_true h2.1, ?_, tch_iff.mp (gdb_tch h2.2)⟩
      unfold dec; rw [if_neg c]
theorem mkE_ok {s : Sg} (f : WF s) {v l : Nat} (hv : v < sN s) (hl : l < sN s) : (mkE s v l = -1 ∨ ∃ i : Nat, i < sK s ∧ mkE s v l = i ∧ (sF s i = v ∨ sS s i = v)) ∧ (sB s v = l → mkE s v l = -1) := by
  have hb := f.2.1.1 v hv
  unfold mkE
  by_cases c : l = sB s v
  · rw [if_pos c]; exact ⟨Or.inl rfl, fun _ => rfl⟩
  · rw [if_neg c]
    exact ⟨bst_tch f.1 hv (by unfold plc; split <;> omega), fun q => absurd q.symm c⟩
theorem WF_mk {s : Sg} (f : WF s) (k : Nat) : WF (sMk s k) := by
  refine ⟨f.1, f.2.1, fun v l hv hl => ?_⟩
  show ((if v < k then mkE s v l else sE s v l) = -1 ∨ _) ∧ _
  by_cases c : v < k
  · have := mkE_ok f hv hl
    refine ⟨?_, fun q => ?_⟩
    · rw [if_pos c]
      rcases this.1 with h | ⟨i, h1, h2, h3⟩
      · exact Or.inl h
      · exact Or.inr ⟨i, h1, by show (if v < k then mkE s v l else sE s v l) = i; rw [if_pos c]; exact h2, h3⟩
    · show (if v < k then mkE s v l else sE s v l) = -1
      rw [if_pos c]; exact this.2 q
  · have := f.2.2 v l hv hl
    refine ⟨?_, fun q => ?_⟩
    · rw [if_neg c]
      rcases this.1 with h | ⟨i, h1, h2, h3⟩
      · exact Or.inl h
      · exact Or.inr ⟨i, h1, by show (if v < k then mkE s v l else sE s v l) = i; rw [if_neg c]; exact h2, h3⟩
    · show (if v < k then mkE s v l else sE s v l) = -1
      rw [if_neg c]; exact this.2 q
theorem NE_ent (s : Sg) (e : Nat → Nat → Int) : NE s (sEnt s e) := ⟨rfl, rfl, rfl, rfl, rfl⟩
section Tables
variable {F : Nat} {M : Mem} {A : Ab} {x y z u : Int}
theorem store_ok (hF : 100000 ≤ F) {s : Sg} (w : WN s) (hB : WB s) {v : Nat} (hv : v < sN s) {e : Nat → Int} (M0 : Mem) (h5 : M0 5 v = sB s v) (hR : RC 44 M0 (sN s - 1) e) : ∃ M', f_X6_storeTable F 1 v M0 = some M' ∧ (∀ p, p < sN s - 1 → M' 6 ((v : Int) * 9 + lab (sB s v) p) = e p) ∧ (∀ i, (∀ p, p < sN s - 1 → i ≠ (v : Int) * 9 + lab (sB s v) p) → M' 6 i = M0 6 i) ∧ ∀ a i, a ≠ 6 → M' a i = M0 a i := by
  have w1 := w.1
  have hb := hB.1 v hv
  obtain ⟨r1, r2⟩ := hR
  refine lpe (f := fun fu (y : Int × Mem) => f_X6_storeTable_2 F 1 fu v y.1 y.2) (I := fun k y => y.1 = k ∧ (∀ p, p < k → y.2 6 ((v : Int) * 9 + lab (sB s v) p) = e p) ∧ (∀ i, (∀ p, p < k → i ≠ (v : Int) * 9 + lab (sB s v) p) → y.2 6 i = M0 6 i) ∧ ∀ a i, a ≠ 6 → y.2 a i = M0 a i) (Q := fun r => ∃ M', r = some M' ∧ (∀ p, p < sN s - 1 → M' 6 ((v : Int) * 9 + lab (sB s v) p) = e p) ∧ (∀ i, (∀ p, p < sN s - 1 → i ≠ (v : Int) * 9 + lab (sB s v) p) → M' 6 i = M0 6 i) ∧ ∀ a i, a ≠ 6 → M' a i = M0 a i) (sN s - 1) ?_ ?_ (sN s - 1) 0 F (0, M0) (by omega) (by omega) ⟨rfl, fun p hp => absurd hp (Nat.not_lt_zero p), fun _ _ => rfl, fun _ _ _ => rfl⟩
  · rintro k fu ⟨y1, N⟩ hk ⟨q1, q2, q3, q4⟩
    dsimp only at q1 q2 q3 q4 ⊢
    subst q1
    right
    have hl : lab (sB s v) k < sN s := by unfold lab; split <;> omega
    have e44 : N 44 0 = ((sN s - 1 : Nat) : Int) := by rw [q4 44 0 (by decide)]; exact r1
    have e5 : N 5 v = sB s v := by rw [q4 5 v (by decide)]; exact h5
    have e45 : N 45 k = e k := by rw [q4 45 k (by decide)]; exact r2 k hk
    have inj : ∀ p, p < k → lab (sB s v) p ≠ lab (sB s v) k := fun p hp q => by
      have := congrArg (plc (sB s v)) q
      rw [plc_lab, plc_lab] at this; omega
    refine ⟨((k : Int) + 1, mset N 6 ((v : Int) * 9 + lab (sB s v) k) (e k)), ?_, rfl, fun p hp => ?_, fun i hi => ?_, fun a i ha => ?_⟩
    · rw [f_X6_storeTable_2, chk_t (by omega), if_neg (by omega), chk_t (by omega)]
      have e5' : N (1 + 4) v = sB s v := e5
      rw [e5', labAt (by omega) (by omega), ob_s, chk_t (by omega), chk_t (by omega), e45]
    · dsimp only
      by_cases q : p = k
      · subst q; rw [ms_eq]
      · have := inj p (by omega)
        rw [ms_i (by omega)]; exact q2 p (by omega)
    · dsimp only
      rw [ms_i (hi k (by omega))]; exact q3 i (fun p hp => hi p (by omega))
    · dsimp only; rw [ms_a ha]; exact q4 a i ha
  · rintro fu ⟨y1, N⟩ ⟨q1, q2, q3, q4⟩
    dsimp only at q1 q2 q3 q4 ⊢
    subst q1
    have e44 : N 44 0 = ((sN s - 1 : Nat) : Int) := by rw [q4 44 0 (by decide)]; exact r1
    exact ⟨N, by rw [f_X6_storeTable_2, chk_t (by omega), if_pos (by omega)], q2, q3, q4⟩
theorem mk_class (hF : 100000 ≤ F) {s : Sg} (f : WF s) (M0 : Mem) (hS : SC 1 M0 s) (hY : WY M0 s) : ∃ M', (ob (f_X7_seat F 5 (M0 1 0) M0) fun q2 => f_X9_makeTables_36 F F 0 0 q2) = some ((su (siz s) (sN s) : Int), M') ∧ SC 1 M' (sMk s (sN s)) ∧ ∀ a i, (a < 6 ∨ 6 < a ∧ a < 44 ∨ 50 < a) → M' a i = M0 a i := by
  have w := f.1
  have w1 := w.1
  have e0 := hS.1
  obtain ⟨M1, a1, a2, a3, a4⟩ := seat_ok hF w f.2.1 (a := 5) (Or.inl ⟨rfl, rfl⟩) w1 M0 (fun u hu => hS.2.2.2.1 u hu)
  rw [e0, a1, ob_s]
  refine lpe (f := fun fu (y : Int × Int × Mem) => f_X9_makeTables_36 F fu y.1 y.2.1 y.2.2) (I := fun v y => y.1 = su (siz s) v ∧ y.2.1 = v ∧ SC 1 y.2.2 (sMk s v) ∧ ∀ a i, a ≠ 6 → (a < 44 ∨ a = 46 ∨ a = 47 ∨ 50 < a) → y.2.2 a i = M1 a i) (Q := fun r => ∃ M', r = some ((su (siz s) (sN s) : Int), M') ∧ SC 1 M' (sMk s (sN s)) ∧ ∀ a i, (a < 6 ∨ 6 < a ∧ a < 44 ∨ 50 < a) → M' a i = M0 a i) (sN s) ?_ ?_ (sN s) 0 F (0, 0, M1) (by omega) (by omega) ⟨rfl, rfl, ?_, fun _ _ _ _ => rfl⟩
  · rintro v fu ⟨y1, y2, N⟩ hv ⟨q1, q2, q3, q4⟩
    dsimp only at q1 q2 q3 q4 ⊢
    subst q1 q2
    right
    have hb := f.2.1.1 v hv
    have e1 : N 1 0 = sN s := q3.1
    have e5 : N 5 v = sB s v := q3.2.2.2.1 v hv
    obtain ⟨M2, c1, c2, c3⟩ := best_ok hF (t := 44) (Or.inl rfl) w f.2.1 hv N (hY.fr (fun a i k1 k2 => by rw [q4 a i (by omega) (by omega), a4 a i (by omega) (by omega)])) (by rw [q4 46 0 (by decide) (by omega)]; exact a2) (fun l hl => by rw [q4 47 l (by decide) (by omega)]; exact a3 l hl)
    have e52 : M2 5 v = sB s v := by rw [c3 5 v (by decide) (by decide) (by decide) (by decide) (by omega)]; exact e5
    obtain ⟨M3, d1, d2, d3, d4⟩ := store_ok hF w f.2.1 hv M2 e52 c2
    have c2' : RC 44 M3 (sN s - 1) (bstE s v) := ⟨by rw [d4 44 0 (by decide)]; exact c2.1, fun p hp => by rw [d4 45 p (by decide)]; exact c2.2 p hp⟩
    have d5 : f_X4_allRuns F 44 M3 = some (siz s v : Int) := allRuns_eq hF (show sN s - 1 ≤ 9 by omega) c2'
    have fr3 : ∀ a i, a ≠ 6 → a ≠ 44 → a ≠ 45 → a ≠ 48 → a ≠ 49 → a ≠ 50 → M3 a i = N a i := fun a i k1 k2 k3 k4 k5 k6 => by
      rw [d4 a i k1, c3 a i k4 k5 k6 k3 (by omega)]
    have hS3 : SC 1 M3 (sMk s (v + 1)) := by
      refine ⟨?_, ?_, fun i hi => ?_, fun k hk => ?_, fun k l hk hl => ?_⟩
      · rw [fr3 1 0 (by decide) (by decide) (by decide) (by decide) (by decide) (by decide)]; exact q3.1
      · rw [fr3 1 1 (by decide) (by decide) (by decide) (by decide) (by decide) (by decide)]; exact q3.2.1
      · rw [fr3 2 i (by decide) (by decide) (by decide) (by decide) (by decide) (by decide), fr3 3 i (by decide) (by decide) (by decide) (by decide) (by decide) (by decide), fr3 4 i (by decide) (by decide) (by decide) (by decide) (by decide) (by decide)]; exact q3.2.2.1 i hi
      · rw [fr3 5 k (by decide) (by decide) (by decide) (by decide) (by decide) (by decide)]; exact q3.2.2.2.1 k hk
      · have hk : k < sN s := hk
        have hl : l < sN s := hl
        show M3 6 ((k : Int) * 9 + l) = (if k < v + 1 then mkE s k l else sE s k l)
        by_cases c : k = v
        · subst c
          rw [if_pos (by omega)]
          unfold mkE
          by_cases c2 : l = sB s k
          · have hq := q3.2.2.2.2 k l hk hl
            have hq : N 6 ((k : Int) * 9 + l) = (if k < k then mkE s k l else sE s k l) := hq
            rw [if_neg (Nat.lt_irrefl k), (f.2.2 k l hk hl).2 c2.symm] at hq
            rw [if_pos c2, d3 _ (fun p hp q => lab_ne (sB s k) p (by omega)), c3 6 _ (by decide) (by decide) (by decide) (by decide) (by omega)]; exact hq
          · have hpl : plc (sB s k) l < sN s - 1 := by unfold plc; split <;> omega
            have := d2 (plc (sB s k) l) hpl
            rw [lab_plc c2] at this
            rw [if_neg c2]; exact this
        · have hq : N 6 ((k : Int) * 9 + l) = (if k < v then mkE s k l else sE s k l) := q3.2.2.2.2 k l hk hl
          rw [d3 _ (fun p hp q => by
            have hl2 : lab (sB s v) p < sN s := by unfold lab; split <;> omega
            omega), c3 6 _ (by decide) (by decide) (by decide) (by decide) (by omega), hq]
          by_cases c2 : k < v
          · rw [if_pos c2, if_pos (by omega)]
          · rw [if_neg c2, if_neg (by omega)]
    refine ⟨((su (siz s) v : Int) + (siz s v : Int), (v : Int) + 1, M3), ?_, by dsimp only; rw [su]; omega, rfl, hS3, fun a i k1 k2 => ?_⟩
    · rw [f_X9_makeTables_36, chk_t (by omega), if_neg (by omega), chk_t (by omega), e5, c1, ob_s, d1, ob_s, d5, ob_s]
    · show M3 a i = _
      rw [fr3 a i k1 (by omega) (by omega) (by omega) (by omega) (by omega)]; exact q4 a i k1 k2
  · rintro fu ⟨y1, y2, N⟩ ⟨q1, q2, q3, q4⟩
    dsimp only at q1 q2 q3 q4 ⊢
    subst q1 q2
    have e1 : N 1 0 = sN s := q3.1
    refine ⟨N, by rw [f_X9_makeTables_36, chk_t (by omega), if_pos (by omega)], q3, fun a i k => ?_⟩
    rw [q4 a i (by omega) (by omega)]; exact a4 a i (by omega) (by omega)
  · have h1 : SC 1 M1 s := hS.fr (fun a i k1 k2 => a4 a i (by omega) (by omega))
    obtain ⟨b1, b2, b3, b4, b5⟩ := h1
    refine ⟨b1, b2, b3, b4, fun k l hk hl => ?_⟩
    show M1 6 _ = (if k < 0 then mkE s k l else sE s k l)
    rw [if_neg (Nat.not_lt_zero k)]; exact b5 k l hk hl
theorem rgE_mk {s : Sg} {v : Nat} (hv : v < sN s) : rgE (sMk s (sN s)) v = bstE s v := by
  funext p
  show (if v < sN s then mkE s v (lab (sB s v) p) else sE s v (lab (sB s v) p)) = bstE s v p
  rw [if_pos hv]
  unfold mkE
  rw [if_neg (lab_ne _ _), plc_lab]
theorem tsz_mk (s : Sg) : su (tsz (sMk s (sN s))) (sN s) = su (siz s) (sN s) := by
  apply su_congr
  intro v hv
  unfold tsz siz
  rw [rgE_mk hv]
theorem mstore_ok (hF : 100000 ≤ F) {s : Sg} (w : WN s) (hB : WB s) {v : Nat} (hv : v < sN s) {e : Nat → Int} (he : okE (sN s - 1) (sK s) e) (k15 : Int → Mem → Option (Int × Mem)) (M0 : Mem) (hR : RM M0 (sN s - 1) e (lab (sB s v))) : ∃ M', f_X10_makeTables_32 F k15 F v 0 M0 = k15 ((v : Int) + 1) M' ∧ (∀ p, p < sN s - 1 → M' 65 (59 + 9 * (v : Int) + lab (sB s v) p) = e p + 1) ∧ (∀ i, (∀ p, p < sN s - 1 → i ≠ 59 + 9 * (v : Int) + lab (sB s v) p) → M' 65 i = M0 65 i) ∧ ∀ a i, a ≠ 65 → M' a i = M0 a i := by
  have w1 := w.1
  have w2 := w.2.1
  have hb := hB.1 v hv
  obtain ⟨r1, r2, r3⟩ := hR
  refine lpe (f := fun fu (y : Int × Mem) => f_X10_makeTables_32 F k15 fu v y.1 y.2) (I := fun k y => y.1 = k ∧ (∀ p, p < k → y.2 65 (59 + 9 * (v : Int) + lab (sB s v) p) = e p + 1) ∧ (∀ i, (∀ p, p < k → i ≠ 59 + 9 * (v : Int) + lab (sB s v) p) → y.2 65 i = M0 65 i) ∧ ∀ a i, a ≠ 65 → y.2 a i = M0 a i) (Q := fun r => ∃ M', r = k15 ((v : Int) + 1) M' ∧ (∀ p, p < sN s - 1 → M' 65 (59 + 9 * (v : Int) + lab (sB s v) p) = e p + 1) ∧ (∀ i, (∀ p, p < sN s - 1 → i ≠ 59 + 9 * (v : Int) + lab (sB s v) p) → M' 65 i = M0 65 i) ∧ ∀ a i, a ≠ 65 → M' a i = M0 a i) (sN s - 1) ?_ ?_ (sN s - 1) 0 F (0, M0) (by omega) (by omega) ⟨rfl, fun p hp => absurd hp (Nat.not_lt_zero p), fun _ _ => rfl, fun _ _ _ => rfl⟩
  · rintro k fu ⟨y1, N⟩ hk ⟨q1, q2, q3, q4⟩
    dsimp only at q1 q2 q3 q4 ⊢
    subst q1
    right
    have hl : lab (sB s v) k < sN s := by unfold lab; split <;> omega
    have e44 : N 64 10 = ((sN s - 1 : Nat) : Int) := by rw [q4 64 10 (by decide)]; exact r1
    have e70 : N 70 k = e k := by rw [q4 70 k (by decide)]; exact r2 k hk
    have e71 : N 71 k = lab (sB s v) k := by rw [q4 71 k (by decide)]; exact r3 k hk
    have hek := he k hk
    have inj : ∀ p, p < k → lab (sB s v) p ≠ lab (sB s v) k := fun p hp q => by
      have := congrArg (plc (sB s v)) q
      rw [plc_lab, plc_lab] at this; omega
    refine ⟨((k : Int) + 1, mset N 65 (59 + 9 * (v : Int) + lab (sB s v) k) (e k + 1)), ?_, rfl, fun p hp => ?_, fun i hi => ?_, fun a i ha => ?_⟩
    · rw [f_X10_makeTables_32, chk_t (by omega), if_neg (by omega), chk_t (by omega), e71, chk_t (by omega), e70, chk_t (by omega)]
    · dsimp only
      by_cases q : p = k
      · subst q; rw [ms_eq]
      · have := inj p (by omega)
        rw [ms_i (by omega)]; exact q2 p (by omega)
    · dsimp only
      rw [ms_i (hi k (by omega))]; exact q3 i (fun p hp => hi p (by omega))
    · dsimp only; rw [ms_a ha]; exact q4 a i ha
  · rintro fu ⟨y1, N⟩ ⟨q1, q2, q3, q4⟩
    dsimp only at q1 q2 q3 q4 ⊢
    subst q1
    have e44 : N 64 10 = ((sN s - 1 : Nat) : Int) := by rw [q4 64 10 (by decide)]; exact r1
    exact ⟨N, by rw [f_X10_makeTables_32, chk_t (by omega), if_pos (by omega)], q2, q3, q4⟩
theorem mk_model (hF : 100000 ≤ F) {s : Sg} (f : WF s) (M0 : Mem) (hS : SM 65 0 M0 s) (hD : FM M0 (sN s) (dis s)) : ∃ M', f_X10_makeTables_15 F F 0 M0 = some ((su (siz s) (sN s) : Int), M') ∧ SM 65 0 M' (sMk s (sN s)) ∧ ∀ a i, a ≠ 65 → (a ≠ 64 ∨ i ≠ 10) → a ≠ 70 → a ≠ 71 → a ≠ 72 → a ≠ 73 → M' a i = M0 a i := by
  have w := f.1
  have w1 := w.1
  have w2 := w.2.1
  refine lpe (f := fun fu (y : Int × Mem) => f_X10_makeTables_15 F fu y.1 y.2) (I := fun v y => y.1 = v ∧ SM 65 0 y.2 (sMk s v) ∧ ∀ a i, a ≠ 65 → (a ≠ 64 ∨ i ≠ 10) → a ≠ 70 → a ≠ 71 → a ≠ 72 → a ≠ 73 → y.2 a i = M0 a i) (Q := fun r => ∃ M', r = some ((su (siz s) (sN s) : Int), M') ∧ SM 65 0 M' (sMk s (sN s)) ∧ ∀ a i, a ≠ 65 → (a ≠ 64 ∨ i ≠ 10) → a ≠ 70 → a ≠ 71 → a ≠ 72 → a ≠ 73 → M' a i = M0 a i) (sN s) ?_ ?_ (sN s) 0 F (0, M0) (by omega) (by omega) ⟨rfl, ?_, fun _ _ _ _ _ _ _ _ => rfl⟩
  · rintro v fu ⟨y1, N⟩ hv ⟨q1, q3, q4⟩
    dsimp only at q1 q3 q4 ⊢
    subst q1
    right
    have hb := f.2.1.1 v hv
    have e1 : N 65 0 = sN s := q3.1
    have g' : WG (sMk s v) := (WF_mk f v).g
    have hD2 : FM N (sN s) (dis (sMk s v)) := by
      rw [← dis_NE (NE_ent s (fun u l => if u < v then mkE s u l else sE s u l))]
      exact fun a b ha hb => by rw [q4 68 _ (by decide) (by omega) (by decide) (by decide) (by decide) (by decide)]; exact hD a b ha hb
    obtain ⟨M2, c1, c2, c3⟩ := mbest_ok hF g' hv N q3 hD2
    have c2 : RM M2 (sN s - 1) (bstE s v) (lab (sB s v)) := by
      have eb : bstE (sMk s v) v = bstE s v := (bstE_NE (NE_ent s (fun u l => if u < v then mkE s u l else sE s u l)) rfl v).symm
      have c2' : RM M2 (sN s - 1) (bstE (sMk s v) v) (lab (sB s v)) := c2
      rw [eb] at c2'; exact c2'
    obtain ⟨M3, d1, d2, d3, d4⟩ := mstore_ok hF w f.2.1 hv (bstE_ok w hv) (f_X10_makeTables_15 F fu) M2 c2
    have fr2 : ∀ i, M2 65 i = N 65 i := fun i => c3 65 i (by omega) (by decide) (by decide) (by decide) (by decide)
    have lo : ∀ i : Int, i < 59 → M3 65 i = N 65 i := fun i hi => by rw [d3 i (fun p hp => by omega), fr2 i]
    have hS3 : SM 65 0 M3 (sMk s (v + 1)) := by
      refine ⟨?_, ?_, fun i hi => ?_, fun k hk => ?_, fun k l hk hl => ?_⟩
      · rw [lo _ (by omega)]; exact q3.1
      · rw [lo _ (by omega)]; exact q3.2.1
      · have hi : i < sK s := hi
        rw [lo (0 + (2 + 3 * (i : Int))) (by omega), lo (0 + (3 + 3 * (i : Int))) (by omega), lo (0 + (4 + 3 * (i : Int))) (by omega)]; exact q3.2.2.1 i hi
      · have hk : k < sN s := hk
        rw [lo _ (by omega)]; exact q3.2.2.2.1 k hk
      · have hk : k < sN s := hk
        have hl : l < sN s := hl
        show M3 65 (0 + (59 + 9 * (k : Int) + l)) = (if k < v + 1 then mkE s k l else sE s k l) + 1
        rw [Int.zero_add]
        have hq : N 65 (59 + 9 * (k : Int) + l) = (if k < v then mkE s k l else sE s k l) + 1 := by have := q3.2.2.2.2 k l hk hl; rw [Int.zero_add] at this; exact this
        by_cases c : k = v
        · subst c
          rw [if_pos (by omega)]
          unfold mkE
          by_cases c2 : l = sB s k
          · rw [if_neg (Nat.lt_irrefl k), (f.2.2 k l hk hl).2 c2.symm] at hq
            rw [if_pos c2, d3 _ (fun p hp q => lab_ne (sB s k) p (by omega)), fr2]; exact hq
          · have hpl : plc (sB s k) l < sN s - 1 := by unfold plc; split <;> omega
            have := d2 (plc (sB s k) l) hpl
            rw [lab_plc c2] at this
            rw [if_neg c2]; exact this
        · rw [d3 _ (fun p hp q => by
            have hl2 : lab (sB s v) p < sN s := by unfold lab; split <;> omega
            omega), fr2, hq]
          by_cases c2 : k < v
          · rw [if_pos c2, if_pos (by omega)]
          · rw [if_neg c2, if_neg (by omega)]
    refine ⟨((v : Int) + 1, M3), ?_, rfl, hS3, fun a i k1 k2 k3 k4 k5 k6 => ?_⟩
    · rw [f_X10_makeTables_15, chk_t (by omega), if_neg (by omega), c1, ob_s, d1]
    · show M3 a i = _
      rw [d4 a i k1, c3 a i k2 k3 k4 k5 k6]; exact q4 a i k1 k2 k3 k4 k5 k6
  · rintro fu ⟨y1, N⟩ ⟨q1, q3, q4⟩
    dsimp only at q1 q3 q4 ⊢
    subst q1
    have e1 : N 65 0 = sN s := q3.1
    obtain ⟨M2, b1, b2⟩ := mnets_ok hF (WF_mk f (sN s)).g N q3
    have b1 : f_X10_netSize F N = some ((su (tsz (sMk s (sN s))) (sN s) : Int), M2) := b1
    rw [tsz_mk] at b1
    refine ⟨M2, by rw [f_X10_makeTables_15, chk_t (by omega), if_pos (by omega), b1, ob_s], q3.fr (fun j _ _ => b2 65 j (by omega) (by decide) (by decide)) (WF_mk f (sN s)).1, fun a i k1 k2 k3 k4 k5 k6 => (b2 a i k2 k3 k4).trans (q4 a i k1 k2 k3 k4 k5 k6)⟩
  · obtain ⟨b1, b2, b3, b4, b5⟩ := hS
    refine ⟨b1, b2, b3, b4, fun k l hk hl => ?_⟩
    show M0 65 _ = (if k < 0 then mkE s k l else sE s k l) + 1
    rw [if_neg (Nat.not_lt_zero k)]; exact b5 k l hk hl
theorem op_makeTables (hF : 100000 ≤ F) (w : WA A) (hC : JC M A) (hM : JM M A) : OpP (f_X9_makeTables F M) (f_X10_makeTables F) := by
  have hc : A.2.1 ≤ 4 := hC.2.1.1
  have wf := w.1
  have hb := su_bd1 wf.1 (sN A.1) (Nat.le_refl _)
  refine OpP.mk (r := su (siz A.1) (sN A.1)) (B := pushA A (sMk A.1 (sN A.1))) w (WA_push (c := 0) hc w (WF_mk wf _)) (by omega) hM ?_ (fun N h => ?_)
  · obtain ⟨M1, a1, a2, a3⟩ := csave hF w hC
    obtain ⟨h1, h2, ⟨h3, h4⟩, h5, h6⟩ := a2
    obtain ⟨M2, b1, b2, b3⟩ := mk_class hF wf M1 h1 h5
    refine ⟨M2, ?_, ⟨b2, h2.fr (fun a i q1 q2 => b3 a i (by omega)), ⟨by rw [b3 62 0 (by omega)]; exact h3, fun i hi => by rw [b3 63 i (by omega)]; exact h4 i hi⟩, WY_NE (NE_ent A.1 _) (h5.fr (fun a i q1 q2 => b3 a i (by omega))), SR_NE (NE_ent A.1 _) (h6.fr (fun a i q => b3 a i (by omega)))⟩, fun a i q1 q2 => by rw [b3 a i (by omega)]; exact a3 a i (by omega)⟩
    unfold f_X9_makeTables
    rw [a1, ob_s, b1]
  · obtain ⟨M1, a1, a2, a3⟩ := msave hF w (h.r3 w 0)
    obtain ⟨M2, b1, b2, b3⟩ := far_ok hF wf.1 M1 a2.1
    obtain ⟨M3, c1, c2, c3⟩ := mk_model hF wf M2 (a2.1.fr (fun j _ _ => b3 65 j (by decide)) wf.1) b2
    have ee : f_X10_makeTables F N = some ((su (siz A.1) (sN A.1) : Int), M3) := by
      unfold f_X10_makeTables
      rw [a1, ob_s, b1, ob_s, c1]
    refine ⟨M3, ee, a2.jm hc w c2 (fun a i q => ?_), fun a i q => cg_X10_makeTables ee a i (by omega)⟩
    rw [c3 a i (by omega) (by omega) (by omega) (by omega) (by omega) (by omega), b3 a i (by omega)]
end Tables
