/-! alike networks -/
def NE (s s' : Sg) : Prop := sN s = sN s' ∧ sK s = sK s' ∧ sF s = sF s' ∧ sS s = sS s' ∧ sL s = sL s'
theorem NE.sym {s s' : Sg} (h : NE s s') : NE s' s := ⟨h.1.symm, h.2.1.symm, h.2.2.1.symm, h.2.2.2.1.symm, h.2.2.2.2.symm⟩
theorem d0_NE {s s' : Sg} (h : NE s s') : ∀ i u v, d0 s i u v = d0 s' i u v
  | 0, _, _ => rfl
  | i + 1, u, v => by
    have ih := d0_NE h i u v
    obtain ⟨h1, h2, h3, h4, h5⟩ := h
    rw [d0, d0, ih, h3, h4, h5]
theorem dis_NE {s s' : Sg} (h : NE s s') : dis s = dis s' := by
  unfold dis
  have e : d0 s (sK s) = d0 s' (sK s') := by
    rw [h.2.1]; exact funext fun u => funext fun v => d0_NE h _ u v
  rw [e, h.1]
theorem tch_NE {s s' : Sg} (h : NE s s') (i v : Nat) : tch s i v = tch s' i v := by unfold tch; rw [h.2.2.1, h.2.2.2.1]
theorem oth_NE {s s' : Sg} (h : NE s s') (i v : Nat) : oth s i v = oth s' i v := by unfold oth; rw [h.2.2.1, h.2.2.2.1]
theorem gdb_NE {s s' : Sg} (h : NE s s') (v w : Nat) : gdb s v w = gdb s' v w := by
  funext i
  unfold gdb
  rw [tch_NE h, oth_NE h, dis_NE h, h.2.2.2.2]
theorem chP_NE {s s' : Sg} (h : NE s s') (v w : Nat) : chP s v w = chP s' v w := by
  funext x
  unfold chP
  rw [gdb_NE h, h.2.1]
theorem WN_NE {s s' : Sg} (h : NE s s') (w : WN s) : WN s' := by
  obtain ⟨h1, h2, h3, h4, h5⟩ := h
  unfold WN at w ⊢
  rw [← h1, ← h2, ← h3, ← h4, ← h5]; exact w
theorem WY_NE {M : Mem} {s s' : Sg} (h : NE s s') (y : WY M s) : WY M s' := by
  refine ⟨fun a b ha hb => ?_, fun v w hv hw => ?_⟩
  · rw [← dis_NE h]; exact y.1 a b (by rw [h.1]; exact ha) (by rw [h.1]; exact hb)
  · obtain ⟨g1, g2, g3⟩ := y.2 v w (by rw [h.1]; exact hv) (by rw [h.1]; exact hw)
    unfold GP
    rw [← gdb_NE h, ← chP_NE h, ← h.2.1]
    exact ⟨g1, g2, g3⟩
theorem NE.lab (s : Sg) (b : Nat → Nat) : NE s (sLab s b) := ⟨rfl, rfl, rfl, rfl, rfl⟩
/-! the search: what it finds -/
def mst (s : Sg) (v : Nat) : Nat := mxr (fun p => rof (sN s - 1) (bstE s v) (bstE s v p)) (sN s - 1)
def siz (s : Sg) (v : Nat) : Nat := ct (rb (sN s - 1) (bstE s v)) (sN s - 1)
def evc (s : Sg) : Nat := mxr (mst s) (sN s)
def evz (s : Sg) : Nat := su (siz s) (sN s)
abbrev Acc : Type := Nat × Nat × (Nat → Nat) × (Nat → Nat)
def up (c z : Nat) (b : Nat → Nat) (a : Acc) : Acc := if c < a.1 ∨ (c = a.1 ∧ z < a.2.1) then (c, z, b, fun k => if k = c then a.2.2.2 k + 1 else a.2.2.2 k) else (a.1, a.2.1, a.2.2.1, fun k => if k = c then a.2.2.2 k + 1 else a.2.2.2 k)
def sf (s : Sg) : Nat → List Nat → Acc → Acc
  | 0, _, a => a
  | f + 1, l, a => if pv (lf l) (sN s - 1) = 0 then up (evc (sLab s (lf l))) (evz (sLab s (lf l))) (lf l) a else sf s f (nxL (sN s) l) (up (evc (sLab s (lf l))) (evz (sLab s (lf l))) (lf l) a)
def srch (s : Sg) : Acc := sf s 720 (List.range (sN s)) (1000, 1000, fun _ => 0, fun _ => 0)
theorem mst_le (s : Sg) (v : Nat) : mst s v ≤ sN s - 1 := mxr_le (fun _ _ => rof_le _ _ _)
theorem siz_le (s : Sg) (v : Nat) : siz s v ≤ sN s - 1 := ct_le _ _
theorem evc_le (s : Sg) : evc s ≤ sN s - 1 := mxr_le (fun v _ => mst_le s v)
theorem su_bd1 {s : Sg} (w : WN s) (n : Nat) (hn : n ≤ sN s) : su (siz s) n ≤ 81 := by
  have h1 := su_bd (f := siz s) (c := 9) (n := n) (fun i _ => by have := siz_le s i; have := w.1; omega)
  have := w.1
  omega
/-! the search of the class -/
theorem eval_ok {F : Nat} (hF : 100000 ≤ F) {s : Sg} (w : WN s) (h6 : sN s ≤ 6) {b : Nat → Nat} (hb : PB (sN s) b) (M0 : Mem) (hY : WY M0 s) (hT : TR M0 (sN s) b) : ∃ M', f_X5_evaluate F (sN s) M0 = some M' ∧ M' 51 3 = evc (sLab s b) ∧ M' 51 4 = evz (sLab s b) ∧ ∀ a i, a ≠ 46 → a ≠ 47 → a ≠ 48 → a ≠ 49 → a ≠ 50 → (a ≠ 51 ∨ i ≠ 3 ∧ i ≠ 4) → a ≠ 55 → a ≠ 56 → M' a i = M0 a i := by
  have w1 := w.1
  have w' : WN (sLab s b) := WN_NE (NE.lab s b) w
  have hB' : WB (sLab s b) := hb
  obtain ⟨M1, a1, a2, a3, a4⟩ := seat_ok hF w' hB' (a := 52) (Or.inr ⟨rfl, rfl⟩) h6 M0 hT
  unfold f_X5_evaluate
  have a1 : f_X7_seat F 52 (sN s) M0 = some M1 := a1
  rw [a1, ob_s]
  refine lpe (f := fun fu (y : Int × Mem) => f_X5_evaluate_22 F fu (sN s) y.1 y.2) (I := fun v y => y.1 = v ∧ y.2 51 3 = mxr (mst (sLab s b)) v ∧ y.2 51 4 = su (siz (sLab s b)) v ∧ ∀ a i, a ≠ 48 → a ≠ 49 → a ≠ 50 → (a ≠ 51 ∨ i ≠ 3 ∧ i ≠ 4) → a ≠ 55 → a ≠ 56 → y.2 a i = M1 a i) (Q := fun r => ∃ M', r = some M' ∧ M' 51 3 = evc (sLab s b) ∧ M' 51 4 = evz (sLab s b) ∧ ∀ a i, a ≠ 46 → a ≠ 47 → a ≠ 48 → a ≠ 49 → a ≠ 50 → (a ≠ 51 ∨ i ≠ 3 ∧ i ≠ 4) → a ≠ 55 → a ≠ 56 → M' a i = M0 a i) (sN s) ?_ ?_ (sN s) 0 F (0, mset (mset M1 51 3 0) 51 4 0) (by omega) (by omega) ⟨rfl, ?_, ?_, fun a i _ _ _ k4 _ _ => ?_⟩
  · rintro v fu ⟨y1, M⟩ hv ⟨q1, q2, q3, q4⟩
    dsimp only at q1 q2 q3 q4 ⊢
    subst q1
    right
    have e2 : M 52 v = b v := by rw [q4 52 v (by decide) (by decide) (by decide) (by omega) (by decide) (by decide), a4 52 v (by omega) (by decide)]; exact hT v hv
    have hY2 : WY M (sLab s b) := WY_NE (NE.lab s b) (hY.fr (fun a i k1 k2 => by rw [q4 a i (by omega) (by omega) (by omega) (by omega) (by omega) (by omega), a4 a i (by omega) (by omega)]))
    obtain ⟨M2, c1, c2, c3⟩ := best_ok hF (t := 55) (Or.inr rfl) w' hB' hv M hY2 (by rw [q4 46 0 (by decide) (by decide) (by decide) (by omega) (by decide) (by decide)]; exact a2) (fun l hl => by rw [q4 47 l (by decide) (by decide) (by decide) (by omega) (by decide) (by decide)]; exact a3 l hl)
    have ho : okE (sN s - 1) (sK s) (bstE (sLab s b) v) := bstE_ok w' hv
    have w2 := w.2.1
    have d1 := mostRuns_eq hF (show sN s - 1 ≤ 9 by omega) c2 (fun p hp => by have := ho p hp; omega)
    have b1 := mst_le (sLab s b) v
    have b2 := siz_le (sLab s b) v
    have b3 := mxr_le (g := mst (sLab s b)) (c := sN s - 1) (n := v) (fun i _ => mst_le _ i)
    have b4 := su_bd1 w' v (by show v ≤ sN s; omega)
    have b1 : mst (sLab s b) v ≤ sN s - 1 := b1
    have b2 : siz (sLab s b) v ≤ sN s - 1 := b2
    have e3 : M2 51 3 = mxr (mst (sLab s b)) v := by rw [c3 51 3 (by decide) (by decide) (by decide) (by decide) (by decide)]; exact q2
    have e4 : M2 51 4 = su (siz (sLab s b)) v := by rw [c3 51 4 (by decide) (by decide) (by decide) (by decide) (by decide)]; exact q3
    have d1 : f_X4_mostRuns F 55 M2 = some (mst (sLab s b) v : Int) := d1
    have c2' : RC 55 (mset M2 51 3 (imax (M2 51 3) (mst (sLab s b) v : Int))) (sN s - 1) (bstE (sLab s b) v) := ⟨by rw [ms_a (by decide)]; exact c2.1, fun p hp => by rw [ms_a (by decide)]; exact c2.2 p hp⟩
    have d2 : f_X4_allRuns F 55 (mset M2 51 3 (imax (M2 51 3) (mst (sLab s b) v : Int))) = some (siz (sLab s b) v : Int) := allRuns_eq hF (show sN s - 1 ≤ 9 by omega) c2'
    have c1 : f_X7_fill F 55 v (b v : Int) M = some M2 := c1
    refine ⟨((v : Int) + 1, mset (mset M2 51 3 (imax (M2 51 3) (mst (sLab s b) v : Int))) 51 4 ((mset M2 51 3 (imax (M2 51 3) (mst (sLab s b) v : Int))) 51 4 + (siz (sLab s b) v : Int))), ?_, rfl, ?_, ?_, fun a i k1 k2 k3 k4 k5 k6 => ?_⟩
    · rw [f_X5_evaluate_22, chk_t (by omega), if_neg (by omega), chk_t (by omega), e2, c1, ob_s, d1, ob_s, chk_t (by omega), d2, ob_s, ms_i (by decide), e4, chk_t (by omega)]
    · dsimp only
      rw [ms_i (by decide), ms_eq, e3, imax_n]; rfl
    · dsimp only
      rw [ms_eq, ms_i (by decide), e4]; show _ = ((su _ (v + 1) : Nat) : Int); rw [su]; omega
    · dsimp only
      have : ∀ (N : Mem) (z : Int), mset N 51 4 z a i = N a i := by intro N z; unfold mset; rw [if_neg (by omega)]
      rw [this]
      have : ∀ (N : Mem) (z : Int), mset N 51 3 z a i = N a i := by intro N z; unfold mset; rw [if_neg (by omega)]
      rw [this, c3 a i k1 k2 k3 k6 (by omega)]; exact q4 a i k1 k2 k3 k4 k5 k6
  · rintro fu ⟨y1, M⟩ ⟨q1, q2, q3, q4⟩
    dsimp only at q1 q2 q3 q4 ⊢
    subst q1
    refine ⟨M, by rw [f_X5_evaluate_22, chk_t (by omega), if_pos (by omega)], q2, q3, fun a i k1 k2 k3 k4 k5 k6 k7 k8 => ?_⟩
    rw [q4 a i k3 k4 k5 k6 k7 k8]; exact a4 a i (by omega) k2
  · dsimp only; rw [ms_i (by decide), ms_eq]; rfl
  · dsimp only; rw [ms_eq]; rfl
  · dsimp only; unfold mset; rw [if_neg (by omega), if_neg (by omega)]
/-- what the class has noted -/
def SA (M : Mem) (n : Nat) (a : Acc) : Prop := M 51 0 = a.1 ∧ (a.1 = 1000 ∨ M 51 1 = a.2.1) ∧ (a.1 ≠ 1000 → ∀ v, v < n → M 53 v = a.2.2.1 v) ∧ ∀ k : Nat, k < 10 → M 54 k = a.2.2.2 k
theorem note_ok {M0 : Mem} {n : Nat} (hn : n ≤ 6) {a : Acc} (ha : a.1 ≤ 1000) {c z i : Nat} (hc : c < 10) {b : Nat → Nat} (hT : TR M0 n b) (h : SA M0 n a) (hi : i < 720) (ht : ∀ k, a.2.2.2 k ≤ i) (h3 : M0 51 3 = c) (h4 : M0 51 4 = z) : ∃ M', f_X5_note n M0 = some M' ∧ SA M' n (up c z b a) ∧ ∀ d j, (d ≠ 51 ∨ j ≠ 0 ∧ j ≠ 1) → d ≠ 53 → d ≠ 54 → M' d j = M0 d j := by
  obtain ⟨s1, s2, s3, s4⟩ := h
  have tc := ht c
  have e4 := s4 c hc
  -- the tally
  have g0 : ∀ j, mset M0 54 c ((a.2.2.2 c : Int) + 1) 51 j = M0 51 j := fun j => ms_a (by decide)
  have gt : ∀ k : Nat, k < 10 → mset M0 54 c ((a.2.2.2 c : Int) + 1) 54 k = ((if k = c then a.2.2.2 k + 1 else a.2.2.2 k : Nat) : Int) := by
    intro k hk
    by_cases e : k = c
    · subst e; rw [ms_eq, if_pos rfl]; rfl
    · rw [ms_i (by omega), if_neg e]; exact s4 k hk
  -- the better one taken
  have better : (c < a.1 ∨ (c = a.1 ∧ z < a.2.1)) → ∃ M', M' = mcpy (mset (mset (mset M0 54 c ((a.2.2.2 c : Int) + 1)) 51 0 ((mset M0 54 c ((a.2.2.2 c : Int) + 1)) 51 3)) 51 1 ((mset (mset M0 54 c ((a.2.2.2 c : Int) + 1)) 51 0 ((mset M0 54 c ((a.2.2.2 c : Int) + 1)) 51 3)) 51 4)) 52 0 53 0 n ∧ SA M' n (up c z b a) ∧ ∀ d j, (d ≠ 51 ∨ j ≠ 0 ∧ j ≠ 1) → d ≠ 53 → d ≠ 54 → M' d j = M0 d j := by
    intro hb
    have eu : up c z b a = (c, z, b, fun k => if k = c then a.2.2.2 k + 1 else a.2.2.2 k) := by unfold up; rw [if_pos hb]
    refine ⟨_, rfl, ?_, fun d j k1 k2 k3 => ?_⟩
    · rw [eu]
      refine ⟨?_, Or.inr ?_, fun _ v hv => ?_, fun k hk => ?_⟩
      · rw [mc_a (by decide), ms_i (by decide), ms_eq, g0]; exact h3
      · rw [mc_a (by decide), ms_eq, ms_i (by decide), g0]; exact h4
      · rw [mc_in (by omega), ms_a (by decide), ms_a (by decide), ms_a (by decide), show (0 : Int) + ((v : Int) - 0) = v by omega]; exact hT v hv
      · rw [mc_a (by decide), ms_a (by decide), ms_a (by decide)]; exact gt k hk
    · rw [mc_a k2]
      have : ∀ (N : Mem) (x : Int), mset N 51 1 x d j = N d j := by intro N x; unfold mset; rw [if_neg (by omega)]
      rw [this]
      have : ∀ (N : Mem) (x : Int), mset N 51 0 x d j = N d j := by intro N x; unfold mset; rw [if_neg (by omega)]
      rw [this, ms_a k3]
  have worse : ¬ (c < a.1 ∨ (c = a.1 ∧ z < a.2.1)) → SA (mset M0 54 c ((a.2.2.2 c : Int) + 1)) n (up c z b a) ∧ ∀ d j, (d ≠ 51 ∨ j ≠ 0 ∧ j ≠ 1) → d ≠ 53 → d ≠ 54 → mset M0 54 c ((a.2.2.2 c : Int) + 1) d j = M0 d j := by
    intro hb
    have eu : up c z b a = (a.1, a.2.1, a.2.2.1, fun k => if k = c then a.2.2.2 k + 1 else a.2.2.2 k) := by unfold up; rw [if_neg hb]
    refine ⟨?_, fun d j _ _ k3 => ms_a k3⟩
    rw [eu]
    refine ⟨by rw [g0]; exact s1, ?_, fun q v hv => by rw [ms_a (by decide)]; exact s3 q v hv, gt⟩
    rcases s2 with q | q
    · exact Or.inl q
    · right; rw [g0]; exact q
  unfold f_X5_note
  rw [h3, if_neg (by omega), chk_t (by omega), e4, chk_t (by omega)]
  unfold f_X5_note_22
  rw [g0 3, g0 0, h3, s1]
  by_cases k1 : c < a.1
  · obtain ⟨M', m1, m2, m3⟩ := better (Or.inl k1)
    rw [if_pos (by omega), chk_t (by omega)]
    refine ⟨M', ?_, m2, m3⟩
    rw [m1, g0 3, h3]
  · rw [if_neg (by omega)]
    by_cases k2 : c = a.1
    · rw [if_pos (by omega), g0 1, g0 4, h4]
      have s2' : M0 51 1 = a.2.1 := by rcases s2 with q | q; omega; exact q
      rw [s2']
      by_cases k3 : a.2.1 ≤ z
      · rw [if_pos (by omega)]
        obtain ⟨m2, m3⟩ := worse (by omega)
        exact ⟨_, rfl, m2, m3⟩
      · obtain ⟨M', m1, m2, m3⟩ := better (Or.inr ⟨k2, by omega⟩)
        rw [if_neg (by omega), chk_t (by omega)]
        refine ⟨M', ?_, m2, m3⟩
        rw [m1, g0 3, h3]
    · rw [if_neg (by omega)]
      obtain ⟨m2, m3⟩ := worse (by omega)
      exact ⟨_, rfl, m2, m3⟩
theorem up_1 {c z : Nat} {b : Nat → Nat} {a : Acc} (hc : c < 1000) (ha : a.1 ≤ 1000) : (up c z b a).1 < 1000 := by
  unfold up
  split
  · exact hc
  · rename_i h
    show a.1 < 1000
    omega
theorem up_t {c z : Nat} {b : Nat → Nat} {a : Acc} {i : Nat} (ht : ∀ k, a.2.2.2 k ≤ i) (k : Nat) : (up c z b a).2.2.2 k ≤ i + 1 := by
  have := ht k
  have e : (up c z b a).2.2.2 k = if k = c then a.2.2.2 k + 1 else a.2.2.2 k := by unfold up; split <;> rfl
  rw [e]; split <;> omega
theorem ens_loop {F : Nat} (hF : 100000 ≤ F) {s : Sg} (w : WN s) (h6 : sN s ≤ 6) : ∀ (f : Nat) (l : List Nat) (a : Acc) (i fu : Nat) (M0 : Mem), tmL f (sN s) l = true → i + f ≤ 720 → f < fu → PB (sN s) (lf l) → a.1 ≤ 1000 → (∀ k, a.2.2.2 k ≤ i) → WY M0 s → TR M0 (sN s) (lf l) → SA M0 (sN s) a → ∃ M', f_X5_ensure_58 F fu (sN s) 1 i M0 = some M' ∧ SA M' (sN s) (sf s f l a) ∧ ∀ d j, (d < 46 ∨ 56 < d ∨ (d = 51 ∧ j = 2)) → M' d j = M0 d j := by
  have w1 := w.1
  intro f
  induction f with
  | zero => intro l a i fu M0 h; cases h
  | succ f ih =>
    intro l a i fu M0 ht hi hfu hb ha htal hY hT hS
    obtain ⟨fu, rfl⟩ : ∃ g, fu = g + 2 := ⟨fu - 2, by omega⟩
    obtain ⟨M1, a1, a2, a3, a4⟩ := eval_ok hF w h6 hb M0 hY hT
    have hT1 : TR M1 (sN s) (lf l) := fun v hv => by rw [a4 52 v (by decide) (by decide) (by decide) (by decide) (by decide) (by omega) (by decide) (by decide)]; exact hT v hv
    have hS1 : SA M1 (sN s) a := by
      obtain ⟨s1, s2, s3, s4⟩ := hS
      have g : ∀ j, (j ≠ 3 ∧ j ≠ 4) → M1 51 j = M0 51 j := fun j hj => a4 51 j (by decide) (by decide) (by decide) (by decide) (by decide) (by omega) (by decide) (by decide)
      refine ⟨by rw [g 0 (by decide)]; exact s1, by rw [g 1 (by decide)]; exact s2, fun q v hv => ?_, fun k hk => ?_⟩
      · rw [a4 53 v (by decide) (by decide) (by decide) (by decide) (by decide) (by omega) (by decide) (by decide)]; exact s3 q v hv
      · rw [a4 54 k (by decide) (by decide) (by decide) (by decide) (by decide) (by omega) (by decide) (by decide)]; exact s4 k hk
    have hev : evc (sLab s (lf l)) ≤ sN s - 1 := evc_le (sLab s (lf l))
    obtain ⟨M2, b1, b2, b3⟩ := note_ok h6 ha (show evc (sLab s (lf l)) < 10 by omega) hT1 hS1 (show i < 720 by omega) htal a2 a3
    have hT2 : TR M2 (sN s) (lf l) := fun v hv => by rw [b3 52 v (by omega) (by decide) (by decide)]; exact hT1 v hv
    obtain ⟨M3, c1, c2, c3⟩ := next_ok hF h6 hb M2 hT2
    have hfr : ∀ d j, (d < 46 ∨ 56 < d ∨ (d = 51 ∧ j = 2)) → M3 d j = M0 d j := fun d j hd => by
      rw [c3 d j (by omega), b3 d j (by omega) (by omega) (by omega), a4 d j (by omega) (by omega) (by omega) (by omega) (by omega) (by omega) (by omega) (by omega)]
    have hS3 : SA M3 (sN s) (up (evc (sLab s (lf l))) (evz (sLab s (lf l))) (lf l) a) := by
      obtain ⟨s1, s2, s3, s4⟩ := b2
      exact ⟨by rw [c3 51 0 (by decide)]; exact s1, by rw [c3 51 1 (by decide)]; exact s2, fun q v hv => by rw [c3 53 v (by decide)]; exact s3 q v hv, fun k hk => by rw [c3 54 k (by decide)]; exact s4 k hk⟩
    by_cases c : pv (lf l) (sN s - 1) = 0
    · have e : sf s (f + 1) l a = up (evc (sLab s (lf l))) (evz (sLab s (lf l))) (lf l) a := by rw [sf, if_pos c]
      rw [if_pos c] at c1
      refine ⟨M3, ?_, by rw [e]; exact hS3, hfr⟩
      rw [f_X5_ensure_58, chk_t (by omega), if_neg (by omega), if_neg (by decide), a1, ob_s, b1, ob_s, c1, ob_s]
      dsimp only
      rw [f_X5_ensure_58, chk_t (by omega)]
      by_cases q : (720 : Int) ≤ (i : Int) + 1
      · rw [if_pos q]
      · rw [if_neg q, if_pos rfl]
    · have e : sf s (f + 1) l a = sf s f (nxL (sN s) l) (up (evc (sLab s (lf l))) (evz (sLab s (lf l))) (lf l) a) := by rw [sf, if_neg c]
      rw [if_neg c] at c1
      have ht2 : tmL f (sN s) (nxL (sN s) l) = true := by rw [tmL, if_neg c] at ht; exact ht
      obtain ⟨M4, d1, d2, d3⟩ := ih (nxL (sN s) l) (up (evc (sLab s (lf l))) (evz (sLab s (lf l))) (lf l) a) (i + 1) (fu + 1) M3 ht2 (by omega) (by omega) (hb.nxM c) (Nat.le_of_lt (up_1 (by omega) ha)) (up_t htal) (hY.fr (fun x j k1 k2 => hfr x j (by omega))) (fun v hv => by rw [lf_nx hv]; exact c2 c v hv) hS3
      refine ⟨M4, ?_, by rw [e]; exact d2, fun d j hd => (d3 d j hd).trans (hfr d j hd)⟩
      rw [f_X5_ensure_58, chk_t (by omega), if_neg (by omega), if_neg (by decide), a1, ob_s, b1, ob_s, c1, ob_s]
      exact d1
/-- the search is right, if it is known -/
def SR (M : Mem) (s : Sg) : Prop := M 51 2 = 0 ∨ (M 51 2 = 1 ∧ SA M (sN s) (srch s))
theorem ens_ok {F : Nat} (hF : 100000 ≤ F) {s : Sg} (w : WN s) (h6 : sN s ≤ 6) (M0 : Mem) (hY : WY M0 s) (hR : SR M0 s) : ∃ M', f_X5_ensure F (sN s) M0 = some M' ∧ M' 51 2 = 1 ∧ SA M' (sN s) (srch s) ∧ ∀ d j, (d < 46 ∨ 56 < d) → M' d j = M0 d j := by
  have w1 := w.1
  unfold f_X5_ensure
  rcases hR with h | ⟨h, hS⟩
  · have ha : alen 54 = 10 := rfl
    rw [if_pos h, fill_eq (n := 10) hF (by decide) ha (by decide), ob_s]
    refine lpe (f := fun fu (y : Int × Mem) => f_X5_ensure_31 F fu (sN s) y.1 y.2) (I := fun v y => y.1 = v ∧ (∀ u, u < v → y.2 52 u = u) ∧ ∀ d j, d ≠ 52 → y.2 d j = mfill (mset (mset M0 51 2 1) 51 0 1000) 54 0 10 (fun _ => 0) d j) (Q := fun r => ∃ M', r = some M' ∧ M' 51 2 = 1 ∧ SA M' (sN s) (srch s) ∧ ∀ d j, (d < 46 ∨ 56 < d) → M' d j = M0 d j) (sN s) ?_ ?_ (sN s) 0 F (0, mfill (mset (mset M0 51 2 1) 51 0 1000) 54 0 10 (fun _ => 0)) (by omega) (by omega) ⟨rfl, fun u hu => absurd hu (Nat.not_lt_zero u), fun _ _ _ => rfl⟩
    · rintro v fu ⟨y1, M⟩ hv ⟨q1, q2, q3⟩
      dsimp only at q1 q2 q3 ⊢
      subst q1
      right
      refine ⟨((v : Int) + 1, mset M 52 v v), ?_, rfl, fun u hu => ?_, fun d j hd => ?_⟩
      · rw [f_X5_ensure_31, chk_t (by omega), if_neg (by omega), chk_t (by omega)]
      · dsimp only
        by_cases e : u = v
        · subst e; rw [ms_eq]
        · rw [ms_i (by omega)]; exact q2 u (by omega)
      · dsimp only; rw [ms_a hd]; exact q3 d j hd
    · rintro fu ⟨y1, M⟩ ⟨q1, q2, q3⟩
      dsimp only at q1 q2 q3 ⊢
      subst q1
      have fr : ∀ d j, (d < 46 ∨ 56 < d) → M d j = M0 d j := fun d j hd => by
        rw [q3 d j (by omega), mf_a (by omega), ms_a (by omega), ms_a (by omega)]
      have k0 : M 51 0 = 1000 := by rw [q3 51 0 (by decide), mf_a (by decide), ms_eq]
      have k2 : M 51 2 = 1 := by rw [q3 51 2 (by decide), mf_a (by decide), ms_i (by decide), ms_eq]
      obtain ⟨M', d1, d2, d3⟩ := ens_loop hF w h6 720 (List.range (sN s)) (1000, 1000, fun _ => 0, fun _ => 0) 0 F M (tm_720 (sN s) h6) (by omega) (by omega) (PB.range _) (Nat.le_refl _) (fun _ => Nat.le_refl _) (hY.fr (fun x j k1 k2 => fr x j (by omega))) (fun v hv => by rw [lf_range hv]; exact q2 v hv) ⟨k0, Or.inl rfl, fun q => absurd rfl q, fun k hk => by rw [q3 54 k (by decide), mf_in (by omega)]; rfl⟩
      refine ⟨M', ?_, by rw [d3 51 2 (by omega)]; exact k2, d2, fun d j hd => (d3 d j (by omega)).trans (fr d j hd)⟩
      rw [f_X5_ensure_31, chk_t (by omega), if_pos (by omega)]; exact d1
  · rw [if_neg (by omega)]
    exact ⟨M0, rfl, h, hS, fun _ _ _ => rfl⟩
