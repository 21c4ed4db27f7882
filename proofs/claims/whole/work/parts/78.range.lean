/-! setRange -/
/-- the entries of a node and the count of the changed ones behind i steps -/
def sri (n own : Nat) (l : Int) (fr : Nat) (e : Nat → Int) : Nat → (Nat → Int) × Nat
  | 0 => (e, 0)
  | i + 1 => if pos n fr i = own ∨ (sri n own l fr e i).1 (pos n fr i) = l then sri n own l fr e i else (up1 (sri n own l fr e i).1 (pos n fr i) l, (sri n own l fr e i).2 + 1)
theorem sri_c (n own : Nat) (l : Int) (fr : Nat) (e : Nat → Int) : ∀ i, (sri n own l fr e i).2 ≤ i
  | 0 => Nat.le_refl _
  | i + 1 => by
    have := sri_c n own l fr e i
    rw [sri]
    split
    · omega
    · show (sri n own l fr e i).2 + 1 ≤ i + 1; omega
theorem sri_v {n own : Nat} {l : Int} {fr : Nat} {e : Nat → Int} : ∀ i k, (sri n own l fr e i).1 k = e k ∨ ((sri n own l fr e i).1 k = l ∧ k ≠ own)
  | 0, _ => Or.inl rfl
  | i + 1, k => by
    have ih := sri_v (n := n) (own := own) (l := l) (fr := fr) (e := e) i k
    rw [sri]
    split
    · exact ih
    · rename_i c
      show up1 (sri n own l fr e i).1 (pos n fr i) l k = _ ∨ (up1 (sri n own l fr e i).1 (pos n fr i) l k = _ ∧ _)
      by_cases q : k = pos n fr i
      · subst q
        rw [up1_eq]
        exact Or.inr ⟨rfl, fun z => c (Or.inl z)⟩
      · rw [up1_ne q]; exact ih
theorem emod_next9 {k m : Nat} (hk : k < m) (hm : m ≤ 9) : ((k : Int) + 1) % m = ((if k + 1 < m then k + 1 else 0 : Nat) : Int) := by
  have : m = 1 ∨ m = 2 ∨ m = 3 ∨ m = 4 ∨ m = 5 ∨ m = 6 ∨ m = 7 ∨ m = 8 ∨ m = 9 := by omega
  by_cases c : k + 1 < m
  · rw [if_pos c]
    rcases this with rfl | rfl | rfl | rfl | rfl | rfl | rfl | rfl | rfl <;> omega
  · rw [if_neg c]
    rcases this with rfl | rfl | rfl | rfl | rfl | rfl | rfl | rfl | rfl <;> omega
/-- how far the interval goes -/
def rch (n fr to : Nat) : Nat := if fr ≤ to then to - fr else to + n - fr
theorem rch_lt {n fr to : Nat} (h1 : fr < n) (h2 : to < n) : rch n fr to < n := by unfold rch; split <;> omega
theorem rch_pos {n fr to i : Nat} (h1 : fr < n) (h2 : to < n) (hi : i ≤ rch n fr to) : pos n fr i = to ↔ i = rch n fr to := by
  unfold rch at hi ⊢
  unfold pos
  by_cases c : fr ≤ to
  · rw [if_pos c] at hi ⊢
    by_cases c2 : fr + i < n
    · rw [if_pos c2]; omega
    · rw [if_neg c2]; omega
  · rw [if_neg c] at hi ⊢
    by_cases c2 : fr + i < n
    · rw [if_pos c2]; omega
    · rw [if_neg c2]; omega
/-- the state behind it -/
abbrev sRg (s : Sg) (v : Nat) (l : Int) (fr to : Nat) : Sg := sEnt s (fun u k => if u = v then (sri (sN s) (sB s v) l fr (sE s v) (rch (sN s) fr to + 1)).1 k else sE s u k)
theorem WF_rg {s : Sg} (f : WF s) {v : Nat} {l : Int} (hl : l = -1 ∨ ∃ i : Nat, i < sK s ∧ l = i ∧ tch s i v = true) (fr to : Nat) : WF (sRg s v l fr to) := by
  refine ⟨f.1, f.2.1, fun u k hu hk => ?_⟩
  have hf := f.2.2 u k hu hk
  show ((if u = v then (sri (sN s) (sB s v) l fr (sE s v) (rch (sN s) fr to + 1)).1 k else sE s u k) = -1 ∨ ∃ i : Nat, i < sK s ∧ (if u = v then (sri (sN s) (sB s v) l fr (sE s v) (rch (sN s) fr to + 1)).1 k else sE s u k) = i ∧ (sF s i = u ∨ sS s i = u)) ∧ (sB s u = k → (if u = v then (sri (sN s) (sB s v) l fr (sE s v) (rch (sN s) fr to + 1)).1 k else sE s u k) = -1)
  by_cases c : u = v
  · subst c
    rw [if_pos rfl]
    rcases sri_v (n := sN s) (own := sB s u) (l := l) (fr := fr) (e := sE s u) (rch (sN s) fr to + 1) k with h | ⟨h, hne⟩
    · rw [h]; exact hf
    · rw [h]
      refine ⟨?_, fun q => absurd q.symm hne⟩
      rcases hl with h | ⟨i, h1, h2, h3⟩
      · exact Or.inl h
      · exact Or.inr ⟨i, h1, h2, tch_iff.mp h3⟩
  · rw [if_neg c]; exact hf
section Ranges
variable {F : Nat} {M : Mem} {A : Ab} {x y z t : Int}
theorem range_class (hF : 100000 ≤ F) {s : Sg} (f : WF s) {v fr to : Nat} (hv : v < sN s) (hfr : fr < sN s) (hto : to < sN s) {l : Int} (hl : inR l) (M0 : Mem) (hS : SC 1 M0 s) : ∃ M', f_X6_setInterval F 1 v l fr to M0 = some (((sri (sN s) (sB s v) l fr (sE s v) (rch (sN s) fr to + 1)).2 : Int), M') ∧ SC 1 M' (sRg s v l fr to) ∧ ∀ a i, a ≠ 6 → M' a i = M0 a i := by
  have w1 := f.1.1
  have hb := f.2.1.1 v hv
  have hr := rch_lt hfr hto
  have e0 : M0 1 0 = sN s := hS.1
  have start : f_X6_setInterval F 1 v l fr to M0 = f_X6_setInterval_30 F 1 F v l fr (rch (sN s) fr to) 0 0 M0 := by
    unfold f_X6_setInterval rch
    rw [chk_t (by omega)]
    by_cases c : fr ≤ to
    · rw [if_neg (by omega), if_pos c, show ((to - fr : Nat) : Int) = (to : Int) - fr by omega]
    · rw [if_pos (by omega), if_neg c, e0, show ((to + sN s - fr : Nat) : Int) = (to : Int) - fr + sN s by omega]
  rw [start]
  refine lpe (f := fun fu (y : Int × Int × Mem) => f_X6_setInterval_30 F 1 fu v l fr (rch (sN s) fr to) y.1 y.2.1 y.2.2) (I := fun i y => y.1 = (sri (sN s) (sB s v) l fr (sE s v) i).2 ∧ y.2.1 = i ∧ (∀ k : Nat, k < sN s → y.2.2 6 ((v : Int) * 9 + k) = (sri (sN s) (sB s v) l fr (sE s v) i).1 k) ∧ (∀ i : Int, (i < (v : Int) * 9 ∨ (v : Int) * 9 + sN s ≤ i) → y.2.2 6 i = M0 6 i) ∧ ∀ a i, a ≠ 6 → y.2.2 a i = M0 a i) (Q := fun r => ∃ M', r = some (((sri (sN s) (sB s v) l fr (sE s v) (rch (sN s) fr to + 1)).2 : Int), M') ∧ SC 1 M' (sRg s v l fr to) ∧ ∀ a i, a ≠ 6 → M' a i = M0 a i) (rch (sN s) fr to + 1) ?_ ?_ (rch (sN s) fr to + 1) 0 F (0, 0, M0) (by omega) (by omega) ⟨rfl, rfl, fun k hk => hS.2.2.2.2 v k hv hk, fun _ _ => rfl, fun _ _ _ => rfl⟩
  · rintro i fu ⟨y1, y2, N⟩ hi ⟨q1, q2, q3, q4, q5⟩
    dsimp only at q1 q2 q3 q4 q5 ⊢
    subst q1 q2
    right
    have n0 : N 1 0 = sN s := by rw [q5 1 0 (by decide)]; exact e0
    have n5 : N 5 v = sB s v := by rw [q5 5 v (by decide)]; exact hS.2.2.2.1 v hv
    have hp := pos_lt (m := sN s) (p := fr) (i := i) hfr (by omega)
    have eN := q3 _ hp
    -- one step at the label
    have step : (if (pos (sN s) fr i : Int) = N 5 v then f_X6_setInterval_30 F 1 fu v l fr (rch (sN s) fr to) ((sri (sN s) (sB s v) l fr (sE s v) i).2 : Int) ((i : Int) + 1) N else chk (0 ≤ (v : Int) * 9 + (pos (sN s) fr i : Int) ∧ (v : Int) * 9 + (pos (sN s) fr i : Int) < 81) (if N 6 ((v : Int) * 9 + (pos (sN s) fr i : Int)) = l then f_X6_setInterval_30 F 1 fu v l fr (rch (sN s) fr to) ((sri (sN s) (sB s v) l fr (sE s v) i).2 : Int) ((i : Int) + 1) N else f_X6_setInterval_30 F 1 fu v l fr (rch (sN s) fr to) (((sri (sN s) (sB s v) l fr (sE s v) i).2 : Int) + 1) ((i : Int) + 1) (mset N 6 ((v : Int) * 9 + (pos (sN s) fr i : Int)) l))) = f_X6_setInterval_30 F 1 fu v l fr (rch (sN s) fr to) ((sri (sN s) (sB s v) l fr (sE s v) (i + 1)).2 : Int) ((i : Int) + 1) (if pos (sN s) fr i = sB s v ∨ (sri (sN s) (sB s v) l fr (sE s v) i).1 (pos (sN s) fr i) = l then N else mset N 6 ((v : Int) * 9 + (pos (sN s) fr i : Int)) l) := by
      rw [n5, sri]
      by_cases c1 : pos (sN s) fr i = sB s v
      · rw [if_pos (by omega), if_pos (Or.inl c1), if_pos (Or.inl c1)]
      · rw [if_neg (by omega), chk_t (by omega), eN]
        by_cases c2 : (sri (sN s) (sB s v) l fr (sE s v) i).1 (pos (sN s) fr i) = l
        · rw [if_pos c2, if_pos (Or.inr c2), if_pos (Or.inr c2)]
        · have hn : ¬ (pos (sN s) fr i = sB s v ∨ (sri (sN s) (sB s v) l fr (sE s v) i).1 (pos (sN s) fr i) = l) := by
            intro q; rcases q with q | q
            · exact c1 q
            · exact c2 q
          rw [if_neg c2, if_neg hn, if_neg hn]; rfl
    refine ⟨(((sri (sN s) (sB s v) l fr (sE s v) (i + 1)).2 : Int), (i : Int) + 1, if pos (sN s) fr i = sB s v ∨ (sri (sN s) (sB s v) l fr (sE s v) i).1 (pos (sN s) fr i) = l then N else mset N 6 ((v : Int) * 9 + (pos (sN s) fr i : Int)) l), ?_, rfl, rfl, fun k hk => ?_, fun j hj => ?_, fun a j ha => ?_⟩
    · rw [← step, f_X6_setInterval_30, chk_t (by omega), if_neg (by omega), chk_t (by omega)]
      by_cases c : fr + i < sN s
      · have ep : (pos (sN s) fr i : Int) = (fr : Int) + i := by unfold pos; rw [if_pos c]; rfl
        rw [if_neg (by omega), chk_t (by omega), ep]
      · have ep : (pos (sN s) fr i : Int) = (fr : Int) + i - N 1 0 := by unfold pos; rw [if_neg c]; omega
        rw [if_pos (by omega), chk_t (by omega), chk_t (by omega), ep]
    · dsimp only
      rw [sri]
      by_cases c : pos (sN s) fr i = sB s v ∨ (sri (sN s) (sB s v) l fr (sE s v) i).1 (pos (sN s) fr i) = l
      · rw [if_pos c, if_pos c]; exact q3 k hk
      · rw [if_neg c, if_neg c]
        show mset N 6 _ l 6 _ = up1 (sri (sN s) (sB s v) l fr (sE s v) i).1 (pos (sN s) fr i) l k
        by_cases q : k = pos (sN s) fr i
        · subst q; rw [ms_eq, up1_eq]
        · rw [ms_i (by omega), up1_ne q]; exact q3 k hk
    · dsimp only
      split
      · exact q4 j hj
      · rw [ms_i (by omega)]; exact q4 j hj
    · dsimp only
      split
      · exact q5 a j ha
      · rw [ms_a ha]; exact q5 a j ha
  · rintro fu ⟨y1, y2, N⟩ ⟨q1, q2, q3, q4, q5⟩
    dsimp only at q1 q2 q3 q4 q5 ⊢
    subst q1 q2
    refine ⟨N, by rw [f_X6_setInterval_30, chk_t (by omega), if_pos (by omega)], ?_, q5⟩
    obtain ⟨h1, h2, h3, h4, h5⟩ := hS
    refine ⟨?_, ?_, fun i hi => ?_, fun k hk => ?_, fun k m hk hm => ?_⟩
    · rw [q5 1 0 (by decide)]; exact h1
    · rw [q5 1 1 (by decide)]; exact h2
    · rw [q5 2 i (by decide), q5 3 i (by decide), q5 4 i (by decide)]; exact h3 i hi
    · rw [q5 5 k (by decide)]; exact h4 k hk
    · have hk : k < sN s := hk
      have hm : m < sN s := hm
      show N 6 ((k : Int) * 9 + m) = (if k = v then (sri (sN s) (sB s v) l fr (sE s v) (rch (sN s) fr to + 1)).1 m else sE s k m)
      by_cases c : k = v
      · subst c; rw [if_pos rfl]; exact q3 m hm
      · rw [if_neg c, q4 _ (by omega)]; exact h5 k m hk hm
theorem range_model (hF : 100000 ≤ F) {s : Sg} (f : WF s) {v fr to : Nat} (hv : v < sN s) (hfr : fr < sN s) (hto : to < sN s) {l : Int} (hl : -1 ≤ l ∧ l < 17) (M0 : Mem) (hS : SM 65 0 M0 s) : ∃ M', f_X10_setRange_95 F F v l to 0 fr 1 M0 = some (((sri (sN s) (sB s v) l fr (sE s v) (rch (sN s) fr to + 1)).2 : Int), M') ∧ SM 65 0 M' (sRg s v l fr to) ∧ ∀ a i, a ≠ 65 → M' a i = M0 a i := by
  have w1 := f.1.1
  have w2 := f.1.2.1
  have hb := f.2.1.1 v hv
  have hr := rch_lt hfr hto
  have e0 : M0 65 0 = sN s := hS.1
  have e5 := mlabel hS hv
  refine lpe (f := fun fu (y : Int × Int × Int × Mem) => f_X10_setRange_95 F fu v l to y.1 y.2.1 y.2.2.1 y.2.2.2) (I := fun i y => y.1 = (sri (sN s) (sB s v) l fr (sE s v) i).2 ∧ y.2.1 = pos (sN s) fr i ∧ y.2.2.1 = (if i ≤ rch (sN s) fr to then 1 else 0) ∧ (∀ k : Nat, k < sN s → y.2.2.2 65 (59 + 9 * (v : Int) + k) = (sri (sN s) (sB s v) l fr (sE s v) i).1 k + 1) ∧ (∀ i : Int, (i < 59 + 9 * (v : Int) ∨ 59 + 9 * (v : Int) + sN s ≤ i) → y.2.2.2 65 i = M0 65 i) ∧ ∀ a i, a ≠ 65 → y.2.2.2 a i = M0 a i) (Q := fun r => ∃ M', r = some (((sri (sN s) (sB s v) l fr (sE s v) (rch (sN s) fr to + 1)).2 : Int), M') ∧ SM 65 0 M' (sRg s v l fr to) ∧ ∀ a i, a ≠ 65 → M' a i = M0 a i) (rch (sN s) fr to + 1) ?_ ?_ (rch (sN s) fr to + 1) 0 F (0, fr, 1, M0) (by omega) (by omega) ⟨rfl, ?_, ?_, fun k hk => ?_, fun _ _ => rfl, fun _ _ _ => rfl⟩
  · rintro i fu ⟨y1, y2, y3, N⟩ hi ⟨q1, q2, q3, q4, q5, q6⟩
    dsimp only at q1 q2 q3 q4 q5 q6 ⊢
    rw [if_pos (by omega)] at q3
    subst q1 q2 q3
    right
    have n0 : N 65 0 = sN s := by rw [q5 0 (by omega)]; exact e0
    have n5 : N 65 (50 + (v : Int)) = sB s v := by rw [q5 _ (by omega)]; exact e5
    have hp := pos_lt (m := sN s) (p := fr) (i := i) hfr (by omega)
    have hpn := pos_next (m := sN s) (p := fr) (i := i) hfr (by omega)
    have em := emod_next9 hp w1
    rw [hpn] at em
    have eN := q4 _ hp
    have hsr : -1 ≤ (sri (sN s) (sB s v) l fr (sE s v) i).1 (pos (sN s) fr i) ∧ (sri (sN s) (sB s v) l fr (sE s v) i).1 (pos (sN s) fr i) < 17 := by
      rcases sri_v (n := sN s) (own := sB s v) (l := l) (fr := fr) (e := sE s v) i (pos (sN s) fr i) with h | h
      · rw [h]
        rcases (f.2.2 v _ hv hp).1 with h | ⟨j, h1, h2, -⟩ <;> omega
      · rw [h.1]; exact hl
    -- the step, whatever the mark
    have step : ∀ t0 : Int, inR t0 → f_X10_setRange_112 F (f_X10_setRange_95 F fu) v l to ((sri (sN s) (sB s v) l fr (sE s v) i).2 : Int) (pos (sN s) fr i : Int) t0 N = f_X10_setRange_95 F fu v l to ((sri (sN s) (sB s v) l fr (sE s v) (i + 1)).2 : Int) (pos (sN s) fr (i + 1) : Int) t0 (if pos (sN s) fr i = sB s v then N else mset N 65 (59 + 9 * (v : Int) + (pos (sN s) fr i : Int)) (l + 1)) := by
      intro t0 ht
      unfold f_X10_setRange_112
      rw [chk_t (by omega), chk_t (by omega), n5]
      by_cases c1 : pos (sN s) fr i = sB s v
      · rw [if_pos (by omega), n0, chk_t (by omega), em, sri, if_pos (Or.inl c1), if_pos c1]
      · have n1 : mset N 65 (59 + 9 * (v : Int) + (pos (sN s) fr i : Int)) (l + 1) 65 0 = sN s := by rw [ms_i (by omega)]; exact n0
        have ent : f_X10_entryAt v (pos (sN s) fr i : Int) N = some ((sri (sN s) (sB s v) l fr (sE s v) i).1 (pos (sN s) fr i)) := by
          unfold f_X10_entryAt
          rw [chk_t (by omega), eN]; congr 1; omega
        rw [if_neg (by omega), ent, ob_s, chk_t (by omega), sri, if_neg c1]
        by_cases c2 : (sri (sN s) (sB s v) l fr (sE s v) i).1 (pos (sN s) fr i) = l
        · rw [if_pos c2, chk_t (by omega), chk_t (by omega), n1, chk_t (by omega), em, if_pos (Or.inr c2), Int.add_zero]
        · have hn : ¬ (pos (sN s) fr i = sB s v ∨ (sri (sN s) (sB s v) l fr (sE s v) i).1 (pos (sN s) fr i) = l) := by
            intro q; rcases q with q | q
            · exact c1 q
            · exact c2 q
          rw [if_neg c2, chk_t (by omega), chk_t (by omega), n1, chk_t (by omega), em, if_neg hn]; rfl
    have fin : (∀ k : Nat, k < sN s → (if pos (sN s) fr i = sB s v then N else mset N 65 (59 + 9 * (v : Int) + (pos (sN s) fr i : Int)) (l + 1)) 65 (59 + 9 * (v : Int) + k) = (sri (sN s) (sB s v) l fr (sE s v) (i + 1)).1 k + 1) ∧ (∀ i' : Int, (i' < 59 + 9 * (v : Int) ∨ 59 + 9 * (v : Int) + sN s ≤ i') → (if pos (sN s) fr i = sB s v then N else mset N 65 (59 + 9 * (v : Int) + (pos (sN s) fr i : Int)) (l + 1)) 65 i' = M0 65 i') ∧ ∀ a i', a ≠ 65 → (if pos (sN s) fr i = sB s v then N else mset N 65 (59 + 9 * (v : Int) + (pos (sN s) fr i : Int)) (l + 1)) a i' = M0 a i' := by
      by_cases c1 : pos (sN s) fr i = sB s v
      · rw [if_pos c1, sri, if_pos (Or.inl c1)]; exact ⟨q4, q5, q6⟩
      · rw [if_neg c1]
        refine ⟨fun k hk => ?_, fun j hj => by rw [ms_i (by omega)]; exact q5 j hj, fun a j ha => by rw [ms_a ha]; exact q6 a j ha⟩
        rw [sri]
        by_cases c2 : (sri (sN s) (sB s v) l fr (sE s v) i).1 (pos (sN s) fr i) = l
        · rw [if_pos (Or.inr c2)]
          by_cases q : k = pos (sN s) fr i
          · subst q; rw [ms_eq, c2]
          · rw [ms_i (by omega)]; exact q4 k hk
        · have hn : ¬ (pos (sN s) fr i = sB s v ∨ (sri (sN s) (sB s v) l fr (sE s v) i).1 (pos (sN s) fr i) = l) := by
            intro q; rcases q with q | q
            · exact c1 q
            · exact c2 q
          rw [if_neg hn]
          show mset N 65 _ _ 65 _ = up1 (sri (sN s) (sB s v) l fr (sE s v) i).1 (pos (sN s) fr i) l k + 1
          by_cases q : k = pos (sN s) fr i
          · subst q; rw [ms_eq, up1_eq]
          · rw [ms_i (by omega), up1_ne q]; exact q4 k hk
    have hto2 := rch_pos hfr hto (show i ≤ rch (sN s) fr to by omega)
    rw [f_X10_setRange_95, chk_t (by omega), if_neg (by decide)]
    by_cases c : i = rch (sN s) fr to
    · rw [if_pos (by have := hto2.mpr c; omega), step 0 (by decide)]
      exact ⟨(((sri (sN s) (sB s v) l fr (sE s v) (i + 1)).2 : Int), (pos (sN s) fr (i + 1) : Int), 0, if pos (sN s) fr i = sB s v then N else mset N 65 (59 + 9 * (v : Int) + (pos (sN s) fr i : Int)) (l + 1)), rfl, rfl, rfl, by dsimp only; rw [if_neg (show ¬ i + 1 ≤ rch (sN s) fr to by omega)], fin⟩
    · rw [if_neg (fun q => c (hto2.mp (by omega))), step 1 (by decide)]
      exact ⟨(((sri (sN s) (sB s v) l fr (sE s v) (i + 1)).2 : Int), (pos (sN s) fr (i + 1) : Int), 1, if pos (sN s) fr i = sB s v then N else mset N 65 (59 + 9 * (v : Int) + (pos (sN s) fr i : Int)) (l + 1)), rfl, rfl, rfl, by dsimp only; rw [if_pos (show i + 1 ≤ rch (sN s) fr to by omega)], fin⟩
  · rintro fu ⟨y1, y2, y3, N⟩ ⟨q1, q2, q3, q4, q5, q6⟩
    dsimp only at q1 q2 q3 q4 q5 q6 ⊢
    rw [if_neg (by omega)] at q3
    subst q1 q2 q3
    have hpl : pos (sN s) fr (rch (sN s) fr to + 1) < sN s := pos_lt hfr (by omega)
    refine ⟨N, by rw [f_X10_setRange_95, chk_t (by omega), if_pos rfl], ?_, q6⟩
    obtain ⟨h1, h2, h3, h4, h5⟩ := hS
    refine ⟨?_, ?_, fun i hi => ?_, fun k hk => ?_, fun k m hk hm => ?_⟩
    · rw [q5 _ (by omega)]; exact h1
    · rw [q5 _ (by omega)]; exact h2
    · have hi : i < sK s := hi
      rw [q5 _ (by omega), q5 _ (by omega), q5 _ (by omega)]; exact h3 i hi
    · have hk : k < sN s := hk
      rw [q5 _ (by omega)]; exact h4 k hk
    · have hk : k < sN s := hk
      have hm : m < sN s := hm
      show N 65 (0 + (59 + 9 * (k : Int) + m)) = (if k = v then (sri (sN s) (sB s v) l fr (sE s v) (rch (sN s) fr to + 1)).1 m else sE s k m) + 1
      rw [Int.zero_add]
      by_cases c : k = v
      · subst c; rw [if_pos rfl]; exact q4 m hm
      · rw [if_neg c, q5 _ (by omega)]
        have := h5 k m hk hm
        rw [Int.zero_add] at this; exact this
  · show (fr : Int) = ((pos (sN s) fr 0 : Nat) : Int)
    unfold pos; rw [if_pos (by omega)]; rfl
  · show (1 : Int) = _
    rw [if_pos (Nat.zero_le _)]
  · show M0 65 _ = sE s v k + 1
    have := hS.2.2.2.2 v k hv hk
    rw [Int.zero_add] at this; exact this
theorem op_setRange (hF : 100000 ≤ F) (w : WA A) (hC : JC M A) (hM : JM M A) (hx : inR x) (hy : inR y) (hz : inR z) (ht : inR t) : OpK (f_L_setRange F x y z t M) (f_X10_setRange F x y z t) := by
  have hc : A.2.1 ≤ 4 := hC.2.1.1
  have hS := hC.1
  have wf := w.1
  have wn := w.1.1
  have w1 := wn.1
  have w2 := wn.2.1
  have ref1 : ∀ M1, f_X10_setRange_43 F x y z t 0 M1 = some (0, mset M1 64 3 1) := by
    intro M1
    unfold f_X10_setRange_43
    rw [chk_t (by omega), if_pos rfl, rf_p (by decide) (by decide) (fun q => ob (f_X10_saves F q.2) fun q40 => f_X10_setRange_95 F F x y t 0 z 1 q40)]
  by_cases c : 0 ≤ x ∧ x < sN A.1
  · by_cases d : y = -1 ∨ (0 ≤ y ∧ y < sK A.1)
    · -- behind the questions for node and link
      have hc15 : f_X9_setRange F x y z t M = f_X9_setRange_15 F x y z t M := by
        unfold f_X9_setRange
        rw [chk_t hy, nN_t hS wn c, ob_s, ox_inr]
        by_cases k : y = -1
        · rw [if_pos k]
        · rw [if_neg k, nL_t hS wn (by omega), ob_s, ox_inr]
      by_cases e1 : 0 ≤ z ∧ z < sN A.1
      · by_cases e2 : 0 ≤ t ∧ t < sN A.1
        · have hm43 : ∀ N, JM N A → f_X10_setRange F x y z t N = f_X10_setRange_43 F x y z t 1 N := by
            intro N h
            unfold f_X10_setRange
            rw [chk_t hy, mN_t h.1 wn c]
            by_cases k : y = -1
            · rw [if_pos k, mN_t h.1 wn e1, mN_t h.1 wn e2]
            · rw [if_neg k, mL_t h.1 wn (by omega), mN_t h.1 wn e1, mN_t h.1 wn e2]
          obtain ⟨v, rfl⟩ : ∃ k : Nat, x = k := ⟨x.toNat, by omega⟩
          obtain ⟨fr, rfl⟩ : ∃ k : Nat, z = k := ⟨z.toNat, by omega⟩
          obtain ⟨to, rfl⟩ : ∃ k : Nat, t = k := ⟨t.toNat, by omega⟩
          have hv : v < sN A.1 := by omega
          have hfr : fr < sN A.1 := by omega
          have hto : to < sN A.1 := by omega
          have hcc := sri_c (sN A.1) (sB A.1 v) y fr (sE A.1 v) (rch (sN A.1) fr to + 1)
          have hrl := rch_lt hfr hto
          -- the interval is set
          have go : (y = -1 ∨ ∃ i : Nat, i < sK A.1 ∧ y = i ∧ tch A.1 i v = true) → OpK (f_L_setRange F v y fr to M) (f_X10_setRange F v y fr to) := by
            intro hl
            refine OpK.mk (k := 0) (r := (sri (sN A.1) (sB A.1 v) y fr (sE A.1 v) (rch (sN A.1) fr to + 1)).2) (B := pushA A (sRg A.1 v y fr to)) w (WA_push (c := 0) hc w (WF_rg wf hl fr to)) (by decide) (fun _ => by omega) hM ?_ (fun N h => ?_)
            · obtain ⟨M1, a1, a2, a3⟩ := csave hF w hC
              obtain ⟨h1, h2, ⟨h3, h4⟩, h5, h6⟩ := a2
              obtain ⟨M2, b1, b2, b3⟩ := range_class hF wf hv hfr hto hy M1 h1
              have hJ : JC M2 (pushA A (sRg A.1 v y fr to)) := ⟨b2, h2.fr (fun a i q1 q2 => b3 a i (by omega)), ⟨by rw [b3 62 0 (by decide)]; exact h3, fun i hi => by rw [b3 63 i (by decide)]; exact h4 i hi⟩, WY_NE (NE_ent A.1 _) (h5.fr (fun a i q1 q2 => b3 a i (by omega))), SR_NE (NE_ent A.1 _) (h6.fr (fun a i q => b3 a i (by omega)))⟩
              refine ⟨mset M2 1079 0 (sri (sN A.1) (sB A.1 v) y fr (sE A.1 v) (rch (sN A.1) fr to + 1)).2, ?_, hJ.fr (fun a i q => ms_a (by omega)), fun a i q1 q2 => ?_, fun _ => ms_eq _ _ _ _⟩
              · have ee : f_X9_setRange F v y fr to M = some (.inr (((sri (sN A.1) (sB A.1 v) y fr (sE A.1 v) (rch (sN A.1) fr to + 1)).2 : Nat) : Int), M2) := by
                  rw [hc15]
                  unfold f_X9_setRange_15
                  rw [chk_t hy, nB_t hS wn e1, ob_s, ox_inr, nB_t hS wn e2, ob_s, ox_inr]
                  rcases hl with hl | ⟨i, i1, i2, i3⟩
                  · rw [if_pos hl, a1, ob_s, b1, ob_s]
                  · rw [if_neg (by omega)]
                    have ht := tch_eq hS wn i1 (show v < 100 by omega)
                    rw [← i2, i3] at ht
                    rw [ht, ob_s, chk_t (bi_R _), if_neg (by decide), a1, ob_s, b1, ob_s]
                unfold f_L_setRange
                rw [ee, ob_s]
                dsimp only
                rw [ox_inr, chk_t (by omega)]
              · rw [ms_a (by omega), b3 a i (by omega)]; exact a3 a i (by omega)
            · obtain ⟨M1, a1, a2, a3⟩ := msave hF w (h.r3 w 0)
              obtain ⟨M2, b1, b2, b3⟩ := range_model hF wf hv hfr hto (l := y) (by clear hl; omega) M1 a2.1
              have ee : f_X10_setRange F v y fr to N = some (((sri (sN A.1) (sB A.1 v) y fr (sE A.1 v) (rch (sN A.1) fr to + 1)).2 : Int), M2) := by
                rw [hm43 N h]
                unfold f_X10_setRange_43
                rw [chk_t (by omega), if_neg (by decide)]
                rcases hl with hl | ⟨i, i1, i2, i3⟩
                · rw [if_pos hl, rf_0]
                  dsimp only
                  rw [a1, ob_s, b1]
                · rw [if_neg (by omega)]
                  have ht := misOf h.1 wn i1 (show v < 100 by omega)
                  rw [← i2, i3] at ht
                  rw [ht, ob_s, chk_t (bi_R _), if_neg (by decide), rf_0]
                  dsimp only
                  rw [a1, ob_s, b1]
              refine ⟨_, M2, ee, a2.jm hc w b2 (fun a i q => b3 a i (by omega)), ?_, fun a i q => cg_X10_setRange ee a i (by omega), fun _ => rfl⟩
              rw [b3 64 3 (by decide), a3 64 3 (by omega) (by decide), ms_eq]
          by_cases k : y = -1
          · exact go (Or.inl k)
          · obtain ⟨i, i2⟩ : ∃ k : Nat, y = k := ⟨y.toNat, by omega⟩
            have i1 : i < sK A.1 := by omega
            cases i3 : tch A.1 i v with
            | true => exact go (Or.inr ⟨i, i1, i2, i3⟩)
            | false =>
              refine OpK.no (k := 2) w hC hM (by decide) (by decide) ?_ (fun M1 h => ?_)
              · have ht := tch_eq hS wn i1 (show v < 100 by omega)
                rw [← i2, i3] at ht
                unfold f_L_setRange
                rw [hc15]
                unfold f_X9_setRange_15
                rw [chk_t hy, nB_t hS wn e1, ob_s, ox_inr, nB_t hS wn e2, ob_s, ox_inr, if_neg k, ht, ob_s, chk_t (bi_R _), if_pos (by decide), ob_s, ox_inl, if_neg (by decide), if_pos rfl]
              · have ht := misOf h.1 wn i1 (show v < 100 by omega)
                rw [← i2, i3] at ht
                rw [hm43 M1 h]
                unfold f_X10_setRange_43
                rw [chk_t (by omega), if_neg (by decide), if_neg k, ht, ob_s, chk_t (bi_R _), if_pos (by decide), rf_p (by decide) (by decide) (fun q => ob (f_X10_saves F q.2) fun q32 => f_X10_setRange_95 F F v y to 0 fr 1 q32)]
        · refine OpK.no (k := 1) w hC hM (by decide) (by decide) ?_ (fun M1 h => ?_)
          · unfold f_L_setRange
            rw [hc15]
            unfold f_X9_setRange_15
            rw [chk_t hy, nB_t hS wn e1, ob_s, ox_inr, nB_f hS ht e2, ob_s, ox_inl, ob_s, ox_inl, if_pos rfl]
          · unfold f_X10_setRange
            rw [chk_t hy, mN_t h.1 wn c]
            by_cases k : y = -1
            · rw [if_pos k, mN_t h.1 wn e1, mN_f h.1 wn ht e2, ref1]
            · rw [if_neg k, mL_t h.1 wn (by omega), mN_t h.1 wn e1, mN_f h.1 wn ht e2, ref1]
      · refine OpK.no (k := 1) w hC hM (by decide) (by decide) ?_ (fun M1 h => ?_)
        · unfold f_L_setRange
          rw [hc15]
          unfold f_X9_setRange_15
          rw [chk_t hy, nB_f hS hz e1, ob_s, ox_inl, ob_s, ox_inl, if_pos rfl]
        · unfold f_X10_setRange
          rw [chk_t hy, mN_t h.1 wn c]
          by_cases k : y = -1
          · rw [if_pos k, mN_f h.1 wn hz e1, ref1]
          · rw [if_neg k, mL_t h.1 wn (by omega), mN_f h.1 wn hz e1, ref1]
    · refine OpK.no (k := 1) w hC hM (by decide) (by decide) ?_ (fun M1 h => ?_)
      · unfold f_L_setRange f_X9_setRange
        rw [chk_t hy, nN_t hS wn c, ob_s, ox_inr, if_neg (by omega), nL_f hS hy (by omega), ob_s, ox_inl, ob_s, ox_inl, if_pos rfl]
      · unfold f_X10_setRange
        rw [chk_t hy, mN_t h.1 wn c, if_neg (by omega), mL_f h.1 wn hy (by omega), ref1]
  · refine OpK.no (k := 1) w hC hM (by decide) (by decide) ?_ (fun M1 h => ?_)
    · unfold f_L_setRange f_X9_setRange
      rw [chk_t hy, nN_f hS hx c, ob_s, ox_inl, ob_s, ox_inl, if_pos rfl]
    · unfold f_X10_setRange
      rw [chk_t hy, mN_f h.1 wn hx c, ref1]
end Ranges
