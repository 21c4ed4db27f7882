/-! the class's distances -/
theorem tch_iff {s : Sg} {i v : Nat} : tch s i v = true ↔ sF s i = v ∨ sS s i = v := by
  unfold tch; simp only [Bool.or_eq_true, decide_eq_true_eq]
theorem ends_of {s : Sg} (w : WN s) {i x : Nat} (hi : i < sK s) (ht : tch s i x = true) : (x = sF s i ∧ oth s i x = sS s i) ∨ (x = sS s i ∧ oth s i x = sF s i) := by
  have h3 := (w.2.2.1 i hi).2.2.1
  rcases tch_iff.mp ht with h | h
  · left; refine ⟨h.symm, ?_⟩; unfold oth; rw [if_pos h]
  · right; refine ⟨h.symm, ?_⟩; unfold oth; rw [if_neg (by omega)]
def d0 (s : Sg) : Nat → Nat → Nat → Nat
  | 0, u, v => if u = v then 0 else 1000
  | i + 1, u, v => if (u = sF s i ∧ v = sS s i) ∨ (u = sS s i ∧ v = sF s i) then sL s i else d0 s i u v
theorem d0_I {s : Sg} (w : WN s) : fwI s 0 (d0 s (sK s)) := by
  have h0 : ∀ i, i ≤ sK s → ∀ u, d0 s i u u = 0 := by
    intro i
    induction i with
    | zero => intro _ u; unfold d0; rw [if_pos rfl]
    | succ i ih =>
      intro hi u
      have hw := w.2.2.1 i (by omega)
      unfold d0
      rw [if_neg (by omega)]
      exact ih (by omega) u
  have h1 : ∀ i, i ≤ sK s → ∀ u v, d0 s i u v ≤ 1000 := by
    intro i
    induction i with
    | zero => intro _ u v; unfold d0; split <;> omega
    | succ i ih =>
      intro hi u v
      have hw := w.2.2.1 i (by omega)
      have := ih (by omega) u v
      unfold d0
      split <;> omega
  have h2 : ∀ i, i ≤ sK s → ∀ u v, d0 s i u v < 1000 → Way s u v (d0 s i u v) := by
    intro i
    induction i with
    | zero =>
      intro _ u v h
      unfold d0 at h ⊢
      by_cases e : u = v
      · subst e; rw [if_pos rfl]; exact Way.nil u
      · rw [if_neg e] at h; omega
    | succ i ih =>
      intro hi u v h
      have hw := w.2.2.1 i (by omega)
      unfold d0 at h ⊢
      by_cases c : (u = sF s i ∧ v = sS s i) ∨ (u = sS s i ∧ v = sF s i)
      · rw [if_pos c]
        rcases c with ⟨e1, e2⟩ | ⟨e1, e2⟩
        · have ht : tch s i u = true := tch_iff.mpr (Or.inl e1.symm)
          have := Way.link (s := s) (by omega : i < sK s) ht
          have e : oth s i u = v := by unfold oth; rw [if_pos e1.symm, e2]
          rw [e] at this; exact this
        · have ht : tch s i u = true := tch_iff.mpr (Or.inr e1.symm)
          have := Way.link (s := s) (by omega : i < sK s) ht
          have e : oth s i u = v := by unfold oth; rw [if_neg (by omega), e2]
          rw [e] at this; exact this
      · rw [if_neg c] at h ⊢
        exact ih (by omega) u v h
  have h3 : ∀ i x, i < sK s → tch s i x = true → ∀ m, i < m → m ≤ sK s → d0 s m x (oth s i x) ≤ sL s i := by
    intro i x hi ht m
    have he := ends_of w hi ht
    have hw := w.2.2.1 i hi
    induction m with
    | zero => intro h; omega
    | succ m ih =>
      intro hm hmk
      unfold d0
      by_cases e : m = i
      · subst e
        rw [if_pos (by omega)]; exact Nat.le_refl _
      · have hd := w.2.2.2 m i (by omega) (by omega)
        rw [if_neg (by omega)]
        exact ih (by omega) (by omega)
  exact ⟨fun u _ => h0 _ (Nat.le_refl _) u, fun u v _ _ => h1 _ (Nat.le_refl _) u v, fun u v _ _ => h2 _ (Nat.le_refl _) u v, fun x i _ hi ht => h3 i x hi ht _ hi (Nat.le_refl _), fun k u v hk => absurd hk (Nat.not_lt_zero k)⟩
/-- the distances; 1000 where there is none -/
def dis (s : Sg) : Nat → Nat → Nat := fwa (d0 s (sK s)) (sN s)
theorem dis_D {s : Sg} (w : WN s) : isDist s (dis s) := fwI_dist w (fwI_a w (d0_I w) (sN s) (Nat.le_refl _))
theorem dis_le {s : Sg} (w : WN s) {u v : Nat} (hu : u < sN s) (hv : v < sN s) : dis s u v ≤ 1000 := (dis_D w u v hu hv).1
def MD (M : Mem) (n : Nat) (D : Nat → Nat → Nat) : Prop := ∀ u v, u < n → v < n → M 40 ((u : Int) * 9 + v) = D u v
def mx (m : Nat) (D : Nat → Nat → Nat) (u v : Nat) : Nat → Nat → Nat := fun a b => if a < u ∨ (a = u ∧ b < v) then fws m D a b else D a b
theorem fws_c {m : Nat} {D : Nat → Nat → Nat} (h0 : D m m = 0) (a : Nat) : fws m D a m = D a m := by unfold fws; split <;> omega
theorem fws_r {m : Nat} {D : Nat → Nat → Nat} (h0 : D m m = 0) (b : Nat) : fws m D m b = D m b := by unfold fws; split <;> omega
theorem mx_c {m : Nat} {D : Nat → Nat → Nat} (h0 : D m m = 0) (u v a : Nat) : mx m D u v a m = D a m := by unfold mx; rw [fws_c h0, ite_self]
theorem mx_r {m : Nat} {D : Nat → Nat → Nat} (h0 : D m m = 0) (u v b : Nat) : mx m D u v m b = D m b := by unfold mx; rw [fws_r h0, ite_self]
theorem short_in {F n m u : Nat} {D : Nat → Nat → Nat} (hF : 100000 ≤ F) (hn : n ≤ 9) (hm : m < n) (hu : u < n) (hD : ∀ a b, a < n → b < n → D a b ≤ 1000) (h0 : D m m = 0) (k2 : Int → Int → Int → Mem → Option Mem) (M0 : Mem) (hM : MD M0 n (mx m D u 0)) : ∃ M', f_X8_shortenOver_10 F k2 F m n u 0 M0 = k2 m n ((u : Int) + 1) M' ∧ MD M' n (mx m D (u + 1) 0) ∧ ∀ a i, a ≠ 40 → M' a i = M0 a i := by
  refine lpe (f := fun fu (x : Int × Mem) => f_X8_shortenOver_10 F k2 fu m n u x.1 x.2) (I := fun v x => x.1 = v ∧ MD x.2 n (mx m D u v) ∧ ∀ a i, a ≠ 40 → x.2 a i = M0 a i) (Q := fun r => ∃ M', r = k2 m n ((u : Int) + 1) M' ∧ MD M' n (mx m D (u + 1) 0) ∧ ∀ a i, a ≠ 40 → M' a i = M0 a i) n ?_ ?_ n 0 F (0, M0) (by omega) (by omega) ⟨rfl, hM, fun _ _ _ => rfl⟩
  · rintro v fu ⟨x1, M⟩ hv ⟨h1, hM, hf⟩
    dsimp only at h1 hM hf ⊢
    subst h1
    right
    have b1 : f_X8_between u m M = some (D u m : Int) := by
      unfold f_X8_between; rw [chk_t (by omega), hM u m hu hm, mx_c h0]
    have b2 : f_X8_between m v M = some (D m v : Int) := by
      unfold f_X8_between; rw [chk_t (by omega), hM m v hm hv, mx_r h0]
    have b3 : f_X8_between u v M = some (D u v : Int) := by
      unfold f_X8_between; rw [chk_t (by omega), hM u v hu hv]; unfold mx; rw [if_neg (by omega)]
    have d1 := hD u m hu hm
    have d2 := hD m v hm hv
    have d3 := hD u v hu hv
    rw [f_X8_shortenOver_10, chk_t (by omega), if_neg (by omega), b1, ob_s, b2, ob_s, b3, ob_s, chk_t (by omega), chk_t (by omega)]
    by_cases c : D u v ≤ D u m + D m v
    · rw [if_pos (by omega)]
      refine ⟨((v : Int) + 1, M), rfl, rfl, fun a b ha hb => ?_, hf⟩
      show M 40 _ = _; rw [hM a b ha hb]
      unfold mx
      by_cases e : a = u ∧ b = v
      · obtain ⟨rfl, rfl⟩ := e
        rw [if_neg (by omega), if_pos (by omega)]
        unfold fws; rw [if_neg (by omega)]
      · by_cases e2 : a < u ∨ (a = u ∧ b < v)
        · rw [if_pos e2, if_pos (by omega)]
        · rw [if_neg e2, if_neg (by omega)]
    · rw [if_neg (by omega), chk_t (by omega)]
      refine ⟨((v : Int) + 1, mset M 40 ((u : Int) * 9 + v) (D u m + D m v)), rfl, rfl, fun a b ha hb => ?_, fun a i ha => ?_⟩
      · by_cases e : a = u ∧ b = v
        · obtain ⟨rfl, rfl⟩ := e
          show mset M 40 ((a : Int) * 9 + b) _ 40 ((a : Int) * 9 + b) = _
          rw [ms_eq]; unfold mx fws; rw [if_pos (by omega), if_pos (by omega)]; omega
        · show mset M 40 ((u : Int) * 9 + v) _ 40 ((a : Int) * 9 + b) = _
          rw [ms_i (by omega), hM a b ha hb]
          unfold mx
          by_cases e2 : a < u ∨ (a = u ∧ b < v)
          · rw [if_pos e2, if_pos (by omega)]
          · rw [if_neg e2, if_neg (by omega)]
      · show mset M 40 _ _ a i = _
        rw [ms_a ha]; exact hf a i ha
  · rintro fu ⟨x1, M⟩ ⟨h1, hM, hf⟩
    dsimp only at h1 hM hf ⊢
    subst h1
    refine ⟨M, ?_, fun a b ha hb => ?_, hf⟩
    · rw [f_X8_shortenOver_10, chk_t (by omega), if_pos (by omega)]
    · rw [hM a b ha hb]
      unfold mx
      by_cases e2 : a < u ∨ (a = u ∧ b < n)
      · rw [if_pos e2, if_pos (by omega)]
      · rw [if_neg e2, if_neg (by omega)]
theorem short_ok {F n m : Nat} {D : Nat → Nat → Nat} (hF : 100000 ≤ F) (hn : n ≤ 9) (hm : m < n) (hD : ∀ a b, a < n → b < n → D a b ≤ 1000) (h0 : D m m = 0) (M0 : Mem) (hM : MD M0 n D) : ∃ M', f_X8_shortenOver F m n M0 = some M' ∧ MD M' n (fws m D) ∧ ∀ a i, a ≠ 40 → M' a i = M0 a i := by
  refine lpe (f := fun fu (x : Int × Mem) => f_X8_shortenOver_2 F fu m n x.1 x.2) (I := fun u x => x.1 = u ∧ MD x.2 n (mx m D u 0) ∧ ∀ a i, a ≠ 40 → x.2 a i = M0 a i) (Q := fun r => ∃ M', r = some M' ∧ MD M' n (fws m D) ∧ ∀ a i, a ≠ 40 → M' a i = M0 a i) n ?_ ?_ n 0 F (0, M0) (by omega) (by omega) ⟨rfl, fun a b ha hb => ?_, fun _ _ _ => rfl⟩
  · rintro u fu ⟨x1, M⟩ hu ⟨h1, hM, hf⟩
    dsimp only at h1 hM hf ⊢
    subst h1
    right
    obtain ⟨M', e, q1, q2⟩ := short_in hF hn hm hu hD h0 (f_X8_shortenOver_2 F fu) M hM
    refine ⟨((u : Int) + 1, M'), ?_, rfl, q1, fun a i ha => ?_⟩
    · rw [f_X8_shortenOver_2, chk_t (by omega), if_neg (by omega), e]
    · exact (q2 a i ha).trans (hf a i ha)
  · rintro fu ⟨x1, M⟩ ⟨h1, hM, hf⟩
    dsimp only at h1 hM hf ⊢
    subst h1
    refine ⟨M, ?_, fun a b ha hb => ?_, hf⟩
    · rw [f_X8_shortenOver_2, chk_t (by omega), if_pos (by omega)]
    · rw [hM a b ha hb]; unfold mx; rw [if_pos (by omega)]
  · show M0 40 _ = _
    rw [hM a b ha hb]; unfold mx; rw [if_neg (by omega)]
theorem mdist3 {F : Nat} (hF : 100000 ≤ F) {s : Sg} (w : WN s) (M0 : Mem) (hS : M0 1 0 = sN s) (hM : MD M0 (sN s) (d0 s (sK s))) : ∃ M', f_X8_measureDistances_107 F F 0 M0 = some M' ∧ MD M' (sN s) (dis s) ∧ ∀ a i, a ≠ 40 → M' a i = M0 a i := by
  have w1 := w.1
  refine lpe (f := fun fu (x : Int × Mem) => f_X8_measureDistances_107 F fu x.1 x.2) (I := fun m x => x.1 = m ∧ MD x.2 (sN s) (fwa (d0 s (sK s)) m) ∧ ∀ a i, a ≠ 40 → x.2 a i = M0 a i) (Q := fun r => ∃ M', r = some M' ∧ MD M' (sN s) (dis s) ∧ ∀ a i, a ≠ 40 → M' a i = M0 a i) (sN s) ?_ ?_ (sN s) 0 F (0, M0) (by omega) (by omega) ⟨rfl, hM, fun _ _ _ => rfl⟩
  · rintro m fu ⟨x1, M⟩ hm ⟨h1, hM, hf⟩
    dsimp only at h1 hM hf ⊢
    subst h1
    right
    have hI := fwI_a w (d0_I w) m (by omega)
    have e1 : M 1 0 = sN s := by rw [hf 1 0 (by decide)]; exact hS
    obtain ⟨M', e, q1, q2⟩ := short_ok hF w1 hm hI.2.1 (hI.1 m hm) M hM
    refine ⟨((m : Int) + 1, M'), ?_, rfl, q1, fun a i ha => ?_⟩
    · rw [f_X8_measureDistances_107, chk_t (by omega), if_neg (by omega), e1, e, ob_s]
    · exact (q2 a i ha).trans (hf a i ha)
  · rintro fu ⟨x1, M⟩ ⟨h1, hM, hf⟩
    dsimp only at h1 hM hf ⊢
    subst h1
    have e1 : M 1 0 = sN s := by rw [hf 1 0 (by decide)]; exact hS
    refine ⟨M, ?_, hM, hf⟩
    rw [f_X8_measureDistances_107, chk_t (by omega), if_pos (by omega)]
theorem mdist2 {F : Nat} (hF : 100000 ≤ F) {s : Sg} (w : WN s) (M0 : Mem) (hS : SC 1 M0 s) (hM : MD M0 (sN s) (d0 s 0)) : ∃ M', f_X8_measureDistances_40 F F 0 M0 = some M' ∧ MD M' (sN s) (dis s) ∧ ∀ a i, a ≠ 40 → M' a i = M0 a i := by
  have w1 := w.1
  have w2 := w.2.1
  refine lpe (f := fun fu (x : Int × Mem) => f_X8_measureDistances_40 F fu x.1 x.2) (I := fun m x => x.1 = m ∧ MD x.2 (sN s) (d0 s m) ∧ ∀ a i, a ≠ 40 → x.2 a i = M0 a i) (Q := fun r => ∃ M', r = some M' ∧ MD M' (sN s) (dis s) ∧ ∀ a i, a ≠ 40 → M' a i = M0 a i) (sK s) ?_ ?_ (sK s) 0 F (0, M0) (by omega) (by omega) ⟨rfl, hM, fun _ _ _ => rfl⟩
  · rintro m fu ⟨x1, M⟩ hm ⟨h1, hM, hf⟩
    dsimp only at h1 hM hf ⊢
    subst h1
    right
    have e1 : M 1 1 = sK s := by rw [hf 1 1 (by decide)]; exact hS.2.1
    obtain ⟨a1, a2, a3⟩ := hS.2.2.1 m hm
    have hw := w.2.2.1 m hm
    have e2 : M 2 m = sF s m := by rw [hf 2 m (by decide)]; exact a1
    have e3 : M 3 m = sS s m := by rw [hf 3 m (by decide)]; exact a2
    have e4 : M 4 m = sL s m := by rw [hf 4 m (by decide)]; exact a3
    have e5 : mset M 40 ((sF s m : Int) * 9 + (sS s m : Int)) (sL s m) 4 m = sL s m := by rw [ms_a (by decide)]; exact e4
    refine ⟨((m : Int) + 1, mset (mset M 40 ((sF s m : Int) * 9 + (sS s m : Int)) (sL s m)) 40 ((sS s m : Int) * 9 + (sF s m : Int)) (sL s m)), ?_, rfl, fun a b ha hb => ?_, fun a i ha => ?_⟩
    · rw [f_X8_measureDistances_40, chk_t (by omega), if_neg (by omega), chk_t (by omega), e2, e3, e4, chk_t (by omega), chk_t (by omega), e5]
    · show mset (mset M 40 _ _) 40 _ _ 40 ((a : Int) * 9 + b) = _
      unfold d0
      by_cases c1 : a = sS s m ∧ b = sF s m
      · rw [if_pos (by omega), show (a : Int) * 9 + b = (sS s m : Int) * 9 + (sF s m : Int) by omega, ms_eq]
      · rw [ms_i (by omega)]
        by_cases c2 : a = sF s m ∧ b = sS s m
        · rw [if_pos (by omega), show (a : Int) * 9 + b = (sF s m : Int) * 9 + (sS s m : Int) by omega, ms_eq]
        · rw [ms_i (by omega), if_neg (by omega)]; exact hM a b ha hb
    · show mset (mset M 40 _ _) 40 _ _ a i = _
      rw [ms_a ha, ms_a ha]; exact hf a i ha
  · rintro fu ⟨x1, M⟩ ⟨h1, hM, hf⟩
    dsimp only at h1 hM hf ⊢
    subst h1
    have e1 : M 1 1 = sK s := by rw [hf 1 1 (by decide)]; exact hS.2.1
    obtain ⟨M', e, q1, q2⟩ := mdist3 hF w M (by rw [hf 1 0 (by decide)]; exact hS.1) hM
    refine ⟨M', ?_, q1, fun a i ha => ?_⟩
    · rw [f_X8_measureDistances_40, chk_t (by omega), if_pos (by omega), e]
    · exact (q2 a i ha).trans (hf a i ha)
theorem mdist_ok {F : Nat} (hF : 100000 ≤ F) {s : Sg} (w : WN s) (M0 : Mem) (hS : SC 1 M0 s) : ∃ M', f_X8_measureDistances F M0 = some M' ∧ MD M' (sN s) (dis s) ∧ ∀ a i, a ≠ 40 → M' a i = M0 a i := by
  have w1 := w.1
  have ha : alen 40 = 81 := rfl
  unfold f_X8_measureDistances
  rw [fill_eq (n := 81) hF (by decide) ha (by decide), ob_s]
  refine lpe (f := fun fu (x : Int × Mem) => f_X8_measureDistances_12 F fu x.1 x.2) (I := fun m x => x.1 = m ∧ (∀ u v, u < sN s → v < sN s → x.2 40 ((u : Int) * 9 + v) = if u = v ∧ u < m then 0 else 1000) ∧ ∀ a i, a ≠ 40 → x.2 a i = M0 a i) (Q := fun r => ∃ M', r = some M' ∧ MD M' (sN s) (dis s) ∧ ∀ a i, a ≠ 40 → M' a i = M0 a i) (sN s) ?_ ?_ (sN s) 0 F (0, mfill M0 40 0 81 (fun _ => 1000)) (by omega) (by omega) ⟨rfl, fun u v hu hv => ?_, fun a i h => (show mfill M0 40 0 81 (fun _ => 1000) a i = M0 a i from mf_a h)⟩
  · rintro m fu ⟨x1, M⟩ hm ⟨h1, hM, hf⟩
    dsimp only at h1 hM hf ⊢
    subst h1
    right
    have e1 : M 1 0 = sN s := by rw [hf 1 0 (by decide)]; exact hS.1
    refine ⟨((m : Int) + 1, mset M 40 ((m : Int) * 9 + m) 0), ?_, rfl, fun a b ha hb => ?_, fun a i ha => ?_⟩
    · rw [f_X8_measureDistances_12, chk_t (by omega), if_neg (by omega), chk_t (by omega)]
    · show mset M 40 _ _ 40 ((a : Int) * 9 + b) = _
      by_cases c1 : a = m ∧ b = m
      · obtain ⟨rfl, rfl⟩ := c1
        rw [ms_eq, if_pos (by omega)]
      · rw [ms_i (by omega), hM a b ha hb]
        by_cases c2 : a = b ∧ a < m
        · rw [if_pos c2, if_pos (by omega)]
        · rw [if_neg c2, if_neg (by omega)]
    · show mset M 40 _ _ a i = _
      rw [ms_a ha]; exact hf a i ha
  · rintro fu ⟨x1, M⟩ ⟨h1, hM, hf⟩
    dsimp only at h1 hM hf ⊢
    subst h1
    have e1 : M 1 0 = sN s := by rw [hf 1 0 (by decide)]; exact hS.1
    have hS2 : SC 1 M s := hS.fr (fun a i q1 q2 => hf a i (by omega))
    have hM2 : MD M (sN s) (d0 s 0) := by
      intro a b ha hb
      rw [hM a b ha hb]
      unfold d0
      by_cases c : a = b
      · rw [if_pos (by omega), if_pos c]; rfl
      · rw [if_neg (by omega), if_neg c]; rfl
    obtain ⟨M', e, q1, q2⟩ := mdist2 hF w M hS2 hM2
    refine ⟨M', ?_, q1, fun a i ha => ?_⟩
    · rw [f_X8_measureDistances_12, chk_t (by omega), if_pos (by omega), e]
    · exact (q2 a i ha).trans (hf a i ha)
  · dsimp only
    rw [mf_in (by omega), if_neg (by omega)]
