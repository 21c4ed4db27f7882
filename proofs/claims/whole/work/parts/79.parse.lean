/-! the text is read -/
def dg (tl : Nat) (tx : Nat → Int) (i : Nat) : Int := if i < tl ∧ 48 ≤ tx i ∧ tx i ≤ 57 then tx i - 48 else -1
theorem dg_R (tl : Nat) (tx : Nat → Int) (i : Nat) : -1 ≤ dg tl tx i ∧ dg tl tx i ≤ 9 := by unfold dg; split <;> omega
def rd1 (tl : Nat) (tx : Nat → Int) (p : Nat) (s : Sg) : Nat ⊕ Sg := if tx p ≠ 59 then .inl p else if dg tl tx (p + 1) = -1 ∨ (sN s : Int) ≤ dg tl tx (p + 1) ∨ 16 ≤ sK s then .inl (p + 1) else if dg tl tx (p + 2) = -1 ∨ (sN s : Int) ≤ dg tl tx (p + 2) ∨ dg tl tx (p + 2) = dg tl tx (p + 1) ∨ jnd s (dg tl tx (p + 1)).toNat (dg tl tx (p + 2)).toNat = true then .inl (p + 2) else if dg tl tx (p + 3) < 1 then .inl (p + 3) else .inr (sJoin s (dg tl tx (p + 1)).toNat (dg tl tx (p + 2)).toNat (dg tl tx (p + 3)).toNat)
def rdl (tl : Nat) (tx : Nat → Int) : Nat → Nat → Sg → Nat ⊕ Sg
  | 0, _, s => .inr s
  | f + 1, p, s => if tl ≤ p then .inr s else match rd1 tl tx p s with
    | .inl e => .inl e
    | .inr s' => rdl tl tx f (p + 4) s'
/-- a network with its first labels and without entries -/
def NwS (s : Sg) : Prop := WN s ∧ sB s = (fun v => v) ∧ sE s = fun _ _ => -1
theorem NwS_0 {n : Nat} (h : n ≤ 9) : NwS (s0 n) := ⟨WN_s0 h, rfl, rfl⟩
theorem NwS.clr {s : Sg} (h : NwS s) : sClr s = s := by
  obtain ⟨-, -, h3⟩ := h
  obtain ⟨a, b, c, d, e, f, g⟩ := s
  have h3 : g = fun _ _ => -1 := h3
  subst h3
  rfl
theorem NwS.wf {s : Sg} (h : NwS s) : WF s := by
  have := WF_clr h.1 (WB_id (n := sN s) (s := s) rfl (fun v _ => by rw [h.2.1]))
  rw [h.clr] at this; exact this
section Reads
variable {F : Nat} {M : Mem} {tl : Nat} {tx : Nat → Int}
theorem rd1_ok {p : Nat} {s s' : Sg} (h : NwS s) (e : rd1 tl tx p s = .inr s') : NwS s' := by
  have r1 := dg_R tl tx (p + 1)
  have r2 := dg_R tl tx (p + 2)
  have r3 := dg_R tl tx (p + 3)
  unfold rd1 at e
  split at e
  · cases e
  · split at e
    · cases e
    · rename_i c1
      split at e
      · cases e
      · rename_i c2
        split at e
        · cases e
        · rename_i c3
          have e := Sum.inr.inj e
          subst e
          have hj : jnd s (dg tl tx (p + 1)).toNat (dg tl tx (p + 2)).toNat = false := by
            cases hb : jnd s (dg tl tx (p + 1)).toNat (dg tl tx (p + 2)).toNat with
            | false => rfl
            | true => exact absurd (Or.inr (Or.inr (Or.inr hb))) c2
          refine ⟨WN_join h.1 (by omega) (by omega) (by omega) (by omega) (by omega) (by omega) hj, h.2.1, h.2.2⟩
theorem digit_eq (h62 : M 62 0 = tl) (h63 : ∀ i : Nat, i < tl → M 63 i = tx i) (ht : tl ≤ 100) (i : Nat) (hi : i < 1000) : f_X3_digitAt i M = some (dg tl tx i) := by
  unfold f_X3_digitAt dg
  rw [chk_t (by omega), h62]
  by_cases c : i < tl
  · rw [if_neg (by omega), chk_t (by omega), h63 i c]
    by_cases c2 : tx i < 48
    · rw [if_pos c2, if_neg (by omega)]
    · rw [if_neg c2]
      by_cases c3 : tx i ≤ 57
      · rw [if_pos c3, if_pos ⟨c, by omega, c3⟩]
      · rw [if_neg c3, if_neg (by omega)]
  · rw [if_pos (by omega), if_neg (by omega)]
theorem link_class (hF : 100000 ≤ F) {s : Sg} (h : NwS s) (h62 : M 62 0 = tl) (h63 : ∀ i : Nat, i < tl → M 63 i = tx i) (ht : tl ≤ 100) {p : Nat} (hp : p < tl) (hS : SC 7 M s) : ∃ M', f_X3_readLink F p M = some ((match rd1 tl tx p s with | .inl e => (e : Int) | .inr _ => -1), M') ∧ (∀ s', rd1 tl tx p s = .inr s' → SC 7 M' s') ∧ ∀ a i, (a < 7 ∨ 12 < a) → M' a i = M a i := by
  have w1 := h.1.1
  have w2 := h.1.2.1
  have r1 := dg_R tl tx (p + 1)
  have r2 := dg_R tl tx (p + 2)
  have r3 := dg_R tl tx (p + 3)
  have e0 : M 7 0 = sN s := hS.1
  have e1 : M 7 1 = sK s := hS.2.1
  have d1 : f_X3_digitAt ((p : Int) + 1) M = some (dg tl tx (p + 1)) := digit_eq h62 h63 ht (p + 1) (by omega)
  have d2 : f_X3_digitAt ((p : Int) + 2) M = some (dg tl tx (p + 2)) := digit_eq h62 h63 ht (p + 2) (by omega)
  have d3 : f_X3_digitAt ((p : Int) + 3) M = some (dg tl tx (p + 3)) := digit_eq h62 h63 ht (p + 3) (by omega)
  unfold f_X3_readLink
  rw [chk_t (by omega), h63 p hp]
  have fin : ∀ (e : Nat), rd1 tl tx p s = .inl e → ∃ M', some ((e : Int), M) = some ((match rd1 tl tx p s with | .inl e => (e : Int) | .inr _ => -1), M') ∧ (∀ s', rd1 tl tx p s = .inr s' → SC 7 M' s') ∧ ∀ a i, (a < 7 ∨ 12 < a) → M' a i = M a i := by
    intro e he
    refine ⟨M, ?_, fun s' q => ?_, fun _ _ _ => rfl⟩
    · rw [he]
    · rw [he] at q; cases q
  by_cases c0 : tx p = 59
  · rw [if_pos c0, d1, ob_s, chk_t (by omega)]
    have hx0 : ¬ (tx p ≠ 59) := fun q => q c0
    by_cases c1 : dg tl tx (p + 1) = -1 ∨ (sN s : Int) ≤ dg tl tx (p + 1) ∨ 16 ≤ sK s
    · have he : rd1 tl tx p s = .inl (p + 1) := by unfold rd1; rw [if_neg hx0, if_pos c1]
      have := fin _ he
      by_cases k1 : dg tl tx (p + 1) = -1
      · rw [if_pos k1]; exact this
      · rw [if_neg k1]
        by_cases k2 : (sN s : Int) ≤ dg tl tx (p + 1)
        · rw [if_pos (by omega)]; exact this
        · rw [if_neg (by omega), if_neg (by omega)]; exact this
    · rw [if_neg (by omega), if_neg (by omega), if_pos (by omega), d2, ob_s, chk_t (by omega)]
      obtain ⟨u, hu⟩ : ∃ k : Nat, dg tl tx (p + 1) = k := ⟨(dg tl tx (p + 1)).toNat, by omega⟩
      by_cases c2 : dg tl tx (p + 2) = -1 ∨ (sN s : Int) ≤ dg tl tx (p + 2) ∨ dg tl tx (p + 2) = dg tl tx (p + 1) ∨ jnd s (dg tl tx (p + 1)).toNat (dg tl tx (p + 2)).toNat = true
      · have he : rd1 tl tx p s = .inl (p + 2) := by unfold rd1; rw [if_neg hx0, if_neg c1, if_pos c2]
        have := fin _ he
        by_cases k1 : dg tl tx (p + 2) = -1
        · rw [if_pos k1]; exact this
        · rw [if_neg k1]
          by_cases k2 : (sN s : Int) ≤ dg tl tx (p + 2)
          · rw [if_pos (by omega)]; exact this
          · rw [if_neg (by omega)]
            by_cases k3 : dg tl tx (p + 2) = dg tl tx (p + 1)
            · rw [if_pos k3]; exact this
            · obtain ⟨v, hv⟩ : ∃ k : Nat, dg tl tx (p + 2) = k := ⟨(dg tl tx (p + 2)).toNat, by omega⟩
              have hj : jnd s u v = true := by
                rcases c2 with q | q | q | q
                · exact absurd q k1
                · exact absurd q k2
                · exact absurd q k3
                · rw [hu, hv, Int.toNat_natCast, Int.toNat_natCast] at q; exact q
              rw [if_neg k3, hu, hv, joined_eq hF hS h.1 (by omega) (by omega), ob_s, chk_t (bi_R _), hj, if_neg (by decide)]; exact this
      · obtain ⟨v, hv⟩ : ∃ k : Nat, dg tl tx (p + 2) = k := ⟨(dg tl tx (p + 2)).toNat, by omega⟩
        have hj : jnd s u v = false := by
          cases hb : jnd s u v with
          | false => rfl
          | true => exact absurd (Or.inr (Or.inr (Or.inr (by rw [hu, hv, Int.toNat_natCast, Int.toNat_natCast]; exact hb)))) c2
        have nc2 : ¬ (dg tl tx (p + 2) = -1) ∧ ¬ ((sN s : Int) ≤ dg tl tx (p + 2)) ∧ ¬ (dg tl tx (p + 2) = dg tl tx (p + 1)) := ⟨fun q => c2 (Or.inl q), fun q => c2 (Or.inr (Or.inl q)), fun q => c2 (Or.inr (Or.inr (Or.inl q)))⟩
        rw [if_neg nc2.1, if_neg (by omega), if_neg nc2.2.2]
        have hjd : f_X6_joined F 7 (dg tl tx (p + 1)) (dg tl tx (p + 2)) M = some (bi false) := by rw [hu, hv, joined_eq hF hS h.1 (by omega) (by omega), hj]
        rw [hjd, ob_s, chk_t (bi_R _), if_pos (by decide), d3, ob_s, chk_t (by omega)]
        by_cases c3 : dg tl tx (p + 3) < 1
        · have he : rd1 tl tx p s = .inl (p + 3) := by unfold rd1; rw [if_neg hx0, if_neg c1, if_neg c2, if_pos c3]
          rw [if_neg (by omega)]; exact fin _ he
        · obtain ⟨l, hl⟩ : ∃ k : Nat, dg tl tx (p + 3) = k := ⟨(dg tl tx (p + 3)).toNat, by omega⟩
          have he : rd1 tl tx p s = .inr (sJoin s u v l) := by unfold rd1; rw [if_neg hx0, if_neg c1, if_neg c2, if_neg c3, hu, hv, hl, Int.toNat_natCast, Int.toNat_natCast, Int.toNat_natCast]
          obtain ⟨M', b1, b2⟩ := join_ok hS h.1 (by omega) (u := u) (v := v) (x := l) (by omega) (by omega) (by omega)
          rw [if_pos (by omega), hu, hv, hl, b1, ob_s]
          refine ⟨M', by rw [he], fun s' q => ?_, fun a i q => cg_X6_join b1 a i (by omega)⟩
          rw [he] at q
          have q := Sum.inr.inj q
          rw [← q]; exact b2
  · have he : rd1 tl tx p s = .inl p := by unfold rd1; rw [if_pos c0]
    rw [if_neg c0]; exact fin _ he
theorem loop_class (hF : 100000 ≤ F) (ht : tl ≤ 100) : ∀ (f p fu : Nat) (s : Sg) (M : Mem), tl ≤ p + 4 * f → f < fu → p < 200 → NwS s → M 62 0 = tl → (∀ i : Nat, i < tl → M 63 i = tx i) → SC 7 M s → ∃ M', f_X3_readInto_20 F fu p M = some ((match rdl tl tx f p s with | .inl e => (e : Int) | .inr _ => -1), M') ∧ (∀ s', rdl tl tx f p s = .inr s' → SC 7 M' s' ∧ NwS s') ∧ ∀ a i, (a < 7 ∨ 12 < a) → M' a i = M a i := by
  intro f
  induction f with
  | zero =>
    intro p fu s M h1 h2 h3 hN h62 h63 hS
    obtain ⟨fu, rfl⟩ := fuel_s h2
    refine ⟨M, ?_, fun s' q => ?_, fun _ _ _ => rfl⟩
    · rw [f_X3_readInto_20, chk_t (by omega), if_pos (by omega)]; rfl
    · have q := Sum.inr.inj q
      rw [← q]; exact ⟨hS, hN⟩
  | succ f ih =>
    intro p fu s M h1 h2 h3 hN h62 h63 hS
    obtain ⟨fu, rfl⟩ := fuel_s h2
    by_cases c : tl ≤ p
    · have e : rdl tl tx (f + 1) p s = .inr s := by rw [rdl, if_pos c]
      refine ⟨M, ?_, fun s' q => ?_, fun _ _ _ => rfl⟩
      · rw [f_X3_readInto_20, chk_t (by omega), if_pos (by omega), e]
      · rw [e] at q
        have q := Sum.inr.inj q
        rw [← q]; exact ⟨hS, hN⟩
    · obtain ⟨M1, a1, a2, a3⟩ := link_class hF hN h62 h63 ht (show p < tl by omega) hS
      have m62 : M1 62 0 = tl := by rw [a3 62 0 (by omega)]; exact h62
      have m63 : ∀ i : Nat, i < tl → M1 63 i = tx i := fun i hi => by rw [a3 63 i (by omega)]; exact h63 i hi
      rw [f_X3_readInto_20, chk_t (by omega), if_neg (by omega), a1, ob_s]
      cases hr : rd1 tl tx p s with
      | inl e =>
        have el : rdl tl tx (f + 1) p s = .inl e := by rw [rdl, if_neg c, hr]
        have he : e ≤ p + 3 := by
          unfold rd1 at hr
          split at hr
          · have := Sum.inl.inj hr; omega
          · split at hr
            · have := Sum.inl.inj hr; omega
            · split at hr
              · have := Sum.inl.inj hr; omega
              · split at hr
                · have := Sum.inl.inj hr; omega
                · cases hr
        dsimp only
        rw [chk_t (by omega), if_neg (by omega), el]
        exact ⟨M1, rfl, fun s' q => (by cases q), a3⟩
      | inr s' =>
        have el : rdl tl tx (f + 1) p s = rdl tl tx f (p + 4) s' := by rw [rdl, if_neg c, hr]
        obtain ⟨M2, b1, b2, b3⟩ := ih (p + 4) fu s' M1 (by omega) (by omega) (by omega) (rd1_ok hN hr) m62 m63 (a2 s' hr)
        dsimp only
        rw [chk_t (by decide), if_pos rfl, el]
        exact ⟨M2, b1, b2, fun a i q => (b3 a i q).trans (a3 a i q)⟩
/-- what the text says -/
def prs (tl : Nat) (tx : Nat → Int) : Nat ⊕ Sg := if dg tl tx 0 = -1 then .inl 0 else rdl tl tx 25 1 (s0 (dg tl tx 0).toNat)
theorem into_class (hF : 100000 ≤ F) (ht : tl ≤ 100) (h62 : M 62 0 = tl) (h63 : ∀ i : Nat, i < tl → M 63 i = tx i) : ∃ M', f_X3_readInto F M = some ((match prs tl tx with | .inl e => (e : Int) | .inr _ => -1), M') ∧ (∀ s', prs tl tx = .inr s' → SC 7 M' s' ∧ NwS s') ∧ ∀ a i, (a < 7 ∨ 12 < a) → M' a i = M a i := by
  have r0 := dg_R tl tx 0
  unfold f_X3_readInto prs
  have d0 : f_X3_digitAt 0 M = some (dg tl tx 0) := digit_eq h62 h63 ht 0 (by omega)
  rw [d0, ob_s, chk_t (by omega)]
  by_cases c : dg tl tx 0 = -1
  · rw [if_pos c, if_pos c]
    exact ⟨M, rfl, fun s' q => (by cases q), fun _ _ _ => rfl⟩
  · rw [if_neg c, if_neg c]
    obtain ⟨n, hn⟩ : ∃ k : Nat, dg tl tx 0 = k := ⟨(dg tl tx 0).toNat, by omega⟩
    obtain ⟨M1, a1, a2⟩ := start_ok hF (r := 7) rfl (show n ≤ 9 by omega) M
    have f1 : ∀ a i, (a < 7 ∨ 12 < a) → M1 a i = M a i := fun a i q => cg_X6_start a1 a i (by omega)
    rw [hn, a1, ob_s, Int.toNat_natCast]
    obtain ⟨M2, b1, b2, b3⟩ := loop_class (tx := tx) hF ht 25 1 F (s0 n) M1 (by omega) (by omega) (by omega) (NwS_0 (by omega)) (by rw [f1 62 0 (by omega)]; exact h62) (fun i hi => by rw [f1 63 i (by omega)]; exact h63 i hi) a2
    exact ⟨M2, b1, b2, fun a i q => (b3 a i q).trans (f1 a i q)⟩
/-! the model reads -/
theorem takes_eq (h5 : M 64 5 = tl) (h67 : ∀ i : Nat, i < tl → M 67 i = tx i) (ht : tl ≤ 100) (hb : ∀ i, i < tl → 0 ≤ tx i ∧ tx i ≤ 127) {i : Nat} (h20 : M 64 20 = i) (hi : i < 1000) {lo hi' : Int} (h1 : 0 ≤ lo) (h1b : lo ≤ 9) (h2 : -1 ≤ hi') (h2b : hi' ≤ 9) : f_X10_takes lo hi' M = some ((if lo ≤ dg tl tx i ∧ dg tl tx i ≤ hi' then dg tl tx i else -1), (if lo ≤ dg tl tx i ∧ dg tl tx i ≤ hi' then mset M 64 20 ((i : Int) + 1) else M)) := by
  unfold f_X10_takes f_X10_isAt
  rw [h5, h20]
  by_cases c : i < tl
  · have hbi := hb i c
    have hd : dg tl tx i = if 48 ≤ tx i ∧ tx i ≤ 57 then tx i - 48 else -1 := by
      unfold dg
      by_cases q : 48 ≤ tx i ∧ tx i ≤ 57
      · rw [if_pos ⟨c, q⟩, if_pos q]
      · rw [if_neg (fun z => q z.2), if_neg q]
    rw [if_neg (by omega), chk_t (by omega), h67 i c]
    by_cases k : 48 + lo ≤ tx i ∧ tx i ≤ 48 + hi'
    · have hd2 : dg tl tx i = tx i - 48 := by rw [hd, if_pos (by omega)]
      rw [mW_t (by omega) (by omega) (by omega) k, ob_s, chk_t (by decide), if_neg (by decide), chk_t (by omega), ms_eq, chk_t (by omega), if_pos (by omega), if_pos (by omega), ms_a (by decide), show (i : Int) + 1 - 1 = i by omega, h67 i c, hd2]
    · have hd2 : ¬ (lo ≤ dg tl tx i ∧ dg tl tx i ≤ hi') := by
        rw [hd]; split <;> omega
      rw [mW_f (by omega) (by omega) (by omega) k, ob_s, chk_t (by decide), if_pos rfl, if_neg hd2, if_neg hd2]
  · have hd : dg tl tx i = -1 := by unfold dg; rw [if_neg (fun q => c q.1)]
    rw [if_pos (by omega), ob_s, chk_t (by decide), if_pos rfl, if_neg (by omega), if_neg (by omega)]
theorem link_model (hF : 100000 ≤ F) {s : Sg} (h : NwS s) (h5 : M 64 5 = tl) (h67 : ∀ i : Nat, i < tl → M 67 i = tx i) (ht : tl ≤ 100) (hb : ∀ i, i < tl → 0 ≤ tx i ∧ tx i ≤ 127) {p : Nat} (hp : p < tl) (h20 : M 64 20 = p) (hS : SM 65 0 M s) : ∃ M', f_X10_reads F M = some ((match rd1 tl tx p s with | .inl _ => 0 | .inr _ => 1), M') ∧ M' 64 20 = (match rd1 tl tx p s with | .inl e => (e : Int) | .inr _ => (p : Int) + 4) ∧ (∀ s', rd1 tl tx p s = .inr s' → SM 65 0 M' s') ∧ ∀ a i, a ≠ 65 → (a ≠ 64 ∨ i ≠ 20) → M' a i = M a i := by
  have w1 := h.1.1
  have w2 := h.1.2.1
  have r1 := dg_R tl tx (p + 1)
  have r2 := dg_R tl tx (p + 2)
  have r3 := dg_R tl tx (p + 3)
  -- the spot moved
  have mv : ∀ (k : Int), SM 65 0 (mset M 64 20 k) s ∧ mset M 64 20 k 64 5 = tl ∧ (∀ i : Nat, i < tl → mset M 64 20 k 67 i = tx i) ∧ mset M 64 20 k 64 20 = k ∧ mset M 64 20 k 65 0 = sN s ∧ mset M 64 20 k 65 1 = sK s := fun k => ⟨hS.fr (fun j _ _ => ms_a (by decide)) h.1, by rw [ms_i (by decide)]; exact h5, fun i hi => by rw [ms_a (by decide)]; exact h67 i hi, ms_eq _ _ _ _, by rw [ms_a (by decide)]; exact hS.1, by rw [ms_a (by decide)]; exact hS.2.1⟩
  have mm : ∀ j k : Int, mset (mset M 64 20 j) 64 20 k = mset M 64 20 k := by
    intro j k
    funext a i
    unfold mset
    by_cases c : a = 64 ∧ i = 20
    · rw [if_pos c, if_pos c]
    · rw [if_neg c, if_neg c, if_neg c]
  have ff : ∀ (k : Int) a i, a ≠ 65 → (a ≠ 64 ∨ i ≠ 20) → mset M 64 20 k a i = M a i := fun k a i _ q => by unfold mset; rw [if_neg (by omega)]
  have fin : ∀ (e : Nat) , rd1 tl tx p s = .inl e → ∃ M', some ((0 : Int), mset M 64 20 e) = some ((match rd1 tl tx p s with | .inl _ => 0 | .inr _ => 1), M') ∧ M' 64 20 = (match rd1 tl tx p s with | .inl e => (e : Int) | .inr _ => (p : Int) + 4) ∧ (∀ s', rd1 tl tx p s = .inr s' → SM 65 0 M' s') ∧ ∀ a i, a ≠ 65 → (a ≠ 64 ∨ i ≠ 20) → M' a i = M a i := by
    intro e he
    refine ⟨mset M 64 20 e, ?_, ?_, fun s' q => ?_, ff e⟩
    · rw [he]
    · rw [he]; exact ms_eq _ _ _ _
    · rw [he] at q; cases q
  have hM0 : mset M 64 20 p = M := by
    funext a i
    unfold mset
    by_cases c : a = 64 ∧ i = 20
    · rw [if_pos c, c.1, c.2, h20]
    · rw [if_neg c]
  unfold f_X10_reads f_X10_isAt
  rw [h5, h20, if_neg (by omega), chk_t (by omega), h67 p hp]
  have hbp := hb p hp
  by_cases c0 : tx p = 59
  · have hx0 : ¬ (tx p ≠ 59) := fun q => q c0
    rw [mW_t (by omega) (by decide) (by decide) (by omega), ob_s, chk_t (by decide), if_neg (by decide), chk_t (by omega), (mv ((p : Int) + 1)).2.2.2.2.2, (mv ((p : Int) + 1)).2.2.2.2.1]
    by_cases c1 : dg tl tx (p + 1) = -1 ∨ (sN s : Int) ≤ dg tl tx (p + 1) ∨ 16 ≤ sK s
    · have he : rd1 tl tx p s = .inl (p + 1) := by unfold rd1; rw [if_neg hx0, if_pos c1]
      have hf := fin _ he
      have e51 : f_X10_reads_51 F (-1) (mset M 64 20 ((p : Int) + 1)) = some (0, mset M 64 20 ((p + 1 : Nat) : Int)) := by
        unfold f_X10_reads_51; rw [chk_t (by decide), if_pos rfl]; rfl
      by_cases k : (sK s : Int) = 16
      · rw [if_pos k, e51]; exact hf
      · rw [if_neg k]
        obtain ⟨v1, v2, v3, v4, v5, v6⟩ := mv ((p : Int) + 1)
        have tk := takes_eq v2 v3 ht hb (i := p + 1) v4 (by omega) (lo := 0) (hi' := (sN s : Int) - 1) (by omega) (by omega) (by omega) (by omega)
        rw [if_neg (by omega), if_neg (by omega)] at tk
        rw [tk, ob_s]
        dsimp only
        rw [e51]; exact hf
    · obtain ⟨u, hu⟩ : ∃ k : Nat, dg tl tx (p + 1) = k := ⟨(dg tl tx (p + 1)).toNat, by omega⟩
      obtain ⟨v1, v2, v3, v4, v5, v6⟩ := mv ((p : Int) + 1)
      have tk := takes_eq v2 v3 ht hb (i := p + 1) v4 (by omega) (lo := 0) (hi' := (sN s : Int) - 1) (by omega) (by omega) (by omega) (by omega)
      rw [if_pos (by omega), if_pos (by omega), mm] at tk
      rw [if_neg (by omega), tk, ob_s]
      dsimp only
      obtain ⟨x1, x2, x3, x4, x5, x6⟩ := mv (((p + 1 : Nat) : Int) + 1)
      have tk2 := takes_eq x2 x3 ht hb (i := p + 2) x4 (by omega) (lo := 0) (hi' := (sN s : Int) - 1) (by omega) (by omega) (by omega) (by omega)
      unfold f_X10_reads_51
      rw [chk_t (by omega), if_neg (by omega), x5]
      by_cases c2a : dg tl tx (p + 2) = -1 ∨ (sN s : Int) ≤ dg tl tx (p + 2)
      · have he : rd1 tl tx p s = .inl (p + 2) := by
          unfold rd1
          rw [if_neg hx0, if_neg c1, if_pos (by rcases c2a with q | q; exact Or.inl q; exact Or.inr (Or.inl q))]
        rw [if_neg (by omega), if_neg (by omega)] at tk2
        rw [tk2, ob_s]
        dsimp only
        rw [chk_t (by decide), if_pos rfl]; exact fin _ he
      · obtain ⟨v, hv⟩ : ∃ k : Nat, dg tl tx (p + 2) = k := ⟨(dg tl tx (p + 2)).toNat, by omega⟩
        rw [if_pos (by omega), if_pos (by omega), mm] at tk2
        rw [tk2, ob_s]
        dsimp only
        obtain ⟨y1, y2, y3, y4, y5, y6⟩ := mv (((p + 2 : Nat) : Int) + 1)
        rw [chk_t (by omega), if_neg (by omega)]
        have back : chk (inR (mset M 64 20 (((p + 2 : Nat) : Int) + 1) 64 20 - 1)) (some ((0 : Int), mset (mset M 64 20 (((p + 2 : Nat) : Int) + 1)) 64 20 (mset M 64 20 (((p + 2 : Nat) : Int) + 1) 64 20 - 1))) = some (0, mset M 64 20 ((p + 2 : Nat) : Int)) := by
          rw [y4, chk_t (by omega), mm]; congr 2
          rw [show ((p + 2 : Nat) : Int) + 1 - 1 = ((p + 2 : Nat) : Int) by omega]
        by_cases c2b : dg tl tx (p + 2) = dg tl tx (p + 1)
        · have he : rd1 tl tx p s = .inl (p + 2) := by
            unfold rd1
            rw [if_neg hx0, if_neg c1, if_pos (Or.inr (Or.inr (Or.inl c2b)))]
          rw [if_pos c2b, back]; exact fin _ he
        · rw [if_neg c2b, hu, hv, mjoined hF h.1 y1 (by omega) (by omega) (by omega), ob_s, chk_t (bi_R _)]
          cases hj : jnd s u v with
          | true =>
            have he : rd1 tl tx p s = .inl (p + 2) := by
              unfold rd1
              rw [if_neg hx0, if_neg c1, if_pos (Or.inr (Or.inr (Or.inr (by rw [hu, hv, Int.toNat_natCast, Int.toNat_natCast]; exact hj))))]
            rw [if_neg (by decide), back]; exact fin _ he
          | false =>
            have c2 : ¬ (dg tl tx (p + 2) = -1 ∨ (sN s : Int) ≤ dg tl tx (p + 2) ∨ dg tl tx (p + 2) = dg tl tx (p + 1) ∨ jnd s (dg tl tx (p + 1)).toNat (dg tl tx (p + 2)).toNat = true) := by
              rintro (q | q | q | q)
              · exact c2a (Or.inl q)
              · exact c2a (Or.inr q)
              · exact c2b q
              · rw [hu, hv, Int.toNat_natCast, Int.toNat_natCast, hj] at q; cases q
            have tk3 := takes_eq y2 y3 ht hb (i := p + 3) y4 (by omega) (lo := 1) (hi' := 9) (by omega) (by omega) (by omega) (by omega)
            rw [if_pos (by decide)]
            by_cases c3 : dg tl tx (p + 3) < 1
            · have he : rd1 tl tx p s = .inl (p + 3) := by unfold rd1; rw [if_neg hx0, if_neg c1, if_neg c2, if_pos c3]
              rw [if_neg (by omega), if_neg (by omega)] at tk3
              rw [tk3, ob_s]
              dsimp only
              rw [chk_t (by decide), if_pos rfl, if_pos rfl]; exact fin _ he
            · obtain ⟨l, hl⟩ : ∃ k : Nat, dg tl tx (p + 3) = k := ⟨(dg tl tx (p + 3)).toNat, by omega⟩
              have he : rd1 tl tx p s = .inr (sJoin s u v l) := by unfold rd1; rw [if_neg hx0, if_neg c1, if_neg c2, if_neg c3, hu, hv, hl, Int.toNat_natCast, Int.toNat_natCast, Int.toNat_natCast]
              rw [if_pos (by omega), if_pos (by omega), mm, hl] at tk3
              obtain ⟨z1, z2, z3, z4, z5, z6⟩ := mv (((p + 3 : Nat) : Int) + 1)
              obtain ⟨M', b1, b2, b3⟩ := mjoin_ok z1 h.1 (by omega) (u := u) (v := v) (x := l) (by omega) (by omega) (by omega)
              rw [tk3, ob_s]
              dsimp only
              rw [chk_t (by omega), if_neg (by omega), b1, ob_s, if_neg (by omega)]
              refine ⟨M', by rw [he], ?_, fun s' q => ?_, fun a i k1 k2 => ?_⟩
              · rw [he, b3 64 20 (by decide), z4]; show _ = (p : Int) + 4; omega
              · rw [he] at q
                have q := Sum.inr.inj q
                rw [← q]; exact b2
              · rw [b3 a i k1]; exact ff _ a i k1 k2
  · have he : rd1 tl tx p s = .inl p := by unfold rd1; rw [if_pos c0]
    rw [mW_f (by omega) (by decide) (by decide) (by omega), ob_s, chk_t (by decide), if_pos rfl]
    have := fin _ he
    rw [hM0] at this; exact this
theorem loop_model (hF : 100000 ≤ F) (ht : tl ≤ 100) (hb : ∀ i, i < tl → 0 ≤ tx i ∧ tx i ≤ 127) : ∀ (f p fu : Nat) (s : Sg) (M : Mem), tl ≤ p + 4 * f → f + 1 < fu → p < 200 → NwS s → M 64 5 = tl → (∀ i : Nat, i < tl → M 67 i = tx i) → M 64 20 = p → SM 65 0 M s → ∃ M', f_X10_parse_65 F fu 1 M = f_X10_parse_90 F F (match rdl tl tx f p s with | .inl _ => 0 | .inr _ => 1) 0 M' ∧ (∀ e, rdl tl tx f p s = .inl e → M' 64 20 = (e : Int)) ∧ (∀ s', rdl tl tx f p s = .inr s' → SM 65 0 M' s') ∧ ∀ a i, a ≠ 65 → (a ≠ 64 ∨ i ≠ 20) → M' a i = M a i := by
  intro f
  induction f with
  | zero =>
    intro p fu s M h1 h2 h3 hN h5 h67 h20 hS
    obtain ⟨fu, rfl⟩ : ∃ g, fu = g + 1 := ⟨fu - 1, by omega⟩
    refine ⟨M, ?_, fun e q => (by cases q), fun s' q => ?_, fun _ _ _ _ => rfl⟩
    · rw [f_X10_parse_65, chk_t (by decide), if_neg (by decide), if_pos (by omega)]; rfl
    · have q := Sum.inr.inj q
      rw [← q]; exact hS
  | succ f ih =>
    intro p fu s M h1 h2 h3 hN h5 h67 h20 hS
    obtain ⟨fu, rfl⟩ : ∃ g, fu = g + 2 := ⟨fu - 2, by omega⟩
    by_cases c : tl ≤ p
    · have e : rdl tl tx (f + 1) p s = .inr s := by rw [rdl, if_pos c]
      refine ⟨M, ?_, fun e' q => (by rw [e] at q; cases q), fun s' q => ?_, fun _ _ _ _ => rfl⟩
      · rw [f_X10_parse_65, chk_t (by decide), if_neg (by decide), if_pos (by omega), e]
      · rw [e] at q
        have q := Sum.inr.inj q
        rw [← q]; exact hS
    · obtain ⟨M1, a1, a2, a3, a4⟩ := link_model hF hN h5 h67 ht hb (show p < tl by omega) h20 hS
      rw [f_X10_parse_65, chk_t (by decide), if_neg (by decide), if_neg (by omega), a1, ob_s]
      cases hr : rd1 tl tx p s with
      | inl e =>
        have el : rdl tl tx (f + 1) p s = .inl e := by rw [rdl, if_neg c, hr]
        rw [hr] at a2
        dsimp only at a2 ⊢
        rw [el, f_X10_parse_65, chk_t (by decide), if_pos rfl]
        exact ⟨M1, rfl, fun e' q => (by have q := Sum.inl.inj q; rw [← q]; exact a2), fun s' q => (by cases q), a4⟩
      | inr s' =>
        have el : rdl tl tx (f + 1) p s = rdl tl tx f (p + 4) s' := by rw [rdl, if_neg c, hr]
        rw [hr] at a2
        dsimp only at a2 ⊢
        obtain ⟨M2, b1, b2, b3, b4⟩ := ih (p + 4) (fu + 1) s' M1 (by omega) (by omega) (by omega) (rd1_ok hN hr) (by rw [a4 64 5 (by decide) (by omega)]; exact h5) (fun i hi => by rw [a4 67 i (by decide) (by omega)]; exact h67 i hi) a2 (a3 s' hr)
        rw [el]
        exact ⟨M2, b1, b2, b3, fun a i k1 k2 => (b4 a i k1 k2).trans (a4 a i k1 k2)⟩
end Reads
