/-! saving and going back -/
theorem saveAt {M : Mem} {c : Nat} {hs : Nat → Sg} {s : Sg} (hc : c < 4) (h : HC M c hs) (hS : SC 1 M s) (w : WN s) : ∃ M1 M', f_X6_copyFrom ((M 14 (M 13 0)).toNat) 1 M = some M1 ∧ 0 ≤ M 13 0 ∧ M 13 0 < 4 ∧ shT[(M 14 (M 13 0)).toNat]? = some (.inl 6) ∧ M1 13 0 = c ∧ M' = mset M1 13 0 (M1 13 0 + 1) ∧ SC 1 M' s ∧ HC M' (c + 1) (fun i => if i = c then s else hs i) := by
  obtain ⟨h1, h2, ad, h3, h4, h5⟩ := h
  obtain ⟨a1, a2⟩ := h3 c hc
  have e1 : (M 14 (M 13 0)).toNat = ad c := by rw [h2, a2]; rfl
  obtain ⟨M1, e2, e3⟩ := copy_ok (r := ad c) hS w (by omega)
  have fr : ∀ (a0 : Nat) (i0 : Int), (a0 < ad c ∨ ad c + 6 ≤ a0) → M1 a0 i0 = M a0 i0 := fun a0 i0 q => cg_X6_copyFrom e2 a0 i0 (by omega)
  have k1 : M1 13 0 = c := by rw [fr 13 0 (by omega)]; exact h2
  refine ⟨M1, mset M1 13 0 (M1 13 0 + 1), by rw [e1]; exact e2, by omega, by omega, by rw [e1]; exact isSt a1, k1, rfl, ?_, by omega, ?_, ad, fun i hi => ⟨(h3 i hi).1, ?_⟩, h4, fun i hi => ?_⟩
  · refine hS.fr (fun a i q1 q2 => ?_)
    rw [ms_a (by omega)]; exact fr a i (by omega)
  · rw [ms_eq, k1]; rfl
  · rw [ms_a (by decide), fr 14 i (by omega)]; exact (h3 i hi).2
  · show SC (ad i) _ (if i = c then s else hs i)
    by_cases e : i = c
    · subst e
      rw [if_pos rfl]
      exact e3.fr (fun a j q1 q2 => ms_a (by omega))
    · rw [if_neg e]
      have b1 := (h3 i (by omega)).1
      have b2 : ad i ≠ ad c := fun q => e (h4 i c (by omega) hc q)
      refine (h5 i (by omega)).fr (fun a j q1 q2 => ?_)
      rw [ms_a (by omega)]; exact fr a j (by omega)
theorem dropO_loop {F : Nat} {M : Mem} {ad : Nat → Nat} {x : Nat} (hx : x = 15 ∨ x = 21 ∨ x = 27 ∨ x = 33) (h3 : ∀ i, i < 4 → (ad i = 15 ∨ ad i = 21 ∨ ad i = 27 ∨ ad i = 33) ∧ M 14 i = ad i) (hm : M 13 0 = 4) : ∀ (d i fu : Nat), i + d = 3 → d < fu → f_X0_dropOldest_9 F fu x i (mfill M 14 0 i (fun j => M 14 (j + 1))) = some (mset (mset (mfill M 14 0 3 (fun j => M 14 (j + 1))) 14 3 x) 13 0 3) := by
  intro d
  induction d with
  | zero =>
    intro i fu h1 h2
    obtain ⟨fu, rfl⟩ := fuel_s h2
    obtain rfl : i = 3 := by omega
    have e : mset (mfill M 14 0 3 (fun j => M 14 (j + 1))) 14 3 x 13 0 = 4 := by rw [ms_a (by decide), mf_a (by decide)]; exact hm
    rw [f_X0_dropOldest_9, chk_t (by omega), if_pos (by decide), chk_t (isSt hx)]
    have e' : mset (mfill M 14 0 (3 : Nat) (fun j => M 14 (j + 1))) 14 3 x 13 0 = 4 := e
    rw [e', chk_t (by decide)]; rfl
  | succ d ih =>
    intro i fu h1 h2
    obtain ⟨fu, rfl⟩ := fuel_s h2
    obtain ⟨a1, a2⟩ := h3 (i + 1) (by omega)
    have a3 : M 14 ((i : Int) + 1) = ad (i + 1) := a2
    have e : mfill M 14 0 i (fun j => M 14 (j + 1)) 14 ((i : Int) + 1) = ad (i + 1) := by rw [mf_o (by omega)]; exact a2
    rw [f_X0_dropOldest_9, chk_t (by omega), if_neg (by omega), chk_t (by omega), chk_t (by omega), e, chk_t (by rw [Int.toNat_natCast]; exact isSt a1)]
    have := ih (i + 1) fu (by omega) (by omega)
    refine Eq.trans ?_ this
    congr 1
    rw [Int.toNat_natCast, ← a3]
    exact mfill_s M 14 (by omega) (fun j => M 14 (j + 1))
theorem save_ok {F : Nat} (hF : 100000 ≤ F) {M : Mem} {c : Nat} {hs : Nat → Sg} {s : Sg} (h : HC M c hs) (hS : SC 1 M s) (w : WN s) : ∃ M', f_X0_save F M = some M' ∧ SC 1 M' s ∧ HC M' (pushC c) (pushH c hs s) := by
  have hc := h.1
  have h2 := h.2.1
  by_cases e : c = 4
  · subst e
    obtain ⟨-, -, ad, h3, h4, h5⟩ := h
    obtain ⟨a1, a2⟩ := h3 0 (by decide)
    have a2' : M 14 0 = ad 0 := a2
    have d1 := dropO_loop (F := F) a1 h3 h2 3 0 F rfl (by omega)
    have d2 : f_X0_dropOldest F M = some (mset (mset (mfill M 14 0 3 (fun j => M 14 (j + 1))) 14 3 (ad 0)) 13 0 3) := by
      refine Eq.trans ?_ d1
      unfold f_X0_dropOldest
      rw [a2']
      show f_X0_dropOldest_9 F F _ 0 M = f_X0_dropOldest_9 F F _ 0 (mfill M 14 0 0 _)
      rw [mfill_0]; rfl
    have hH : HC (mset (mset (mfill M 14 0 3 (fun j => M 14 (j + 1))) 14 3 (ad 0)) 13 0 3) 3 (fun i => hs (i + 1)) := by
      refine ⟨by omega, ms_eq _ _ _ _, fun i => if i = 3 then ad 0 else ad (i + 1), fun i hi => ?_, fun i j hi hj q => ?_, fun i hi => ?_⟩
      · by_cases e : i = 3
        · subst e
          exact ⟨a1, by rw [ms_a (by decide)]; exact ms_eq _ _ _ _⟩
        · have b := h3 (i + 1) (by omega)
          simp only [e, if_false]
          refine ⟨b.1, ?_⟩
          rw [ms_a (by decide), ms_i (by omega), mf_in (by omega)]
          exact b.2
      · by_cases e1 : i = 3 <;> by_cases e2 : j = 3
        · omega
        · simp only [e1, e2, if_true, if_false] at q
          have := h4 0 (j + 1) (by omega) (by omega) q; omega
        · simp only [e1, e2, if_true, if_false] at q
          have := h4 (i + 1) 0 (by omega) (by omega) q; omega
        · simp only [e1, e2, if_false] at q
          have := h4 (i + 1) (j + 1) (by omega) (by omega) q; omega
      · have b := (h3 (i + 1) (by omega)).1
        have e1 : ¬ i = 3 := by omega
        simp only [e1, if_false]
        refine (h5 (i + 1) (by omega)).fr (fun a j q1 q2 => ?_)
        rw [ms_a (by omega), ms_a (by omega), mf_a (by omega)]
    have hS1 : SC 1 (mset (mset (mfill M 14 0 3 (fun j => M 14 (j + 1))) 14 3 (ad 0)) 13 0 3) s := by
      refine hS.fr (fun a j q1 q2 => ?_)
      rw [ms_a (by omega), ms_a (by omega), mf_a (by omega)]
    obtain ⟨M1, M', b1, b2, b3, b4, b5, b6, b7, b8⟩ := saveAt (by omega) hH hS1 w
    refine ⟨M', ?_, b7, ?_⟩
    · unfold f_X0_save
      rw [if_pos (by omega), d2, ob_s, chk_t ⟨b2, b3⟩, chk_t b4, b1, ob_s, chk_t (by omega), b6]
    · have : pushH 4 hs s = fun i => if i = 3 then s else hs (i + 1) := by unfold pushH; rw [if_pos rfl]
      rw [this]; exact b8
  · obtain ⟨M1, M', b1, b2, b3, b4, b5, b6, b7, b8⟩ := saveAt (by omega) h hS w
    refine ⟨M', ?_, b7, ?_⟩
    · unfold f_X0_save
      rw [if_neg (by omega), chk_t ⟨b2, b3⟩, chk_t b4, b1, ob_s, chk_t (by omega), b6]
    · have e1 : pushC c = c + 1 := if_neg e
      have e2 : pushH c hs s = fun i => if i = c then s else hs i := if_neg e
      rw [e1, e2]; exact b8
theorem restore_ok {M : Mem} {c : Nat} {hs : Nat → Sg} (h : HC M c hs) (h0 : 0 < c) (w : WN (hs (c - 1))) : ∃ M', f_X0_restore M = some M' ∧ SC 1 M' (hs (c - 1)) ∧ HC M' (c - 1) hs := by
  obtain ⟨h1, h2, ad, h3, h4, h5⟩ := h
  obtain ⟨a1, a2⟩ := h3 (c - 1) (by omega)
  have e0 : M 13 0 - 1 = ((c - 1 : Nat) : Int) := by omega
  have e1 : mset M 13 0 (M 13 0 - 1) 13 0 = ((c - 1 : Nat) : Int) := by rw [ms_eq]; exact e0
  have e2 : mset M 13 0 (M 13 0 - 1) 14 ((c - 1 : Nat) : Int) = ad (c - 1) := by rw [ms_a (by decide)]; exact a2
  have hS : SC (ad (c - 1)) (mset M 13 0 (M 13 0 - 1)) (hs (c - 1)) := (h5 (c - 1) (by omega)).fr (fun a j q1 q2 => ms_a (by omega))
  obtain ⟨M', b1, b2⟩ := copy_ok (r := 1) hS w (by omega)
  refine ⟨M', ?_, b2, by omega, ?_, ad, fun i hi => ⟨(h3 i hi).1, ?_⟩, h4, fun i hi => ?_⟩
  · unfold f_X0_restore
    rw [chk_t (by omega), e1, chk_t (by omega), e2, Int.toNat_natCast, chk_t (isSt a1), b1, ob_s]
  · rw [cg_X6_copyFrom b1 13 0 (by omega)]; exact e1
  · rw [cg_X6_copyFrom b1 14 i (by omega), ms_a (by decide)]; exact (h3 i hi).2
  · have b := (h3 i (by omega)).1
    refine (h5 i (by omega)).fr (fun a j q1 q2 => ?_)
    rw [cg_X6_copyFrom b1 a j (by omega), ms_a (by omega)]
