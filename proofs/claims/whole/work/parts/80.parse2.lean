/-! parse -/
theorem rd1_le {tl : Nat} {tx : Nat → Int} {p e : Nat} {s : Sg} (hr : rd1 tl tx p s = .inl e) : e ≤ p + 3 := by
  unfold rd1 at hr
  split at hr
  · have := Sum.inl.inj hr; omega
  · split at hr
    · have := Sum.inl.inj hr; omega
    · split at hr
      · have := Sum.inl.inj hr; omega
      · split at hr
        · have := Sum.inl.inj hr; omega
        · cases hr
theorem rdl_le {tl : Nat} {tx : Nat → Int} : ∀ (f p : Nat) (s : Sg) (e : Nat), rdl tl tx f p s = .inl e → e ≤ p + 4 * f + 3
  | 0, _, _, _, h => by cases h
  | f + 1, p, s, e, h => by
    rw [rdl] at h
    split at h
    · cases h
    · cases hr : rd1 tl tx p s with
      | inl e' =>
        rw [hr] at h
        have h := Sum.inl.inj h
        have := rd1_le hr
        omega
      | inr s' =>
        rw [hr] at h
        have := rdl_le f (p + 4) s' e h
        omega
theorem prs_le {tl : Nat} {tx : Nat → Int} {e : Nat} (h : prs tl tx = .inl e) : e ≤ 104 := by
  unfold prs at h
  split at h
  · have := Sum.inl.inj h; omega
  · have := rdl_le 25 1 _ e h; omega
section Parse
variable {F : Nat} {M : Mem} {A : Ab}
theorem save_fr (hF : 100000 ≤ F) {c : Nat} {hs : Nat → Sg} (h : HC M c hs) {M' : Mem} (e : f_X0_save F M = some M') : ∀ a i, a < 13 → M' a i = M a i := by
  obtain ⟨h1, h2, ad, h3, h4, h5⟩ := h
  unfold f_X0_save at e
  by_cases c4 : c = 4
  · subst c4
    obtain ⟨a1, a2⟩ := h3 0 (by decide)
    have a2' : M 14 0 = ad 0 := a2
    have d1 := dropO_loop (F := F) a1 h3 h2 3 0 F rfl (by omega)
    have d2 : f_X0_dropOldest F M = some (mset (mset (mfill M 14 0 3 (fun j => M 14 (j + 1))) 14 3 (ad 0)) 13 0 3) := by
      refine Eq.trans ?_ d1
      unfold f_X0_dropOldest
      rw [a2']
      show f_X0_dropOldest_9 F F _ 0 M = f_X0_dropOldest_9 F F _ 0 (mfill M 14 0 0 _)
      rw [mfill_0]; rfl
    rw [if_pos (by omega), d2, ob_s] at e
    obtain ⟨_, e⟩ := chk_some e
    obtain ⟨_, e⟩ := chk_some e
    obtain ⟨q, e1, e⟩ := ob_some e
    obtain ⟨_, e⟩ := chk_some e
    have e := Option.some.inj e
    have r1 : mset (mset (mfill M 14 0 3 (fun j => M 14 (j + 1))) 14 3 (ad 0)) 13 0 3 13 0 = 3 := ms_eq _ _ _ _
    have r2 : mset (mset (mfill M 14 0 3 (fun j => M 14 (j + 1))) 14 3 (ad 0)) 13 0 3 14 3 = ad 0 := by rw [ms_a (by decide)]; exact ms_eq _ _ _ _
    rw [r1, r2, Int.toNat_natCast] at e1
    intro a i ha
    rw [← e, ms_a (by omega), cg_X6_copyFrom e1 a i (by omega), ms_a (by omega), ms_a (by omega), mf_a (by omega)]
  · obtain ⟨a1, a2⟩ := h3 c (by omega)
    rw [if_neg (by omega)] at e
    obtain ⟨_, e⟩ := chk_some e
    obtain ⟨_, e⟩ := chk_some e
    obtain ⟨q, e1, e⟩ := ob_some e
    obtain ⟨_, e⟩ := chk_some e
    have e := Option.some.inj e
    rw [h2, a2, Int.toNat_natCast] at e1
    intro a i ha
    rw [← e, ms_a (by omega), cg_X6_copyFrom e1 a i (by omega)]
theorem aside_ok (hF : 100000 ≤ F) (M0 : Mem) : ∃ M', f_X10_parse_7 F F 0 M0 = (ob (f_X10_takes 0 9 (mset M' 64 20 0)) fun q4 => chk (inR q4.1) (if q4.1 = (-1) then f_X10_parse_65 F F 0 q4.2 else ob (f_X10_begins F q4.1 q4.2) fun q21 => f_X10_parse_65 F F 1 q21)) ∧ (∀ k : Int, 0 ≤ k → k < 140 → M' 78 k = M0 65 k) ∧ ∀ a i, a ≠ 78 → M' a i = M0 a i := by
  refine lpe (f := fun fu (y : Int × Mem) => f_X10_parse_7 F fu y.1 y.2) (I := fun i y => y.1 = i ∧ (∀ k : Int, 0 ≤ k → k < i → y.2 78 k = M0 65 k) ∧ ∀ a i, a ≠ 78 → y.2 a i = M0 a i) (Q := fun r => ∃ M', r = (ob (f_X10_takes 0 9 (mset M' 64 20 0)) fun q4 => chk (inR q4.1) (if q4.1 = (-1) then f_X10_parse_65 F F 0 q4.2 else ob (f_X10_begins F q4.1 q4.2) fun q21 => f_X10_parse_65 F F 1 q21)) ∧ (∀ k : Int, 0 ≤ k → k < 140 → M' 78 k = M0 65 k) ∧ ∀ a i, a ≠ 78 → M' a i = M0 a i) 140 ?_ ?_ 140 0 F (0, M0) (by omega) (by omega) ⟨rfl, fun k h1 h2 => by omega, fun _ _ _ => rfl⟩
  · rintro i fu ⟨y1, N⟩ hi ⟨q1, q2, q3⟩
    dsimp only at q1 q2 q3 ⊢
    subst q1
    right
    refine ⟨((i : Int) + 1, mset N 78 i (N 65 i)), ?_, rfl, fun k h1 h2 => ?_, fun a j ha => ?_⟩
    · rw [f_X10_parse_7, chk_t (by omega), if_neg (by omega), chk_t (by omega)]
    · dsimp only
      by_cases e : k = i
      · subst e; rw [ms_eq, q3 65 _ (by decide)]
      · rw [ms_i e]; exact q2 k h1 (by omega)
    · dsimp only; rw [ms_a ha]; exact q3 a j ha
  · rintro fu ⟨y1, N⟩ ⟨q1, q2, q3⟩
    dsimp only at q1 q2 q3 ⊢
    subst q1
    exact ⟨N, by rw [f_X10_parse_7, chk_t (by omega), if_pos (by omega)], fun k h1 h2 => q2 k h1 h2, q3⟩
theorem swap_ok (hF : 100000 ≤ F) {v2 : Int} (hv : bit01 v2) (M0 : Mem) : ∃ M', f_X10_parse_90 F F v2 0 M0 = (if v2 = 0 then some ((-10) - (M' 64 20), M') else ob (f_X10_saves F M') fun q11 => f_X10_parse_149 F F 0 q11) ∧ (∀ k : Int, 0 ≤ k → k < 140 → M' 65 k = M0 78 k ∧ M' 78 k = M0 65 k) ∧ ∀ a i, a ≠ 65 → a ≠ 78 → M' a i = M0 a i := by
  refine lpe (f := fun fu (y : Int × Mem) => f_X10_parse_90 F fu v2 y.1 y.2) (I := fun i y => y.1 = i ∧ (∀ k : Int, 0 ≤ k → k < i → y.2 65 k = M0 78 k ∧ y.2 78 k = M0 65 k) ∧ (∀ k : Int, (i : Int) ≤ k → y.2 65 k = M0 65 k ∧ y.2 78 k = M0 78 k) ∧ ∀ a i, a ≠ 65 → a ≠ 78 → y.2 a i = M0 a i) (Q := fun r => ∃ M', r = (if v2 = 0 then some ((-10) - (M' 64 20), M') else ob (f_X10_saves F M') fun q11 => f_X10_parse_149 F F 0 q11) ∧ (∀ k : Int, 0 ≤ k → k < 140 → M' 65 k = M0 78 k ∧ M' 78 k = M0 65 k) ∧ ∀ a i, a ≠ 65 → a ≠ 78 → M' a i = M0 a i) 140 ?_ ?_ 140 0 F (0, M0) (by omega) (by omega) ⟨rfl, fun k h1 h2 => by omega, fun _ _ => ⟨rfl, rfl⟩, fun _ _ _ _ => rfl⟩
  · rintro i fu ⟨y1, N⟩ hi ⟨q1, q2, q3, q4⟩
    dsimp only at q1 q2 q3 q4 ⊢
    subst q1
    right
    obtain ⟨p1, p2⟩ := q3 i (by omega)
    refine ⟨((i : Int) + 1, mset (mset N 65 i (N 78 i)) 78 i (N 65 i)), ?_, rfl, fun k h1 h2 => ?_, fun k h1 => ?_, fun a j k1 k2 => ?_⟩
    · rw [f_X10_parse_90, chk_t (by omega), if_neg (by omega), chk_t (by omega)]
    · dsimp only
      by_cases e : k = i
      · subst e
        exact ⟨by rw [ms_a (by decide), ms_eq]; exact p2, by rw [ms_eq]; exact p1⟩
      · obtain ⟨r1, r2⟩ := q2 k h1 (by omega)
        exact ⟨by rw [ms_a (by decide), ms_i e]; exact r1, by rw [ms_i e, ms_a (by decide)]; exact r2⟩
    · dsimp only
      obtain ⟨r1, r2⟩ := q3 k (by omega)
      exact ⟨by rw [ms_a (by decide), ms_i (by omega)]; exact r1, by rw [ms_i (by omega), ms_a (by decide)]; exact r2⟩
    · dsimp only; rw [ms_a k2, ms_a k1]; exact q4 a j k1 k2
  · rintro fu ⟨y1, N⟩ ⟨q1, q2, q3, q4⟩
    dsimp only at q1 q2 q3 q4 ⊢
    subst q1
    exact ⟨N, by rw [f_X10_parse_90, chk_t (by omega), if_pos (by omega)], fun k h1 h2 => q2 k h1 h2, q4⟩
theorem back_ok (hF : 100000 ≤ F) (M0 : Mem) : ∃ M', f_X10_parse_149 F F 0 M0 = some (M' 65 1, M') ∧ (∀ k : Int, 0 ≤ k → k < 140 → M' 65 k = M0 78 k) ∧ ∀ a i, a ≠ 65 → M' a i = M0 a i := by
  refine lpe (f := fun fu (y : Int × Mem) => f_X10_parse_149 F fu y.1 y.2) (I := fun i y => y.1 = i ∧ (∀ k : Int, 0 ≤ k → k < i → y.2 65 k = M0 78 k) ∧ ∀ a i, a ≠ 65 → y.2 a i = M0 a i) (Q := fun r => ∃ M', r = some (M' 65 1, M') ∧ (∀ k : Int, 0 ≤ k → k < 140 → M' 65 k = M0 78 k) ∧ ∀ a i, a ≠ 65 → M' a i = M0 a i) 140 ?_ ?_ 140 0 F (0, M0) (by omega) (by omega) ⟨rfl, fun k h1 h2 => by omega, fun _ _ _ => rfl⟩
  · rintro i fu ⟨y1, N⟩ hi ⟨q1, q2, q3⟩
    dsimp only at q1 q2 q3 ⊢
    subst q1
    right
    refine ⟨((i : Int) + 1, mset N 65 i (N 78 i)), ?_, rfl, fun k h1 h2 => ?_, fun a j ha => ?_⟩
    · rw [f_X10_parse_149, chk_t (by omega), if_neg (by omega), chk_t (by omega)]
    · dsimp only
      by_cases e : k = i
      · subst e; rw [ms_eq, q3 78 _ (by decide)]
      · rw [ms_i e]; exact q2 k h1 (by omega)
    · dsimp only; rw [ms_a ha]; exact q3 a j ha
  · rintro fu ⟨y1, N⟩ ⟨q1, q2, q3⟩
    dsimp only at q1 q2 q3 ⊢
    subst q1
    exact ⟨N, by rw [f_X10_parse_149, chk_t (by omega), if_pos (by omega)], fun k h1 h2 => q2 k h1 h2, q3⟩
/-- the model's reading, up to the exchange -/
theorem read_model (hF : 100000 ≤ F) (w : WA A) (h : JM M A) : ∃ M', f_X10_parse F M = f_X10_parse_90 F F (match prs A.2.2.2.1 A.2.2.2.2 with | .inl _ => 0 | .inr _ => 1) 0 M' ∧ (∀ e, prs A.2.2.2.1 A.2.2.2.2 = .inl e → M' 64 20 = (e : Int)) ∧ (∀ s', prs A.2.2.2.1 A.2.2.2.2 = .inr s' → SM 65 0 M' s') ∧ (∀ k : Int, 0 ≤ k → k < 140 → M' 78 k = M 65 k) ∧ M' 64 3 = 0 ∧ ∀ a i, a ≠ 65 → a ≠ 78 → (a ≠ 64 ∨ (i ≠ 20 ∧ i ≠ 3)) → M' a i = M a i := by
  obtain ⟨s, c, hs, tl, tx⟩ := A
  obtain ⟨k1, k2, k3, k4⟩ := h
  have k3 : M 64 5 = tl := k3
  have ht : tl ≤ 100 := w.2.2.1
  have hb : ∀ i, i < tl → 0 ≤ tx i ∧ tx i ≤ 127 := w.2.2.2
  obtain ⟨M1, a1, a2, a3⟩ := aside_ok hF (mset M 64 3 0)
  have m5 : mset M1 64 20 0 64 5 = tl := by rw [ms_i (by decide), a3 64 5 (by decide), ms_i (by decide)]; exact k3
  have m67 : ∀ i : Nat, i < tl → mset M1 64 20 0 67 i = tx i := fun i hi => by rw [ms_a (by decide), a3 67 i (by decide), ms_a (by decide)]; exact k4 i hi
  have r0 := dg_R tl tx 0
  have tk := takes_eq m5 m67 ht hb (i := 0) (ms_eq _ _ _ _) (by omega) (lo := 0) (hi' := 9) (by omega) (by omega) (by omega) (by omega)
  have f0 : ∀ (k : Int) a i, a ≠ 65 → a ≠ 78 → (a ≠ 64 ∨ (i ≠ 20 ∧ i ≠ 3)) → mset M1 64 20 k a i = M a i := fun k a i q1 q2 q3 => by
    have : mset M1 64 20 k a i = M1 a i := by unfold mset; rw [if_neg (by omega)]
    rw [this, a3 a i q2]; unfold mset; rw [if_neg (by omega)]
  unfold f_X10_parse
  rw [a1]
  show ∃ M', _ = f_X10_parse_90 F F (match prs tl tx with | .inl _ => 0 | .inr _ => 1) 0 M' ∧ (∀ e, prs tl tx = .inl e → M' 64 20 = (e : Int)) ∧ (∀ s', prs tl tx = .inr s' → SM 65 0 M' s') ∧ _
  by_cases c : dg tl tx 0 = -1
  · have ep : prs tl tx = .inl 0 := by unfold prs; rw [if_pos c]
    rw [if_neg (by omega), if_neg (by omega)] at tk
    obtain ⟨fu, e⟩ : ∃ g, F = g + 1 := ⟨F - 1, by omega⟩
    have e65 : f_X10_parse_65 F (fu + 1) 0 (mset M1 64 20 0) = f_X10_parse_90 F F 0 0 (mset M1 64 20 0) := by rw [f_X10_parse_65, chk_t (by decide), if_pos rfl]
    rw [← e] at e65
    rw [ep, tk, ob_s]
    dsimp only
    rw [chk_t (by decide), if_pos rfl, e65]
    refine ⟨_, rfl, fun e q => ?_, fun s' q => (by cases q), fun k q1 q2 => ?_, ?_, f0 0⟩
    · have q := Sum.inl.inj q
      rw [← q, ms_eq]; rfl
    · rw [ms_a (by decide), a2 k q1 q2, ms_a (by decide)]
    · rw [ms_i (by decide), a3 64 3 (by decide), ms_eq]
  · obtain ⟨n, hn⟩ : ∃ k : Nat, dg tl tx 0 = k := ⟨(dg tl tx 0).toNat, by omega⟩
    have ep : prs tl tx = rdl tl tx 25 1 (s0 n) := by unfold prs; rw [if_neg c, hn, Int.toNat_natCast]
    have mm : mset (mset M1 64 20 0) 64 20 (((0 : Nat) : Int) + 1) = mset M1 64 20 1 := by
      funext a i
      unfold mset
      by_cases q : a = 64 ∧ i = 20
      · rw [if_pos q, if_pos q]; rfl
      · rw [if_neg q, if_neg q, if_neg q]
    rw [if_pos (by omega), if_pos (by omega), mm, hn] at tk
    obtain ⟨M2, b1, b2, b3⟩ := mbegins_ok hF (show n ≤ 9 by omega) (mset M1 64 20 1)
    obtain ⟨M3, c1, c2, c3, c4⟩ := loop_model (tx := tx) hF ht hb 25 1 F (s0 n) M2 (by omega) (by omega) (by omega) (NwS_0 (by omega)) (by rw [b3 64 5 (by decide), ms_i (by decide), a3 64 5 (by decide), ms_i (by decide)]; exact k3) (fun i hi => by rw [b3 67 i (by decide), ms_a (by decide), a3 67 i (by decide), ms_a (by decide)]; exact k4 i hi) (by rw [b3 64 20 (by decide), ms_eq]; rfl) b2
    rw [tk, ob_s]
    dsimp only
    rw [chk_t (by omega), if_neg (by omega), b1, ob_s, c1, ep]
    refine ⟨M3, rfl, c2, c3, fun k q1 q2 => ?_, ?_, fun a i q1 q2 q3 => ?_⟩
    · rw [c4 78 k (by decide) (by omega), b3 78 k (by decide), ms_a (by decide), a2 k q1 q2, ms_a (by decide)]
    · rw [c4 64 3 (by decide) (by omega), b3 64 3 (by decide), ms_i (by decide), a3 64 3 (by decide), ms_eq]
    · rw [c4 a i q1 (by omega), b3 a i q1]; exact f0 1 a i q1 q2 q3
theorem op_parse (hF : 100000 ≤ F) (w : WA A) (hC : JC M A) (hM : JM M A) : OpP (f_X9_parse F M) (f_X10_parse F) := by
  have hc : A.2.1 ≤ 4 := hC.2.1.1
  have ht := w.2.2.1
  obtain ⟨M1, a1, a2, a3⟩ := into_class (tx := A.2.2.2.2) hF ht hC.2.2.1.1 hC.2.2.1.2
  have hJ1 : JC M1 A := hC.fr (fun a i q => a3 a i (by omega))
  cases hp : prs A.2.2.2.1 A.2.2.2.2 with
  | inl e =>
    have he := prs_le hp
    rw [hp] at a1
    dsimp only at a1
    refine OpP.mk (r := -10 - (e : Int)) (B := A) w w (by omega) hM ⟨M1, ?_, hJ1, fun a i q1 q2 => a3 a i (by omega)⟩ (fun N h => ?_)
    · unfold f_X9_parse
      rw [a1, ob_s]
      dsimp only
      rw [chk_t (by omega), if_neg (by omega)]
    · obtain ⟨M2, b1, b2, b3, b4, b5, b6⟩ := read_model hF w h
      obtain ⟨M3, c1, c2, c3⟩ := swap_ok hF (v2 := 0) (Or.inl rfl) M2
      rw [hp] at b1
      dsimp only at b1
      have e20 : M3 64 20 = e := by rw [c3 64 20 (by decide) (by decide)]; exact b2 e hp
      have ee : f_X10_parse F N = some (-10 - (e : Int), M3) := by rw [b1, c1, if_pos rfl, e20]
      obtain ⟨k1, k2, k3, k4⟩ := h
      refine ⟨M3, ee, ⟨k1.fr (fun j q1 q2 => by rw [(c2 j q1 (by omega)).1, b4 j q1 (by omega)]) w.1.1, k2.fr (fun i hi => (w.2.1 i hi).1) ?_ (fun i => ?_), ?_, fun i hi => ?_⟩, fun a i q => ?_⟩
      · rw [c3 64 2 (by decide) (by decide), b6 64 2 (by decide) (by decide) (by omega)]
      · rw [c3 66 i (by decide) (by decide), b6 66 i (by decide) (by decide) (by omega)]
      · rw [c3 64 5 (by decide) (by decide), b6 64 5 (by decide) (by decide) (by omega)]; exact k3
      · rw [c3 67 i (by decide) (by decide), b6 67 i (by decide) (by decide) (by omega)]; exact k4 i hi
      · rw [c3 a i (by omega) (by omega), b6 a i (by omega) (by omega) (by omega)]
  | inr s' =>
    obtain ⟨hS7, hN⟩ := a2 s' hp
    rw [hp] at a1
    dsimp only at a1
    have w2 := hN.1.2.1
    refine OpP.mk (r := sK s') (B := pushA A s') w (WA_push (c := 0) hc w hN.wf) (by omega) hM ?_ (fun N h => ?_)
    · obtain ⟨M2, b1, b2, b3⟩ := csave hF w hJ1
      have fs := save_fr hF hJ1.2.1 b1
      have hS72 : SC 7 M2 s' := hS7.fr (fun a i q1 q2 => fs a i (by omega))
      obtain ⟨M3, c1, c2⟩ := copy_ok (r := 1) hS72 hN.1 (by omega)
      obtain ⟨M4, d1, d2, d3⟩ := cnet hF b2 hN.1 c2 (fun a i q => cg_X6_copyFrom c1 a i (by omega))
      rw [hN.clr] at d2
      have e1 : M4 1 1 = sK s' := d2.1.2.1
      refine ⟨M4, ?_, d2, fun a i q1 q2 => by rw [d3 a i (by omega), b3 a i (by omega)]; exact a3 a i (by omega)⟩
      unfold f_X9_parse
      rw [a1, ob_s]
      dsimp only
      rw [chk_t (by decide), if_pos rfl, b1, ob_s, c1, ob_s, d1, ob_s, e1]
    · obtain ⟨M2, b1, b2, b3, b4, b5, b6⟩ := read_model hF w h
      obtain ⟨M3, c1, c2, c3⟩ := swap_ok hF (v2 := 1) (Or.inr rfl) M2
      rw [hp] at b1
      dsimp only at b1
      obtain ⟨k1, k2, k3, k4⟩ := h
      have hJ3 : JM M3 A := ⟨k1.fr (fun j q1 q2 => by rw [(c2 j q1 (by omega)).1, b4 j q1 (by omega)]) w.1.1, k2.fr (fun i hi => (w.2.1 i hi).1) (by rw [c3 64 2 (by decide) (by decide), b6 64 2 (by decide) (by decide) (by omega)]) (fun i => by rw [c3 66 i (by decide) (by decide), b6 66 i (by decide) (by decide) (by omega)]), by rw [c3 64 5 (by decide) (by decide), b6 64 5 (by decide) (by decide) (by omega)]; exact k3, fun i hi => by rw [c3 67 i (by decide) (by decide), b6 67 i (by decide) (by decide) (by omega)]; exact k4 i hi⟩
      obtain ⟨M4, d1, d2, d3⟩ := msave hF w hJ3
      obtain ⟨M5, e1, e2, e3⟩ := back_ok hF M4
      have hS5 : SM 65 0 M5 s' := (b3 s' hp).mv hN.1 (fun i q1 q2 => by rw [Int.zero_add, e2 i q1 q2, d3 78 i (by omega) (by decide), (c2 i q1 q2).2])
      have k5 : M5 65 1 = sK s' := hS5.2.1
      have ee : f_X10_parse F N = some ((sK s' : Int), M5) := by rw [b1, c1, if_neg (by decide), d1, ob_s, e1, k5]
      refine ⟨M5, ee, d2.jm hc w hS5 (fun a i q => e3 a i (by omega)), fun a i q => cg_X10_parse ee a i (by omega)⟩
end Parse
