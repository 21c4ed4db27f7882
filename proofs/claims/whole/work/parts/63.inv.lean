/-! what holds between two calls -/
abbrev Ab : Type := Sg × Nat × (Nat → Sg) × Nat × (Nat → Int)
def JC (M : Mem) (A : Ab) : Prop := SC 1 M A.1 ∧ HC M A.2.1 A.2.2.1 ∧ (M 62 0 = A.2.2.2.1 ∧ ∀ i : Nat, i < A.2.2.2.1 → M 63 i = A.2.2.2.2 i) ∧ WY M A.1 ∧ SR M A.1
def JM (M : Mem) (A : Ab) : Prop := SM 65 0 M A.1 ∧ HM M A.2.1 A.2.2.1 ∧ M 64 5 = A.2.2.2.1 ∧ ∀ i : Nat, i < A.2.2.2.1 → M 67 i = A.2.2.2.2 i
def WA (A : Ab) : Prop := WF A.1 ∧ (∀ i, i < A.2.1 → WF (A.2.2.1 i)) ∧ A.2.2.2.1 ≤ 100 ∧ ∀ i, i < A.2.2.2.1 → 0 ≤ A.2.2.2.2 i ∧ A.2.2.2.2 i ≤ 127
theorem SR.fr {M M' : Mem} {s : Sg} (h : SR M s) (f : ∀ a i, a = 51 ∨ a = 53 ∨ a = 54 → M' a i = M a i) : SR M' s := by
  unfold SR SA at h ⊢
  rw [f 51 2 (by omega)]
  rcases h with h | ⟨h, h1, h2, h3, h4⟩
  · exact Or.inl h
  · exact Or.inr ⟨h, by rw [f 51 0 (by omega)]; exact h1, by rw [f 51 1 (by omega)]; exact h2, fun q v hv => by rw [f 53 v (by omega)]; exact h3 q v hv, fun k hk => by rw [f 54 k (by omega)]; exact h4 k hk⟩
theorem JC.fr {M M' : Mem} {A : Ab} (h : JC M A) (f : ∀ a i, (1 ≤ a ∧ a < 7) ∨ (13 ≤ a ∧ a < 39) ∨ (40 ≤ a ∧ a < 44) ∨ a = 51 ∨ a = 53 ∨ a = 54 ∨ a = 62 ∨ a = 63 → M' a i = M a i) : JC M' A := by
  obtain ⟨h1, h2, ⟨h3, h4⟩, h5, h6⟩ := h
  exact ⟨h1.fr (fun a i q1 q2 => f a i (by omega)), h2.fr (fun a i q1 q2 => f a i (by omega)), ⟨by rw [f 62 0 (by omega)]; exact h3, fun i hi => by rw [f 63 i (by omega)]; exact h4 i hi⟩, h5.fr (fun a i q1 q2 => f a i (by omega)), h6.fr (fun a i q => f a i (by omega))⟩
theorem JM.fr {M M' : Mem} {A : Ab} (w : WA A) (h : JM M A) (f : ∀ a i, a = 65 ∨ a = 66 ∨ a = 67 ∨ (a = 64 ∧ (i = 2 ∨ i = 5)) → M' a i = M a i) : JM M' A := by
  obtain ⟨h1, h2, h3, h4⟩ := h
  exact ⟨h1.fr (fun i _ _ => f 65 i (by omega)) w.1.1, h2.fr (fun i hi => (w.2.1 i hi).1) (f 64 2 (by omega)) (fun i => f 66 i (by omega)), by rw [f 64 5 (by omega)]; exact h3, fun i hi => by rw [f 67 i (by omega)]; exact h4 i hi⟩
def St (M : Mem) : Prop := ∃ A, WA A ∧ JC M A ∧ JM M A
/-- a call with exceptions: both do alike -/
def OpK (L : Option (Int × Mem)) (X : Mem → Option (Int × Mem)) : Prop := ∃ k M1 b M2, L = some (k, M1) ∧ X M1 = some (b, M2) ∧ M2 64 3 = k ∧ inR k ∧ (k = 0 → M2 1079 0 = b ∧ inR b) ∧ St M2
/-- a call without -/
def OpP (L : Option (Int × Mem)) (X : Mem → Option (Int × Mem)) : Prop := ∃ r M1 M2, L = some (r, M1) ∧ X M1 = some (r, M2) ∧ inR r ∧ St M2
theorem OpK.mk {M : Mem} {L : Option (Int × Mem)} {X : Mem → Option (Int × Mem)} {k r : Int} {A B : Ab} (wA : WA A) (wB : WA B) (hk : inR k) (hr : k = 0 → inR r) (hM : JM M A) (C : ∃ M1, L = some (k, M1) ∧ JC M1 B ∧ (∀ a i, 64 ≤ a → a < 1079 → M1 a i = M a i) ∧ (k = 0 → M1 1079 0 = r)) (D : ∀ M1, JM M1 A → ∃ b M2, X M1 = some (b, M2) ∧ JM M2 B ∧ M2 64 3 = k ∧ (∀ a i, a < 64 ∨ a = 1079 → M2 a i = M1 a i) ∧ (k = 0 → b = r)) : OpK L X := by
  obtain ⟨M1, c1, c2, c3, c4⟩ := C
  obtain ⟨b, M2, d1, d2, d3, d4, d5⟩ := D M1 (hM.fr wA (fun a i q => c3 a i (by omega) (by omega)))
  refine ⟨k, M1, b, M2, c1, d1, d3, hk, fun q => ⟨?_, ?_⟩, B, wB, c2.fr (fun a i q => d4 a i (by omega)), d2⟩
  · rw [d4 1079 0 (by omega), c4 q, d5 q]
  · rw [d5 q]; exact hr q
theorem OpP.mk {M : Mem} {L : Option (Int × Mem)} {X : Mem → Option (Int × Mem)} {r : Int} {A B : Ab} (wA : WA A) (wB : WA B) (hr : inR r) (hM : JM M A) (C : ∃ M1, L = some (r, M1) ∧ JC M1 B ∧ (∀ a i, 64 ≤ a → a < 1079 → M1 a i = M a i)) (D : ∀ M1, JM M1 A → ∃ M2, X M1 = some (r, M2) ∧ JM M2 B ∧ (∀ a i, a < 64 → M2 a i = M1 a i)) : OpP L X := by
  obtain ⟨M1, c1, c2, c3⟩ := C
  obtain ⟨M2, d1, d2, d4⟩ := D M1 (hM.fr wA (fun a i q => c3 a i (by omega) (by omega)))
  exact ⟨r, M1, M2, c1, d1, hr, B, wB, c2.fr (fun a i q => d4 a i (by omega)), d2⟩
/-- both refuse with the same exception -/
theorem OpK.no {M : Mem} {L : Option (Int × Mem)} {X : Mem → Option (Int × Mem)} {k : Int} {A : Ab} (wA : WA A) (hC : JC M A) (hM : JM M A) (h1 : 0 < k) (h2 : k < 10) (hL : L = some (k, M)) (hX : ∀ M1, JM M1 A → X M1 = some (0, mset M1 64 3 k)) : OpK L X := by
  refine OpK.mk (r := 0) wA wA (by omega) (fun q => by omega) hM ⟨M, hL, hC, fun _ _ _ _ => rfl, fun q => by omega⟩ (fun M1 h => ⟨0, _, hX M1 h, h.fr wA (fun a i q => ?_), ms_eq _ _ _ _, fun a i q => ms_a (by omega), fun q => by omega⟩)
  unfold mset; rw [if_neg (by omega)]
/-- both answer, nothing changes -/
theorem OpK.rd {M : Mem} {L : Option (Int × Mem)} {X : Mem → Option (Int × Mem)} {r : Int} {A : Ab} (wA : WA A) (hr : inR r) (hC : JC M A) (hM : JM M A) (hL : ∃ M1, L = some (0, mset M1 1079 0 r) ∧ ∀ a i, (1 ≤ a ∧ a < 7) ∨ (13 ≤ a ∧ a < 39) ∨ (40 ≤ a ∧ a < 44) ∨ a = 51 ∨ a = 53 ∨ a = 54 ∨ a = 62 ∨ (63 ≤ a ∧ a < 1079) → M1 a i = M a i) (hX : ∀ M1, JM M1 A → ∃ M2, X M1 = some (r, M2) ∧ M2 64 3 = 0 ∧ ∀ a i, a < 64 ∨ (65 ≤ a ∧ a < 68) ∨ (a = 64 ∧ (i = 2 ∨ i = 5)) ∨ a = 1079 → M2 a i = M1 a i) : OpK L X := by
  obtain ⟨M1, l1, l2⟩ := hL
  refine OpK.mk wA wA (by decide) (fun _ => hr) hM ⟨_, l1, hC.fr (fun a i q => ?_), fun a i q1 q2 => ?_, fun _ => ms_eq _ _ _ _⟩ (fun M1 h => ?_)
  · rw [ms_a (by omega)]; exact l2 a i (by omega)
  · rw [ms_a (by omega)]; exact l2 a i (by omega)
  · obtain ⟨M2, m1, m2, m3⟩ := hX M1 h
    exact ⟨r, M2, m1, h.fr wA (fun a i q => m3 a i (by omega)), m2, fun a i q => m3 a i (by omega), fun _ => rfl⟩
theorem OpP.rd {M : Mem} {L : Option (Int × Mem)} {X : Mem → Option (Int × Mem)} {r : Int} {A : Ab} (wA : WA A) (hr : inR r) (hC : JC M A) (hM : JM M A) (hL : ∃ M1, L = some (r, M1) ∧ ∀ a i, (1 ≤ a ∧ a < 7) ∨ (13 ≤ a ∧ a < 39) ∨ (40 ≤ a ∧ a < 44) ∨ a = 51 ∨ a = 53 ∨ a = 54 ∨ a = 62 ∨ (63 ≤ a ∧ a < 1079) → M1 a i = M a i) (hX : ∀ M1, JM M1 A → ∃ M2, X M1 = some (r, M2) ∧ ∀ a i, a < 64 ∨ (65 ≤ a ∧ a < 68) ∨ (a = 64 ∧ (i = 2 ∨ i = 5)) → M2 a i = M1 a i) : OpP L X := by
  obtain ⟨M1, l1, l2⟩ := hL
  refine OpP.mk wA wA hr hM ⟨M1, l1, hC.fr (fun a i q => l2 a i (by omega)), fun a i q1 q2 => l2 a i (by omega)⟩ (fun M1 h => ?_)
  obtain ⟨M2, m1, m3⟩ := hX M1 h
  exact ⟨M2, m1, h.fr wA (fun a i q => m3 a i (by omega)), fun a i q => m3 a i (by omega)⟩
/-! the questions at the head of a call -/
section Need
variable {M : Mem} {s : Sg} {x : Int}
theorem nN_t (hS : SC 1 M s) (w : WN s) (h : 0 ≤ x ∧ x < sN s) : f_X9_needNode x M = some (.inr ()) := by
  have := hS.1
  have := w.1
  unfold f_X9_needNode
  rw [chk_t (by omega), if_neg (by omega), if_pos (by omega)]
theorem nN_f (hS : SC 1 M s) (hx : inR x) (h : ¬ (0 ≤ x ∧ x < sN s)) : f_X9_needNode x M = some (.inl 1) := by
  have := hS.1
  unfold f_X9_needNode
  rw [chk_t hx]
  by_cases c : x < 0
  · rw [if_pos c]
  · rw [if_neg c, if_neg (by omega)]
theorem nB_t (hS : SC 1 M s) (w : WN s) (h : 0 ≤ x ∧ x < sN s) : f_X9_needLabel x M = some (.inr ()) := nN_t hS w h
theorem nB_f (hS : SC 1 M s) (hx : inR x) (h : ¬ (0 ≤ x ∧ x < sN s)) : f_X9_needLabel x M = some (.inl 1) := nN_f hS hx h
theorem nL_t (hS : SC 1 M s) (w : WN s) (h : 0 ≤ x ∧ x < sK s) : f_X9_needLink x M = some (.inr ()) := by
  have : M 1 1 = sK s := hS.2.1
  have := w.2.1
  unfold f_X9_needLink
  rw [chk_t (by omega), if_neg (by omega), if_pos (by omega)]
theorem nL_f (hS : SC 1 M s) (hx : inR x) (h : ¬ (0 ≤ x ∧ x < sK s)) : f_X9_needLink x M = some (.inl 1) := by
  have : M 1 1 = sK s := hS.2.1
  unfold f_X9_needLink
  rw [chk_t hx]
  by_cases c : x < 0
  · rw [if_pos c]
  · rw [if_neg c, if_neg (by omega)]
theorem nR_t {a b : Int} (hx : inR x) (ha : inR a) (hb : inR b) (h : a ≤ x ∧ x ≤ b) (M : Mem) : f_X9_needRange x a b M = some (.inr ()) := by
  unfold f_X9_needRange
  rw [chk_t (by omega), if_neg (by omega), if_pos (by omega)]
theorem nR_f {a b : Int} (hx : inR x) (ha : inR a) (hb : inR b) (h : ¬ (a ≤ x ∧ x ≤ b)) (M : Mem) : f_X9_needRange x a b M = some (.inl 0) := by
  unfold f_X9_needRange
  rw [chk_t (by omega)]
  by_cases c : x < a
  · rw [if_pos c]
  · rw [if_neg c, if_neg (by omega)]
variable {α : Type} {P Q : Option α}
theorem mN_t (hS : SM 65 0 M s) (w : WN s) (h : 0 ≤ x ∧ x < sN s) : (ob (f_X10_isNode x M) fun q => chk (inR q) (if q = 0 then P else Q)) = Q := by
  have := w.1
  rw [misNode hS w (by omega), ob_s, decide_eq_true h, chk_t (bi_R _), if_neg (by decide)]
theorem mN_f (hS : SM 65 0 M s) (w : WN s) (hx : inR x) (h : ¬ (0 ≤ x ∧ x < sN s)) : (ob (f_X10_isNode x M) fun q => chk (inR q) (if q = 0 then P else Q)) = P := by
  rw [misNode hS w hx, ob_s, decide_eq_false h, chk_t (bi_R _), if_pos (by decide)]
theorem mL_t (hS : SM 65 0 M s) (w : WN s) (h : 0 ≤ x ∧ x < sK s) : (ob (f_X10_isLink x M) fun q => chk (inR q) (if q = 0 then P else Q)) = Q := by
  have := w.2.1
  rw [misLink hS w (by omega), ob_s, decide_eq_true h, chk_t (bi_R _), if_neg (by decide)]
theorem mL_f (hS : SM 65 0 M s) (w : WN s) (hx : inR x) (h : ¬ (0 ≤ x ∧ x < sK s)) : (ob (f_X10_isLink x M) fun q => chk (inR q) (if q = 0 then P else Q)) = P := by
  rw [misLink hS w hx, ob_s, decide_eq_false h, chk_t (bi_R _), if_pos (by decide)]
theorem mW_t {a b : Int} (hx : inR x) (ha : inR a) (hb : inR b) (h : a ≤ x ∧ x ≤ b) (M : Mem) : (ob (f_X10_within x a b M) fun q => chk (inR q) (if q = 0 then P else Q)) = Q := by
  rw [mwithin hx ha hb, ob_s, decide_eq_true h, chk_t (bi_R _), if_neg (by decide)]
theorem mW_f {a b : Int} (hx : inR x) (ha : inR a) (hb : inR b) (h : ¬ (a ≤ x ∧ x ≤ b)) (M : Mem) : (ob (f_X10_within x a b M) fun q => chk (inR q) (if q = 0 then P else Q)) = P := by
  rw [mwithin hx ha hb, ob_s, decide_eq_false h, chk_t (bi_R _), if_pos (by decide)]
theorem rf_p {k : Int} (h : 0 < k) (h2 : k < 10) (A : Int × Mem → Option (Int × Mem)) (M : Mem) : (ob (f_X10_refused k M) fun q => chk (inR q.1) (if q.1 = 0 then A q else some (0, q.2))) = some (0, mset M 64 3 k) := by
  rw [mref_p h h2, ob_s, chk_t (show inR 1 by decide), if_neg (show ¬ (1 : Int) = 0 by decide)]
theorem rf_0 (A B : Int × Mem → Option (Int × Mem)) (M : Mem) : (ob (f_X10_refused 0 M) fun q => chk (inR q.1) (if q.1 = 0 then A q else B q)) = A (0, mset M 64 3 0) := by
  rw [mref_0, ob_s, chk_t (show inR 0 by decide), if_pos (show (0 : Int) = 0 from rfl)]
end Need
theorem JM.r3 {M : Mem} {A : Ab} (w : WA A) (h : JM M A) (k : Int) : JM (mset M 64 3 k) A := h.fr w (fun a i q => by unfold mset; rw [if_neg (by omega)])
/-! calls that only tell -/
section Tell
variable {F : Nat} {M : Mem} {A : Ab} {x y z : Int}
theorem op_size (w : WA A) (hC : JC M A) (hM : JM M A) (hx : inR x) : OpP (ob (f_X9_size x M) fun q => some (q, M)) (f_X10_size x) := by
  obtain ⟨s, c, hs, tl, tx⟩ := A
  have w1 := w.1.1.1
  have w2 := w.1.1.2.1
  have e0 : M 1 0 = sN s := hC.1.1
  have e1 : M 1 1 = sK s := hC.1.2.1
  have w1 : sN s ≤ 9 := w1
  have w2 : sK s ≤ 16 := w2
  by_cases c : x = 0
  · refine OpP.rd (r := sN s) w (by omega) hC hM ⟨M, ?_, fun _ _ _ => rfl⟩ (fun M1 h => ⟨mset M1 64 3 0, ?_, fun a i q => ?_⟩)
    · unfold f_X9_size; rw [chk_t hx, if_pos c, ob_s, e0]
    · have : M1 65 0 = sN s := h.1.1
      unfold f_X10_size; rw [chk_t hx, if_pos c, ms_a (by decide), this]
    · unfold mset; rw [if_neg (by omega)]
  · refine OpP.rd (r := sK s) w (by omega) hC hM ⟨M, ?_, fun _ _ _ => rfl⟩ (fun M1 h => ⟨mset M1 64 3 0, ?_, fun a i q => ?_⟩)
    · unfold f_X9_size; rw [chk_t hx, if_neg c, ob_s, e1]
    · have : M1 65 1 = sK s := h.1.2.1
      unfold f_X10_size; rw [chk_t hx, if_neg c, ms_a (by decide), this]
    · unfold mset; rw [if_neg (by omega)]
theorem op_label (w : WA A) (hC : JC M A) (hM : JM M A) (hx : inR x) : OpK (f_L_label x M) (f_X10_label x) := by
  obtain ⟨s, c, hs, tl, tx⟩ := A
  have hS : SC 1 M s := hC.1
  have wn : WN s := w.1.1
  have w1 := wn.1
  by_cases c : 0 ≤ x ∧ x < sN s
  · obtain ⟨v, rfl⟩ : ∃ v : Nat, x = v := ⟨x.toNat, by omega⟩
    have hv : v < sN s := by omega
    have hb : sB s v < sN s := w.1.2.1.1 v hv
    refine OpK.rd (r := sB s v) w (by omega) hC hM ⟨M, ?_, fun _ _ _ => rfl⟩ (fun M1 h => ⟨mset M1 64 3 0, ?_, ms_eq _ _ _ _, fun a i q => ?_⟩)
    · have e5 : M 5 v = sB s v := hS.2.2.2.1 v hv
      unfold f_L_label f_X9_label
      rw [nN_t hS wn c, ob_s, ox_inr, chk_t (by omega), ob_s, ox_inr, e5, chk_t (by omega)]
    · have e5 := mlabel h.1 hv
      unfold f_X10_label
      rw [mN_t h.1 wn c, rf_0]
      dsimp only
      rw [chk_t (by omega), ms_a (by decide), e5]
    · unfold mset; rw [if_neg (by omega)]
  · refine OpK.no (k := 1) w hC hM (by decide) (by decide) ?_ (fun M1 h => ?_)
    · unfold f_L_label f_X9_label
      rw [nN_f hS hx c, ob_s, ox_inl, ob_s, ox_inl, if_pos rfl]
    · unfold f_X10_label
      rw [mN_f h.1 wn hx c, rf_p (by decide) (by decide) (fun q => chk (0 ≤ 50 + x ∧ 50 + x < 140) (some (q.2 65 (50 + x), q.2)))]
theorem op_nodeWith (hF : 100000 ≤ F) (w : WA A) (hC : JC M A) (hM : JM M A) (hx : inR x) : OpK (f_L_nodeWith F x M) (f_X10_nodeWith F x) := by
  obtain ⟨s, c, hs, tl, tx⟩ := A
  have hS : SC 1 M s := hC.1
  have wf : WF s := w.1
  have wn : WN s := w.1.1
  have w1 := wn.1
  by_cases c : 0 ≤ x ∧ x < sN s
  · obtain ⟨l, rfl⟩ : ∃ v : Nat, x = v := ⟨x.toNat, by omega⟩
    have hl : l < sN s := by omega
    obtain ⟨n1, n2⟩ := nd_ok wf.2.1 hl
    refine OpK.rd (r := nd s l) w (by omega) hC hM ⟨M, ?_, fun _ _ _ => rfl⟩ (fun M1 h => ⟨mset M1 64 3 0, ?_, ms_eq _ _ _ _, fun a i q => ?_⟩)
    · have e : f_X6_holder F 1 l M = some (nd s l : Int) := by
        rw [holder_eq hF hS wn (by omega)]
        exact congrArg some (if_pos n1)
      unfold f_L_nodeWith f_X9_nodeWith
      rw [nB_t hS wn c, ob_s, ox_inr, e, ob_s, ob_s, ox_inr, chk_t (by omega)]
    · unfold f_X10_nodeWith
      rw [mN_t h.1 wn c, rf_0]
      dsimp only
      rw [mnode hF wf.g (h.r3 w 0).1 hl, ob_s]
    · unfold mset; rw [if_neg (by omega)]
  · refine OpK.no (k := 1) w hC hM (by decide) (by decide) ?_ (fun M1 h => ?_)
    · unfold f_L_nodeWith f_X9_nodeWith
      rw [nB_f hS hx c, ob_s, ox_inl, ob_s, ox_inl, if_pos rfl]
    · unfold f_X10_nodeWith
      rw [mN_f h.1 wn hx c, rf_p (by decide) (by decide) (fun q => ob (f_X10_nodeOf F x q.2) fun q7 => some (q7, q.2))]
theorem op_entry (w : WA A) (hC : JC M A) (hM : JM M A) (hx : inR x) (hy : inR y) : OpK (f_L_entry x y M) (f_X10_entry x y) := by
  obtain ⟨s, c, hs, tl, tx⟩ := A
  have hS : SC 1 M s := hC.1
  have wf : WF s := w.1
  have wn : WN s := w.1.1
  have w1 := wn.1
  have w2 := wn.2.1
  by_cases c : 0 ≤ x ∧ x < sN s
  · by_cases d : 0 ≤ y ∧ y < sN s
    · obtain ⟨v, rfl⟩ : ∃ v : Nat, x = v := ⟨x.toNat, by omega⟩
      obtain ⟨l, rfl⟩ : ∃ v : Nat, y = v := ⟨y.toNat, by omega⟩
      have hv : v < sN s := by omega
      have hl : l < sN s := by omega
      have hr : inR (sE s v l) := by
        rcases (wf.2.2 v l hv hl).1 with h | ⟨i, h1, h2, -⟩
        · omega
        · omega
      refine OpK.rd (r := sE s v l) w hr hC hM ⟨M, ?_, fun _ _ _ => rfl⟩ (fun M1 h => ⟨mset M1 64 3 0, ?_, ms_eq _ _ _ _, fun a i q => ?_⟩)
      · have e : f_X6_entryAt 1 v l M = some (sE s v l) := by
          unfold f_X6_entryAt; rw [chk_t (by omega)]; exact congrArg some (hS.2.2.2.2 v l hv hl)
        unfold f_L_entry f_X9_entry
        rw [nN_t hS wn c, ob_s, ox_inr, nB_t hS wn d, ob_s, ox_inr, e, ob_s, ob_s, ox_inr, chk_t hr]
      · unfold f_X10_entry
        rw [mN_t h.1 wn c, mN_t h.1 wn d, rf_0]
        dsimp only
        rw [mentry (h.r3 w 0).1 wn hv hl, ob_s]
      · unfold mset; rw [if_neg (by omega)]
    · refine OpK.no (k := 1) w hC hM (by decide) (by decide) ?_ (fun M1 h => ?_)
      · unfold f_L_entry f_X9_entry
        rw [nN_t hS wn c, ob_s, ox_inr, nB_f hS hy d, ob_s, ox_inl, ob_s, ox_inl, if_pos rfl]
      · unfold f_X10_entry
        rw [mN_t h.1 wn c, mN_f h.1 wn hy d, rf_p (by decide) (by decide) (fun q => ob (f_X10_entryAt x y q.2) fun q7 => some (q7, q.2))]
  · refine OpK.no (k := 1) w hC hM (by decide) (by decide) ?_ (fun M1 h => ?_)
    · unfold f_L_entry f_X9_entry
      rw [nN_f hS hx c, ob_s, ox_inl, ob_s, ox_inl, if_pos rfl]
    · unfold f_X10_entry
      rw [mN_f h.1 wn hx c, rf_p (by decide) (by decide) (fun q => ob (f_X10_entryAt x y q.2) fun q7 => some (q7, q.2))]
end Tell
