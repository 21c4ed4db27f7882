/-! the digest -/
def fh (h : Int) (c : Nat → Int) : Nat → Int
  | 0 => h
  | j + 1 => 31 * fh h c j + c j
def cel (s : Sg) (j : Nat) : Int := if j % 3 = 0 then (sF s (j / 3) : Int) else if j % 3 = 1 then (sS s (j / 3) : Int) else (sL s (j / 3) : Int)
def fE (s : Sg) (h : Int) : Nat → Int
  | 0 => h
  | v + 1 => fh (fE s h v) (sE s v) (sN s)
/-- the part of the state, behind h -/
def hSt (s : Sg) (h : Int) : Int := fE s (fh (fh (31 * (31 * h + (sN s : Int)) + (sK s : Int)) (cel s) (3 * sK s)) (fun v => (sB s v : Int)) (sN s)) (sN s)
def hCk (s : Sg) (h : Int) : Int := fh h (fun r => (cnt2 (fun v w => decide ((jdg s v w : Int) = ((r : Nat) : Int))) (sN s) : Int)) 5
def hAll (s : Sg) (tl c : Nat) : Int := 31 * (31 * hCk s (31 * (31 * hSt s (31 * 3083 + (tl : Int)) + (su (tsz s) (sN s) : Int)) + (mxr (tmx s) (sN s) : Int)) + (cnt2 (arvP s) (sN s) : Int)) + (c : Int)
section Digest
variable {F : Nat} {M : Mem} {A : Ab} {s : Sg}
theorem cel_R (w : WN s) {j : Nat} (hj : j < 3 * sK s) : inR (cel s j) := by
  have w1 := w.1
  have := w.2.2.1 (j / 3) (by omega)
  unfold cel
  split
  · omega
  · split <;> omega
theorem mix_ent (hF : 100000 ≤ F) (f : WF s) (hS : SC 1 M s) (h : Int) : f_X6_mixInto_109 F 1 F h 0 M = some (fE s h (sN s)) := by
  have w1 := f.1.1
  have w2 := f.1.2.1
  have e0 := hS.1
  refine lpe (f := fun fu (y : Int × Int) => f_X6_mixInto_109 F 1 fu y.1 y.2 M) (I := fun v y => y.1 = fE s h v ∧ y.2 = v) (Q := fun r => r = some (fE s h (sN s))) (sN s) ?_ ?_ (sN s) 0 F (h, 0) (by omega) (by omega) ⟨rfl, rfl⟩
  · rintro v fu ⟨y1, y2⟩ hv ⟨q1, q2⟩
    dsimp only at q1 q2 ⊢
    subst q1 q2
    right
    rw [f_X6_mixInto_109, chk_t (by omega), if_neg (by omega)]
    refine lpe (f := fun fu' (y : Int × Int) => f_X6_mixInto_121 F 1 (f_X6_mixInto_109 F 1 fu) fu' y.1 v y.2 M) (I := fun l y => y.1 = fh (fE s h v) (sE s v) l ∧ y.2 = l) (Q := fun r => ∃ y : Int × Int, r = f_X6_mixInto_109 F 1 fu y.1 y.2 M ∧ y.1 = fE s h (v + 1) ∧ y.2 = ((v + 1 : Nat) : Int)) (sN s) ?_ ?_ (sN s) 0 F (fE s h v, 0) (by omega) (by omega) ⟨rfl, rfl⟩
    · rintro l fu' ⟨y1, y2⟩ hl ⟨q1, q2⟩
      dsimp only at q1 q2 ⊢
      subst q1 q2
      right
      have e6 : f_X6_entryAt 1 v (l : Int) M = some (sE s v l) := by
        unfold f_X6_entryAt; rw [chk_t (by omega)]; exact congrArg some (hS.2.2.2.2 v l hv hl)
      have hr : inR (sE s v l) := by
        rcases (f.2.2 v l hv hl).1 with h | ⟨i, h1, h2, -⟩ <;> omega
      rw [f_X6_mixInto_121, chk_t (by omega), if_neg (by omega), e6, ob_s, chk_t hr]
      exact ⟨(31 * fh (fE s h v) (sE s v) l + sE s v l, (l : Int) + 1), rfl, rfl, rfl⟩
    · rintro fu' ⟨y1, y2⟩ ⟨q1, q2⟩
      dsimp only at q1 q2 ⊢
      subst q1 q2
      rw [f_X6_mixInto_121, chk_t (by omega), if_pos (by omega)]
      exact ⟨(fh (fE s h v) (sE s v) (sN s), (v : Int) + 1), rfl, rfl, rfl⟩
  · rintro fu ⟨y1, y2⟩ ⟨q1, q2⟩
    dsimp only at q1 q2 ⊢
    subst q1 q2
    rw [f_X6_mixInto_109, chk_t (by omega), if_pos (by omega)]
theorem mix_lab (hF : 100000 ≤ F) (f : WF s) (hS : SC 1 M s) (h : Int) : f_X6_mixInto_76 F 1 F h 0 M = some (fE s (fh h (fun v => (sB s v : Int)) (sN s)) (sN s)) := by
  have w1 := f.1.1
  have e0 := hS.1
  refine lpe (f := fun fu (y : Int × Int) => f_X6_mixInto_76 F 1 fu y.1 y.2 M) (I := fun v y => y.1 = fh h (fun v => (sB s v : Int)) v ∧ y.2 = v) (Q := fun r => r = some (fE s (fh h (fun v => (sB s v : Int)) (sN s)) (sN s))) (sN s) ?_ ?_ (sN s) 0 F (h, 0) (by omega) (by omega) ⟨rfl, rfl⟩
  · rintro v fu ⟨y1, y2⟩ hv ⟨q1, q2⟩
    dsimp only at q1 q2 ⊢
    subst q1 q2
    right
    have e5 : M (1 + 4) v = sB s v := hS.2.2.2.1 v hv
    rw [f_X6_mixInto_76, chk_t (by omega), if_neg (by omega), chk_t (by omega), e5]
    exact ⟨(31 * fh h (fun v => (sB s v : Int)) v + (sB s v : Int), (v : Int) + 1), rfl, rfl, rfl⟩
  · rintro fu ⟨y1, y2⟩ ⟨q1, q2⟩
    dsimp only at q1 q2 ⊢
    subst q1 q2
    rw [f_X6_mixInto_76, chk_t (by omega), if_pos (by omega), mix_ent hF f hS]
theorem mix_ok (hF : 100000 ≤ F) (f : WF s) (hS : SC 1 M s) (h : Int) : f_X6_mixInto F 1 h M = some (hSt s h) := by
  have w1 := f.1.1
  have w2 := f.1.2.1
  have e0 := hS.1
  have e1 : M 1 1 = sK s := hS.2.1
  unfold f_X6_mixInto hSt
  rw [e0, e1]
  refine lpe (f := fun fu (y : Int × Int) => f_X6_mixInto_27 F 1 fu y.1 y.2 M) (I := fun i y => y.1 = fh (31 * (31 * h + (sN s : Int)) + (sK s : Int)) (cel s) (3 * i) ∧ y.2 = i) (Q := fun r => r = some (fE s (fh (fh (31 * (31 * h + (sN s : Int)) + (sK s : Int)) (cel s) (3 * sK s)) (fun v => (sB s v : Int)) (sN s)) (sN s))) (sK s) ?_ ?_ (sK s) 0 F (31 * (31 * h + (sN s : Int)) + (sK s : Int), 0) (by omega) (by omega) ⟨rfl, rfl⟩
  · rintro i fu ⟨y1, y2⟩ hi ⟨q1, q2⟩
    dsimp only at q1 q2 ⊢
    subst q1 q2
    right
    have hl := f.1.2.2.1 i hi
    obtain ⟨a1, a2, a3⟩ := hS.2.2.1 i hi
    have a1 : M (1 + 1) i = sF s i := a1
    have a2 : M (1 + 2) i = sS s i := a2
    have a3 : M (1 + 3) i = sL s i := a3
    have val : ∀ k : Nat, k < 3 → f_X6_linkValue 1 i (k : Int) M = some (cel s (3 * i + k)) := by
      intro k hk
      unfold f_X6_linkValue cel
      rcases (show k = 0 ∨ k = 1 ∨ k = 2 by omega) with rfl | rfl | rfl
      · rw [chk_t (by decide), if_neg (by decide), if_pos (by decide), chk_t (by omega), a1, if_pos (by omega), show (3 * i + 0) / 3 = i by omega]
      · rw [chk_t (by decide), if_neg (by decide), if_neg (by decide), chk_t (by omega), a2, if_neg (by omega), if_pos (by omega), show (3 * i + 1) / 3 = i by omega]
      · rw [chk_t (by decide), if_pos (by decide), chk_t (by omega), a3, if_neg (by omega), if_neg (by omega), show (3 * i + 2) / 3 = i by omega]
    rw [f_X6_mixInto_27, chk_t (by omega), if_neg (by omega)]
    refine lpe (f := fun fu' (y : Int × Int) => f_X6_mixInto_39 F 1 (f_X6_mixInto_27 F 1 fu) fu' y.1 i y.2 M) (I := fun k y => y.1 = fh (31 * (31 * h + (sN s : Int)) + (sK s : Int)) (cel s) (3 * i + k) ∧ y.2 = k) (Q := fun r => ∃ y : Int × Int, r = f_X6_mixInto_27 F 1 fu y.1 y.2 M ∧ y.1 = fh (31 * (31 * h + (sN s : Int)) + (sK s : Int)) (cel s) (3 * (i + 1)) ∧ y.2 = ((i + 1 : Nat) : Int)) 3 ?_ ?_ 3 0 F (fh (31 * (31 * h + (sN s : Int)) + (sK s : Int)) (cel s) (3 * i), 0) (by omega) (by omega) ⟨rfl, rfl⟩
    · rintro k fu' ⟨y1, y2⟩ hk ⟨q1, q2⟩
      dsimp only at q1 q2 ⊢
      subst q1 q2
      right
      rw [f_X6_mixInto_39, chk_t (by omega), if_neg (by omega), val k hk, ob_s, chk_t (cel_R f.1 (by omega))]
      exact ⟨(31 * fh (31 * (31 * h + (sN s : Int)) + (sK s : Int)) (cel s) (3 * i + k) + cel s (3 * i + k), (k : Int) + 1), rfl, rfl, rfl⟩
    · rintro fu' ⟨y1, y2⟩ ⟨q1, q2⟩
      dsimp only at q1 q2 ⊢
      subst q1 q2
      rw [f_X6_mixInto_39, chk_t (by omega), if_pos (by omega)]
      exact ⟨(fh (31 * (31 * h + (sN s : Int)) + (sK s : Int)) (cel s) (3 * i + 3), (i : Int) + 1), rfl, rfl, rfl⟩
  · rintro fu ⟨y1, y2⟩ ⟨q1, q2⟩
    dsimp only at q1 q2 ⊢
    subst q1 q2
    rw [f_X6_mixInto_27, chk_t (by omega), if_pos (by omega), mix_lab hF f hS]
theorem dig_class (hF : 100000 ≤ F) (w : WA A) (hC : JC M A) : ∃ M', f_X9_digest F M = some (hAll A.1 A.2.2.2.1 A.2.1, M') ∧ ∀ a i, a ≠ 44 → a ≠ 45 → a ≠ 57 → a ≠ 58 → a ≠ 59 → M' a i = M a i := by
  have wf := w.1
  have hS := hC.1
  have hY := hC.2.2.2.1
  have e62 : M 62 0 = A.2.2.2.1 := hC.2.2.1.1
  have e13 : M 13 0 = A.2.1 := hC.2.1.2.1
  have w1 := wf.1.1
  have b1 := su_tsz wf.1 (sN A.1) (Nat.le_refl _)
  have b2 := mxr_le (g := tmx A.1) (c := sN A.1 - 1) (n := sN A.1) (fun i _ => tmx_le A.1 i)
  obtain ⟨M1, a1, a2⟩ := nets_ok hF wf.g M hS
  have hS1 : SC 1 M1 A.1 := hS.fr (fun a i q1 q2 => a2 a i (by omega) (by omega))
  obtain ⟨M2, c1, c2⟩ := comp_ok hF wf.g M1 hS1
  have hS2 : SC 1 M2 A.1 := hS1.fr (fun a i q1 q2 => c2 a i (by omega) (by omega))
  have hY2 : WY M2 A.1 := hY.fr (fun a i q1 q2 => by rw [c2 a i (by omega) (by omega), a2 a i (by omega) (by omega)])
  obtain ⟨M3, d1, d2⟩ := arrv_ok hF wf M2 hS2
  have e3 : M3 13 0 = A.2.1 := by rw [d2 13 0 (by decide) (by decide) (by decide), c2 13 0 (by decide) (by decide), a2 13 0 (by decide) (by decide)]; exact e13
  have hj : cnt2 (arvP A.1) (sN A.1) ≤ 81 := cnt2_le w1 (sN A.1) (Nat.le_refl _)
  refine ⟨M3, ?_, fun a i k1 k2 k3 k4 k5 => by rw [d2 a i k3 k4 k5, c2 a i k1 k2, a2 a i k1 k2]⟩
  unfold f_X9_digest
  rw [mix_ok hF wf hS, ob_s, a1, ob_s]
  dsimp only
  rw [chk_t (by omega), c1, ob_s]
  dsimp only
  rw [chk_t (by omega), e62]
  refine lpe (f := fun fu (y : Int × Int) => f_X9_digest_54 F fu y.1 y.2 M2) (I := fun r y => y.1 = fh (31 * (31 * hSt A.1 (31 * 3083 + (A.2.2.2.1 : Int)) + (su (tsz A.1) (sN A.1) : Int)) + (mxr (tmx A.1) (sN A.1) : Int)) (fun r => (cnt2 (fun v w => decide ((jdg A.1 v w : Int) = ((r : Nat) : Int))) (sN A.1) : Int)) r ∧ y.2 = r) (Q := fun q => q = some (hAll A.1 A.2.2.2.1 A.2.1, M3)) 5 ?_ ?_ 5 0 F (31 * (31 * hSt A.1 (31 * 3083 + (A.2.2.2.1 : Int)) + (su (tsz A.1) (sN A.1) : Int)) + (mxr (tmx A.1) (sN A.1) : Int), 0) (by omega) (by omega) ⟨rfl, rfl⟩
  · rintro r fu ⟨y1, y2⟩ hr ⟨q1, q2⟩
    dsimp only at q1 q2 ⊢
    subst q1 q2
    right
    have hb : cnt2 (fun v w => decide ((jdg A.1 v w : Int) = ((r : Nat) : Int))) (sN A.1) ≤ 81 := cnt2_le w1 (sN A.1) (Nat.le_refl _)
    rw [f_X9_digest_54, chk_t (by omega), if_neg (by omega), pairs_eq hF wf hS2 hY2 (by omega), ob_s, chk_t (by omega)]
    exact ⟨(_, (r : Int) + 1), rfl, rfl, rfl⟩
  · rintro fu ⟨y1, y2⟩ ⟨q1, q2⟩
    dsimp only at q1 q2 ⊢
    subst q1 q2
    rw [f_X9_digest_54, chk_t (by omega), if_pos (by omega), d1, ob_s]
    dsimp only
    rw [chk_t (by omega), e3]; rfl
/-! the model's digest -/
def fD (M0 M : Mem) : Prop := ∀ a i, (a ≠ 1064 ∨ i ≠ 22) → M a i = M0 a i
theorem mix_eq {v : Int} (hv : inR v) (M : Mem) : f_X10_mix v M = some (mset M 1064 22 (31 * M 1064 22 + v)) := by
  unfold f_X10_mix; rw [chk_t hv]
theorem fD_mix {M0 : Mem} (h : fD M0 M) (x : Int) : fD M0 (mset M 1064 22 x) := fun a i q => by
  have : mset M 1064 22 x a i = M a i := by unfold mset; rw [if_neg (by omega)]
  rw [this]; exact h a i q
theorem SM_fD {M0 : Mem} (w : WN s) (hS : SM 65 0 M0 s) (h : fD M0 M) : SM 65 0 M s := hS.fr (fun j _ _ => h 65 j (by omega)) w
theorem mdig_end (hF : 100000 ≤ F) (f : WF s) {c : Nat} (hc : c ≤ 4) (M0 : Mem) (hS : SM 65 0 M0 s) (hD : FM M0 (sN s) (dis s)) (h2 : M0 64 2 = c) : ∃ M', f_X10_digest_171 F F 0 M0 = some (31 * (31 * hCk s (M0 1064 22) + (cnt2 (arvP s) (sN s) : Int)) + (c : Int), M') ∧ ∀ a i, (a ≠ 1064 ∨ i ≠ 22) → (a ≠ 64 ∨ i ≠ 14 ∧ i ≠ 15 ∧ i ≠ 16) → a ≠ 74 → M' a i = M0 a i := by
  have w1 := f.1.1
  have hj : cnt2 (arvP s) (sN s) ≤ 81 := cnt2_le w1 (sN s) (Nat.le_refl _)
  refine lpe (f := fun fu (y : Int × Mem) => f_X10_digest_171 F fu y.1 y.2) (I := fun r y => y.1 = r ∧ y.2 1064 22 = fh (M0 1064 22) (fun r => (cnt2 (fun v w => decide ((jdg s v w : Int) = ((r : Nat) : Int))) (sN s) : Int)) r ∧ fD M0 y.2) (Q := fun q => ∃ M', q = some (31 * (31 * hCk s (M0 1064 22) + (cnt2 (arvP s) (sN s) : Int)) + (c : Int), M') ∧ ∀ a i, (a ≠ 1064 ∨ i ≠ 22) → (a ≠ 64 ∨ i ≠ 14 ∧ i ≠ 15 ∧ i ≠ 16) → a ≠ 74 → M' a i = M0 a i) 5 ?_ ?_ 5 0 F (0, M0) (by omega) (by omega) ⟨rfl, rfl, fun _ _ _ => rfl⟩
  · rintro r fu ⟨y1, N⟩ hr ⟨q1, q2, q3⟩
    dsimp only at q1 q2 q3 ⊢
    subst q1
    right
    have hb : cnt2 (fun v w => decide ((jdg s v w : Int) = ((r : Nat) : Int))) (sN s) ≤ 81 := cnt2_le w1 (sN s) (Nat.le_refl _)
    have hD2 : FM N (sN s) (dis s) := fun a b ha hb => by rw [q3 68 _ (by omega)]; exact hD a b ha hb
    refine ⟨((r : Int) + 1, mset N 1064 22 (31 * N 1064 22 + (cnt2 (fun v w => decide ((jdg s v w : Int) = ((r : Nat) : Int))) (sN s) : Int))), ?_, rfl, ?_, fD_mix q3 _⟩
    · rw [f_X10_digest_171, chk_t (by omega), if_neg (by omega), mpairs_eq hF f (SM_fD f.1 hS q3) hD2 (by omega), ob_s, mix_eq (by omega), ob_s]
    · dsimp only; rw [ms_eq, q2]; rfl
  · rintro fu ⟨y1, N⟩ ⟨q1, q2, q3⟩
    dsimp only at q1 q2 q3 ⊢
    subst q1
    obtain ⟨M1, a1, a2⟩ := marrv_ok hF f N (SM_fD f.1 hS q3)
    have e1 : M1 1064 22 = hCk s (M0 1064 22) := by rw [a2 1064 22 (by omega) (by decide)]; exact q2
    have e2 : mset M1 1064 22 (31 * M1 1064 22 + (cnt2 (arvP s) (sN s) : Int)) 64 2 = c := by rw [ms_a (by decide), a2 64 2 (by omega) (by decide), q3 64 2 (by omega)]; exact h2
    refine ⟨mset (mset M1 1064 22 (31 * M1 1064 22 + (cnt2 (arvP s) (sN s) : Int))) 1064 22 (31 * (31 * M1 1064 22 + (cnt2 (arvP s) (sN s) : Int)) + (c : Int)), ?_, fun a i k1 k2 k3 => ?_⟩
    · rw [f_X10_digest_171, chk_t (by omega), if_pos (by omega), a1, ob_s]
      dsimp only
      rw [mix_eq (by omega), ob_s, e2, mix_eq (by omega), ob_s, ms_eq, ms_eq, e1]
    · have : ∀ (K : Mem) (z : Int), mset K 1064 22 z a i = K a i := by intro K z; unfold mset; rw [if_neg (by omega)]
      rw [this, this, a2 a i k2 k3]; exact q3 a i k1
theorem mdig_ent (hF : 100000 ≤ F) (f : WF s) {c : Nat} (hc : c ≤ 4) (M0 : Mem) (hS : SM 65 0 M0 s) (hD : FM M0 (sN s) (dis s)) (h2 : M0 64 2 = c) : ∃ M', f_X10_digest_109 F F 0 M0 = some (31 * (31 * hCk s (31 * (31 * fE s (M0 1064 22) (sN s) + (su (tsz s) (sN s) : Int)) + (mxr (tmx s) (sN s) : Int)) + (cnt2 (arvP s) (sN s) : Int)) + (c : Int), M') ∧ ∀ a i, (a ≠ 1064 ∨ i ≠ 22) → (a ≠ 64 ∨ i ≠ 10 ∧ i ≠ 14 ∧ i ≠ 15 ∧ i ≠ 16) → a ≠ 70 → a ≠ 71 → a ≠ 74 → M' a i = M0 a i := by
  have w1 := f.1.1
  have b1 := su_tsz f.1 (sN s) (Nat.le_refl _)
  have b2 := mxr_le (g := tmx s) (c := sN s - 1) (n := sN s) (fun i _ => tmx_le s i)
  refine lpe (f := fun fu (y : Int × Mem) => f_X10_digest_109 F fu y.1 y.2) (I := fun v y => y.1 = v ∧ y.2 1064 22 = fE s (M0 1064 22) v ∧ fD M0 y.2) (Q := fun q => ∃ M', q = some (31 * (31 * hCk s (31 * (31 * fE s (M0 1064 22) (sN s) + (su (tsz s) (sN s) : Int)) + (mxr (tmx s) (sN s) : Int)) + (cnt2 (arvP s) (sN s) : Int)) + (c : Int), M') ∧ ∀ a i, (a ≠ 1064 ∨ i ≠ 22) → (a ≠ 64 ∨ i ≠ 10 ∧ i ≠ 14 ∧ i ≠ 15 ∧ i ≠ 16) → a ≠ 70 → a ≠ 71 → a ≠ 74 → M' a i = M0 a i) (sN s) ?_ ?_ (sN s) 0 F (0, M0) (by omega) (by omega) ⟨rfl, rfl, fun _ _ _ => rfl⟩
  · rintro v fu ⟨y1, N⟩ hv ⟨q1, q2, q3⟩
    dsimp only at q1 q2 q3 ⊢
    subst q1
    right
    have e0 : N 65 0 = sN s := (SM_fD f.1 hS q3).1
    rw [f_X10_digest_109, chk_t (by omega), if_neg (by omega)]
    refine lpe (f := fun fu' (y : Int × Mem) => f_X10_digest_121 F (f_X10_digest_109 F fu) fu' v y.1 y.2) (I := fun l y => y.1 = l ∧ y.2 1064 22 = fh (fE s (M0 1064 22) v) (sE s v) l ∧ fD M0 y.2) (Q := fun r => ∃ y : Int × Mem, r = f_X10_digest_109 F fu y.1 y.2 ∧ y.1 = ((v + 1 : Nat) : Int) ∧ y.2 1064 22 = fE s (M0 1064 22) (v + 1) ∧ fD M0 y.2) (sN s) ?_ ?_ (sN s) 0 F (0, N) (by omega) (by omega) ⟨rfl, q2, q3⟩
    · rintro l fu' ⟨y1, N⟩ hl ⟨q1, q2, q3⟩
      dsimp only at q1 q2 q3 ⊢
      subst q1
      right
      have hS2 := SM_fD f.1 hS q3
      have e0 : N 65 0 = sN s := hS2.1
      have hr : inR (sE s v l) := by
        rcases (f.2.2 v l hv hl).1 with h | ⟨i, h1, h2, -⟩
        · omega
        · have := f.1.2.1; omega
      refine ⟨((l : Int) + 1, mset N 1064 22 (31 * N 1064 22 + sE s v l)), ?_, rfl, ?_, fD_mix q3 _⟩
      · rw [f_X10_digest_121, chk_t (by omega), if_neg (by omega), mentry hS2 f.1 hv hl, ob_s, mix_eq hr, ob_s]
      · dsimp only; rw [ms_eq, q2]; rfl
    · rintro fu' ⟨y1, N⟩ ⟨q1, q2, q3⟩
      dsimp only at q1 q2 q3 ⊢
      subst q1
      have e0 : N 65 0 = sN s := (SM_fD f.1 hS q3).1
      rw [f_X10_digest_121, chk_t (by omega), if_pos (by omega)]
      exact ⟨((v : Int) + 1, N), rfl, rfl, q2, q3⟩
  · rintro fu ⟨y1, N⟩ ⟨q1, q2, q3⟩
    dsimp only at q1 q2 q3 ⊢
    subst q1
    have hS2 := SM_fD f.1 hS q3
    have e0 : N 65 0 = sN s := hS2.1
    obtain ⟨M1, a1, a2⟩ := mnets_ok hF f.g N hS2
    have hS3 : SM 65 0 (mset M1 1064 22 (31 * M1 1064 22 + (su (tsz s) (sN s) : Int))) s := hS2.fr (fun j _ _ => by rw [ms_a (by decide), a2 65 j (by omega) (by decide) (by decide)]) f.1
    obtain ⟨M2, c1, c2⟩ := mcomp_ok hF f.g _ hS3
    have k1 : M1 1064 22 = fE s (M0 1064 22) (sN s) := by rw [a2 1064 22 (by omega) (by decide) (by decide)]; exact q2
    have k2 : M2 1064 22 = 31 * fE s (M0 1064 22) (sN s) + (su (tsz s) (sN s) : Int) := by rw [c2 1064 22 (by omega) (by decide) (by decide), ms_eq, k1]
    have fr : ∀ a i, (a ≠ 1064 ∨ i ≠ 22) → (a ≠ 64 ∨ i ≠ 10) → a ≠ 70 → a ≠ 71 → mset M2 1064 22 (31 * M2 1064 22 + (mxr (tmx s) (sN s) : Int)) a i = M0 a i := fun a i p1 p2 p3 p4 => by
      have : ∀ (K : Mem) (z : Int), mset K 1064 22 z a i = K a i := by intro K z; unfold mset; rw [if_neg (by omega)]
      rw [this, c2 a i p2 p3 p4, this, a2 a i p2 p3 p4]; exact q3 a i p1
    obtain ⟨M3, d1, d2⟩ := mdig_end hF f hc (mset M2 1064 22 (31 * M2 1064 22 + (mxr (tmx s) (sN s) : Int))) (hS.fr (fun j _ _ => fr 65 j (by omega) (by omega) (by decide) (by decide)) f.1) (fun a b ha hb => by rw [fr 68 _ (by omega) (by omega) (by decide) (by decide)]; exact hD a b ha hb) (by rw [fr 64 2 (by omega) (by omega) (by decide) (by decide)]; exact h2)
    rw [ms_eq, k2] at d1
    refine ⟨M3, ?_, fun a i p1 p2 p3 p4 p5 => by rw [d2 a i p1 (by omega) p5, fr a i p1 (by omega) p3 p4]⟩
    rw [f_X10_digest_109, chk_t (by omega), if_pos (by omega), a1, ob_s]
    dsimp only
    rw [mix_eq (by omega), ob_s, c1, ob_s]
    dsimp only
    rw [mix_eq (by omega), ob_s, k2, d1]
theorem mdig_lab (hF : 100000 ≤ F) (f : WF s) {c : Nat} (hc : c ≤ 4) (M0 : Mem) (hS : SM 65 0 M0 s) (hD : FM M0 (sN s) (dis s)) (h2 : M0 64 2 = c) : ∃ M', f_X10_digest_78 F F 0 M0 = some (31 * (31 * hCk s (31 * (31 * fE s (fh (M0 1064 22) (fun v => (sB s v : Int)) (sN s)) (sN s) + (su (tsz s) (sN s) : Int)) + (mxr (tmx s) (sN s) : Int)) + (cnt2 (arvP s) (sN s) : Int)) + (c : Int), M') ∧ ∀ a i, (a ≠ 1064 ∨ i ≠ 22) → (a ≠ 64 ∨ i ≠ 10 ∧ i ≠ 14 ∧ i ≠ 15 ∧ i ≠ 16) → a ≠ 70 → a ≠ 71 → a ≠ 74 → M' a i = M0 a i := by
  have w1 := f.1.1
  refine lpe (f := fun fu (y : Int × Mem) => f_X10_digest_78 F fu y.1 y.2) (I := fun v y => y.1 = v ∧ y.2 1064 22 = fh (M0 1064 22) (fun v => (sB s v : Int)) v ∧ fD M0 y.2) (Q := fun q => ∃ M', q = some (31 * (31 * hCk s (31 * (31 * fE s (fh (M0 1064 22) (fun v => (sB s v : Int)) (sN s)) (sN s) + (su (tsz s) (sN s) : Int)) + (mxr (tmx s) (sN s) : Int)) + (cnt2 (arvP s) (sN s) : Int)) + (c : Int), M') ∧ ∀ a i, (a ≠ 1064 ∨ i ≠ 22) → (a ≠ 64 ∨ i ≠ 10 ∧ i ≠ 14 ∧ i ≠ 15 ∧ i ≠ 16) → a ≠ 70 → a ≠ 71 → a ≠ 74 → M' a i = M0 a i) (sN s) ?_ ?_ (sN s) 0 F (0, M0) (by omega) (by omega) ⟨rfl, rfl, fun _ _ _ => rfl⟩
  · rintro v fu ⟨y1, N⟩ hv ⟨q1, q2, q3⟩
    dsimp only at q1 q2 q3 ⊢
    subst q1
    right
    have hS2 := SM_fD f.1 hS q3
    have e0 : N 65 0 = sN s := hS2.1
    have e5 := mlabel hS2 hv
    have hb := f.2.1.1 v hv
    refine ⟨((v : Int) + 1, mset N 1064 22 (31 * N 1064 22 + (sB s v : Int))), ?_, rfl, ?_, fD_mix q3 _⟩
    · rw [f_X10_digest_78, chk_t (by omega), if_neg (by omega), chk_t (by omega), e5, mix_eq (by omega), ob_s]
    · dsimp only; rw [ms_eq, q2]; rfl
  · rintro fu ⟨y1, N⟩ ⟨q1, q2, q3⟩
    dsimp only at q1 q2 q3 ⊢
    subst q1
    have hS2 := SM_fD f.1 hS q3
    have e0 : N 65 0 = sN s := hS2.1
    obtain ⟨M', a1, a2⟩ := mdig_ent hF f hc N hS2 (fun a b ha hb => by rw [q3 68 _ (by omega)]; exact hD a b ha hb) (by rw [q3 64 2 (by omega)]; exact h2)
    rw [q2] at a1
    refine ⟨M', ?_, fun a i p1 p2 p3 p4 p5 => by rw [a2 a i p1 p2 p3 p4 p5]; exact q3 a i p1⟩
    rw [f_X10_digest_78, chk_t (by omega), if_pos (by omega), a1]
theorem mdig_lnk (hF : 100000 ≤ F) (f : WF s) {c : Nat} (hc : c ≤ 4) (M0 : Mem) (hS : SM 65 0 M0 s) (hD : FM M0 (sN s) (dis s)) (h2 : M0 64 2 = c) : ∃ M', f_X10_digest_46 F F 0 M0 = some (31 * (31 * hCk s (31 * (31 * fE s (fh (fh (M0 1064 22) (cel s) (3 * sK s)) (fun v => (sB s v : Int)) (sN s)) (sN s) + (su (tsz s) (sN s) : Int)) + (mxr (tmx s) (sN s) : Int)) + (cnt2 (arvP s) (sN s) : Int)) + (c : Int), M') ∧ ∀ a i, (a ≠ 1064 ∨ i ≠ 22) → (a ≠ 64 ∨ i ≠ 10 ∧ i ≠ 14 ∧ i ≠ 15 ∧ i ≠ 16) → a ≠ 70 → a ≠ 71 → a ≠ 74 → M' a i = M0 a i := by
  have w1 := f.1.1
  have w2 := f.1.2.1
  refine lpe (f := fun fu (y : Int × Mem) => f_X10_digest_46 F fu y.1 y.2) (I := fun v y => y.1 = v ∧ y.2 1064 22 = fh (M0 1064 22) (cel s) v ∧ fD M0 y.2) (Q := fun q => ∃ M', q = some (31 * (31 * hCk s (31 * (31 * fE s (fh (fh (M0 1064 22) (cel s) (3 * sK s)) (fun v => (sB s v : Int)) (sN s)) (sN s) + (su (tsz s) (sN s) : Int)) + (mxr (tmx s) (sN s) : Int)) + (cnt2 (arvP s) (sN s) : Int)) + (c : Int), M') ∧ ∀ a i, (a ≠ 1064 ∨ i ≠ 22) → (a ≠ 64 ∨ i ≠ 10 ∧ i ≠ 14 ∧ i ≠ 15 ∧ i ≠ 16) → a ≠ 70 → a ≠ 71 → a ≠ 74 → M' a i = M0 a i) (3 * sK s) ?_ ?_ (3 * sK s) 0 F (0, M0) (by omega) (by omega) ⟨rfl, rfl, fun _ _ _ => rfl⟩
  · rintro j fu ⟨y1, N⟩ hj ⟨q1, q2, q3⟩
    dsimp only at q1 q2 q3 ⊢
    subst q1
    right
    have hS2 := SM_fD f.1 hS q3
    have e1 : N 65 1 = sK s := hS2.2.1
    have ec : N 65 (2 + (j : Int)) = cel s j := by
      obtain ⟨b1, b2, b3⟩ := hS2.2.2.1 (j / 3) (by omega)
      unfold cel
      rcases (show j % 3 = 0 ∨ j % 3 = 1 ∨ j % 3 = 2 by omega) with q | q | q
      · rw [if_pos q, ← b1, show (2 : Int) + j = 0 + (2 + 3 * ((j / 3 : Nat) : Int)) by omega]
      · rw [if_neg (by omega), if_pos q, ← b2, show (2 : Int) + j = 0 + (3 + 3 * ((j / 3 : Nat) : Int)) by omega]
      · rw [if_neg (by omega), if_neg (by omega), ← b3, show (2 : Int) + j = 0 + (4 + 3 * ((j / 3 : Nat) : Int)) by omega]
    refine ⟨((j : Int) + 1, mset N 1064 22 (31 * N 1064 22 + cel s j)), ?_, rfl, ?_, fD_mix q3 _⟩
    · rw [f_X10_digest_46, chk_t (by omega), chk_t (by omega), if_neg (by omega), chk_t (by omega), ec, mix_eq (cel_R f.1 hj), ob_s]
    · dsimp only; rw [ms_eq, q2]; rfl
  · rintro fu ⟨y1, N⟩ ⟨q1, q2, q3⟩
    dsimp only at q1 q2 q3 ⊢
    subst q1
    have hS2 := SM_fD f.1 hS q3
    have e1 : N 65 1 = sK s := hS2.2.1
    obtain ⟨M', a1, a2⟩ := mdig_lab hF f hc N hS2 (fun a b ha hb => by rw [q3 68 _ (by omega)]; exact hD a b ha hb) (by rw [q3 64 2 (by omega)]; exact h2)
    rw [q2] at a1
    refine ⟨M', ?_, fun a i p1 p2 p3 p4 p5 => by rw [a2 a i p1 p2 p3 p4 p5]; exact q3 a i p1⟩
    rw [f_X10_digest_46, chk_t (by omega), chk_t (by omega), if_pos (by omega), a1]
theorem op_digest (hF : 100000 ≤ F) (w : WA A) (hC : JC M A) (hM : JM M A) : ∃ r M1 M2, f_X9_digest F M = some (r, M1) ∧ f_X10_digest F M1 = some (r, M2) ∧ St M2 := by
  have wf := w.1
  have w1 := wf.1.1
  have w2 := wf.1.2.1
  have wt := w.2.2.1
  have hc : A.2.1 ≤ 4 := hC.2.1.1
  obtain ⟨M1, a1, a2⟩ := dig_class hF w hC
  have hM1 : JM M1 A := hM.fr w (fun a i q => a2 a i (by omega) (by omega) (by omega) (by omega) (by omega))
  obtain ⟨M2, b1, b2, b3, b4, b5⟩ := far_after hF w hM1
  have e5 : M2 64 5 = A.2.2.2.1 := b2.2.2.1
  have e0 : M2 65 0 = sN A.1 := b2.1.1
  have e1 : M2 65 1 = sK A.1 := b2.1.2.1
  have mm : ∀ (K : Mem) (x y : Int), mset (mset K 1064 22 x) 1064 22 y = mset K 1064 22 y := by
    intro K x y
    funext a i
    unfold mset
    by_cases q : a = 1064 ∧ i = 22
    · rw [if_pos q, if_pos q]
    · rw [if_neg q, if_neg q, if_neg q]
  have gg : ∀ (x : Int) a i, a ≠ 1064 → mset M2 1064 22 x a i = M2 a i := fun x a i q => ms_a q
  obtain ⟨M3, c1, c2⟩ := mdig_lnk hF wf hc (mset M2 1064 22 (31 * (31 * (31 * 3083 + (A.2.2.2.1 : Int)) + (sN A.1 : Int)) + (sK A.1 : Int))) (b2.1.fr (fun j _ _ => ms_a (by decide)) wf.1) (fun a b ha hb => by rw [ms_a (by decide)]; exact b3 a b ha hb) (by rw [ms_a (by decide)]; exact b2.2.1.2.1)
  rw [ms_eq] at c1
  refine ⟨_, M1, M3, a1, ?_, A, w, (hC.fr (fun a i q => a2 a i (by omega) (by omega) (by omega) (by omega) (by omega))).fr (fun a i q => ?_), b2.fr w (fun a i q => ?_)⟩
  · unfold f_X10_digest
    rw [b1, ob_s, ms_a (by decide), e5, mix_eq (by omega), ob_s, ms_eq, mm, ms_a (by decide), e0, mix_eq (by omega), ob_s, ms_eq, mm, ms_a (by decide), e1, mix_eq (by omega), ob_s, ms_eq, mm, c1]; rfl
  · rw [c2 a i (by omega) (by omega) (by omega) (by omega) (by omega), ms_a (by omega)]; exact b5 a i (by omega) (by omega)
  · rw [c2 a i (by omega) (by omega) (by omega) (by omega) (by omega), ms_a (by omega)]
end Digest
