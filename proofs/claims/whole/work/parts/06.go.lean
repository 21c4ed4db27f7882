/-! the world out of the pure memory -/
def fk (c j : Nat) : Nat := (fkT.getD c []).getD j 0
def nF (c : Nat) : Nat := (fkT.getD c []).length
def alen (a : Nat) : Nat := match shT[a]? with
  | some (.inr (_, n)) => n
  | _ => 0
def fv (b k : Nat) (M : Mem) (code j : Nat) : Value := match code with
  | 0 => .int (iI (M k j))
  | 1 => .long (lI (M (k + 1000) j))
  | o + 2 => .ref (b + (k + o))
/-- classes and slots, the array classes, the base -/
abbrev gC : Type := va_G × (Nat → ClassId) × Nat
abbrev rf (G : gC) (k : Nat) : Value := .ref (G.2.2 + k)
def gA (G : gC) : Nat → Prop := fun q => G.2.2 ≤ q
def ent (G : gC) (M : Mem) (k : Nat) : va_E := match shT[k]? with
  | some (.inl c) => .inr (c, (List.range (nF c)).map (fun j => fv G.2.2 k M (fk c j) j))
  | some (.inr (0, n)) => .inl (G.2.1 0, n, .inl (fun j => iI (M k j)))
  | some (.inr (1, n)) => .inl (G.2.1 1, n, .inr (.inl (fun j => lI (M (k + 1000) j))))
  | some (.inr (_, n)) => .inl (G.2.1 2, n, .inr (.inr (.inr (.inr (fun j => some (G.2.2 + (M k j).toNat))))))
  | none => .inr (0, [])
def gw (G : gC) (M : Mem) : va_W := (List.range 80).map (fun k => (G.2.2 + k, ent G M k))
theorem gw_at {G : gC} {M : Mem} {k : Nat} (h : k < 80) : (gw G M)[k]? = some (G.2.2 + k, ent G M k) := by
  simp [gw, h]
theorem sh_lt {k : Nat} {x : Nat ⊕ (Nat × Nat)} (h : shT[k]? = some x) : k < 80 := (List.getElem?_eq_some_iff.mp h).1
theorem ent_o {G : gC} {M : Mem} {k c : Nat} (h : shT[k]? = some (.inl c)) : ent G M k = .inr (c, (List.range (nF c)).map (fun j => fv G.2.2 k M (fk c j) j)) := by
  unfold ent; rw [h]
theorem ent_i {G : gC} {M : Mem} {k n : Nat} (h : shT[k]? = some (.inr (0, n))) : ent G M k = .inl (G.2.1 0, n, .inl (fun j => iI (M k j))) := by
  unfold ent; rw [h]; rfl
theorem ent_l {G : gC} {M : Mem} {k n : Nat} (h : shT[k]? = some (.inr (1, n))) : ent G M k = .inl (G.2.1 1, n, .inr (.inl (fun j => lI (M (k + 1000) j)))) := by
  unfold ent; rw [h]; rfl
theorem ent_q {G : gC} {M : Mem} {k n : Nat} (h : shT[k]? = some (.inr (2, n))) : ent G M k = .inl (G.2.1 2, n, .inr (.inr (.inr (.inr (fun j => some (G.2.2 + (M k j).toNat)))))) := by
  unfold ent; rw [h]; rfl
theorem fv_congr {b k : Nat} {M M' : Mem} (h1 : ∀ j, M k j = M' k j) (h2 : ∀ j, M (k + 1000) j = M' (k + 1000) j) (code j : Nat) : fv b k M code j = fv b k M' code j := by
  match code with
  | 0 => simp only [fv, h1]
  | 1 => simp only [fv, h2]
  | o + 2 => rfl
theorem ent_congr {G : gC} {M M' : Mem} {k : Nat} (h1 : ∀ j, M k j = M' k j) (h2 : ∀ j, M (k + 1000) j = M' (k + 1000) j) : ent G M k = ent G M' k := by
  cases h : shT[k]? with
  | none => unfold ent; rw [h]
  | some x =>
    rcases x with c | ⟨t, n⟩
    · rw [ent_o h, ent_o h]
      have e : (fun j : Nat => fv G.2.2 k M (fk c j) j) = fun j : Nat => fv G.2.2 k M' (fk c j) j := funext fun j => fv_congr h1 h2 _ _
      rw [e]
    · match t with
      | 0 => rw [ent_i h, ent_i h]; simp only [h1]
      | 1 => rw [ent_l h, ent_l h]; simp only [h2]
      | t + 2 =>
        unfold ent
        rw [h]
        simp only [h1]
theorem gw_set {G : gC} {M M' : Mem} {k : Nat} {e : va_E} (he : e = ent G M' k) (ho : ∀ j, j < 80 → j ≠ k → ent G M j = ent G M' j) : (gw G M).set k (G.2.2 + k, e) = gw G M' := by
  subst he
  apply List.ext_getElem?
  intro i
  rw [List.getElem?_set]
  by_cases hi : k = i
  · subst hi
    by_cases hk : k < 80
    · rw [if_pos rfl, if_pos (by simpa [gw] using hk), gw_at hk]
    · rw [if_pos rfl, if_neg (by simpa [gw] using hk)]
      symm
      rw [List.getElem?_eq_none]
      simp [gw]; omega
  · rw [if_neg hi]
    by_cases hk : i < 80
    · rw [gw_at hk, gw_at hk, ho i hk (fun q => hi q.symm)]
    · rw [List.getElem?_eq_none (by simp [gw]; omega), List.getElem?_eq_none (by simp [gw]; omega)]
theorem gw_D (G : gC) (M : Mem) : va_D (gA G) (gw G M) := by
  constructor
  · intro i j p q hi hj he
    have h1 : i < 80 := by have := (List.getElem?_eq_some_iff.mp hi).1; simpa [gw] using this
    have h2 : j < 80 := by have := (List.getElem?_eq_some_iff.mp hj).1; simpa [gw] using this
    rw [gw_at h1] at hi
    rw [gw_at h2] at hj
    cases hi; cases hj
    have he' : G.2.2 + i = G.2.2 + j := he
    omega
  · intro k q hk
    have h1 : k < 80 := by have := (List.getElem?_eq_some_iff.mp hk).1; simpa [gw] using this
    rw [gw_at h1] at hk
    cases hk
    show G.2.2 ≤ G.2.2 + k
    omega
theorem mset_ne {M : Mem} {a b : Nat} {i x : Int} (h : b ≠ a) (j : Int) : M b j = mset M a i x b j := by
  unfold mset; rw [if_neg (fun q => h q.1)]
theorem mset_eq {M : Mem} {a : Nat} {i x : Int} (j : Int) : mset M a i x a j = if j = i then x else M a j := by
  unfold mset; simp
theorem ent_other {G : gC} {M : Mem} {k : Nat} {i x : Int} (hk : k < 80) {j : Nat} (hj : j < 80) (hn : j ≠ k) : ent G M j = ent G (mset M k i x) j :=
  ent_congr (fun z => mset_ne hn z) (fun z => mset_ne (by omega) z)
theorem ent_otherL {G : gC} {M : Mem} {k : Nat} {i x : Int} (hk : k < 80) {j : Nat} (hj : j < 80) (hn : j ≠ k) : ent G M j = ent G (mset M (k + 1000) i x) j :=
  ent_congr (fun z => mset_ne (by omega) z) (fun z => mset_ne (by omega) z)
/-- storing into an int array -/
theorem gw_ist {G : gC} {M : Mem} {k n : Nat} (h : shT[k]? = some (.inr (0, n))) (i : Nat) (x : Int) : (gw G M).set k (G.2.2 + k, .inl (G.2.1 0, n, .inl (upd (fun j => iI (M k j)) i (iI x)))) = gw G (mset M k i x) := by
  refine gw_set ?_ (fun j hj hn => ent_other (sh_lt h) hj hn)
  rw [ent_i h]
  have e : (upd (fun j : Nat => iI (M k j)) i (iI x)) = (fun j : Nat => iI (mset M k i x k j)) := by
    funext j
    show (if j = i then iI x else iI (M k j)) = iI (mset M k i x k j)
    rw [mset_eq]
    by_cases e : j = i
    · rw [if_pos e, if_pos (by omega)]
    · rw [if_neg e, if_neg (by omega)]
  rw [e]
theorem gw_lst {G : gC} {M : Mem} {k n : Nat} (h : shT[k]? = some (.inr (1, n))) (i : Nat) (x : Int) : (gw G M).set k (G.2.2 + k, .inl (G.2.1 1, n, .inr (.inl (vp_updL (fun j => lI (M (k + 1000) j)) i (lI x))))) = gw G (mset M (k + 1000) i x) := by
  refine gw_set ?_ (fun j hj hn => ent_otherL (sh_lt h) hj hn)
  rw [ent_l h]
  have e : (vp_updL (fun j : Nat => lI (M (k + 1000) j)) i (lI x)) = (fun j : Nat => lI (mset M (k + 1000) i x (k + 1000) j)) := by
    funext j
    show (if j = i then lI x else lI (M (k + 1000) j)) = lI (mset M (k + 1000) i x (k + 1000) j)
    rw [mset_eq]
    by_cases e : j = i
    · rw [if_pos e, if_pos (by omega)]
    · rw [if_neg e, if_neg (by omega)]
  rw [e]
theorem gw_qst {G : gC} {M : Mem} {k n : Nat} (h : shT[k]? = some (.inr (2, n))) (i x : Nat) : (gw G M).set k (G.2.2 + k, .inl (G.2.1 2, n, .inr (.inr (.inr (.inr (va_up (fun j => some (G.2.2 + (M k j).toNat)) i (some (G.2.2 + x)))))))) = gw G (mset M k i x) := by
  refine gw_set ?_ (fun j hj hn => ent_other (sh_lt h) hj hn)
  rw [ent_q h]
  have e : (va_up (fun j : Nat => some (G.2.2 + (M k j).toNat)) i (some (G.2.2 + x))) = (fun j : Nat => some (G.2.2 + (mset M k i x k j).toNat)) := by
    funext j
    show (if j = i then some (G.2.2 + x) else some (G.2.2 + (M k j).toNat)) = some (G.2.2 + (mset M k i x k j).toNat)
    rw [mset_eq]
    by_cases e : j = i
    · rw [if_pos e, if_pos (by omega)]; simp
    · rw [if_neg e, if_neg (by omega)]
  rw [e]
theorem fields_set {G : gC} {M M' : Mem} {k c j : Nat} {v : Value} (hj : j < nF c) (hv : v = fv G.2.2 k M' (fk c j) j) (ho : ∀ i, i < nF c → i ≠ j → fv G.2.2 k M (fk c i) i = fv G.2.2 k M' (fk c i) i) :
    ((List.range (nF c)).map (fun j => fv G.2.2 k M (fk c j) j)).set j v = (List.range (nF c)).map (fun j => fv G.2.2 k M' (fk c j) j) := by
  subst hv
  apply List.ext_getElem?
  intro i
  rw [List.getElem?_set]
  by_cases hi : j = i
  · subst hi
    rw [if_pos rfl, if_pos (by simpa using hj)]
    simp [hj]
  · rw [if_neg hi]
    by_cases hk : i < nF c
    · simp only [List.getElem?_map, List.getElem?_range hk, Option.map_some]
      rw [ho i hk (fun q => hi q.symm)]
    · rw [List.getElem?_eq_none (by simp; omega), List.getElem?_eq_none (by simp; omega)]
/-- storing into an int field -/
theorem gw_pst {G : gC} {M : Mem} {k c j : Nat} (h : shT[k]? = some (.inl c)) (hj : j < nF c) (hf : fk c j = 0) (x : Int) : (gw G M).set k (G.2.2 + k, .inr (c, ((List.range (nF c)).map (fun j => fv G.2.2 k M (fk c j) j)).set j (.int (iI x)))) = gw G (mset M k j x) := by
  refine gw_set ?_ (fun i hi hn => ent_other (sh_lt h) hi hn)
  rw [ent_o h, fields_set (M' := mset M k j x) hj]
  · rw [hf]
    show Value.int (iI x) = Value.int (iI (mset M k j x k j))
    rw [mset_eq, if_pos rfl]
  · intro i hi hn
    match hc : fk c i with
    | 0 =>
      show Value.int (iI (M k i)) = Value.int (iI (mset M k j x k i))
      rw [mset_eq, if_neg (by omega)]
    | 1 =>
      show Value.long (lI (M (k + 1000) i)) = Value.long (lI (mset M k j x (k + 1000) i))
      rw [← mset_ne (by omega)]
    | o + 2 => rfl
theorem gw_plst {G : gC} {M : Mem} {k c j : Nat} (h : shT[k]? = some (.inl c)) (hj : j < nF c) (hf : fk c j = 1) (x : Int) : (gw G M).set k (G.2.2 + k, .inr (c, ((List.range (nF c)).map (fun j => fv G.2.2 k M (fk c j) j)).set j (.long (lI x)))) = gw G (mset M (k + 1000) j x) := by
  refine gw_set ?_ (fun i hi hn => ent_otherL (sh_lt h) hi hn)
  rw [ent_o h, fields_set (M' := mset M (k + 1000) j x) hj]
  · rw [hf]
    show Value.long (lI x) = Value.long (lI (mset M (k + 1000) j x (k + 1000) j))
    rw [mset_eq, if_pos rfl]
  · intro i hi hn
    match hc : fk c i with
    | 0 =>
      show Value.int (iI (M k i)) = Value.int (iI (mset M (k + 1000) j x k i))
      rw [← mset_ne (by omega)]
    | 1 =>
      show Value.long (lI (M (k + 1000) i)) = Value.long (lI (mset M (k + 1000) j x (k + 1000) i))
      rw [mset_eq, if_neg (by omega)]
    | o + 2 => rfl
/-- copying within the int arrays -/
theorem gw_cpy {G : gC} {M : Mem} {k n : Nat} (h : shT[k]? = some (.inr (0, n))) {k0 : Nat} {sp dp m : Nat} : (gw G M).set k (G.2.2 + k, .inl (G.2.1 0, n, .inl (va_cpy (fun j => iI (M k0 j)) (fun j => iI (M k j)) sp dp m))) = gw G (mcpy M k0 sp k dp m) := by
  refine gw_set ?_ (fun j hj hn => ent_congr (fun z => ?_) (fun z => ?_))
  · rw [ent_i h]
    congr 4
    funext j
    show (if dp ≤ j ∧ j < dp + m then iI (M k0 ((sp + (j - dp) : Nat) : Int)) else iI (M k j)) = iI (mcpy M k0 sp k dp m k j)
    unfold mcpy
    by_cases e : dp ≤ j ∧ j < dp + m
    · rw [if_pos e, if_pos (by omega)]
      congr 2
      omega
    · rw [if_neg e, if_neg (by omega)]
  · unfold mcpy; rw [if_neg (fun q => hn q.1)]
  · unfold mcpy; rw [if_neg (by have := sh_lt h; omega)]
