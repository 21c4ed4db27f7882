theorem nw_L_8 : NW RL 8 9 10 [.null, .null, .null, .null, .null, .null, .null, .null, .null, .null] := ⟨_, _, tyX9, rfl, iw_9, tyX9_ok, gt_of 92 (by decide +kernel) (by decide +kernel), gt_of 93 (by decide +kernel) (by decide +kernel), gt_of 72 (by decide +kernel) (by decide +kernel), by decide +kernel⟩
theorem nw_L_109 : NW RL 109 10 23 [.null, .null, .int 0, .int 0, .null, .int 0, .null, .null, .null, .null, .int 0, .null, .null, .null, .int 0, .int 0, .int 0, .null, .null, .null, .int 0, .null, .long 0] := ⟨_, _, tyX10, rfl, iw_10, tyX10_ok, gt_of 1050 (by decide +kernel) (by decide +kernel), gt_of 1051 (by decide +kernel) (by decide +kernel), gt_of 83 (by decide +kernel) (by decide +kernel), by decide +kernel⟩
theorem mi_L_108 : MI RL 108 yX9_init (.code yX9_init cX9_init 1 none) 0 := ⟨gt_of 94 (by decide +kernel) (by decide +kernel), gt_of 95 (by decide +kernel) (by decide +kernel), gt_of 72 (by decide +kernel) (by decide +kernel), gt_of 96 (by decide +kernel) (by decide +kernel), rfl, by decide +kernel, by decide +kernel, by decide +kernel⟩
theorem mi_L_111 : MI RL 111 yX10_init (.code yX10_init cX10_init 1 none) 0 := ⟨gt_of 1052 (by decide +kernel) (by decide +kernel), gt_of 1053 (by decide +kernel) (by decide +kernel), gt_of 83 (by decide +kernel) (by decide +kernel), gt_of 1054 (by decide +kernel) (by decide +kernel), rfl, by decide +kernel, by decide +kernel, by decide +kernel⟩
/-- what the pure functions must give: the law's loop answers 1 on every script -/
def PureLaw : Prop := ∀ (zs : Int → Int) (N : Nat), (∀ i, inR (zs i)) → N ≤ 2560 → ∃ F : Nat, f_L_law_23 F zs (N : Int) 600 0 M0 = some 1
set_option maxHeartbeats 4000000 in
set_option maxRecDepth 100000 in
theorem law_walk (hpure : PureLaw) {G : gC} {X : gX} {b N : Nat} {zs : Int → Int} (hscr : Scr G X b N zs (N : Int)) (hzs : ∀ i, inR (zs i)) (hN : N ≤ 2560) (C : Cx G X cL_law 9 RL 11 601024 7293034 (some .boolean) (X.2.2.2.2.2.2.2.2.2.1.exceptionTable.toList)) (hrb : LawRet X) (hZ : LawEnd G X b) (B : Bs G X 0) : GoI G X 9 0 0 0 [some (.ref b), none, none, none, none, none, none, none, none] [] (kP G []) := by
  obtain ⟨F, hF⟩ := hpure zs N hzs hN
  have hLR : inR (N : Int) := ⟨by omega, by omega⟩
  have L := w_L_law_23 hscr hzs hLR C hrb hZ 600 0 M0 80 3406 (by omega) (by omega) M0_B hF
  show GoI G X 9 0 0 0 _ [] (kP G ([] ++ []))
  refine gk_new (suf2 := [.inr (9, [.null, .null, .null, .null, .null, .null, .null, .null, .null, .null])]) C B rfl dL_law_0 nw_L_8 (Nat.le_of_ble_eq_true rfl) (Nat.le_of_ble_eq_true rfl) (a := G.2.2) rfl rfl ?_
  refine go_dup C dL_law_3 rfl ?_
  have hM := okK_X9_init (G := G) C.hl (pre := []) (b := G.2.2) rfl
  refine gk_callI C B rfl dL_law_4 hM mi_L_108 rfl rfl (Nat.le_of_ble_eq_true rfl) ⟨(Nat.le_of_ble_eq_true rfl), (Nat.le_of_ble_eq_true rfl)⟩ ⟨(Nat.le_of_ble_eq_true rfl), (Nat.le_of_ble_eq_true rfl)⟩ ?_
  clear hM
  refine go_astore_n (ls2 := [some (.ref b), some (.ref G.2.2), none, none, none, none, none, none, none]) C dL_law_7 rfl (Nat.le_of_ble_eq_true rfl) rfl ?_
  show GoI G X 9 _ _ _ _ [] (kP G ([] ++ esR G))
  refine gk_new (suf2 := esR G ++ [.inr (10, [.null, .null, .int 0, .int 0, .null, .int 0, .null, .null, .null, .null, .int 0, .null, .null, .null, .int 0, .int 0, .int 0, .null, .null, .null, .int 0, .null, .long 0])]) C B rfl dL_law_8 nw_L_109 (Nat.le_of_ble_eq_true rfl) (Nat.le_of_ble_eq_true rfl) (a := G.2.2 + 64) rfl rfl ?_
  refine go_dup C dL_law_11 rfl ?_
  have hM := okK_X10_init (G := G) C.hl (pre := esR G) (b := G.2.2 + 64) rfl
  refine gk_callI (kc := 65) (ks := 2160) (rest := [.ref (G.2.2 + 64)]) (es := esR G ++ [.inr (10, [.null, .null, .int 0, .int 0, .null, .int 0, .null, .null, .null, .null, .int 0, .null, .null, .null, .int 0, .int 0, .int 0, .null, .null, .null, .int 0, .null, .long 0])]) C B rfl dL_law_12 hM mi_L_111 rfl rfl (Nat.le_of_ble_eq_true rfl) ⟨(Nat.le_of_ble_eq_true rfl), (Nat.le_of_ble_eq_true rfl)⟩ ⟨(Nat.le_of_ble_eq_true rfl), (Nat.le_of_ble_eq_true rfl)⟩ ?_
  clear hM
  refine go_astore_n (ls2 := [some (.ref b), some (.ref G.2.2), some (.ref (G.2.2 + 64)), none, none, none, none, none, none]) C dL_law_15 rfl (Nat.le_of_ble_eq_true rfl) rfl ?_
  refine go_iconst C dL_law_16 ?_
  show GoI G X 9 _ _ _ _ [.int (iI ((1 : Nat) : Int))] (kP G ((esR G ++ esM G) ++ []))
  refine gk_newa (cA := G.2.1 1) (ty := .long) (N := 1) (a0 := (1, .inr (.inl (fun _ => 0)))) (suf2 := [esO G]) C B rfl dL_law_17 gu_aJ rfl 1 rfl (fun _ h => h) (fun _ => rfl) rfl (by decide) (by decide) (Nat.le_of_ble_eq_true rfl) (Nat.le_of_ble_eq_true rfl) (a := G.2.2 + 79) rfl rfl ?_
  refine go_astore_n (ls2 := [some (.ref b), some (.ref G.2.2), some (.ref (G.2.2 + 64)), some (.ref (G.2.2 + 79)), none, none, none, none, none]) C dL_law_19 rfl (Nat.le_of_ble_eq_true rfl) rfl ?_
  refine go_iconst C dL_law_20 ?_
  refine go_istore (ls2 := [some (.ref b), some (.ref G.2.2), some (.ref (G.2.2 + 64)), some (.ref (G.2.2 + 79)), some (.int (iI 0)), none, none, none, none]) C dL_law_21 (Nat.le_of_ble_eq_true rfl) rfl ?_
  rw [List.append_assoc]
  obtain ⟨p, l, e, R, s, m, args, below, meth, c, Q⟩ := X
  intro H locs la hP hS hl
  exact L H locs la (gP_start hP) hS hl

set_option maxHeartbeats 4000000 in
set_option maxRecDepth 100000 in
theorem law_known {s : State} {args : Array Value} (hg : ∀ w ∈ GT, w.before args s = true) : ∃ D : va_G, ∀ (c : Nat) (q : vw_C), vwCl[c]? = some q → u_Kn s q.1 q.2.1 q.2.2 (D.1 c) (D.2 c) := by
  obtain ⟨c0, i0, hKn0⟩ := u_known (C := RX0) (T := TX0) (N := 2) (n := 2) hg iw_0 (hg (.instantiable RX0 2) (gt_of 154 (by decide +kernel) (by decide +kernel)))
  obtain ⟨c1, i1, hKn1⟩ := u_known (C := RX1) (T := TX1) (N := 1) (n := 1) hg iw_1 (hg (.instantiable RX1 1) (gt_of 292 (by decide +kernel) (by decide +kernel)))
  obtain ⟨c2, i2, hKn2⟩ := u_known (C := RX2) (T := TX2) (N := 5) (n := 5) hg iw_2 (hg (.instantiable RX2 5) (gt_of 266 (by decide +kernel) (by decide +kernel)))
  obtain ⟨c3, i3, hKn3⟩ := u_known (C := RX3) (T := TX3) (N := 2) (n := 2) hg iw_3 (hg (.instantiable RX3 2) (gt_of 302 (by decide +kernel) (by decide +kernel)))
  obtain ⟨c4, i4, hKn4⟩ := u_known (C := RX4) (T := TX4) (N := 2) (n := 2) hg iw_4 (hg (.instantiable RX4 2) (gt_of 190 (by decide +kernel) (by decide +kernel)))
  obtain ⟨c5, i5, hKn5⟩ := u_known (C := RX5) (T := TX5) (N := 9) (n := 9) hg iw_5 (hg (.instantiable RX5 9) (gt_of 229 (by decide +kernel) (by decide +kernel)))
  obtain ⟨c6, i6, hKn6⟩ := u_known (C := RX6) (T := TX6) (N := 7) (n := 7) hg iw_6 (hg (.instantiable RX6 7) (gt_of 101 (by decide +kernel) (by decide +kernel)))
  obtain ⟨c7, i7, hKn7⟩ := u_known (C := RX7) (T := TX7) (N := 5) (n := 5) hg iw_7 (hg (.instantiable RX7 5) (gt_of 207 (by decide +kernel) (by decide +kernel)))
  obtain ⟨c8, i8, hKn8⟩ := u_known (C := RX8) (T := TX8) (N := 4) (n := 4) hg iw_8 (hg (.instantiable RX8 4) (gt_of 171 (by decide +kernel) (by decide +kernel)))
  obtain ⟨c9, i9, hKn9⟩ := u_known (C := RX9) (T := TX9) (N := 10) (n := 10) hg iw_9 (hg (.instantiable RX9 10) (gt_of 93 (by decide +kernel) (by decide +kernel)))
  obtain ⟨c10, i10, hKn10⟩ := u_known (C := RX10) (T := TX10) (N := 23) (n := 23) hg iw_10 (hg (.instantiable RX10 23) (gt_of 1051 (by decide +kernel) (by decide +kernel)))
  refine ⟨(fun k => if k = 0 then c0 else if k = 1 then c1 else if k = 2 then c2 else if k = 3 then c3 else if k = 4 then c4 else if k = 5 then c5 else if k = 6 then c6 else if k = 7 then c7 else if k = 8 then c8 else if k = 9 then c9 else c10, fun k => if k = 0 then i0 else if k = 1 then i1 else if k = 2 then i2 else if k = 3 then i3 else if k = 4 then i4 else if k = 5 then i5 else if k = 6 then i6 else if k = 7 then i7 else if k = 8 then i8 else if k = 9 then i9 else i10), ?_⟩
  intro k q hq
  match k, hq with
  | 0, hq => cases hq; exact hKn0
  | 1, hq => cases hq; exact hKn1
  | 2, hq => cases hq; exact hKn2
  | 3, hq => cases hq; exact hKn3
  | 4, hq => cases hq; exact hKn4
  | 5, hq => cases hq; exact hKn5
  | 6, hq => cases hq; exact hKn6
  | 7, hq => cases hq; exact hKn7
  | 8, hq => cases hq; exact hKn8
  | 9, hq => cases hq; exact hKn9
  | 10, hq => cases hq; exact hKn10
  | k + 11, hq => simp [vwCl] at hq
set_option maxHeartbeats 4000000 in
set_option maxRecDepth 100000 in
theorem law_gK {s : State} {b : Nat} (hts : ∀ w ∈ lw_tbl, w.before #[Value.ref b] s = true) (hgv : (Jvm.Cond.and given_1 narrow_1).before #[Value.ref b] s = true) : ∃ G : gC, gK G s ∧ G.2.2 = s.heap.size ∧ va_AO RX6 s := by
  have hg : ∀ w ∈ GT, w.before #[Value.ref b] s = true := fun w hw => hts w (List.mem_filter.mp hw).1
  have hs := flat_of_before _ hgv
  obtain ⟨D, hD⟩ := law_known hg
  obtain ⟨cI, kI, pI, fI, gI, hI⟩ := Cond.arrayClass_spec (hg _ gu_aI)
  obtain ⟨cJ, kJ, pJ, fJ, gJ, hJ⟩ := Cond.arrayClass_spec (hg _ gu_aJ)
  have hao : va_AO RX6 s := va_AO.of (hts (Cond.arrayOver (.object RX6)) (List.mem_of_getElem? (i := 160) (by decide +kernel)))
  obtain ⟨comp, cS, kS, s1, s2, s3, s4, s5⟩ := Cond.arrayOver_spec hao
  refine ⟨(D, (fun k => if k = 0 then cI else if k = 1 then cJ else cS), s.heap.size), ⟨⟨hD, ?_⟩, ?_, ?_, ?_, ?_, ?_, ?_⟩, rfl, hao⟩
  · intro k q hk
    match k, hk with
    | 0, hk => cases hk; exact ⟨fun n z => ⟨(fun k h => by cases h), kI, gI, pI, hI⟩, fI⟩
    | 1, hk => cases hk; exact ⟨fun n z => ⟨(fun k h => by cases h), kJ, gJ, pJ, hJ⟩, fJ⟩
    | 2, hk => cases hk; exact ⟨fun n z => ⟨(fun k h => by cases h), kS, s3, comp, s4⟩, kS, comp, s3, s4, s1, s5⟩
    | k + 3, hk => simp [tysG] at hk
  · exact vx_Zqof (hts _ (List.mem_of_getElem? (i := 646) (by decide +kernel))) (hts (Cond.initialized Bundle.tN) (List.mem_of_getElem? (i := 84) (by decide +kernel))) (hs _ (by decide +kernel)) (fun a ha => Nat.not_le.mpr ha)
  · exact vx_Zqof (hts _ (List.mem_of_getElem? (i := 648) (by decide +kernel))) (hts (Cond.initialized Bundle.tN) (List.mem_of_getElem? (i := 84) (by decide +kernel))) (hs _ (by decide +kernel)) (fun a ha => Nat.not_le.mpr ha)
  · intro x hx
    have key : ∀ x ∈ stT, Cond.stringRef RX9 x.1 x.2 ∈ lw_tbl := by decide +kernel
    have h1 := hts _ (key x hx)
    obtain ⟨k, cf, i, a, -, -, -, -, -, h2⟩ := Cond.stringRef_spec (hD 9 _ rfl).2.1 h1
    exact ⟨a, vk_R.of (A := #[Value.ref b]) h1 h2⟩
  · intro x hx
    have key : ∀ x ∈ cbT, Cond.castable x.1 x.2 ∈ lw_tbl := by decide +kernel
    exact va_tabs rfl rfl (hts _ (key x hx))
  · intro x hx
    have key : ∀ x ∈ dcT, Cond.declares x ∈ lw_tbl := by decide +kernel
    exact va_tabs rfl rfl (hts _ (key x hx))
  · intro x hx
    have key : ∀ x ∈ ncT, Cond.not (.castable x.1 x.2) ∈ flatC (Jvm.Cond.and given_1 narrow_1) := by decide +kernel
    exact va_Nc.of (hs _ (key x hx))
set_option maxHeartbeats 4000000 in
set_option maxRecDepth 100000 in
theorem whole_of (hpure : PureLaw) {p : Program} {e : Env} {s : State} {m : MethodId} {below : List Frame} {meth : Method} {c : Code} (l : Launch) (hflags : l.flags = flags0) {b L : Nat} {xs : Nat → Int32} (hL : L ≤ 2560) (C0 : lw_At p s m meth c b L xs) : W p l e room_1 s m #[Value.ref b] below meth c s.heap [] 0 0 (lw_Z below #[Value.ref b] s) (entryFrame m ([Value.ref b] : List Value).toArray 9) := by
  obtain ⟨hx, hb, hr, hml, hown, hts, hX, hbl, hlocks, hgv⟩ := id C0
  have hl : l.stackTraces = false := by unfold Launch.stackTraces; rw [hflags]; decide +kernel
  have hg : ∀ w ∈ GT, w.before #[Value.ref b] s = true := fun w hw => hts w (List.mem_filter.mp hw).1
  obtain ⟨G, hK, hG, hao⟩ := law_gK hts hgv
  have key := law_walk hpure (G := G) (X := (p, l, e, room_1, s.setDrawn s.drawn, m, #[Value.ref b], below, meth, c, lw_Z below #[Value.ref b] s)) (b := b) (N := L) (zs := fun i => (xs i.toNat).toInt)
    ⟨xs, hX, hbl, by show ¬ G.2.2 ≤ b; omega, rfl, by omega, fun i => rfl⟩ (fun i => iI_inR _) hL
    ⟨hx, hb, hml, hown, hg, hK, hlocks, hl, ⟨by decide, by decide, by decide, by decide⟩, hr, rfl⟩ rfl ⟨hG.symm, rfl, s, rfl, rfl⟩ ⟨hG.symm, hao⟩
  have he := lv_entry ([.ref b]) (n := 9) (Nat.le_of_ble_eq_true rfl)
  rw [lg_entry_eq]
  refine W.base ?_
  refine key s.heap [] _ (fun k q hk => by simp [cwl] at hk) va_S.rf ⟨he.1, he.2.1, fun j w hj => ?_⟩
  match j, hj with
  | 0, hj => cases hj; exact he.2.2 (0, .ref b) List.mem_cons_self
  | j + 1, hj =>
    simp at hj
    match j, hj with
    | 0, hj => simp at hj
    | 1, hj => simp at hj
    | 2, hj => simp at hj
    | 3, hj => simp at hj
    | 4, hj => simp at hj
    | 5, hj => simp at hj
    | 6, hj => simp at hj
    | 7, hj => simp at hj
    | j + 8, hj => simp at hj
