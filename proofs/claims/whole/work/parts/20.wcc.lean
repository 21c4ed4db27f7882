set_option maxHeartbeats 4000000 in
theorem ok_X9_setLabels {G : gC} {l : Launch} (hl : l.stackTraces = false) {F : Nat} {v1 : Int} {v2 : Int} {M : Mem} (hB : Bd M) {res : (Nat ⊕ Int) × Mem} (h : f_X9_setLabels F v1 v2 M = some res) : Ok G l 7 3 18 yX9_setLabels (.code yX9_setLabels cX9_setLabels 3 (some .int)) [rf G 0, .int (iI v1), .int (iI v2)] M (oxI res.1) res.2 := by
  refine ok_of (ls := [some (rf G 0), some (.int (iI v1)), some (.int (iI v2))]) hl (by decide +kernel) (Nat.le_of_ble_eq_true rfl) ⟨rfl, ⟨rfl, ⟨rfl, trivial⟩⟩⟩ ?_
  intro X hX C E
  subst hX
  rw [f_X9_setLabels] at h
  obtain ⟨hp_v1, h⟩ := chk_some h
  refine go_aload_n C dX9_setLabels_0 rfl rfl ?_
  refine go_iload_n C dX9_setLabels_1 rfl rfl ?_
  refine go_iconst C dX9_setLabels_2 ?_
  refine go_iconst C dX9_setLabels_3 ?_
  obtain ⟨q1, h1, h⟩ := ob_some h
  refine go_callV_xv C dX9_setLabels_4 (ok_X9_needRange C.hl hB h1) mv_X9_75 sh_0 rfl rfl (Nat.le_of_ble_eq_true rfl) ⟨(Nat.le_of_ble_eq_true rfl), (Nat.le_of_ble_eq_true rfl)⟩ ⟨(Nat.le_of_ble_eq_true rfl), (Nat.le_of_ble_eq_true rfl)⟩ (fun e1 he1 hB1 => ?_) (fun r1 hr1 hB1 => ?_)
  · replace h := ox_l he1 h
    cases h
    exact go_out C E (Nat.le_of_ble_eq_true rfl) (Nat.le_of_ble_eq_true rfl) rfl rfl hB1
  · replace h := ox_r hr1 h
    refine go_aload_n C dX9_setLabels_7 rfl rfl ?_
    refine go_iload_n C dX9_setLabels_8 rfl rfl ?_
    obtain ⟨q2, h2, h⟩ := ob_some h
    refine go_callV_xv C dX9_setLabels_9 (ok_X9_needNode C.hl hB1 h2) mv_X9_94 sh_0 rfl rfl (Nat.le_of_ble_eq_true rfl) ⟨(Nat.le_of_ble_eq_true rfl), (Nat.le_of_ble_eq_true rfl)⟩ ⟨(Nat.le_of_ble_eq_true rfl), (Nat.le_of_ble_eq_true rfl)⟩ (fun e2 he2 hB2 => ?_) (fun r2 hr2 hB2 => ?_)
    · replace h := ox_l he2 h
      cases h
      exact go_out C E (Nat.le_of_ble_eq_true rfl) (Nat.le_of_ble_eq_true rfl) rfl rfl hB2
    · replace h := ox_r hr2 h
      refine go_iload_n C dX9_setLabels_12 rfl rfl ?_
      refine go_iconst C dX9_setLabels_13 ?_
      refine go_icmp_ne (tgt := 21) C dX9_setLabels_14 rfl hp_v1 (by decide) (fun hc3 => ?_) (fun hc3 => ?_)
      · replace h := ite_f hc3 h
        refine go_wide (kc' := 3) (ks' := 18) (Nat.le_of_ble_eq_true rfl) (Nat.le_of_ble_eq_true rfl) ?_
        exact w_X9_setLabels_21 C E v1 v2 M hB2 h
      · replace h := ite_t hc3 h
        refine go_aload_n C dX9_setLabels_17 rfl rfl ?_
        obtain ⟨q15, h15, h⟩ := ob_some h
        refine go_callV_xv C dX9_setLabels_18 (ok_X9_needSearchable C.hl hB2 h15) mv_X9_157 sh_0 rfl rfl (Nat.le_of_ble_eq_true rfl) ⟨(Nat.le_of_ble_eq_true rfl), (Nat.le_of_ble_eq_true rfl)⟩ ⟨(Nat.le_of_ble_eq_true rfl), (Nat.le_of_ble_eq_true rfl)⟩ (fun e15 he15 hB15 => ?_) (fun r15 hr15 hB15 => ?_)
        · replace h := ox_l he15 h
          cases h
          exact go_out C E (Nat.le_of_ble_eq_true rfl) (Nat.le_of_ble_eq_true rfl) rfl rfl hB15
        · replace h := ox_r hr15 h
          exact w_X9_setLabels_21 C E v1 v2 M hB15 h
-- IntervalRouter.swapLabels(II)I
set_option maxHeartbeats 4000000 in
theorem ok_X9_swapLabels {G : gC} {l : Launch} (hl : l.stackTraces = false) {F : Nat} {v1 : Int} {v2 : Int} {M : Mem} (hB : Bd M) {res : (Nat ⊕ Int) × Mem} (h : f_X9_swapLabels F v1 v2 M = some res) : Ok G l 7 2 12 yX9_swapLabels (.code yX9_swapLabels cX9_swapLabels 3 (some .int)) [rf G 0, .int (iI v1), .int (iI v2)] M (oxI res.1) res.2 := by
  refine ok_of (ls := [some (rf G 0), some (.int (iI v1)), some (.int (iI v2))]) hl (by decide +kernel) (Nat.le_of_ble_eq_true rfl) ⟨rfl, ⟨rfl, ⟨rfl, trivial⟩⟩⟩ ?_
  intro X hX C E
  subst hX
  rw [f_X9_swapLabels] at h
  refine go_aload_n C dX9_swapLabels_0 rfl rfl ?_
  refine go_iload_n C dX9_swapLabels_1 rfl rfl ?_
  obtain ⟨q1, h1, h⟩ := ob_some h
  refine go_callV_xv C dX9_swapLabels_2 (ok_X9_needNode C.hl hB h1) mv_X9_94 sh_0 rfl rfl (Nat.le_of_ble_eq_true rfl) ⟨(Nat.le_of_ble_eq_true rfl), (Nat.le_of_ble_eq_true rfl)⟩ ⟨(Nat.le_of_ble_eq_true rfl), (Nat.le_of_ble_eq_true rfl)⟩ (fun e1 he1 hB1 => ?_) (fun r1 hr1 hB1 => ?_)
  · replace h := ox_l he1 h
    cases h
    exact go_out C E (Nat.le_of_ble_eq_true rfl) (Nat.le_of_ble_eq_true rfl) rfl rfl hB1
  · replace h := ox_r hr1 h
    refine go_aload_n C dX9_swapLabels_5 rfl rfl ?_
    refine go_iload_n C dX9_swapLabels_6 rfl rfl ?_
    obtain ⟨q2, h2, h⟩ := ob_some h
    refine go_callV_xv C dX9_swapLabels_7 (ok_X9_needNode C.hl hB1 h2) mv_X9_94 sh_0 rfl rfl (Nat.le_of_ble_eq_true rfl) ⟨(Nat.le_of_ble_eq_true rfl), (Nat.le_of_ble_eq_true rfl)⟩ ⟨(Nat.le_of_ble_eq_true rfl), (Nat.le_of_ble_eq_true rfl)⟩ (fun e2 he2 hB2 => ?_) (fun r2 hr2 hB2 => ?_)
    · replace h := ox_l he2 h
      cases h
      exact go_out C E (Nat.le_of_ble_eq_true rfl) (Nat.le_of_ble_eq_true rfl) rfl rfl hB2
    · replace h := ox_r hr2 h
      refine go_aload_n C dX9_swapLabels_10 rfl rfl ?_
      refine go_getR (o := 13) (k2 := 13) C dX9_swapLabels_11 fl_X9_22 sh_0 rfl rfl ?_
      refine go_aload_n C dX9_swapLabels_14 rfl rfl ?_
      refine go_getR (o := 1) (k2 := 1) C dX9_swapLabels_15 fl_X9_12 sh_0 rfl rfl ?_
      obtain ⟨q3, h3, h⟩ := ob_some h
      refine go_callV_v C dX9_swapLabels_18 (ok_X0_save C.hl hB2 h3) mv_X9_83 sh_13 rfl rfl (Nat.le_of_ble_eq_true rfl) ⟨(Nat.le_of_ble_eq_true rfl), (Nat.le_of_ble_eq_true rfl)⟩ ⟨(Nat.le_of_ble_eq_true rfl), (Nat.le_of_ble_eq_true rfl)⟩ (fun hB3 => ?_)
      refine go_aload_n C dX9_swapLabels_21 rfl rfl ?_
      refine go_getR (o := 1) (k2 := 1) C dX9_swapLabels_22 fl_X9_12 sh_0 rfl rfl ?_
      refine go_iload_n C dX9_swapLabels_25 rfl rfl ?_
      refine go_iload_n C dX9_swapLabels_26 rfl rfl ?_
      obtain ⟨q4, h4, h⟩ := ob_some h
      refine go_callV_v C dX9_swapLabels_27 (ok_X6_exchangeLabels C.hl hB3 sh_1 h4) mv_X9_181 sh_1 rfl rfl (Nat.le_of_ble_eq_true rfl) ⟨(Nat.le_of_ble_eq_true rfl), (Nat.le_of_ble_eq_true rfl)⟩ ⟨(Nat.le_of_ble_eq_true rfl), (Nat.le_of_ble_eq_true rfl)⟩ (fun hB4 => ?_)
      refine go_aload_n C dX9_swapLabels_30 rfl rfl ?_
      refine go_getR (o := 1) (k2 := 1) C dX9_swapLabels_31 fl_X9_12 sh_0 rfl rfl ?_
      obtain ⟨q5, h5, h⟩ := ob_some h
      refine go_callV_v C dX9_swapLabels_34 (ok_X6_clearEntries C.hl hB4 sh_1 h5) mv_X9_178 sh_1 rfl rfl (Nat.le_of_ble_eq_true rfl) ⟨(Nat.le_of_ble_eq_true rfl), (Nat.le_of_ble_eq_true rfl)⟩ ⟨(Nat.le_of_ble_eq_true rfl), (Nat.le_of_ble_eq_true rfl)⟩ (fun hB5 => ?_)
      refine go_aload_n C dX9_swapLabels_37 rfl rfl ?_
      refine go_getR (o := 1) (k2 := 1) C dX9_swapLabels_38 fl_X9_12 sh_0 rfl rfl ?_
      refine go_getR (o := 4) (k2 := 5) C dX9_swapLabels_41 fl_X9_147 sh_1 rfl rfl ?_
      refine go_iload_n C dX9_swapLabels_44 rfl rfl ?_
      obtain ⟨hc6, h⟩ := chk_some h
      refine go_iald C dX9_swapLabels_45 sh_5 (by decide) hc6 ?_
      cases h
      exact go_iret C E rfl dX9_swapLabels_46 (Nat.le_of_ble_eq_true rfl) (Nat.le_of_ble_eq_true rfl) rfl rfl hB5
-- IntervalRouter.turn(I)I
set_option maxHeartbeats 4000000 in
theorem w_X9_turn_41 {G : gC} {X : gX} {res : (Nat ⊕ Int) × Mem} {F : Nat} (C : Cx G X cX9_turn 3 RX9 7 2 12 (some .int) []) (E : Fnl G X 2 12 (oxI res.1) res.2) : ∀ (fu : Nat) (v1 : Int) (v2 : Int) (M : Mem), Bd M → f_X9_turn_41 F fu v1 v2 M = some res → Go G X 3 1 6 41 [some (rf G 0), some (.int (iI v1)), some (.int (iI v2))] [] M := by
  intro fu
  induction fu with
  | zero => intro v1 v2 M hB h; exact nomatch (show (none : Option ((Nat ⊕ Int) × Mem)) = some res from h)
  | succ fu ih =>
    intro v1 v2 M hB h
    rw [f_X9_turn_41] at h
    obtain ⟨hp_v2, h⟩ := chk_some h
    refine go_iload_n C dX9_turn_41 rfl rfl ?_
    refine go_aload_n C dX9_turn_42 rfl rfl ?_
    refine go_getR (o := 1) (k2 := 1) C dX9_turn_43 fl_X9_12 sh_0 rfl rfl ?_
    refine go_getI (z := 0) C dX9_turn_46 fl_X9_126 sh_1 rfl rfl ?_
    refine go_icmp_ge (tgt := 86) C dX9_turn_49 rfl hp_v2 (hB 1 0 (by decide)) (fun hc4 => ?_) (fun hc4 => ?_)
    · replace h := ite_t hc4 h
      refine go_aload_n C dX9_turn_86 rfl rfl ?_
      refine go_getR (o := 1) (k2 := 1) C dX9_turn_87 fl_X9_12 sh_0 rfl rfl ?_
      obtain ⟨q5, h5, h⟩ := ob_some h
      refine go_callV_v C dX9_turn_90 (ok_X6_clearEntries C.hl hB sh_1 h5) mv_X9_178 sh_1 rfl rfl (Nat.le_of_ble_eq_true rfl) ⟨(Nat.le_of_ble_eq_true rfl), (Nat.le_of_ble_eq_true rfl)⟩ ⟨(Nat.le_of_ble_eq_true rfl), (Nat.le_of_ble_eq_true rfl)⟩ (fun hB5 => ?_)
      refine go_aload_n C dX9_turn_93 rfl rfl ?_
      refine go_getR (o := 1) (k2 := 1) C dX9_turn_94 fl_X9_12 sh_0 rfl rfl ?_
      refine go_getR (o := 4) (k2 := 5) C dX9_turn_97 fl_X9_147 sh_1 rfl rfl ?_
      refine go_iconst C dX9_turn_100 ?_
      refine go_iald C dX9_turn_101 sh_5 (by decide) ⟨by decide, by decide⟩ ?_
      cases h
      exact go_iret C E rfl dX9_turn_102 (Nat.le_of_ble_eq_true rfl) (Nat.le_of_ble_eq_true rfl) rfl rfl hB5
    · replace h := ite_f hc4 h
      refine go_aload_n C dX9_turn_52 rfl rfl ?_
      refine go_getR (o := 1) (k2 := 1) C dX9_turn_53 fl_X9_12 sh_0 rfl rfl ?_
      refine go_getR (o := 4) (k2 := 5) C dX9_turn_56 fl_X9_147 sh_1 rfl rfl ?_
      refine go_iload_n C dX9_turn_59 rfl rfl ?_
      refine go_aload_n C dX9_turn_60 rfl rfl ?_
      refine go_getR (o := 1) (k2 := 1) C dX9_turn_61 fl_X9_12 sh_0 rfl rfl ?_
      refine go_getR (o := 4) (k2 := 5) C dX9_turn_64 fl_X9_147 sh_1 rfl rfl ?_
      refine go_iload_n C dX9_turn_67 rfl rfl ?_
      obtain ⟨hc6, h⟩ := chk_some h
      refine go_iald C dX9_turn_68 sh_5 (by decide) hc6 ?_
      refine go_iload_n C dX9_turn_69 rfl rfl ?_
      refine go_iadd C dX9_turn_70 ?_
      refine go_aload_n C dX9_turn_71 rfl rfl ?_
      refine go_getR (o := 1) (k2 := 1) C dX9_turn_72 fl_X9_12 sh_0 rfl rfl ?_
      refine go_getI (z := 0) C dX9_turn_75 fl_X9_126 sh_1 rfl rfl ?_
      obtain ⟨hc7, h⟩ := chk_some h
      refine go_irem C dX9_turn_78 hc7 ?_
      obtain ⟨hc8, h⟩ := chk_some h
      refine go_iast C dX9_turn_79 sh_5 (by decide) hc6 ?_
      have hB9 := hB.set 5 v2 (x := ((M 5 v2) + v1) % (M 1 0)) hc8
      refine go_iinc (ls2 := [some (rf G 0), some (.int (iI v1)), some (.int (iI (v2 + 1)))]) C dX9_turn_80 rfl (Nat.le_of_ble_eq_true rfl) rfl ?_
      refine go_goto (tgt := 41) C dX9_turn_83 rfl ?_
      exact ih v1 (v2 + 1) (mset M 5 v2 (((M 5 v2) + v1) % (M 1 0))) hB9 h
set_option maxHeartbeats 4000000 in
theorem ok_X9_turn {G : gC} {l : Launch} (hl : l.stackTraces = false) {F : Nat} {v1 : Int} {M : Mem} (hB : Bd M) {res : (Nat ⊕ Int) × Mem} (h : f_X9_turn F v1 M = some res) : Ok G l 7 2 12 yX9_turn (.code yX9_turn cX9_turn 3 (some .int)) [rf G 0, .int (iI v1)] M (oxI res.1) res.2 := by
  refine ok_of (ls := [some (rf G 0), some (.int (iI v1)), none]) hl (by decide +kernel) (Nat.le_of_ble_eq_true rfl) ⟨rfl, ⟨rfl, trivial⟩⟩ ?_
  intro X hX C E
  subst hX
  rw [f_X9_turn] at h
  refine go_aload_n C dX9_turn_0 rfl rfl ?_
  refine go_iload_n C dX9_turn_1 rfl rfl ?_
  refine go_iconst C dX9_turn_2 ?_
  refine go_bipush C dX9_turn_3 (by decide +kernel) ?_
  obtain ⟨q1, h1, h⟩ := ob_some h
  refine go_callV_xv C dX9_turn_5 (ok_X9_needRange C.hl hB h1) mv_X9_75 sh_0 rfl rfl (Nat.le_of_ble_eq_true rfl) ⟨(Nat.le_of_ble_eq_true rfl), (Nat.le_of_ble_eq_true rfl)⟩ ⟨(Nat.le_of_ble_eq_true rfl), (Nat.le_of_ble_eq_true rfl)⟩ (fun e1 he1 hB1 => ?_) (fun r1 hr1 hB1 => ?_)
  · replace h := ox_l he1 h
    cases h
    exact go_out C E (Nat.le_of_ble_eq_true rfl) (Nat.le_of_ble_eq_true rfl) rfl rfl hB1
  · replace h := ox_r hr1 h
    refine go_aload_n C dX9_turn_8 rfl rfl ?_
    refine go_getR (o := 1) (k2 := 1) C dX9_turn_9 fl_X9_12 sh_0 rfl rfl ?_
    refine go_getI (z := 0) C dX9_turn_12 fl_X9_126 sh_1 rfl rfl ?_
    refine go_if_ne (tgt := 28) C dX9_turn_15 rfl (hB1 1 0 (by decide)) (fun hc2 => ?_) (fun hc2 => ?_)
    · replace h := ite_f hc2 h
      refine go_aload_n C dX9_turn_28 rfl rfl ?_
      refine go_getR (o := 13) (k2 := 13) C dX9_turn_29 fl_X9_22 sh_0 rfl rfl ?_
      refine go_aload_n C dX9_turn_32 rfl rfl ?_
      refine go_getR (o := 1) (k2 := 1) C dX9_turn_33 fl_X9_12 sh_0 rfl rfl ?_
      obtain ⟨q3, h3, h⟩ := ob_some h
      refine go_callV_v C dX9_turn_36 (ok_X0_save C.hl hB1 h3) mv_X9_83 sh_13 rfl rfl (Nat.le_of_ble_eq_true rfl) ⟨(Nat.le_of_ble_eq_true rfl), (Nat.le_of_ble_eq_true rfl)⟩ ⟨(Nat.le_of_ble_eq_true rfl), (Nat.le_of_ble_eq_true rfl)⟩ (fun hB3 => ?_)
      refine go_iconst C dX9_turn_39 ?_
      refine go_istore_n (ls2 := [some (rf G 0), some (.int (iI v1)), some (.int (iI 0))]) C dX9_turn_40 rfl (Nat.le_of_ble_eq_true rfl) rfl ?_
      exact w_X9_turn_41 C E F v1 0 q3 hB3 h
    · replace h := ite_t hc2 h
      cases h
      exact go_throw C E TH_2 (show (185, "there are no nodes") ∈ stT by decide +kernel) dX9_turn_18 dX9_turn_21 dX9_turn_22 dX9_turn_24 dX9_turn_27 (Nat.le_of_ble_eq_true rfl) (Nat.le_of_ble_eq_true rfl) (Nat.le_of_ble_eq_true rfl) (Nat.le_of_ble_eq_true rfl) rfl rfl hB1
-- IntervalRouter.shuffle(I)I
set_option maxHeartbeats 4000000 in
theorem ok_X9_shuffle {G : gC} {l : Launch} (hl : l.stackTraces = false) {F : Nat} {v1 : Int} {M : Mem} (hB : Bd M) {res : (Nat ⊕ Int) × Mem} (h : f_X9_shuffle F v1 M = some res) : Ok G l 7 1 6 yX9_shuffle (.code yX9_shuffle cX9_shuffle 2 (some .int)) [rf G 0, .int (iI v1)] M (oxI res.1) res.2 := by
  refine ok_of (ls := [some (rf G 0), some (.int (iI v1))]) hl (by decide +kernel) (Nat.le_of_ble_eq_true rfl) ⟨rfl, ⟨rfl, trivial⟩⟩ ?_
  intro X hX C E
  subst hX
  rw [f_X9_shuffle] at h
  refine go_aload_n C dX9_shuffle_0 rfl rfl ?_
  refine go_iload_n C dX9_shuffle_1 rfl rfl ?_
  refine go_iconst C dX9_shuffle_2 ?_
  refine go_ldc (v := 999999) C dX9_shuffle_3 gt_891 ?_
  obtain ⟨q1, h1, h⟩ := ob_some h
  refine go_callV_xv C dX9_shuffle_5 (ok_X9_needRange C.hl hB h1) mv_X9_75 sh_0 rfl rfl (Nat.le_of_ble_eq_true rfl) ⟨(Nat.le_of_ble_eq_true rfl), (Nat.le_of_ble_eq_true rfl)⟩ ⟨(Nat.le_of_ble_eq_true rfl), (Nat.le_of_ble_eq_true rfl)⟩ (fun e1 he1 hB1 => ?_) (fun r1 hr1 hB1 => ?_)
  · replace h := ox_l he1 h
    cases h
    exact go_out C E (Nat.le_of_ble_eq_true rfl) (Nat.le_of_ble_eq_true rfl) rfl rfl hB1
  · replace h := ox_r hr1 h
    refine go_aload_n C dX9_shuffle_8 rfl rfl ?_
    refine go_getR (o := 13) (k2 := 13) C dX9_shuffle_9 fl_X9_22 sh_0 rfl rfl ?_
    refine go_aload_n C dX9_shuffle_12 rfl rfl ?_
    refine go_getR (o := 1) (k2 := 1) C dX9_shuffle_13 fl_X9_12 sh_0 rfl rfl ?_
    obtain ⟨q2, h2, h⟩ := ob_some h
    refine go_callV_v C dX9_shuffle_16 (ok_X0_save C.hl hB1 h2) mv_X9_83 sh_13 rfl rfl (Nat.le_of_ble_eq_true rfl) ⟨(Nat.le_of_ble_eq_true rfl), (Nat.le_of_ble_eq_true rfl)⟩ ⟨(Nat.le_of_ble_eq_true rfl), (Nat.le_of_ble_eq_true rfl)⟩ (fun hB2 => ?_)
    refine go_aload_n C dX9_shuffle_19 rfl rfl ?_
    refine go_getR (o := 60) (k2 := 60) C dX9_shuffle_20 fl_X9_64 sh_0 rfl rfl ?_
    refine go_aload_n C dX9_shuffle_23 rfl rfl ?_
    refine go_getR (o := 1) (k2 := 1) C dX9_shuffle_24 fl_X9_12 sh_0 rfl rfl ?_
    refine go_iload_n C dX9_shuffle_27 rfl rfl ?_
    obtain ⟨q3, h3, h⟩ := ob_some h
    refine go_callV_v C dX9_shuffle_28 (ok_X1_atRandom C.hl hB2 h3) mv_X9_188 sh_60 rfl rfl (Nat.le_of_ble_eq_true rfl) ⟨(Nat.le_of_ble_eq_true rfl), (Nat.le_of_ble_eq_true rfl)⟩ ⟨(Nat.le_of_ble_eq_true rfl), (Nat.le_of_ble_eq_true rfl)⟩ (fun hB3 => ?_)
    refine go_aload_n C dX9_shuffle_31 rfl rfl ?_
    refine go_getR (o := 1) (k2 := 1) C dX9_shuffle_32 fl_X9_12 sh_0 rfl rfl ?_
    obtain ⟨q4, h4, h⟩ := ob_some h
    refine go_callV_v C dX9_shuffle_35 (ok_X6_clearEntries C.hl hB3 sh_1 h4) mv_X9_178 sh_1 rfl rfl (Nat.le_of_ble_eq_true rfl) ⟨(Nat.le_of_ble_eq_true rfl), (Nat.le_of_ble_eq_true rfl)⟩ ⟨(Nat.le_of_ble_eq_true rfl), (Nat.le_of_ble_eq_true rfl)⟩ (fun hB4 => ?_)
    refine go_aload_n C dX9_shuffle_38 rfl rfl ?_
    refine go_getR (o := 1) (k2 := 1) C dX9_shuffle_39 fl_X9_12 sh_0 rfl rfl ?_
    refine go_getI (z := 0) C dX9_shuffle_42 fl_X9_126 sh_1 rfl rfl ?_
    refine go_if_ne (tgt := 52) C dX9_shuffle_45 rfl (hB4 1 0 (by decide)) (fun hc5 => ?_) (fun hc5 => ?_)
    · replace h := ite_f hc5 h
      refine go_aload_n C dX9_shuffle_52 rfl rfl ?_
      refine go_getR (o := 1) (k2 := 1) C dX9_shuffle_53 fl_X9_12 sh_0 rfl rfl ?_
      refine go_getR (o := 4) (k2 := 5) C dX9_shuffle_56 fl_X9_147 sh_1 rfl rfl ?_
      refine go_iconst C dX9_shuffle_59 ?_
      refine go_iald C dX9_shuffle_60 sh_5 (by decide) ⟨by decide, by decide⟩ ?_
      cases h
      exact go_iret C E rfl dX9_shuffle_61 (Nat.le_of_ble_eq_true rfl) (Nat.le_of_ble_eq_true rfl) rfl rfl hB4
    · replace h := ite_t hc5 h
      refine go_iconst C dX9_shuffle_48 ?_
      refine go_goto (tgt := 61) C dX9_shuffle_49 rfl ?_
      cases h
      exact go_iret C E rfl dX9_shuffle_61 (Nat.le_of_ble_eq_true rfl) (Nat.le_of_ble_eq_true rfl) rfl rfl hB4
-- IntervalRouter.makeTables()I
set_option maxHeartbeats 4000000 in
theorem w_X9_makeTables_36 {G : gC} {X : gX} {res : Int × Mem} {F : Nat} (C : Cx G X cX9_makeTables 3 RX9 4 0 0 (some .int) []) (E : Fnl G X 0 0 (.inr (some (.int (iI res.1)))) res.2) : ∀ (fu : Nat) (v1 : Int) (v2 : Int) (M : Mem), Bd M → f_X9_makeTables_36 F fu v1 v2 M = some res → Go G X 3 0 0 36 [some (rf G 0), some (.int (iI v1)), some (.int (iI v2))] [] M := by
  intro fu
  induction fu with
  | zero => intro v1 v2 M hB h; exact nomatch (show (none : Option (Int × Mem)) = some res from h)
  | succ fu ih =>
    intro v1 v2 M hB h
    rw [f_X9_makeTables_36] at h
    obtain ⟨hp_v2, h⟩ := chk_some h
    refine go_iload_n C dX9_makeTables_36 rfl rfl ?_
    refine go_aload_n C dX9_makeTables_37 rfl rfl ?_
    refine go_getR (o := 1) (k2 := 1) C dX9_makeTables_38 fl_X9_12 sh_0 rfl rfl ?_
    refine go_getI (z := 0) C dX9_makeTables_41 fl_X9_126 sh_1 rfl rfl ?_
    refine go_icmp_ge (tgt := 100) C dX9_makeTables_44 rfl hp_v2 (hB 1 0 (by decide)) (fun hc3 => ?_) (fun hc3 => ?_)
    · replace h := ite_t hc3 h
      refine go_iload_n C dX9_makeTables_100 rfl rfl ?_
      cases h
      exact go_iret C E rfl dX9_makeTables_101 (Nat.le_of_ble_eq_true rfl) (Nat.le_of_ble_eq_true rfl) rfl rfl hB
    · replace h := ite_f hc3 h
      refine go_aload_n C dX9_makeTables_47 rfl rfl ?_
      refine go_getR (o := 46) (k2 := 46) C dX9_makeTables_48 fl_X9_43 sh_0 rfl rfl ?_
      refine go_aload_n C dX9_makeTables_51 rfl rfl ?_
      refine go_getR (o := 39) (k2 := 39) C dX9_makeTables_52 fl_X9_29 sh_0 rfl rfl ?_
      refine go_iload_n C dX9_makeTables_55 rfl rfl ?_
      refine go_aload_n C dX9_makeTables_56 rfl rfl ?_
      refine go_getR (o := 1) (k2 := 1) C dX9_makeTables_57 fl_X9_12 sh_0 rfl rfl ?_
      refine go_getR (o := 4) (k2 := 5) C dX9_makeTables_60 fl_X9_147 sh_1 rfl rfl ?_
      refine go_iload_n C dX9_makeTables_63 rfl rfl ?_
      obtain ⟨hc4, h⟩ := chk_some h
      refine go_iald C dX9_makeTables_64 sh_5 (by decide) hc4 ?_
      refine go_aload_n C dX9_makeTables_65 rfl rfl ?_
      refine go_getR (o := 44) (k2 := 44) C dX9_makeTables_66 fl_X9_36 sh_0 rfl rfl ?_
      obtain ⟨q5, h5, h⟩ := ob_some h
      refine go_callV_v C dX9_makeTables_69 (ok_X7_fill C.hl hB sh_44 h5) mv_X9_195 sh_46 rfl rfl (Nat.le_of_ble_eq_true rfl) ⟨(Nat.le_of_ble_eq_true rfl), (Nat.le_of_ble_eq_true rfl)⟩ ⟨(Nat.le_of_ble_eq_true rfl), (Nat.le_of_ble_eq_true rfl)⟩ (fun hB5 => ?_)
      refine go_aload_n C dX9_makeTables_72 rfl rfl ?_
      refine go_getR (o := 1) (k2 := 1) C dX9_makeTables_73 fl_X9_12 sh_0 rfl rfl ?_
      refine go_iload_n C dX9_makeTables_76 rfl rfl ?_
      refine go_aload_n C dX9_makeTables_77 rfl rfl ?_
      refine go_getR (o := 44) (k2 := 44) C dX9_makeTables_78 fl_X9_36 sh_0 rfl rfl ?_
      obtain ⟨q6, h6, h⟩ := ob_some h
      refine go_callV_v C dX9_makeTables_81 (ok_X6_storeTable C.hl hB5 sh_1 h6) mv_X9_199 sh_1 rfl rfl (Nat.le_of_ble_eq_true rfl) ⟨(Nat.le_of_ble_eq_true rfl), (Nat.le_of_ble_eq_true rfl)⟩ ⟨(Nat.le_of_ble_eq_true rfl), (Nat.le_of_ble_eq_true rfl)⟩ (fun hB6 => ?_)
      refine go_iload_n C dX9_makeTables_84 rfl rfl ?_
      refine go_aload_n C dX9_makeTables_85 rfl rfl ?_
      refine go_getR (o := 44) (k2 := 44) C dX9_makeTables_86 fl_X9_36 sh_0 rfl rfl ?_
      obtain ⟨q7, h7, h⟩ := ob_some h
      refine go_callV_i C dX9_makeTables_89 (ok_X4_allRuns C.hl hB6 sh_44 h7) mv_X9_203 sh_44 rfl rfl (Nat.le_of_ble_eq_true rfl) ⟨(Nat.le_of_ble_eq_true rfl), (Nat.le_of_ble_eq_true rfl)⟩ ⟨(Nat.le_of_ble_eq_true rfl), (Nat.le_of_ble_eq_true rfl)⟩ (fun hB7 => ?_)
      refine go_iadd C dX9_makeTables_92 ?_
      refine go_istore_n (ls2 := [some (rf G 0), some (.int (iI (v1 + q7))), some (.int (iI v2))]) C dX9_makeTables_93 rfl (Nat.le_of_ble_eq_true rfl) rfl ?_
      refine go_iinc (ls2 := [some (rf G 0), some (.int (iI (v1 + q7))), some (.int (iI (v2 + 1)))]) C dX9_makeTables_94 rfl (Nat.le_of_ble_eq_true rfl) rfl ?_
      refine go_goto (tgt := 36) C dX9_makeTables_97 rfl ?_
      exact ih (v1 + q7) (v2 + 1) q6 hB7 h
set_option maxHeartbeats 4000000 in
theorem ok_X9_makeTables {G : gC} {l : Launch} (hl : l.stackTraces = false) {F : Nat} {M : Mem} (hB : Bd M) {res : Int × Mem} (h : f_X9_makeTables F M = some res) : Ok G l 4 0 0 yX9_makeTables (.code yX9_makeTables cX9_makeTables 3 (some .int)) [rf G 0] M (.inr (some (.int (iI res.1)))) res.2 := by
  refine ok_of (ls := [some (rf G 0), none, none]) hl (by decide +kernel) (Nat.le_of_ble_eq_true rfl) ⟨rfl, trivial⟩ ?_
  intro X hX C E
  subst hX
  rw [f_X9_makeTables] at h
  refine go_aload_n C dX9_makeTables_0 rfl rfl ?_
  refine go_getR (o := 13) (k2 := 13) C dX9_makeTables_1 fl_X9_22 sh_0 rfl rfl ?_
  refine go_aload_n C dX9_makeTables_4 rfl rfl ?_
  refine go_getR (o := 1) (k2 := 1) C dX9_makeTables_5 fl_X9_12 sh_0 rfl rfl ?_
  obtain ⟨q1, h1, h⟩ := ob_some h
  refine go_callV_v C dX9_makeTables_8 (ok_X0_save C.hl hB h1) mv_X9_83 sh_13 rfl rfl (Nat.le_of_ble_eq_true rfl) ⟨(Nat.le_of_ble_eq_true rfl), (Nat.le_of_ble_eq_true rfl)⟩ ⟨(Nat.le_of_ble_eq_true rfl), (Nat.le_of_ble_eq_true rfl)⟩ (fun hB1 => ?_)
  refine go_aload_n C dX9_makeTables_11 rfl rfl ?_
  refine go_getR (o := 46) (k2 := 46) C dX9_makeTables_12 fl_X9_43 sh_0 rfl rfl ?_
  refine go_aload_n C dX9_makeTables_15 rfl rfl ?_
  refine go_getR (o := 1) (k2 := 1) C dX9_makeTables_16 fl_X9_12 sh_0 rfl rfl ?_
  refine go_getR (o := 4) (k2 := 5) C dX9_makeTables_19 fl_X9_147 sh_1 rfl rfl ?_
  refine go_aload_n C dX9_makeTables_22 rfl rfl ?_
  refine go_getR (o := 1) (k2 := 1) C dX9_makeTables_23 fl_X9_12 sh_0 rfl rfl ?_
  refine go_getI (z := 0) C dX9_makeTables_26 fl_X9_126 sh_1 rfl rfl ?_
  obtain ⟨q2, h2, h⟩ := ob_some h
  refine go_callV_v C dX9_makeTables_29 (ok_X7_seat C.hl hB1 (ia_of sh_5) h2) mv_X9_191 sh_46 rfl rfl (Nat.le_of_ble_eq_true rfl) ⟨(Nat.le_of_ble_eq_true rfl), (Nat.le_of_ble_eq_true rfl)⟩ ⟨(Nat.le_of_ble_eq_true rfl), (Nat.le_of_ble_eq_true rfl)⟩ (fun hB2 => ?_)
  refine go_iconst C dX9_makeTables_32 ?_
  refine go_istore_n (ls2 := [some (rf G 0), some (.int (iI 0)), none]) C dX9_makeTables_33 rfl (Nat.le_of_ble_eq_true rfl) rfl ?_
  refine go_iconst C dX9_makeTables_34 ?_
  refine go_istore_n (ls2 := [some (rf G 0), some (.int (iI 0)), some (.int (iI 0))]) C dX9_makeTables_35 rfl (Nat.le_of_ble_eq_true rfl) rfl ?_
  exact w_X9_makeTables_36 C E F 0 0 q2 hB2 h
-- IntervalRouter.setRange(IIII)I
set_option maxHeartbeats 4000000 in
theorem w_X9_setRange_15 {G : gC} {X : gX} {res : (Nat ⊕ Int) × Mem} {F : Nat} (C : Cx G X cX9_setRange 5 RX9 7 5 30 (some .int) []) (E : Fnl G X 5 30 (oxI res.1) res.2) : ∀ (v1 : Int) (v2 : Int) (v3 : Int) (v4 : Int) (M : Mem), Bd M → f_X9_setRange_15 F v1 v2 v3 v4 M = some res → Go G X 5 2 12 15 [some (rf G 0), some (.int (iI v1)), some (.int (iI v2)), some (.int (iI v3)), some (.int (iI v4))] [] M := by
  intro v1 v2 v3 v4 M hB h
  rw [f_X9_setRange_15] at h
  obtain ⟨hp_v2, h⟩ := chk_some h
  refine go_aload_n C dX9_setRange_15 rfl rfl ?_
  refine go_iload_n C dX9_setRange_16 rfl rfl ?_
  obtain ⟨q3, h3, h⟩ := ob_some h
  refine go_callV_xv C dX9_setRange_17 (ok_X9_needLabel C.hl hB h3) mv_X9_150 sh_0 rfl rfl (Nat.le_of_ble_eq_true rfl) ⟨(Nat.le_of_ble_eq_true rfl), (Nat.le_of_ble_eq_true rfl)⟩ ⟨(Nat.le_of_ble_eq_true rfl), (Nat.le_of_ble_eq_true rfl)⟩ (fun e3 he3 hB3 => ?_) (fun r3 hr3 hB3 => ?_)
  · replace h := ox_l he3 h
    cases h
    exact go_out C E (Nat.le_of_ble_eq_true rfl) (Nat.le_of_ble_eq_true rfl) rfl rfl hB3
  · replace h := ox_r hr3 h
    refine go_aload_n C dX9_setRange_20 rfl rfl ?_
    refine go_iload C dX9_setRange_21 rfl ?_
    obtain ⟨q4, h4, h⟩ := ob_some h
    refine go_callV_xv C dX9_setRange_23 (ok_X9_needLabel C.hl hB3 h4) mv_X9_150 sh_0 rfl rfl (Nat.le_of_ble_eq_true rfl) ⟨(Nat.le_of_ble_eq_true rfl), (Nat.le_of_ble_eq_true rfl)⟩ ⟨(Nat.le_of_ble_eq_true rfl), (Nat.le_of_ble_eq_true rfl)⟩ (fun e4 he4 hB4 => ?_) (fun r4 hr4 hB4 => ?_)
    · replace h := ox_l he4 h
      cases h
      exact go_out C E (Nat.le_of_ble_eq_true rfl) (Nat.le_of_ble_eq_true rfl) rfl rfl hB4
    · replace h := ox_r hr4 h
      refine go_iload_n C dX9_setRange_26 rfl rfl ?_
      refine go_iconst C dX9_setRange_27 ?_
      refine go_icmp_eq (tgt := 53) C dX9_setRange_28 rfl hp_v2 (by decide) (fun hc5 => ?_) (fun hc5 => ?_)
      · replace h := ite_t hc5 h
        refine go_aload_n C dX9_setRange_53 rfl rfl ?_
        refine go_getR (o := 13) (k2 := 13) C dX9_setRange_54 fl_X9_22 sh_0 rfl rfl ?_
        refine go_aload_n C dX9_setRange_57 rfl rfl ?_
        refine go_getR (o := 1) (k2 := 1) C dX9_setRange_58 fl_X9_12 sh_0 rfl rfl ?_
        obtain ⟨q6, h6, h⟩ := ob_some h
        refine go_callV_v C dX9_setRange_61 (ok_X0_save C.hl hB4 h6) mv_X9_83 sh_13 rfl rfl (Nat.le_of_ble_eq_true rfl) ⟨(Nat.le_of_ble_eq_true rfl), (Nat.le_of_ble_eq_true rfl)⟩ ⟨(Nat.le_of_ble_eq_true rfl), (Nat.le_of_ble_eq_true rfl)⟩ (fun hB6 => ?_)
        refine go_aload_n C dX9_setRange_64 rfl rfl ?_
        refine go_getR (o := 1) (k2 := 1) C dX9_setRange_65 fl_X9_12 sh_0 rfl rfl ?_
        refine go_iload_n C dX9_setRange_68 rfl rfl ?_
        refine go_iload_n C dX9_setRange_69 rfl rfl ?_
        refine go_iload_n C dX9_setRange_70 rfl rfl ?_
        refine go_iload C dX9_setRange_71 rfl ?_
        obtain ⟨q7, h7, h⟩ := ob_some h
        refine go_callV_i C dX9_setRange_73 (ok_X6_setInterval C.hl hB6 sh_1 h7) mv_X9_212 sh_1 rfl rfl (Nat.le_of_ble_eq_true rfl) ⟨(Nat.le_of_ble_eq_true rfl), (Nat.le_of_ble_eq_true rfl)⟩ ⟨(Nat.le_of_ble_eq_true rfl), (Nat.le_of_ble_eq_true rfl)⟩ (fun hB7 => ?_)
        cases h
        exact go_iret C E rfl dX9_setRange_76 (Nat.le_of_ble_eq_true rfl) (Nat.le_of_ble_eq_true rfl) rfl rfl hB7
      · replace h := ite_f hc5 h
        refine go_aload_n C dX9_setRange_31 rfl rfl ?_
        refine go_getR (o := 1) (k2 := 1) C dX9_setRange_32 fl_X9_12 sh_0 rfl rfl ?_
        refine go_iload_n C dX9_setRange_35 rfl rfl ?_
        refine go_iload_n C dX9_setRange_36 rfl rfl ?_
        obtain ⟨q8, h8, h⟩ := ob_some h
        refine go_callV_i C dX9_setRange_37 (ok_X6_touches C.hl hB4 sh_1 h8) mv_X9_207 sh_1 rfl rfl (Nat.le_of_ble_eq_true rfl) ⟨(Nat.le_of_ble_eq_true rfl), (Nat.le_of_ble_eq_true rfl)⟩ ⟨(Nat.le_of_ble_eq_true rfl), (Nat.le_of_ble_eq_true rfl)⟩ (fun hB8 => ?_)
        obtain ⟨hc9, h⟩ := chk_some h
        refine go_if_ne (tgt := 53) C dX9_setRange_40 rfl hc9 (fun hc10 => ?_) (fun hc10 => ?_)
        · replace h := ite_f hc10 h
          refine go_aload_n C dX9_setRange_53 rfl rfl ?_
          refine go_getR (o := 13) (k2 := 13) C dX9_setRange_54 fl_X9_22 sh_0 rfl rfl ?_
          refine go_aload_n C dX9_setRange_57 rfl rfl ?_
          refine go_getR (o := 1) (k2 := 1) C dX9_setRange_58 fl_X9_12 sh_0 rfl rfl ?_
          obtain ⟨q11, h11, h⟩ := ob_some h
          refine go_callV_v C dX9_setRange_61 (ok_X0_save C.hl hB8 h11) mv_X9_83 sh_13 rfl rfl (Nat.le_of_ble_eq_true rfl) ⟨(Nat.le_of_ble_eq_true rfl), (Nat.le_of_ble_eq_true rfl)⟩ ⟨(Nat.le_of_ble_eq_true rfl), (Nat.le_of_ble_eq_true rfl)⟩ (fun hB11 => ?_)
          refine go_aload_n C dX9_setRange_64 rfl rfl ?_
          refine go_getR (o := 1) (k2 := 1) C dX9_setRange_65 fl_X9_12 sh_0 rfl rfl ?_
          refine go_iload_n C dX9_setRange_68 rfl rfl ?_
          refine go_iload_n C dX9_setRange_69 rfl rfl ?_
          refine go_iload_n C dX9_setRange_70 rfl rfl ?_
          refine go_iload C dX9_setRange_71 rfl ?_
          obtain ⟨q12, h12, h⟩ := ob_some h
          refine go_callV_i C dX9_setRange_73 (ok_X6_setInterval C.hl hB11 sh_1 h12) mv_X9_212 sh_1 rfl rfl (Nat.le_of_ble_eq_true rfl) ⟨(Nat.le_of_ble_eq_true rfl), (Nat.le_of_ble_eq_true rfl)⟩ ⟨(Nat.le_of_ble_eq_true rfl), (Nat.le_of_ble_eq_true rfl)⟩ (fun hB12 => ?_)
          cases h
          exact go_iret C E rfl dX9_setRange_76 (Nat.le_of_ble_eq_true rfl) (Nat.le_of_ble_eq_true rfl) rfl rfl hB12
        · replace h := ite_t hc10 h
          cases h
          exact go_throw C E TH_0 (show (210, "the link is not one of the node") ∈ stT by decide +kernel) dX9_setRange_43 dX9_setRange_46 dX9_setRange_47 dX9_setRange_49 dX9_setRange_52 (Nat.le_of_ble_eq_true rfl) (Nat.le_of_ble_eq_true rfl) (Nat.le_of_ble_eq_true rfl) (Nat.le_of_ble_eq_true rfl) rfl rfl hB8
set_option maxHeartbeats 4000000 in
theorem ok_X9_setRange {G : gC} {l : Launch} (hl : l.stackTraces = false) {F : Nat} {v1 : Int} {v2 : Int} {v3 : Int} {v4 : Int} {M : Mem} (hB : Bd M) {res : (Nat ⊕ Int) × Mem} (h : f_X9_setRange F v1 v2 v3 v4 M = some res) : Ok G l 7 5 30 yX9_setRange (.code yX9_setRange cX9_setRange 5 (some .int)) [rf G 0, .int (iI v1), .int (iI v2), .int (iI v3), .int (iI v4)] M (oxI res.1) res.2 := by
  refine ok_of (ls := [some (rf G 0), some (.int (iI v1)), some (.int (iI v2)), some (.int (iI v3)), some (.int (iI v4))]) hl (by decide +kernel) (Nat.le_of_ble_eq_true rfl) ⟨rfl, ⟨rfl, ⟨rfl, ⟨rfl, ⟨rfl, trivial⟩⟩⟩⟩⟩ ?_
  intro X hX C E
  subst hX
  rw [f_X9_setRange] at h
  obtain ⟨hp_v2, h⟩ := chk_some h
  refine go_aload_n C dX9_setRange_0 rfl rfl ?_
  refine go_iload_n C dX9_setRange_1 rfl rfl ?_
  obtain ⟨q1, h1, h⟩ := ob_some h
  refine go_callV_xv C dX9_setRange_2 (ok_X9_needNode C.hl hB h1) mv_X9_94 sh_0 rfl rfl (Nat.le_of_ble_eq_true rfl) ⟨(Nat.le_of_ble_eq_true rfl), (Nat.le_of_ble_eq_true rfl)⟩ ⟨(Nat.le_of_ble_eq_true rfl), (Nat.le_of_ble_eq_true rfl)⟩ (fun e1 he1 hB1 => ?_) (fun r1 hr1 hB1 => ?_)
  · replace h := ox_l he1 h
    cases h
    exact go_out C E (Nat.le_of_ble_eq_true rfl) (Nat.le_of_ble_eq_true rfl) rfl rfl hB1
  · replace h := ox_r hr1 h
    refine go_iload_n C dX9_setRange_5 rfl rfl ?_
    refine go_iconst C dX9_setRange_6 ?_
    refine go_icmp_eq (tgt := 15) C dX9_setRange_7 rfl hp_v2 (by decide) (fun hc2 => ?_) (fun hc2 => ?_)
    · replace h := ite_t hc2 h
      refine go_wide (kc' := 2) (ks' := 12) (Nat.le_of_ble_eq_true rfl) (Nat.le_of_ble_eq_true rfl) ?_
      exact w_X9_setRange_15 C E v1 v2 v3 v4 M hB1 h
    · replace h := ite_f hc2 h
      refine go_aload_n C dX9_setRange_10 rfl rfl ?_
      refine go_iload_n C dX9_setRange_11 rfl rfl ?_
      obtain ⟨q13, h13, h⟩ := ob_some h
      refine go_callV_xv C dX9_setRange_12 (ok_X9_needLink C.hl hB1 h13) mv_X9_116 sh_0 rfl rfl (Nat.le_of_ble_eq_true rfl) ⟨(Nat.le_of_ble_eq_true rfl), (Nat.le_of_ble_eq_true rfl)⟩ ⟨(Nat.le_of_ble_eq_true rfl), (Nat.le_of_ble_eq_true rfl)⟩ (fun e13 he13 hB13 => ?_) (fun r13 hr13 hB13 => ?_)
      · replace h := ox_l he13 h
        cases h
        exact go_out C E (Nat.le_of_ble_eq_true rfl) (Nat.le_of_ble_eq_true rfl) rfl rfl hB13
      · replace h := ox_r hr13 h
        exact w_X9_setRange_15 C E v1 v2 v3 v4 M hB13 h
-- IntervalRouter.entry(II)I
set_option maxHeartbeats 4000000 in
theorem ok_X9_entry {G : gC} {l : Launch} (hl : l.stackTraces = false) {v1 : Int} {v2 : Int} {M : Mem} (hB : Bd M) {res : Nat ⊕ Int} (h : f_X9_entry v1 v2 M = some res) : Ok G l 7 2 12 yX9_entry (.code yX9_entry cX9_entry 3 (some .int)) [rf G 0, .int (iI v1), .int (iI v2)] M (oxI res) M := by
  refine ok_of (ls := [some (rf G 0), some (.int (iI v1)), some (.int (iI v2))]) hl (by decide +kernel) (Nat.le_of_ble_eq_true rfl) ⟨rfl, ⟨rfl, ⟨rfl, trivial⟩⟩⟩ ?_
  intro X hX C E
  subst hX
  rw [f_X9_entry] at h
  refine go_aload_n C dX9_entry_0 rfl rfl ?_
  refine go_iload_n C dX9_entry_1 rfl rfl ?_
  obtain ⟨q1, h1, h⟩ := ob_some h
  refine go_callV_xv C dX9_entry_2 (ok_X9_needNode C.hl hB h1) mv_X9_94 sh_0 rfl rfl (Nat.le_of_ble_eq_true rfl) ⟨(Nat.le_of_ble_eq_true rfl), (Nat.le_of_ble_eq_true rfl)⟩ ⟨(Nat.le_of_ble_eq_true rfl), (Nat.le_of_ble_eq_true rfl)⟩ (fun e1 he1 hB1 => ?_) (fun r1 hr1 hB1 => ?_)
  · replace h := ox_l he1 h
    cases h
    exact go_out C E (Nat.le_of_ble_eq_true rfl) (Nat.le_of_ble_eq_true rfl) rfl rfl hB1
  · replace h := ox_r hr1 h
    refine go_aload_n C dX9_entry_5 rfl rfl ?_
    refine go_iload_n C dX9_entry_6 rfl rfl ?_
    obtain ⟨q2, h2, h⟩ := ob_some h
    refine go_callV_xv C dX9_entry_7 (ok_X9_needLabel C.hl hB1 h2) mv_X9_150 sh_0 rfl rfl (Nat.le_of_ble_eq_true rfl) ⟨(Nat.le_of_ble_eq_true rfl), (Nat.le_of_ble_eq_true rfl)⟩ ⟨(Nat.le_of_ble_eq_true rfl), (Nat.le_of_ble_eq_true rfl)⟩ (fun e2 he2 hB2 => ?_) (fun r2 hr2 hB2 => ?_)
    · replace h := ox_l he2 h
      cases h
      exact go_out C E (Nat.le_of_ble_eq_true rfl) (Nat.le_of_ble_eq_true rfl) rfl rfl hB2
    · replace h := ox_r hr2 h
      refine go_aload_n C dX9_entry_10 rfl rfl ?_
      refine go_getR (o := 1) (k2 := 1) C dX9_entry_11 fl_X9_12 sh_0 rfl rfl ?_
      refine go_iload_n C dX9_entry_14 rfl rfl ?_
      refine go_iload_n C dX9_entry_15 rfl rfl ?_
      obtain ⟨q3, h3, h⟩ := ob_some h
      refine go_callV_i C dX9_entry_16 (ok_X6_entryAt C.hl hB2 sh_1 h3) mv_X9_216 sh_1 rfl rfl (Nat.le_of_ble_eq_true rfl) ⟨(Nat.le_of_ble_eq_true rfl), (Nat.le_of_ble_eq_true rfl)⟩ ⟨(Nat.le_of_ble_eq_true rfl), (Nat.le_of_ble_eq_true rfl)⟩ (fun hB3 => ?_)
      cases h
      exact go_iret C E rfl dX9_entry_19 (Nat.le_of_ble_eq_true rfl) (Nat.le_of_ble_eq_true rfl) rfl rfl hB3
-- IntervalRouter.runs(II)I
set_option maxHeartbeats 4000000 in
theorem ok_X9_runs {G : gC} {l : Launch} (hl : l.stackTraces = false) {F : Nat} {v1 : Int} {v2 : Int} {M : Mem} (hB : Bd M) {res : (Nat ⊕ Int) × Mem} (h : f_X9_runs F v1 v2 M = some res) : Ok G l 7 3 18 yX9_runs (.code yX9_runs cX9_runs 3 (some .int)) [rf G 0, .int (iI v1), .int (iI v2)] M (oxI res.1) res.2 := by
  refine ok_of (ls := [some (rf G 0), some (.int (iI v1)), some (.int (iI v2))]) hl (by decide +kernel) (Nat.le_of_ble_eq_true rfl) ⟨rfl, ⟨rfl, ⟨rfl, trivial⟩⟩⟩ ?_
  intro X hX C E
  subst hX
  rw [f_X9_runs] at h
  refine go_aload_n C dX9_runs_0 rfl rfl ?_
  refine go_iload_n C dX9_runs_1 rfl rfl ?_
  obtain ⟨q1, h1, h⟩ := ob_some h
  refine go_callV_xv C dX9_runs_2 (ok_X9_needNode C.hl hB h1) mv_X9_94 sh_0 rfl rfl (Nat.le_of_ble_eq_true rfl) ⟨(Nat.le_of_ble_eq_true rfl), (Nat.le_of_ble_eq_true rfl)⟩ ⟨(Nat.le_of_ble_eq_true rfl), (Nat.le_of_ble_eq_true rfl)⟩ (fun e1 he1 hB1 => ?_) (fun r1 hr1 hB1 => ?_)
  · replace h := ox_l he1 h
    cases h
    exact go_out C E (Nat.le_of_ble_eq_true rfl) (Nat.le_of_ble_eq_true rfl) rfl rfl hB1
  · replace h := ox_r hr1 h
    refine go_aload_n C dX9_runs_5 rfl rfl ?_
    refine go_iload_n C dX9_runs_6 rfl rfl ?_
    obtain ⟨q2, h2, h⟩ := ob_some h
    refine go_callV_xv C dX9_runs_7 (ok_X9_needLink C.hl hB1 h2) mv_X9_116 sh_0 rfl rfl (Nat.le_of_ble_eq_true rfl) ⟨(Nat.le_of_ble_eq_true rfl), (Nat.le_of_ble_eq_true rfl)⟩ ⟨(Nat.le_of_ble_eq_true rfl), (Nat.le_of_ble_eq_true rfl)⟩ (fun e2 he2 hB2 => ?_) (fun r2 hr2 hB2 => ?_)
    · replace h := ox_l he2 h
      cases h
      exact go_out C E (Nat.le_of_ble_eq_true rfl) (Nat.le_of_ble_eq_true rfl) rfl rfl hB2
    · replace h := ox_r hr2 h
      refine go_aload_n C dX9_runs_10 rfl rfl ?_
      refine go_getR (o := 1) (k2 := 1) C dX9_runs_11 fl_X9_12 sh_0 rfl rfl ?_
      refine go_iload_n C dX9_runs_14 rfl rfl ?_
      refine go_iload_n C dX9_runs_15 rfl rfl ?_
      obtain ⟨q3, h3, h⟩ := ob_some h
      refine go_callV_i C dX9_runs_16 (ok_X6_touches C.hl hB2 sh_1 h3) mv_X9_207 sh_1 rfl rfl (Nat.le_of_ble_eq_true rfl) ⟨(Nat.le_of_ble_eq_true rfl), (Nat.le_of_ble_eq_true rfl)⟩ ⟨(Nat.le_of_ble_eq_true rfl), (Nat.le_of_ble_eq_true rfl)⟩ (fun hB3 => ?_)
      obtain ⟨hc4, h⟩ := chk_some h
      refine go_if_ne (tgt := 32) C dX9_runs_19 rfl hc4 (fun hc5 => ?_) (fun hc5 => ?_)
      · replace h := ite_f hc5 h
        refine go_aload_n C dX9_runs_32 rfl rfl ?_
        refine go_getR (o := 44) (k2 := 44) C dX9_runs_33 fl_X9_36 sh_0 rfl rfl ?_
        refine go_aload_n C dX9_runs_36 rfl rfl ?_
        refine go_getR (o := 1) (k2 := 1) C dX9_runs_37 fl_X9_12 sh_0 rfl rfl ?_
        refine go_iload_n C dX9_runs_40 rfl rfl ?_
        obtain ⟨q6, h6, h⟩ := ob_some h
        refine go_callV_v C dX9_runs_41 (ok_X4_read C.hl hB3 sh_44 h6) mv_X9_219 sh_44 rfl rfl (Nat.le_of_ble_eq_true rfl) ⟨(Nat.le_of_ble_eq_true rfl), (Nat.le_of_ble_eq_true rfl)⟩ ⟨(Nat.le_of_ble_eq_true rfl), (Nat.le_of_ble_eq_true rfl)⟩ (fun hB6 => ?_)
        refine go_aload_n C dX9_runs_44 rfl rfl ?_
        refine go_getR (o := 44) (k2 := 44) C dX9_runs_45 fl_X9_36 sh_0 rfl rfl ?_
        refine go_iload_n C dX9_runs_48 rfl rfl ?_
        obtain ⟨q7, h7, h⟩ := ob_some h
        refine go_callV_i C dX9_runs_49 (ok_X4_runsOf C.hl hB6 sh_44 h7) mv_X9_222 sh_44 rfl rfl (Nat.le_of_ble_eq_true rfl) ⟨(Nat.le_of_ble_eq_true rfl), (Nat.le_of_ble_eq_true rfl)⟩ ⟨(Nat.le_of_ble_eq_true rfl), (Nat.le_of_ble_eq_true rfl)⟩ (fun hB7 => ?_)
        cases h
        exact go_iret C E rfl dX9_runs_52 (Nat.le_of_ble_eq_true rfl) (Nat.le_of_ble_eq_true rfl) rfl rfl hB7
      · replace h := ite_t hc5 h
        cases h
        exact go_throw C E TH_0 (show (210, "the link is not one of the node") ∈ stT by decide +kernel) dX9_runs_22 dX9_runs_25 dX9_runs_26 dX9_runs_28 dX9_runs_31 (Nat.le_of_ble_eq_true rfl) (Nat.le_of_ble_eq_true rfl) (Nat.le_of_ble_eq_true rfl) (Nat.le_of_ble_eq_true rfl) rfl rfl hB3
-- IntervalRouter.runEnd(IIIZ)I
set_option maxHeartbeats 4000000 in
theorem ok_X9_runEnd {G : gC} {l : Launch} (hl : l.stackTraces = false) {F : Nat} {v1 : Int} {v2 : Int} {v3 : Int} {v4 : Int} {M : Mem} (hB : Bd M) {res : (Nat ⊕ Int) × Mem} (h : f_X9_runEnd F v1 v2 v3 v4 M = some res) : Ok G l 7 3 18 yX9_runEnd (.code yX9_runEnd cX9_runEnd 7 (some .int)) [rf G 0, .int (iI v1), .int (iI v2), .int (iI v3), .int (iI v4)] M (oxI res.1) res.2 := by
  refine ok_of (ls := [some (rf G 0), some (.int (iI v1)), some (.int (iI v2)), some (.int (iI v3)), some (.int (iI v4)), none, none]) hl (by decide +kernel) (Nat.le_of_ble_eq_true rfl) ⟨rfl, ⟨rfl, ⟨rfl, ⟨rfl, ⟨rfl, trivial⟩⟩⟩⟩⟩ ?_
  intro X hX C E
  subst hX
  rw [f_X9_runEnd] at h
  obtain ⟨hp_v4, h⟩ := chk_some h
  refine go_aload_n C dX9_runEnd_0 rfl rfl ?_
  refine go_iload_n C dX9_runEnd_1 rfl rfl ?_
  obtain ⟨q1, h1, h⟩ := ob_some h
  refine go_callV_xv C dX9_runEnd_2 (ok_X9_needNode C.hl hB h1) mv_X9_94 sh_0 rfl rfl (Nat.le_of_ble_eq_true rfl) ⟨(Nat.le_of_ble_eq_true rfl), (Nat.le_of_ble_eq_true rfl)⟩ ⟨(Nat.le_of_ble_eq_true rfl), (Nat.le_of_ble_eq_true rfl)⟩ (fun e1 he1 hB1 => ?_) (fun r1 hr1 hB1 => ?_)
  · replace h := ox_l he1 h
    cases h
    exact go_out C E (Nat.le_of_ble_eq_true rfl) (Nat.le_of_ble_eq_true rfl) rfl rfl hB1
  · replace h := ox_r hr1 h
    refine go_aload_n C dX9_runEnd_5 rfl rfl ?_
    refine go_iload_n C dX9_runEnd_6 rfl rfl ?_
    obtain ⟨q2, h2, h⟩ := ob_some h
    refine go_callV_xv C dX9_runEnd_7 (ok_X9_needLink C.hl hB1 h2) mv_X9_116 sh_0 rfl rfl (Nat.le_of_ble_eq_true rfl) ⟨(Nat.le_of_ble_eq_true rfl), (Nat.le_of_ble_eq_true rfl)⟩ ⟨(Nat.le_of_ble_eq_true rfl), (Nat.le_of_ble_eq_true rfl)⟩ (fun e2 he2 hB2 => ?_) (fun r2 hr2 hB2 => ?_)
    · replace h := ox_l he2 h
      cases h
      exact go_out C E (Nat.le_of_ble_eq_true rfl) (Nat.le_of_ble_eq_true rfl) rfl rfl hB2
    · replace h := ox_r hr2 h
      refine go_aload_n C dX9_runEnd_10 rfl rfl ?_
      refine go_getR (o := 1) (k2 := 1) C dX9_runEnd_11 fl_X9_12 sh_0 rfl rfl ?_
      refine go_iload_n C dX9_runEnd_14 rfl rfl ?_
      refine go_iload_n C dX9_runEnd_15 rfl rfl ?_
      obtain ⟨q3, h3, h⟩ := ob_some h
      refine go_callV_i C dX9_runEnd_16 (ok_X6_touches C.hl hB2 sh_1 h3) mv_X9_207 sh_1 rfl rfl (Nat.le_of_ble_eq_true rfl) ⟨(Nat.le_of_ble_eq_true rfl), (Nat.le_of_ble_eq_true rfl)⟩ ⟨(Nat.le_of_ble_eq_true rfl), (Nat.le_of_ble_eq_true rfl)⟩ (fun hB3 => ?_)
      obtain ⟨hc4, h⟩ := chk_some h
      refine go_if_ne (tgt := 32) C dX9_runEnd_19 rfl hc4 (fun hc5 => ?_) (fun hc5 => ?_)
      · replace h := ite_f hc5 h
        refine go_aload_n C dX9_runEnd_32 rfl rfl ?_
        refine go_getR (o := 44) (k2 := 44) C dX9_runEnd_33 fl_X9_36 sh_0 rfl rfl ?_
        refine go_aload_n C dX9_runEnd_36 rfl rfl ?_
        refine go_getR (o := 1) (k2 := 1) C dX9_runEnd_37 fl_X9_12 sh_0 rfl rfl ?_
        refine go_iload_n C dX9_runEnd_40 rfl rfl ?_
        obtain ⟨q6, h6, h⟩ := ob_some h
        refine go_callV_v C dX9_runEnd_41 (ok_X4_read C.hl hB3 sh_44 h6) mv_X9_219 sh_44 rfl rfl (Nat.le_of_ble_eq_true rfl) ⟨(Nat.le_of_ble_eq_true rfl), (Nat.le_of_ble_eq_true rfl)⟩ ⟨(Nat.le_of_ble_eq_true rfl), (Nat.le_of_ble_eq_true rfl)⟩ (fun hB6 => ?_)
        refine go_aload_n C dX9_runEnd_44 rfl rfl ?_
        refine go_getR (o := 44) (k2 := 44) C dX9_runEnd_45 fl_X9_36 sh_0 rfl rfl ?_
        refine go_iload_n C dX9_runEnd_48 rfl rfl ?_
        refine go_iload_n C dX9_runEnd_49 rfl rfl ?_
        obtain ⟨q7, h7, h⟩ := ob_some h
        refine go_callV_i C dX9_runEnd_50 (ok_X4_beginningOf C.hl hB6 sh_44 h7) mv_X9_228 sh_44 rfl rfl (Nat.le_of_ble_eq_true rfl) ⟨(Nat.le_of_ble_eq_true rfl), (Nat.le_of_ble_eq_true rfl)⟩ ⟨(Nat.le_of_ble_eq_true rfl), (Nat.le_of_ble_eq_true rfl)⟩ (fun hB7 => ?_)
        refine go_istore (ls2 := [some (rf G 0), some (.int (iI v1)), some (.int (iI v2)), some (.int (iI v3)), some (.int (iI v4)), some (.int (iI q7)), none]) C dX9_runEnd_53 (Nat.le_of_ble_eq_true rfl) rfl ?_
        refine go_iload C dX9_runEnd_55 rfl ?_
        refine go_iconst C dX9_runEnd_57 ?_
        obtain ⟨hc8, h⟩ := chk_some h
        refine go_icmp_ne (tgt := 71) C dX9_runEnd_58 rfl hc8 (by decide) (fun hc9 => ?_) (fun hc9 => ?_)
        · replace h := ite_f hc9 h
          refine go_iload C dX9_runEnd_71 rfl ?_
          refine go_if_eq (tgt := 88) C dX9_runEnd_73 rfl hp_v4 (fun hc10 => ?_) (fun hc10 => ?_)
          · replace h := ite_t hc10 h
            refine go_iload C dX9_runEnd_88 rfl ?_
            refine go_istore (ls2 := [some (rf G 0), some (.int (iI v1)), some (.int (iI v2)), some (.int (iI v3)), some (.int (iI v4)), some (.int (iI q7)), some (.int (iI q7))]) C dX9_runEnd_90 (Nat.le_of_ble_eq_true rfl) rfl ?_
            refine go_iload C dX9_runEnd_92 rfl ?_
            refine go_aload_n C dX9_runEnd_94 rfl rfl ?_
            refine go_getR (o := 1) (k2 := 1) C dX9_runEnd_95 fl_X9_12 sh_0 rfl rfl ?_
            refine go_getR (o := 4) (k2 := 5) C dX9_runEnd_98 fl_X9_147 sh_1 rfl rfl ?_
            refine go_iload_n C dX9_runEnd_101 rfl rfl ?_
            obtain ⟨hc11, h⟩ := chk_some h
            refine go_iald C dX9_runEnd_102 sh_5 (by decide) hc11 ?_
            obtain ⟨q12, h12, h⟩ := ob_some h
            refine go_callS_i C dX9_runEnd_103 (ok_X4_labelAt C.hl hB7 h12) ms_X9_236 rfl rfl (Nat.le_of_ble_eq_true rfl) ⟨(Nat.le_of_ble_eq_true rfl), (Nat.le_of_ble_eq_true rfl)⟩ ⟨(Nat.le_of_ble_eq_true rfl), (Nat.le_of_ble_eq_true rfl)⟩ (fun hB12 => ?_)
            cases h
            exact go_iret C E rfl dX9_runEnd_106 (Nat.le_of_ble_eq_true rfl) (Nat.le_of_ble_eq_true rfl) rfl rfl hB12
          · replace h := ite_f hc10 h
            refine go_aload_n C dX9_runEnd_76 rfl rfl ?_
            refine go_getR (o := 44) (k2 := 44) C dX9_runEnd_77 fl_X9_36 sh_0 rfl rfl ?_
            refine go_iload C dX9_runEnd_80 rfl ?_
            obtain ⟨q13, h13, h⟩ := ob_some h
            refine go_callV_i C dX9_runEnd_82 (ok_X4_endOfRunAt C.hl hB7 sh_44 h13) mv_X9_233 sh_44 rfl rfl (Nat.le_of_ble_eq_true rfl) ⟨(Nat.le_of_ble_eq_true rfl), (Nat.le_of_ble_eq_true rfl)⟩ ⟨(Nat.le_of_ble_eq_true rfl), (Nat.le_of_ble_eq_true rfl)⟩ (fun hB13 => ?_)
            refine go_goto (tgt := 90) C dX9_runEnd_85 rfl ?_
            refine go_istore (ls2 := [some (rf G 0), some (.int (iI v1)), some (.int (iI v2)), some (.int (iI v3)), some (.int (iI v4)), some (.int (iI q7)), some (.int (iI q13))]) C dX9_runEnd_90 (Nat.le_of_ble_eq_true rfl) rfl ?_
            refine go_iload C dX9_runEnd_92 rfl ?_
            refine go_aload_n C dX9_runEnd_94 rfl rfl ?_
            refine go_getR (o := 1) (k2 := 1) C dX9_runEnd_95 fl_X9_12 sh_0 rfl rfl ?_
            refine go_getR (o := 4) (k2 := 5) C dX9_runEnd_98 fl_X9_147 sh_1 rfl rfl ?_
            refine go_iload_n C dX9_runEnd_101 rfl rfl ?_
            obtain ⟨hc14, h⟩ := chk_some h
            refine go_iald C dX9_runEnd_102 sh_5 (by decide) hc14 ?_
            obtain ⟨q15, h15, h⟩ := ob_some h
            refine go_callS_i C dX9_runEnd_103 (ok_X4_labelAt C.hl hB13 h15) ms_X9_236 rfl rfl (Nat.le_of_ble_eq_true rfl) ⟨(Nat.le_of_ble_eq_true rfl), (Nat.le_of_ble_eq_true rfl)⟩ ⟨(Nat.le_of_ble_eq_true rfl), (Nat.le_of_ble_eq_true rfl)⟩ (fun hB15 => ?_)
            cases h
            exact go_iret C E rfl dX9_runEnd_106 (Nat.le_of_ble_eq_true rfl) (Nat.le_of_ble_eq_true rfl) rfl rfl hB15
        · replace h := ite_t hc9 h
          cases h
          exact go_throw C E TH_1 (show (231, "there is no such run") ∈ stT by decide +kernel) dX9_runEnd_61 dX9_runEnd_64 dX9_runEnd_65 dX9_runEnd_67 dX9_runEnd_70 (Nat.le_of_ble_eq_true rfl) (Nat.le_of_ble_eq_true rfl) (Nat.le_of_ble_eq_true rfl) (Nat.le_of_ble_eq_true rfl) rfl rfl hB7
      · replace h := ite_t hc5 h
        cases h
        exact go_throw C E TH_1 (show (210, "the link is not one of the node") ∈ stT by decide +kernel) dX9_runEnd_22 dX9_runEnd_25 dX9_runEnd_26 dX9_runEnd_28 dX9_runEnd_31 (Nat.le_of_ble_eq_true rfl) (Nat.le_of_ble_eq_true rfl) (Nat.le_of_ble_eq_true rfl) (Nat.le_of_ble_eq_true rfl) rfl rfl hB3
-- IntervalRouter.networkSize()I
set_option maxHeartbeats 4000000 in
theorem w_X9_networkSize_4 {G : gC} {X : gX} {res : Int × Mem} {F : Nat} (C : Cx G X cX9_networkSize 3 RX9 3 0 0 (some .int) []) (E : Fnl G X 0 0 (.inr (some (.int (iI res.1)))) res.2) : ∀ (fu : Nat) (v1 : Int) (v2 : Int) (M : Mem), Bd M → f_X9_networkSize_4 F fu v1 v2 M = some res → Go G X 3 0 0 4 [some (rf G 0), some (.int (iI v1)), some (.int (iI v2))] [] M := by
  intro fu
  induction fu with
  | zero => intro v1 v2 M hB h; exact nomatch (show (none : Option (Int × Mem)) = some res from h)
  | succ fu ih =>
    intro v1 v2 M hB h
    rw [f_X9_networkSize_4] at h
    obtain ⟨hp_v2, h⟩ := chk_some h
    refine go_iload_n C dX9_networkSize_4 rfl rfl ?_
    refine go_aload_n C dX9_networkSize_5 rfl rfl ?_
    refine go_getR (o := 1) (k2 := 1) C dX9_networkSize_6 fl_X9_12 sh_0 rfl rfl ?_
    refine go_getI (z := 0) C dX9_networkSize_9 fl_X9_126 sh_1 rfl rfl ?_
    refine go_icmp_ge (tgt := 43) C dX9_networkSize_12 rfl hp_v2 (hB 1 0 (by decide)) (fun hc1 => ?_) (fun hc1 => ?_)
    · replace h := ite_t hc1 h
      refine go_iload_n C dX9_networkSize_43 rfl rfl ?_
      cases h
      exact go_iret C E rfl dX9_networkSize_44 (Nat.le_of_ble_eq_true rfl) (Nat.le_of_ble_eq_true rfl) rfl rfl hB
    · replace h := ite_f hc1 h
      refine go_aload_n C dX9_networkSize_15 rfl rfl ?_
      refine go_getR (o := 44) (k2 := 44) C dX9_networkSize_16 fl_X9_36 sh_0 rfl rfl ?_
      refine go_aload_n C dX9_networkSize_19 rfl rfl ?_
      refine go_getR (o := 1) (k2 := 1) C dX9_networkSize_20 fl_X9_12 sh_0 rfl rfl ?_
      refine go_iload_n C dX9_networkSize_23 rfl rfl ?_
      obtain ⟨q2, h2, h⟩ := ob_some h
      refine go_callV_v C dX9_networkSize_24 (ok_X4_read C.hl hB sh_44 h2) mv_X9_219 sh_44 rfl rfl (Nat.le_of_ble_eq_true rfl) ⟨(Nat.le_of_ble_eq_true rfl), (Nat.le_of_ble_eq_true rfl)⟩ ⟨(Nat.le_of_ble_eq_true rfl), (Nat.le_of_ble_eq_true rfl)⟩ (fun hB2 => ?_)
      refine go_iload_n C dX9_networkSize_27 rfl rfl ?_
      refine go_aload_n C dX9_networkSize_28 rfl rfl ?_
      refine go_getR (o := 44) (k2 := 44) C dX9_networkSize_29 fl_X9_36 sh_0 rfl rfl ?_
      obtain ⟨q3, h3, h⟩ := ob_some h
      refine go_callV_i C dX9_networkSize_32 (ok_X4_allRuns C.hl hB2 sh_44 h3) mv_X9_203 sh_44 rfl rfl (Nat.le_of_ble_eq_true rfl) ⟨(Nat.le_of_ble_eq_true rfl), (Nat.le_of_ble_eq_true rfl)⟩ ⟨(Nat.le_of_ble_eq_true rfl), (Nat.le_of_ble_eq_true rfl)⟩ (fun hB3 => ?_)
      refine go_iadd C dX9_networkSize_35 ?_
      refine go_istore_n (ls2 := [some (rf G 0), some (.int (iI (v1 + q3))), some (.int (iI v2))]) C dX9_networkSize_36 rfl (Nat.le_of_ble_eq_true rfl) rfl ?_
      refine go_iinc (ls2 := [some (rf G 0), some (.int (iI (v1 + q3))), some (.int (iI (v2 + 1)))]) C dX9_networkSize_37 rfl (Nat.le_of_ble_eq_true rfl) rfl ?_
      refine go_goto (tgt := 4) C dX9_networkSize_40 rfl ?_
      exact ih (v1 + q3) (v2 + 1) q2 hB3 h
set_option maxHeartbeats 4000000 in
theorem ok_X9_networkSize {G : gC} {l : Launch} (hl : l.stackTraces = false) {F : Nat} {M : Mem} (hB : Bd M) {res : Int × Mem} (h : f_X9_networkSize F M = some res) : Ok G l 3 0 0 yX9_networkSize (.code yX9_networkSize cX9_networkSize 3 (some .int)) [rf G 0] M (.inr (some (.int (iI res.1)))) res.2 := by
  refine ok_of (ls := [some (rf G 0), none, none]) hl (by decide +kernel) (Nat.le_of_ble_eq_true rfl) ⟨rfl, trivial⟩ ?_
  intro X hX C E
  subst hX
  rw [f_X9_networkSize] at h
  refine go_iconst C dX9_networkSize_0 ?_
  refine go_istore_n (ls2 := [some (rf G 0), some (.int (iI 0)), none]) C dX9_networkSize_1 rfl (Nat.le_of_ble_eq_true rfl) rfl ?_
  refine go_iconst C dX9_networkSize_2 ?_
  refine go_istore_n (ls2 := [some (rf G 0), some (.int (iI 0)), some (.int (iI 0))]) C dX9_networkSize_3 rfl (Nat.le_of_ble_eq_true rfl) rfl ?_
  exact w_X9_networkSize_4 C E F 0 0 M hB h
-- IntervalRouter.tableSize(I)I
set_option maxHeartbeats 4000000 in
theorem ok_X9_tableSize {G : gC} {l : Launch} (hl : l.stackTraces = false) {F : Nat} {v1 : Int} {M : Mem} (hB : Bd M) {res : (Nat ⊕ Int) × Mem} (h : f_X9_tableSize F v1 M = some res) : Ok G l 7 1 6 yX9_tableSize (.code yX9_tableSize cX9_tableSize 2 (some .int)) [rf G 0, .int (iI v1)] M (oxI res.1) res.2 := by
  refine ok_of (ls := [some (rf G 0), some (.int (iI v1))]) hl (by decide +kernel) (Nat.le_of_ble_eq_true rfl) ⟨rfl, ⟨rfl, trivial⟩⟩ ?_
  intro X hX C E
  subst hX
  rw [f_X9_tableSize] at h
  obtain ⟨hp_v1, h⟩ := chk_some h
  refine go_iload_n C dX9_tableSize_0 rfl rfl ?_
  refine go_iconst C dX9_tableSize_1 ?_
  refine go_icmp_ne (tgt := 10) C dX9_tableSize_2 rfl hp_v1 (by decide) (fun hc1 => ?_) (fun hc1 => ?_)
  · replace h := ite_f hc1 h
    refine go_aload_n C dX9_tableSize_10 rfl rfl ?_
    refine go_iload_n C dX9_tableSize_11 rfl rfl ?_
    obtain ⟨q2, h2, h⟩ := ob_some h
    refine go_callV_xv C dX9_tableSize_12 (ok_X9_needNode C.hl hB h2) mv_X9_94 sh_0 rfl rfl (Nat.le_of_ble_eq_true rfl) ⟨(Nat.le_of_ble_eq_true rfl), (Nat.le_of_ble_eq_true rfl)⟩ ⟨(Nat.le_of_ble_eq_true rfl), (Nat.le_of_ble_eq_true rfl)⟩ (fun e2 he2 hB2 => ?_) (fun r2 hr2 hB2 => ?_)
    · replace h := ox_l he2 h
      cases h
      exact go_out C E (Nat.le_of_ble_eq_true rfl) (Nat.le_of_ble_eq_true rfl) rfl rfl hB2
    · replace h := ox_r hr2 h
      refine go_aload_n C dX9_tableSize_15 rfl rfl ?_
      refine go_getR (o := 44) (k2 := 44) C dX9_tableSize_16 fl_X9_36 sh_0 rfl rfl ?_
      refine go_aload_n C dX9_tableSize_19 rfl rfl ?_
      refine go_getR (o := 1) (k2 := 1) C dX9_tableSize_20 fl_X9_12 sh_0 rfl rfl ?_
      refine go_iload_n C dX9_tableSize_23 rfl rfl ?_
      obtain ⟨q3, h3, h⟩ := ob_some h
      refine go_callV_v C dX9_tableSize_24 (ok_X4_read C.hl hB2 sh_44 h3) mv_X9_219 sh_44 rfl rfl (Nat.le_of_ble_eq_true rfl) ⟨(Nat.le_of_ble_eq_true rfl), (Nat.le_of_ble_eq_true rfl)⟩ ⟨(Nat.le_of_ble_eq_true rfl), (Nat.le_of_ble_eq_true rfl)⟩ (fun hB3 => ?_)
      refine go_aload_n C dX9_tableSize_27 rfl rfl ?_
      refine go_getR (o := 44) (k2 := 44) C dX9_tableSize_28 fl_X9_36 sh_0 rfl rfl ?_
      obtain ⟨q4, h4, h⟩ := ob_some h
      refine go_callV_i C dX9_tableSize_31 (ok_X4_allRuns C.hl hB3 sh_44 h4) mv_X9_203 sh_44 rfl rfl (Nat.le_of_ble_eq_true rfl) ⟨(Nat.le_of_ble_eq_true rfl), (Nat.le_of_ble_eq_true rfl)⟩ ⟨(Nat.le_of_ble_eq_true rfl), (Nat.le_of_ble_eq_true rfl)⟩ (fun hB4 => ?_)
      cases h
      exact go_iret C E rfl dX9_tableSize_34 (Nat.le_of_ble_eq_true rfl) (Nat.le_of_ble_eq_true rfl) rfl rfl hB4
  · replace h := ite_t hc1 h
    refine go_aload_n C dX9_tableSize_5 rfl rfl ?_
    obtain ⟨q5, h5, h⟩ := ob_some h
    refine go_callV_i C dX9_tableSize_6 (ok_X9_networkSize C.hl hB h5) mv_X9_239 sh_0 rfl rfl (Nat.le_of_ble_eq_true rfl) ⟨(Nat.le_of_ble_eq_true rfl), (Nat.le_of_ble_eq_true rfl)⟩ ⟨(Nat.le_of_ble_eq_true rfl), (Nat.le_of_ble_eq_true rfl)⟩ (fun hB5 => ?_)
    cases h
    exact go_iret C E rfl dX9_tableSize_9 (Nat.le_of_ble_eq_true rfl) (Nat.le_of_ble_eq_true rfl) rfl rfl hB5
-- IntervalRouter.compactness()I
set_option maxHeartbeats 4000000 in
theorem w_X9_compactness_4 {G : gC} {X : gX} {res : Int × Mem} {F : Nat} (C : Cx G X cX9_compactness 3 RX9 4 0 0 (some .int) []) (E : Fnl G X 0 0 (.inr (some (.int (iI res.1)))) res.2) : ∀ (fu : Nat) (v1 : Int) (v2 : Int) (M : Mem), Bd M → f_X9_compactness_4 F fu v1 v2 M = some res → Go G X 3 0 0 4 [some (rf G 0), some (.int (iI v1)), some (.int (iI v2))] [] M := by
  intro fu
  induction fu with
  | zero => intro v1 v2 M hB h; exact nomatch (show (none : Option (Int × Mem)) = some res from h)
  | succ fu ih =>
    intro v1 v2 M hB h
    rw [f_X9_compactness_4] at h
    obtain ⟨⟨hp_v1, hp_v2⟩, h⟩ := chk_some h
    refine go_iload_n C dX9_compactness_4 rfl rfl ?_
    refine go_aload_n C dX9_compactness_5 rfl rfl ?_
    refine go_getR (o := 1) (k2 := 1) C dX9_compactness_6 fl_X9_12 sh_0 rfl rfl ?_
    refine go_getI (z := 0) C dX9_compactness_9 fl_X9_126 sh_1 rfl rfl ?_
    refine go_icmp_ge (tgt := 45) C dX9_compactness_12 rfl hp_v2 (hB 1 0 (by decide)) (fun hc1 => ?_) (fun hc1 => ?_)
    · replace h := ite_t hc1 h
      refine go_iload_n C dX9_compactness_45 rfl rfl ?_
      cases h
      exact go_iret C E rfl dX9_compactness_46 (Nat.le_of_ble_eq_true rfl) (Nat.le_of_ble_eq_true rfl) rfl rfl hB
    · replace h := ite_f hc1 h
      refine go_aload_n C dX9_compactness_15 rfl rfl ?_
      refine go_getR (o := 44) (k2 := 44) C dX9_compactness_16 fl_X9_36 sh_0 rfl rfl ?_
      refine go_aload_n C dX9_compactness_19 rfl rfl ?_
      refine go_getR (o := 1) (k2 := 1) C dX9_compactness_20 fl_X9_12 sh_0 rfl rfl ?_
      refine go_iload_n C dX9_compactness_23 rfl rfl ?_
      obtain ⟨q2, h2, h⟩ := ob_some h
      refine go_callV_v C dX9_compactness_24 (ok_X4_read C.hl hB sh_44 h2) mv_X9_219 sh_44 rfl rfl (Nat.le_of_ble_eq_true rfl) ⟨(Nat.le_of_ble_eq_true rfl), (Nat.le_of_ble_eq_true rfl)⟩ ⟨(Nat.le_of_ble_eq_true rfl), (Nat.le_of_ble_eq_true rfl)⟩ (fun hB2 => ?_)
      refine go_iload_n C dX9_compactness_27 rfl rfl ?_
      refine go_aload_n C dX9_compactness_28 rfl rfl ?_
      refine go_getR (o := 44) (k2 := 44) C dX9_compactness_29 fl_X9_36 sh_0 rfl rfl ?_
      obtain ⟨q3, h3, h⟩ := ob_some h
      refine go_callV_i C dX9_compactness_32 (ok_X4_mostRuns C.hl hB2 sh_44 h3) mv_X9_242 sh_44 rfl rfl (Nat.le_of_ble_eq_true rfl) ⟨(Nat.le_of_ble_eq_true rfl), (Nat.le_of_ble_eq_true rfl)⟩ ⟨(Nat.le_of_ble_eq_true rfl), (Nat.le_of_ble_eq_true rfl)⟩ (fun hB3 => ?_)
      obtain ⟨hc4, h⟩ := chk_some h
      refine go_mmax C dX9_compactness_35 mx_X9_245 hp_v1 hc4 (Nat.le_of_ble_eq_true rfl) (Nat.le_of_ble_eq_true rfl) (Nat.le_of_ble_eq_true rfl) (Nat.le_of_ble_eq_true rfl) ?_
      refine go_istore_n (ls2 := [some (rf G 0), some (.int (iI (imax v1 q3))), some (.int (iI v2))]) C dX9_compactness_38 rfl (Nat.le_of_ble_eq_true rfl) rfl ?_
      refine go_iinc (ls2 := [some (rf G 0), some (.int (iI (imax v1 q3))), some (.int (iI (v2 + 1)))]) C dX9_compactness_39 rfl (Nat.le_of_ble_eq_true rfl) rfl ?_
      refine go_goto (tgt := 4) C dX9_compactness_42 rfl ?_
      exact ih (imax v1 q3) (v2 + 1) q2 hB3 h
set_option maxHeartbeats 4000000 in
theorem ok_X9_compactness {G : gC} {l : Launch} (hl : l.stackTraces = false) {F : Nat} {M : Mem} (hB : Bd M) {res : Int × Mem} (h : f_X9_compactness F M = some res) : Ok G l 4 0 0 yX9_compactness (.code yX9_compactness cX9_compactness 3 (some .int)) [rf G 0] M (.inr (some (.int (iI res.1)))) res.2 := by
  refine ok_of (ls := [some (rf G 0), none, none]) hl (by decide +kernel) (Nat.le_of_ble_eq_true rfl) ⟨rfl, trivial⟩ ?_
  intro X hX C E
  subst hX
  rw [f_X9_compactness] at h
  refine go_iconst C dX9_compactness_0 ?_
  refine go_istore_n (ls2 := [some (rf G 0), some (.int (iI 0)), none]) C dX9_compactness_1 rfl (Nat.le_of_ble_eq_true rfl) rfl ?_
  refine go_iconst C dX9_compactness_2 ?_
  refine go_istore_n (ls2 := [some (rf G 0), some (.int (iI 0)), some (.int (iI 0))]) C dX9_compactness_3 rfl (Nat.le_of_ble_eq_true rfl) rfl ?_
  exact w_X9_compactness_4 C E F 0 0 M hB h
-- IntervalRouter.bestSize(I)I
set_option maxHeartbeats 4000000 in
theorem ok_X9_bestSize {G : gC} {l : Launch} (hl : l.stackTraces = false) {F : Nat} {v1 : Int} {M : Mem} (hB : Bd M) {res : (Nat ⊕ Int) × Mem} (h : f_X9_bestSize F v1 M = some res) : Ok G l 7 1 6 yX9_bestSize (.code yX9_bestSize cX9_bestSize 2 (some .int)) [rf G 0, .int (iI v1)] M (oxI res.1) res.2 := by
  refine ok_of (ls := [some (rf G 0), some (.int (iI v1))]) hl (by decide +kernel) (Nat.le_of_ble_eq_true rfl) ⟨rfl, ⟨rfl, trivial⟩⟩ ?_
  intro X hX C E
  subst hX
  rw [f_X9_bestSize] at h
  refine go_aload_n C dX9_bestSize_0 rfl rfl ?_
  refine go_iload_n C dX9_bestSize_1 rfl rfl ?_
  obtain ⟨q1, h1, h⟩ := ob_some h
  refine go_callV_xv C dX9_bestSize_2 (ok_X9_needNode C.hl hB h1) mv_X9_94 sh_0 rfl rfl (Nat.le_of_ble_eq_true rfl) ⟨(Nat.le_of_ble_eq_true rfl), (Nat.le_of_ble_eq_true rfl)⟩ ⟨(Nat.le_of_ble_eq_true rfl), (Nat.le_of_ble_eq_true rfl)⟩ (fun e1 he1 hB1 => ?_) (fun r1 hr1 hB1 => ?_)
  · replace h := ox_l he1 h
    cases h
    exact go_out C E (Nat.le_of_ble_eq_true rfl) (Nat.le_of_ble_eq_true rfl) rfl rfl hB1
  · replace h := ox_r hr1 h
    refine go_aload_n C dX9_bestSize_5 rfl rfl ?_
    refine go_getR (o := 46) (k2 := 46) C dX9_bestSize_6 fl_X9_43 sh_0 rfl rfl ?_
    refine go_aload_n C dX9_bestSize_9 rfl rfl ?_
    refine go_getR (o := 1) (k2 := 1) C dX9_bestSize_10 fl_X9_12 sh_0 rfl rfl ?_
    refine go_getR (o := 4) (k2 := 5) C dX9_bestSize_13 fl_X9_147 sh_1 rfl rfl ?_
    refine go_aload_n C dX9_bestSize_16 rfl rfl ?_
    refine go_getR (o := 1) (k2 := 1) C dX9_bestSize_17 fl_X9_12 sh_0 rfl rfl ?_
    refine go_getI (z := 0) C dX9_bestSize_20 fl_X9_126 sh_1 rfl rfl ?_
    obtain ⟨q2, h2, h⟩ := ob_some h
    refine go_callV_v C dX9_bestSize_23 (ok_X7_seat C.hl hB1 (ia_of sh_5) h2) mv_X9_191 sh_46 rfl rfl (Nat.le_of_ble_eq_true rfl) ⟨(Nat.le_of_ble_eq_true rfl), (Nat.le_of_ble_eq_true rfl)⟩ ⟨(Nat.le_of_ble_eq_true rfl), (Nat.le_of_ble_eq_true rfl)⟩ (fun hB2 => ?_)
    refine go_aload_n C dX9_bestSize_26 rfl rfl ?_
    refine go_getR (o := 46) (k2 := 46) C dX9_bestSize_27 fl_X9_43 sh_0 rfl rfl ?_
    refine go_aload_n C dX9_bestSize_30 rfl rfl ?_
    refine go_getR (o := 39) (k2 := 39) C dX9_bestSize_31 fl_X9_29 sh_0 rfl rfl ?_
    refine go_iload_n C dX9_bestSize_34 rfl rfl ?_
    refine go_aload_n C dX9_bestSize_35 rfl rfl ?_
    refine go_getR (o := 1) (k2 := 1) C dX9_bestSize_36 fl_X9_12 sh_0 rfl rfl ?_
    refine go_getR (o := 4) (k2 := 5) C dX9_bestSize_39 fl_X9_147 sh_1 rfl rfl ?_
    refine go_iload_n C dX9_bestSize_42 rfl rfl ?_
    obtain ⟨hc3, h⟩ := chk_some h
    refine go_iald C dX9_bestSize_43 sh_5 (by decide) hc3 ?_
    refine go_aload_n C dX9_bestSize_44 rfl rfl ?_
    refine go_getR (o := 44) (k2 := 44) C dX9_bestSize_45 fl_X9_36 sh_0 rfl rfl ?_
    obtain ⟨q4, h4, h⟩ := ob_some h
    refine go_callV_v C dX9_bestSize_48 (ok_X7_fill C.hl hB2 sh_44 h4) mv_X9_195 sh_46 rfl rfl (Nat.le_of_ble_eq_true rfl) ⟨(Nat.le_of_ble_eq_true rfl), (Nat.le_of_ble_eq_true rfl)⟩ ⟨(Nat.le_of_ble_eq_true rfl), (Nat.le_of_ble_eq_true rfl)⟩ (fun hB4 => ?_)
    refine go_aload_n C dX9_bestSize_51 rfl rfl ?_
    refine go_getR (o := 44) (k2 := 44) C dX9_bestSize_52 fl_X9_36 sh_0 rfl rfl ?_
    obtain ⟨q5, h5, h⟩ := ob_some h
    refine go_callV_i C dX9_bestSize_55 (ok_X4_allRuns C.hl hB4 sh_44 h5) mv_X9_203 sh_44 rfl rfl (Nat.le_of_ble_eq_true rfl) ⟨(Nat.le_of_ble_eq_true rfl), (Nat.le_of_ble_eq_true rfl)⟩ ⟨(Nat.le_of_ble_eq_true rfl), (Nat.le_of_ble_eq_true rfl)⟩ (fun hB5 => ?_)
    cases h
    exact go_iret C E rfl dX9_bestSize_58 (Nat.le_of_ble_eq_true rfl) (Nat.le_of_ble_eq_true rfl) rfl rfl hB5
-- IntervalRouter.judge(II)I
set_option maxHeartbeats 4000000 in
theorem ok_X9_judge {G : gC} {l : Launch} (hl : l.stackTraces = false) {v1 : Int} {v2 : Int} {M : Mem} (hB : Bd M) {res : Int} (h : f_X9_judge v1 v2 M = some res) : Ok G l 1 0 0 yX9_judge (.code yX9_judge cX9_judge 4 (some .int)) [rf G 0, .int (iI v1), .int (iI v2)] M (.inr (some (.int (iI res)))) M := by
  refine ok_of (ls := [some (rf G 0), some (.int (iI v1)), some (.int (iI v2)), none]) hl (by decide +kernel) (Nat.le_of_ble_eq_true rfl) ⟨rfl, ⟨rfl, ⟨rfl, trivial⟩⟩⟩ ?_
  intro X hX C E
  subst hX
  rw [f_X9_judge] at h
  obtain ⟨⟨hp_v1, hp_v2⟩, h⟩ := chk_some h
  refine go_iload_n C dX9_judge_0 rfl rfl ?_
  refine go_iload_n C dX9_judge_1 rfl rfl ?_
  refine go_icmp_ne (tgt := 7) C dX9_judge_2 rfl hp_v1 hp_v2 (fun hc1 => ?_) (fun hc1 => ?_)
  · replace h := ite_f hc1 h
    refine go_aload_n C dX9_judge_7 rfl rfl ?_
    refine go_getR (o := 39) (k2 := 39) C dX9_judge_8 fl_X9_29 sh_0 rfl rfl ?_
    refine go_iload_n C dX9_judge_11 rfl rfl ?_
    refine go_iload_n C dX9_judge_12 rfl rfl ?_
    obtain ⟨q2, h2, h⟩ := ob_some h
    refine go_callV_i C dX9_judge_13 (ok_X8_between C.hl hB h2) mv_X9_133 sh_39 rfl rfl (Nat.le_of_ble_eq_true rfl) ⟨(Nat.le_of_ble_eq_true rfl), (Nat.le_of_ble_eq_true rfl)⟩ ⟨(Nat.le_of_ble_eq_true rfl), (Nat.le_of_ble_eq_true rfl)⟩ (fun hB2 => ?_)
    refine go_sipush C dX9_judge_16 (by decide +kernel) ?_
    obtain ⟨hc3, h⟩ := chk_some h
    refine go_icmp_ne (tgt := 24) C dX9_judge_19 rfl hc3 (by decide) (fun hc4 => ?_) (fun hc4 => ?_)
    · replace h := ite_f hc4 h
      refine go_aload_n C dX9_judge_24 rfl rfl ?_
      refine go_getR (o := 1) (k2 := 1) C dX9_judge_25 fl_X9_12 sh_0 rfl rfl ?_
      refine go_iload_n C dX9_judge_28 rfl rfl ?_
      refine go_aload_n C dX9_judge_29 rfl rfl ?_
      refine go_getR (o := 1) (k2 := 1) C dX9_judge_30 fl_X9_12 sh_0 rfl rfl ?_
      refine go_getR (o := 4) (k2 := 5) C dX9_judge_33 fl_X9_147 sh_1 rfl rfl ?_
      refine go_iload_n C dX9_judge_36 rfl rfl ?_
      obtain ⟨hc5, h⟩ := chk_some h
      refine go_iald C dX9_judge_37 sh_5 (by decide) hc5 ?_
      obtain ⟨q6, h6, h⟩ := ob_some h
      refine go_callV_i C dX9_judge_38 (ok_X6_entryAt C.hl hB2 sh_1 h6) mv_X9_216 sh_1 rfl rfl (Nat.le_of_ble_eq_true rfl) ⟨(Nat.le_of_ble_eq_true rfl), (Nat.le_of_ble_eq_true rfl)⟩ ⟨(Nat.le_of_ble_eq_true rfl), (Nat.le_of_ble_eq_true rfl)⟩ (fun hB6 => ?_)
      refine go_istore_n (ls2 := [some (rf G 0), some (.int (iI v1)), some (.int (iI v2)), some (.int (iI q6))]) C dX9_judge_41 rfl (Nat.le_of_ble_eq_true rfl) rfl ?_
      refine go_iload_n C dX9_judge_42 rfl rfl ?_
      refine go_iconst C dX9_judge_43 ?_
      obtain ⟨hc7, h⟩ := chk_some h
      refine go_icmp_ne (tgt := 49) C dX9_judge_44 rfl hc7 (by decide) (fun hc8 => ?_) (fun hc8 => ?_)
      · replace h := ite_f hc8 h
        refine go_aload_n C dX9_judge_49 rfl rfl ?_
        refine go_getR (o := 39) (k2 := 39) C dX9_judge_50 fl_X9_29 sh_0 rfl rfl ?_
        refine go_iload_n C dX9_judge_53 rfl rfl ?_
        refine go_iload_n C dX9_judge_54 rfl rfl ?_
        obtain ⟨q9, h9, h⟩ := ob_some h
        refine go_callV_i C dX9_judge_55 (ok_X8_good C.hl hB6 h9) mv_X9_136 sh_39 rfl rfl (Nat.le_of_ble_eq_true rfl) ⟨(Nat.le_of_ble_eq_true rfl), (Nat.le_of_ble_eq_true rfl)⟩ ⟨(Nat.le_of_ble_eq_true rfl), (Nat.le_of_ble_eq_true rfl)⟩ (fun hB9 => ?_)
        refine go_iload_n C dX9_judge_58 rfl rfl ?_
        refine go_ishr C dX9_judge_59 ?_
        refine go_iconst C dX9_judge_60 ?_
        refine go_iand C dX9_judge_61 ?_
        refine go_iconst C dX9_judge_62 ?_
        refine go_icmp_ne (tgt := 70) C dX9_judge_63 rfl (band_R _ _) (by decide) (fun hc10 => ?_) (fun hc10 => ?_)
        · replace h := ite_f hc10 h
          refine go_iconst C dX9_judge_70 ?_
          cases h
          exact go_iret C E rfl dX9_judge_71 (Nat.le_of_ble_eq_true rfl) (Nat.le_of_ble_eq_true rfl) rfl rfl hB9
        · replace h := ite_t hc10 h
          refine go_iconst C dX9_judge_66 ?_
          refine go_goto (tgt := 71) C dX9_judge_67 rfl ?_
          cases h
          exact go_iret C E rfl dX9_judge_71 (Nat.le_of_ble_eq_true rfl) (Nat.le_of_ble_eq_true rfl) rfl rfl hB9
      · replace h := ite_t hc8 h
        refine go_iconst C dX9_judge_47 ?_
        cases h
        exact go_iret C E rfl dX9_judge_48 (Nat.le_of_ble_eq_true rfl) (Nat.le_of_ble_eq_true rfl) rfl rfl hB6
    · replace h := ite_t hc4 h
      refine go_iconst C dX9_judge_22 ?_
      cases h
      exact go_iret C E rfl dX9_judge_23 (Nat.le_of_ble_eq_true rfl) (Nat.le_of_ble_eq_true rfl) rfl rfl hB2
  · replace h := ite_t hc1 h
    refine go_iconst C dX9_judge_5 ?_
    cases h
    exact go_iret C E rfl dX9_judge_6 (Nat.le_of_ble_eq_true rfl) (Nat.le_of_ble_eq_true rfl) rfl rfl hB
-- IntervalRouter.check(II)I
set_option maxHeartbeats 4000000 in
theorem ok_X9_check {G : gC} {l : Launch} (hl : l.stackTraces = false) {v1 : Int} {v2 : Int} {M : Mem} (hB : Bd M) {res : Nat ⊕ Int} (h : f_X9_check v1 v2 M = some res) : Ok G l 7 2 12 yX9_check (.code yX9_check cX9_check 3 (some .int)) [rf G 0, .int (iI v1), .int (iI v2)] M (oxI res) M := by
  refine ok_of (ls := [some (rf G 0), some (.int (iI v1)), some (.int (iI v2))]) hl (by decide +kernel) (Nat.le_of_ble_eq_true rfl) ⟨rfl, ⟨rfl, ⟨rfl, trivial⟩⟩⟩ ?_
  intro X hX C E
  subst hX
  rw [f_X9_check] at h
  refine go_aload_n C dX9_check_0 rfl rfl ?_
  refine go_iload_n C dX9_check_1 rfl rfl ?_
  obtain ⟨q1, h1, h⟩ := ob_some h
  refine go_callV_xv C dX9_check_2 (ok_X9_needNode C.hl hB h1) mv_X9_94 sh_0 rfl rfl (Nat.le_of_ble_eq_true rfl) ⟨(Nat.le_of_ble_eq_true rfl), (Nat.le_of_ble_eq_true rfl)⟩ ⟨(Nat.le_of_ble_eq_true rfl), (Nat.le_of_ble_eq_true rfl)⟩ (fun e1 he1 hB1 => ?_) (fun r1 hr1 hB1 => ?_)
  · replace h := ox_l he1 h
    cases h
    exact go_out C E (Nat.le_of_ble_eq_true rfl) (Nat.le_of_ble_eq_true rfl) rfl rfl hB1
  · replace h := ox_r hr1 h
    refine go_aload_n C dX9_check_5 rfl rfl ?_
    refine go_iload_n C dX9_check_6 rfl rfl ?_
    obtain ⟨q2, h2, h⟩ := ob_some h
    refine go_callV_xv C dX9_check_7 (ok_X9_needNode C.hl hB1 h2) mv_X9_94 sh_0 rfl rfl (Nat.le_of_ble_eq_true rfl) ⟨(Nat.le_of_ble_eq_true rfl), (Nat.le_of_ble_eq_true rfl)⟩ ⟨(Nat.le_of_ble_eq_true rfl), (Nat.le_of_ble_eq_true rfl)⟩ (fun e2 he2 hB2 => ?_) (fun r2 hr2 hB2 => ?_)
    · replace h := ox_l he2 h
      cases h
      exact go_out C E (Nat.le_of_ble_eq_true rfl) (Nat.le_of_ble_eq_true rfl) rfl rfl hB2
    · replace h := ox_r hr2 h
      refine go_aload_n C dX9_check_10 rfl rfl ?_
      refine go_iload_n C dX9_check_11 rfl rfl ?_
      refine go_iload_n C dX9_check_12 rfl rfl ?_
      obtain ⟨q3, h3, h⟩ := ob_some h
      refine go_callV_i C dX9_check_13 (ok_X9_judge C.hl hB2 h3) mv_X9_250 sh_0 rfl rfl (Nat.le_of_ble_eq_true rfl) ⟨(Nat.le_of_ble_eq_true rfl), (Nat.le_of_ble_eq_true rfl)⟩ ⟨(Nat.le_of_ble_eq_true rfl), (Nat.le_of_ble_eq_true rfl)⟩ (fun hB3 => ?_)
      cases h
      exact go_iret C E rfl dX9_check_16 (Nat.le_of_ble_eq_true rfl) (Nat.le_of_ble_eq_true rfl) rfl rfl hB3
-- IntervalRouter.pairsJudged(I)I
set_option maxHeartbeats 4000000 in
theorem w_X9_pairsJudged_18 {G : gC} {X : gX} {res : Int} {F : Nat} {M : Mem} (hB : Bd M) (C : Cx G X cX9_pairsJudged 5 RX9 2 0 0 (some .int) []) (E : Fnl G X 0 0 (.inr (some (.int (iI res)))) M) {k4 : Int → Int → Int → Mem → Option (Int)} (hk4 : ∀ (v1 : Int) (v2 : Int) (v3 : Int), k4 v1 v2 v3 M = some res → Go G X 5 0 0 4 [some (rf G 0), some (.int (iI v1)), some (.int (iI v2)), some (.int (iI v3)), none] [] M) : ∀ (fu : Nat) (v1 : Int) (v2 : Int) (v3 : Int) (v4 : Int), f_X9_pairsJudged_18 F k4 fu v1 v2 v3 v4 M = some res → Go G X 5 0 0 18 [some (rf G 0), some (.int (iI v1)), some (.int (iI v2)), some (.int (iI v3)), some (.int (iI v4))] [] M := by
  intro fu
  induction fu with
  | zero => intro v1 v2 v3 v4 h; exact nomatch (show (none : Option (Int)) = some res from h)
  | succ fu ih =>
    intro v1 v2 v3 v4 h
    rw [f_X9_pairsJudged_18] at h
    obtain ⟨⟨hp_v1, hp_v4⟩, h⟩ := chk_some h
    refine go_iload C dX9_pairsJudged_18 rfl ?_
    refine go_aload_n C dX9_pairsJudged_20 rfl rfl ?_
    refine go_getR (o := 1) (k2 := 1) C dX9_pairsJudged_21 fl_X9_12 sh_0 rfl rfl ?_
    refine go_getI (z := 0) C dX9_pairsJudged_24 fl_X9_126 sh_1 rfl rfl ?_
    refine go_icmp_ge (tgt := 50) C dX9_pairsJudged_27 rfl hp_v4 (hB 1 0 (by decide)) (fun hc2 => ?_) (fun hc2 => ?_)
    · replace h := ite_t hc2 h
      refine go_iinc (ls2 := [some (rf G 0), some (.int (iI v1)), some (.int (iI v2)), some (.int (iI (v3 + 1))), some (.int (iI v4))]) C dX9_pairsJudged_50 rfl (Nat.le_of_ble_eq_true rfl) rfl ?_
      refine go_goto (tgt := 4) C dX9_pairsJudged_53 rfl ?_
      refine go_weak (ls' := [some (rf G 0), some (.int (iI v1)), some (.int (iI v2)), some (.int (iI (v3 + 1))), none]) ⟨rfl, ⟨rfl, ⟨rfl, ⟨rfl, trivial⟩⟩⟩⟩ ?_
      exact hk4 v1 v2 (v3 + 1) h
    · replace h := ite_f hc2 h
      refine go_aload_n C dX9_pairsJudged_30 rfl rfl ?_
      refine go_iload_n C dX9_pairsJudged_31 rfl rfl ?_
      refine go_iload C dX9_pairsJudged_32 rfl ?_
      obtain ⟨q3, h3, h⟩ := ob_some h
      refine go_callV_i C dX9_pairsJudged_34 (ok_X9_judge C.hl hB h3) mv_X9_250 sh_0 rfl rfl (Nat.le_of_ble_eq_true rfl) ⟨(Nat.le_of_ble_eq_true rfl), (Nat.le_of_ble_eq_true rfl)⟩ ⟨(Nat.le_of_ble_eq_true rfl), (Nat.le_of_ble_eq_true rfl)⟩ (fun hB3 => ?_)
      refine go_iload_n C dX9_pairsJudged_37 rfl rfl ?_
      obtain ⟨hc4, h⟩ := chk_some h
      refine go_icmp_ne (tgt := 44) C dX9_pairsJudged_38 rfl hc4 hp_v1 (fun hc5 => ?_) (fun hc5 => ?_)
      · replace h := ite_f hc5 h
        refine go_iinc (ls2 := [some (rf G 0), some (.int (iI v1)), some (.int (iI v2)), some (.int (iI v3)), some (.int (iI (v4 + 1)))]) C dX9_pairsJudged_44 rfl (Nat.le_of_ble_eq_true rfl) rfl ?_
        refine go_goto (tgt := 18) C dX9_pairsJudged_47 rfl ?_
        exact ih v1 v2 v3 (v4 + 1) h
      · replace h := ite_t hc5 h
        refine go_iinc (ls2 := [some (rf G 0), some (.int (iI v1)), some (.int (iI (v2 + 1))), some (.int (iI v3)), some (.int (iI v4))]) C dX9_pairsJudged_41 rfl (Nat.le_of_ble_eq_true rfl) rfl ?_
        refine go_iinc (ls2 := [some (rf G 0), some (.int (iI v1)), some (.int (iI (v2 + 1))), some (.int (iI v3)), some (.int (iI (v4 + 1)))]) C dX9_pairsJudged_44 rfl (Nat.le_of_ble_eq_true rfl) rfl ?_
        refine go_goto (tgt := 18) C dX9_pairsJudged_47 rfl ?_
        exact ih v1 (v2 + 1) v3 (v4 + 1) h
set_option maxHeartbeats 4000000 in
theorem w_X9_pairsJudged_4 {G : gC} {X : gX} {res : Int} {F : Nat} {M : Mem} (hB : Bd M) (C : Cx G X cX9_pairsJudged 5 RX9 2 0 0 (some .int) []) (E : Fnl G X 0 0 (.inr (some (.int (iI res)))) M) : ∀ (fu : Nat) (v1 : Int) (v2 : Int) (v3 : Int), f_X9_pairsJudged_4 F fu v1 v2 v3 M = some res → Go G X 5 0 0 4 [some (rf G 0), some (.int (iI v1)), some (.int (iI v2)), some (.int (iI v3)), none] [] M := by
  intro fu
  induction fu with
  | zero => intro v1 v2 v3 h; exact nomatch (show (none : Option (Int)) = some res from h)
  | succ fu ih =>
    intro v1 v2 v3 h
    rw [f_X9_pairsJudged_4] at h
    obtain ⟨hp_v3, h⟩ := chk_some h
    refine go_iload_n C dX9_pairsJudged_4 rfl rfl ?_
    refine go_aload_n C dX9_pairsJudged_5 rfl rfl ?_
    refine go_getR (o := 1) (k2 := 1) C dX9_pairsJudged_6 fl_X9_12 sh_0 rfl rfl ?_
    refine go_getI (z := 0) C dX9_pairsJudged_9 fl_X9_126 sh_1 rfl rfl ?_
    refine go_icmp_ge (tgt := 56) C dX9_pairsJudged_12 rfl hp_v3 (hB 1 0 (by decide)) (fun hc1 => ?_) (fun hc1 => ?_)
    · replace h := ite_t hc1 h
      refine go_iload_n C dX9_pairsJudged_56 rfl rfl ?_
      cases h
      exact go_iret C E rfl dX9_pairsJudged_57 (Nat.le_of_ble_eq_true rfl) (Nat.le_of_ble_eq_true rfl) rfl rfl hB
    · replace h := ite_f hc1 h
      refine go_iconst C dX9_pairsJudged_15 ?_
      refine go_istore (ls2 := [some (rf G 0), some (.int (iI v1)), some (.int (iI v2)), some (.int (iI v3)), some (.int (iI 0))]) C dX9_pairsJudged_16 (Nat.le_of_ble_eq_true rfl) rfl ?_
      exact w_X9_pairsJudged_18 hB C E ih F v1 v2 v3 0 h
set_option maxHeartbeats 4000000 in
theorem ok_X9_pairsJudged {G : gC} {l : Launch} (hl : l.stackTraces = false) {F : Nat} {v1 : Int} {M : Mem} (hB : Bd M) {res : Int} (h : f_X9_pairsJudged F v1 M = some res) : Ok G l 2 0 0 yX9_pairsJudged (.code yX9_pairsJudged cX9_pairsJudged 5 (some .int)) [rf G 0, .int (iI v1)] M (.inr (some (.int (iI res)))) M := by
  refine ok_of (ls := [some (rf G 0), some (.int (iI v1)), none, none, none]) hl (by decide +kernel) (Nat.le_of_ble_eq_true rfl) ⟨rfl, ⟨rfl, trivial⟩⟩ ?_
  intro X hX C E
  subst hX
  rw [f_X9_pairsJudged] at h
  refine go_iconst C dX9_pairsJudged_0 ?_
  refine go_istore_n (ls2 := [some (rf G 0), some (.int (iI v1)), some (.int (iI 0)), none, none]) C dX9_pairsJudged_1 rfl (Nat.le_of_ble_eq_true rfl) rfl ?_
  refine go_iconst C dX9_pairsJudged_2 ?_
  refine go_istore_n (ls2 := [some (rf G 0), some (.int (iI v1)), some (.int (iI 0)), some (.int (iI 0)), none]) C dX9_pairsJudged_3 rfl (Nat.le_of_ble_eq_true rfl) rfl ?_
  exact w_X9_pairsJudged_4 hB C E F v1 0 0 h
-- IntervalRouter.checked(I)I
set_option maxHeartbeats 4000000 in
theorem ok_X9_checked {G : gC} {l : Launch} (hl : l.stackTraces = false) {F : Nat} {v1 : Int} {M : Mem} (hB : Bd M) {res : Nat ⊕ Int} (h : f_X9_checked F v1 M = some res) : Ok G l 7 1 6 yX9_checked (.code yX9_checked cX9_checked 2 (some .int)) [rf G 0, .int (iI v1)] M (oxI res) M := by
  refine ok_of (ls := [some (rf G 0), some (.int (iI v1))]) hl (by decide +kernel) (Nat.le_of_ble_eq_true rfl) ⟨rfl, ⟨rfl, trivial⟩⟩ ?_
  intro X hX C E
  subst hX
  rw [f_X9_checked] at h
  refine go_aload_n C dX9_checked_0 rfl rfl ?_
  refine go_iload_n C dX9_checked_1 rfl rfl ?_
  refine go_iconst C dX9_checked_2 ?_
  refine go_iconst C dX9_checked_3 ?_
  obtain ⟨q1, h1, h⟩ := ob_some h
  refine go_callV_xv C dX9_checked_4 (ok_X9_needRange C.hl hB h1) mv_X9_75 sh_0 rfl rfl (Nat.le_of_ble_eq_true rfl) ⟨(Nat.le_of_ble_eq_true rfl), (Nat.le_of_ble_eq_true rfl)⟩ ⟨(Nat.le_of_ble_eq_true rfl), (Nat.le_of_ble_eq_true rfl)⟩ (fun e1 he1 hB1 => ?_) (fun r1 hr1 hB1 => ?_)
  · replace h := ox_l he1 h
    cases h
    exact go_out C E (Nat.le_of_ble_eq_true rfl) (Nat.le_of_ble_eq_true rfl) rfl rfl hB1
  · replace h := ox_r hr1 h
    refine go_aload_n C dX9_checked_7 rfl rfl ?_
    refine go_iload_n C dX9_checked_8 rfl rfl ?_
    obtain ⟨q2, h2, h⟩ := ob_some h
    refine go_callV_i C dX9_checked_9 (ok_X9_pairsJudged C.hl hB1 h2) mv_X9_253 sh_0 rfl rfl (Nat.le_of_ble_eq_true rfl) ⟨(Nat.le_of_ble_eq_true rfl), (Nat.le_of_ble_eq_true rfl)⟩ ⟨(Nat.le_of_ble_eq_true rfl), (Nat.le_of_ble_eq_true rfl)⟩ (fun hB2 => ?_)
    cases h
    exact go_iret C E rfl dX9_checked_12 (Nat.le_of_ble_eq_true rfl) (Nat.le_of_ble_eq_true rfl) rfl rfl hB2
-- IntervalRouter.send(II)I
set_option maxHeartbeats 4000000 in
theorem ok_X9_send {G : gC} {l : Launch} (hl : l.stackTraces = false) {F : Nat} {v1 : Int} {v2 : Int} {M : Mem} (hB : Bd M) {res : (Nat ⊕ Int) × Mem} (h : f_X9_send F v1 v2 M = some res) : Ok G l 7 2 12 yX9_send (.code yX9_send cX9_send 3 (some .int)) [rf G 0, .int (iI v1), .int (iI v2)] M (oxI res.1) res.2 := by
  refine ok_of (ls := [some (rf G 0), some (.int (iI v1)), some (.int (iI v2))]) hl (by decide +kernel) (Nat.le_of_ble_eq_true rfl) ⟨rfl, ⟨rfl, ⟨rfl, trivial⟩⟩⟩ ?_
  intro X hX C E
  subst hX
  rw [f_X9_send] at h
  refine go_aload_n C dX9_send_0 rfl rfl ?_
  refine go_iload_n C dX9_send_1 rfl rfl ?_
  obtain ⟨q1, h1, h⟩ := ob_some h
  refine go_callV_xv C dX9_send_2 (ok_X9_needNode C.hl hB h1) mv_X9_94 sh_0 rfl rfl (Nat.le_of_ble_eq_true rfl) ⟨(Nat.le_of_ble_eq_true rfl), (Nat.le_of_ble_eq_true rfl)⟩ ⟨(Nat.le_of_ble_eq_true rfl), (Nat.le_of_ble_eq_true rfl)⟩ (fun e1 he1 hB1 => ?_) (fun r1 hr1 hB1 => ?_)
  · replace h := ox_l he1 h
    cases h
    exact go_out C E (Nat.le_of_ble_eq_true rfl) (Nat.le_of_ble_eq_true rfl) rfl rfl hB1
  · replace h := ox_r hr1 h
    refine go_aload_n C dX9_send_5 rfl rfl ?_
    refine go_iload_n C dX9_send_6 rfl rfl ?_
    obtain ⟨q2, h2, h⟩ := ob_some h
    refine go_callV_xv C dX9_send_7 (ok_X9_needNode C.hl hB1 h2) mv_X9_94 sh_0 rfl rfl (Nat.le_of_ble_eq_true rfl) ⟨(Nat.le_of_ble_eq_true rfl), (Nat.le_of_ble_eq_true rfl)⟩ ⟨(Nat.le_of_ble_eq_true rfl), (Nat.le_of_ble_eq_true rfl)⟩ (fun e2 he2 hB2 => ?_) (fun r2 hr2 hB2 => ?_)
    · replace h := ox_l he2 h
      cases h
      exact go_out C E (Nat.le_of_ble_eq_true rfl) (Nat.le_of_ble_eq_true rfl) rfl rfl hB2
    · replace h := ox_r hr2 h
      refine go_aload_n C dX9_send_10 rfl rfl ?_
      refine go_getR (o := 57) (k2 := 57) C dX9_send_11 fl_X9_57 sh_0 rfl rfl ?_
      refine go_aload_n C dX9_send_14 rfl rfl ?_
      refine go_getR (o := 1) (k2 := 1) C dX9_send_15 fl_X9_12 sh_0 rfl rfl ?_
      refine go_iload_n C dX9_send_18 rfl rfl ?_
      refine go_iload_n C dX9_send_19 rfl rfl ?_
      refine go_iconst C dX9_send_20 ?_
      obtain ⟨q3, h3, h⟩ := ob_some h
      refine go_callV_v C dX9_send_21 (ok_X2_travel C.hl hB2 h3) mv_X9_256 sh_57 rfl rfl (Nat.le_of_ble_eq_true rfl) ⟨(Nat.le_of_ble_eq_true rfl), (Nat.le_of_ble_eq_true rfl)⟩ ⟨(Nat.le_of_ble_eq_true rfl), (Nat.le_of_ble_eq_true rfl)⟩ (fun hB3 => ?_)
      refine go_aload_n C dX9_send_24 rfl rfl ?_
      refine go_getR (o := 57) (k2 := 57) C dX9_send_25 fl_X9_57 sh_0 rfl rfl ?_
      refine go_getI (z := 0) C dX9_send_28 fl_X9_260 sh_57 rfl rfl ?_
      refine go_if_eq (tgt := 44) C dX9_send_31 rfl (hB3 57 0 (by decide)) (fun hc4 => ?_) (fun hc4 => ?_)
      · replace h := ite_t hc4 h
        refine go_iconst C dX9_send_44 ?_
        cases h
        exact go_iret C E rfl dX9_send_45 (Nat.le_of_ble_eq_true rfl) (Nat.le_of_ble_eq_true rfl) rfl rfl hB3
      · replace h := ite_f hc4 h
        refine go_aload_n C dX9_send_34 rfl rfl ?_
        refine go_getR (o := 57) (k2 := 57) C dX9_send_35 fl_X9_57 sh_0 rfl rfl ?_
        refine go_getI (z := 1) C dX9_send_38 fl_X9_264 sh_57 rfl rfl ?_
        refine go_goto (tgt := 45) C dX9_send_41 rfl ?_
        cases h
        exact go_iret C E rfl dX9_send_45 (Nat.le_of_ble_eq_true rfl) (Nat.le_of_ble_eq_true rfl) rfl rfl hB3
-- IntervalRouter.wayNode(III)I
set_option maxHeartbeats 4000000 in
theorem ok_X9_wayNode {G : gC} {l : Launch} (hl : l.stackTraces = false) {F : Nat} {v1 : Int} {v2 : Int} {v3 : Int} {M : Mem} (hB : Bd M) {res : (Nat ⊕ Int) × Mem} (h : f_X9_wayNode F v1 v2 v3 M = some res) : Ok G l 7 3 18 yX9_wayNode (.code yX9_wayNode cX9_wayNode 4 (some .int)) [rf G 0, .int (iI v1), .int (iI v2), .int (iI v3)] M (oxI res.1) res.2 := by
  refine ok_of (ls := [some (rf G 0), some (.int (iI v1)), some (.int (iI v2)), some (.int (iI v3))]) hl (by decide +kernel) (Nat.le_of_ble_eq_true rfl) ⟨rfl, ⟨rfl, ⟨rfl, ⟨rfl, trivial⟩⟩⟩⟩ ?_
  intro X hX C E
  subst hX
  rw [f_X9_wayNode] at h
  obtain ⟨hp_v3, h⟩ := chk_some h
  refine go_aload_n C dX9_wayNode_0 rfl rfl ?_
  refine go_iload_n C dX9_wayNode_1 rfl rfl ?_
  obtain ⟨q1, h1, h⟩ := ob_some h
  refine go_callV_xv C dX9_wayNode_2 (ok_X9_needNode C.hl hB h1) mv_X9_94 sh_0 rfl rfl (Nat.le_of_ble_eq_true rfl) ⟨(Nat.le_of_ble_eq_true rfl), (Nat.le_of_ble_eq_true rfl)⟩ ⟨(Nat.le_of_ble_eq_true rfl), (Nat.le_of_ble_eq_true rfl)⟩ (fun e1 he1 hB1 => ?_) (fun r1 hr1 hB1 => ?_)
  · replace h := ox_l he1 h
    cases h
    exact go_out C E (Nat.le_of_ble_eq_true rfl) (Nat.le_of_ble_eq_true rfl) rfl rfl hB1
  · replace h := ox_r hr1 h
    refine go_aload_n C dX9_wayNode_5 rfl rfl ?_
    refine go_iload_n C dX9_wayNode_6 rfl rfl ?_
    obtain ⟨q2, h2, h⟩ := ob_some h
    refine go_callV_xv C dX9_wayNode_7 (ok_X9_needNode C.hl hB1 h2) mv_X9_94 sh_0 rfl rfl (Nat.le_of_ble_eq_true rfl) ⟨(Nat.le_of_ble_eq_true rfl), (Nat.le_of_ble_eq_true rfl)⟩ ⟨(Nat.le_of_ble_eq_true rfl), (Nat.le_of_ble_eq_true rfl)⟩ (fun e2 he2 hB2 => ?_) (fun r2 hr2 hB2 => ?_)
    · replace h := ox_l he2 h
      cases h
      exact go_out C E (Nat.le_of_ble_eq_true rfl) (Nat.le_of_ble_eq_true rfl) rfl rfl hB2
    · replace h := ox_r hr2 h
      refine go_iload_n C dX9_wayNode_10 rfl rfl ?_
      refine go_if_ge (tgt := 25) C dX9_wayNode_11 rfl hp_v3 (fun hc3 => ?_) (fun hc3 => ?_)
      · replace h := ite_t hc3 h
        refine go_aload_n C dX9_wayNode_25 rfl rfl ?_
        refine go_getR (o := 57) (k2 := 57) C dX9_wayNode_26 fl_X9_57 sh_0 rfl rfl ?_
        refine go_aload_n C dX9_wayNode_29 rfl rfl ?_
        refine go_getR (o := 1) (k2 := 1) C dX9_wayNode_30 fl_X9_12 sh_0 rfl rfl ?_
        refine go_iload_n C dX9_wayNode_33 rfl rfl ?_
        refine go_iload_n C dX9_wayNode_34 rfl rfl ?_
        refine go_iconst C dX9_wayNode_35 ?_
        obtain ⟨q4, h4, h⟩ := ob_some h
        refine go_callV_v C dX9_wayNode_36 (ok_X2_travel C.hl hB2 h4) mv_X9_256 sh_57 rfl rfl (Nat.le_of_ble_eq_true rfl) ⟨(Nat.le_of_ble_eq_true rfl), (Nat.le_of_ble_eq_true rfl)⟩ ⟨(Nat.le_of_ble_eq_true rfl), (Nat.le_of_ble_eq_true rfl)⟩ (fun hB4 => ?_)
        refine go_iload_n C dX9_wayNode_39 rfl rfl ?_
        refine go_aload_n C dX9_wayNode_40 rfl rfl ?_
        refine go_getR (o := 57) (k2 := 57) C dX9_wayNode_41 fl_X9_57 sh_0 rfl rfl ?_
        refine go_getI (z := 2) C dX9_wayNode_44 fl_X9_269 sh_57 rfl rfl ?_
        refine go_icmp_ge (tgt := 62) C dX9_wayNode_47 rfl hp_v3 (hB4 57 2 (by decide)) (fun hc5 => ?_) (fun hc5 => ?_)
        · replace h := ite_t hc5 h
          refine go_iconst C dX9_wayNode_62 ?_
          cases h
          exact go_iret C E rfl dX9_wayNode_63 (Nat.le_of_ble_eq_true rfl) (Nat.le_of_ble_eq_true rfl) rfl rfl hB4
        · replace h := ite_f hc5 h
          refine go_aload_n C dX9_wayNode_50 rfl rfl ?_
          refine go_getR (o := 57) (k2 := 57) C dX9_wayNode_51 fl_X9_57 sh_0 rfl rfl ?_
          refine go_getR (o := 1) (k2 := 58) C dX9_wayNode_54 fl_X9_272 sh_57 rfl rfl ?_
          refine go_iload_n C dX9_wayNode_57 rfl rfl ?_
          obtain ⟨hc6, h⟩ := chk_some h
          refine go_iald C dX9_wayNode_58 sh_58 (by decide) hc6 ?_
          refine go_goto (tgt := 63) C dX9_wayNode_59 rfl ?_
          cases h
          exact go_iret C E rfl dX9_wayNode_63 (Nat.le_of_ble_eq_true rfl) (Nat.le_of_ble_eq_true rfl) rfl rfl hB4
      · replace h := ite_f hc3 h
        cases h
        exact go_throwW C E TH_0 (show (267, "the place is negative") ∈ stT by decide +kernel) dX9_wayNode_14 dX9_wayNode_17 dX9_wayNode_18 dX9_wayNode_21 dX9_wayNode_24 (Nat.le_of_ble_eq_true rfl) (Nat.le_of_ble_eq_true rfl) (Nat.le_of_ble_eq_true rfl) (Nat.le_of_ble_eq_true rfl) rfl rfl hB2
-- IntervalRouter.arrives(III)Z
set_option maxHeartbeats 4000000 in
theorem ok_X9_arrives {G : gC} {l : Launch} (hl : l.stackTraces = false) {F : Nat} {v1 : Int} {v2 : Int} {v3 : Int} {M : Mem} (hB : Bd M) {res : Int × Mem} (h : f_X9_arrives F v1 v2 v3 M = some res) : Ok G l 3 0 0 yX9_arrives (.code yX9_arrives cX9_arrives 4 (some .boolean)) [rf G 0, .int (iI v1), .int (iI v2), .int (iI v3)] M (.inr (some (.int (iI res.1)))) res.2 := by
  refine ok_of (ls := [some (rf G 0), some (.int (iI v1)), some (.int (iI v2)), some (.int (iI v3))]) hl (by decide +kernel) (Nat.le_of_ble_eq_true rfl) ⟨rfl, ⟨rfl, ⟨rfl, ⟨rfl, trivial⟩⟩⟩⟩ ?_
  intro X hX C E
  subst hX
  rw [f_X9_arrives] at h
  refine go_aload_n C dX9_arrives_0 rfl rfl ?_
  refine go_getR (o := 57) (k2 := 57) C dX9_arrives_1 fl_X9_57 sh_0 rfl rfl ?_
  refine go_aload_n C dX9_arrives_4 rfl rfl ?_
  refine go_getR (o := 1) (k2 := 1) C dX9_arrives_5 fl_X9_12 sh_0 rfl rfl ?_
  refine go_iload_n C dX9_arrives_8 rfl rfl ?_
  refine go_iload_n C dX9_arrives_9 rfl rfl ?_
  refine go_iload_n C dX9_arrives_10 rfl rfl ?_
  obtain ⟨q1, h1, h⟩ := ob_some h
  refine go_callV_v C dX9_arrives_11 (ok_X2_travel C.hl hB h1) mv_X9_256 sh_57 rfl rfl (Nat.le_of_ble_eq_true rfl) ⟨(Nat.le_of_ble_eq_true rfl), (Nat.le_of_ble_eq_true rfl)⟩ ⟨(Nat.le_of_ble_eq_true rfl), (Nat.le_of_ble_eq_true rfl)⟩ (fun hB1 => ?_)
  refine go_aload_n C dX9_arrives_14 rfl rfl ?_
  refine go_getR (o := 57) (k2 := 57) C dX9_arrives_15 fl_X9_57 sh_0 rfl rfl ?_
  refine go_getI (z := 0) C dX9_arrives_18 fl_X9_260 sh_57 rfl rfl ?_
  obtain ⟨hc2, h⟩ := chk_some h
  cases h
  exact go_zret C E rfl dX9_arrives_21 hc2 (Nat.le_of_ble_eq_true rfl) (Nat.le_of_ble_eq_true rfl) rfl rfl hB1
-- IntervalRouter.arriving()I
set_option maxHeartbeats 4000000 in
theorem w_X9_arriving_17 {G : gC} {X : gX} {res : Int × Mem} {F : Nat} (C : Cx G X cX9_arriving 4 RX9 4 0 0 (some .int) []) (E : Fnl G X 0 0 (.inr (some (.int (iI res.1)))) res.2) {k4 : Int → Int → Mem → Option (Int × Mem)} (hk4 : ∀ (v1 : Int) (v2 : Int) (M : Mem), Bd M → k4 v1 v2 M = some res → Go G X 4 0 0 4 [some (rf G 0), some (.int (iI v1)), some (.int (iI v2)), none] [] M) : ∀ (fu : Nat) (v1 : Int) (v2 : Int) (v3 : Int) (M : Mem), Bd M → f_X9_arriving_17 F k4 fu v1 v2 v3 M = some res → Go G X 4 0 0 17 [some (rf G 0), some (.int (iI v1)), some (.int (iI v2)), some (.int (iI v3))] [] M := by
  intro fu
  induction fu with
  | zero => intro v1 v2 v3 M hB h; exact nomatch (show (none : Option (Int × Mem)) = some res from h)
  | succ fu ih =>
    intro v1 v2 v3 M hB h
    rw [f_X9_arriving_17] at h
    obtain ⟨⟨hp_v2, hp_v3⟩, h⟩ := chk_some h
    refine go_iload_n C dX9_arriving_17 rfl rfl ?_
    refine go_aload_n C dX9_arriving_18 rfl rfl ?_
    refine go_getR (o := 1) (k2 := 1) C dX9_arriving_19 fl_X9_12 sh_0 rfl rfl ?_
    refine go_getI (z := 0) C dX9_arriving_22 fl_X9_126 sh_1 rfl rfl ?_
    refine go_icmp_ge (tgt := 52) C dX9_arriving_25 rfl hp_v3 (hB 1 0 (by decide)) (fun hc2 => ?_) (fun hc2 => ?_)
    · replace h := ite_t hc2 h
      refine go_iinc (ls2 := [some (rf G 0), some (.int (iI v1)), some (.int (iI (v2 + 1))), some (.int (iI v3))]) C dX9_arriving_52 rfl (Nat.le_of_ble_eq_true rfl) rfl ?_
      refine go_goto (tgt := 4) C dX9_arriving_55 rfl ?_
      refine go_weak (ls' := [some (rf G 0), some (.int (iI v1)), some (.int (iI (v2 + 1))), none]) ⟨rfl, ⟨rfl, ⟨rfl, trivial⟩⟩⟩ ?_
      exact hk4 v1 (v2 + 1) M hB h
    · replace h := ite_f hc2 h
      refine go_iload_n C dX9_arriving_28 rfl rfl ?_
      refine go_iload_n C dX9_arriving_29 rfl rfl ?_
      refine go_icmp_eq (tgt := 46) C dX9_arriving_30 rfl hp_v2 hp_v3 (fun hc3 => ?_) (fun hc3 => ?_)
      · replace h := ite_t hc3 h
        refine go_iinc (ls2 := [some (rf G 0), some (.int (iI v1)), some (.int (iI v2)), some (.int (iI (v3 + 1)))]) C dX9_arriving_46 rfl (Nat.le_of_ble_eq_true rfl) rfl ?_
        refine go_goto (tgt := 17) C dX9_arriving_49 rfl ?_
        exact ih v1 v2 (v3 + 1) M hB h
      · replace h := ite_f hc3 h
        refine go_aload_n C dX9_arriving_33 rfl rfl ?_
        refine go_iload_n C dX9_arriving_34 rfl rfl ?_
        refine go_iload_n C dX9_arriving_35 rfl rfl ?_
        refine go_iconst C dX9_arriving_36 ?_
        obtain ⟨q4, h4, h⟩ := ob_some h
        refine go_callV_i C dX9_arriving_37 (ok_X9_arrives C.hl hB h4) mv_X9_275 sh_0 rfl rfl (Nat.le_of_ble_eq_true rfl) ⟨(Nat.le_of_ble_eq_true rfl), (Nat.le_of_ble_eq_true rfl)⟩ ⟨(Nat.le_of_ble_eq_true rfl), (Nat.le_of_ble_eq_true rfl)⟩ (fun hB4 => ?_)
        obtain ⟨hc5, h⟩ := chk_some h
        refine go_if_eq (tgt := 46) C dX9_arriving_40 rfl hc5 (fun hc6 => ?_) (fun hc6 => ?_)
        · replace h := ite_t hc6 h
          refine go_iinc (ls2 := [some (rf G 0), some (.int (iI v1)), some (.int (iI v2)), some (.int (iI (v3 + 1)))]) C dX9_arriving_46 rfl (Nat.le_of_ble_eq_true rfl) rfl ?_
          refine go_goto (tgt := 17) C dX9_arriving_49 rfl ?_
          exact ih v1 v2 (v3 + 1) q4.2 hB4 h
        · replace h := ite_f hc6 h
          refine go_iinc (ls2 := [some (rf G 0), some (.int (iI (v1 + 1))), some (.int (iI v2)), some (.int (iI v3))]) C dX9_arriving_43 rfl (Nat.le_of_ble_eq_true rfl) rfl ?_
          refine go_iinc (ls2 := [some (rf G 0), some (.int (iI (v1 + 1))), some (.int (iI v2)), some (.int (iI (v3 + 1)))]) C dX9_arriving_46 rfl (Nat.le_of_ble_eq_true rfl) rfl ?_
          refine go_goto (tgt := 17) C dX9_arriving_49 rfl ?_
          exact ih (v1 + 1) v2 (v3 + 1) q4.2 hB4 h
set_option maxHeartbeats 4000000 in
theorem w_X9_arriving_4 {G : gC} {X : gX} {res : Int × Mem} {F : Nat} (C : Cx G X cX9_arriving 4 RX9 4 0 0 (some .int) []) (E : Fnl G X 0 0 (.inr (some (.int (iI res.1)))) res.2) : ∀ (fu : Nat) (v1 : Int) (v2 : Int) (M : Mem), Bd M → f_X9_arriving_4 F fu v1 v2 M = some res → Go G X 4 0 0 4 [some (rf G 0), some (.int (iI v1)), some (.int (iI v2)), none] [] M := by
  intro fu
  induction fu with
  | zero => intro v1 v2 M hB h; exact nomatch (show (none : Option (Int × Mem)) = some res from h)
  | succ fu ih =>
    intro v1 v2 M hB h
    rw [f_X9_arriving_4] at h
    obtain ⟨hp_v2, h⟩ := chk_some h
    refine go_iload_n C dX9_arriving_4 rfl rfl ?_
    refine go_aload_n C dX9_arriving_5 rfl rfl ?_
    refine go_getR (o := 1) (k2 := 1) C dX9_arriving_6 fl_X9_12 sh_0 rfl rfl ?_
    refine go_getI (z := 0) C dX9_arriving_9 fl_X9_126 sh_1 rfl rfl ?_
    refine go_icmp_ge (tgt := 58) C dX9_arriving_12 rfl hp_v2 (hB 1 0 (by decide)) (fun hc1 => ?_) (fun hc1 => ?_)
    · replace h := ite_t hc1 h
      refine go_iload_n C dX9_arriving_58 rfl rfl ?_
      cases h
      exact go_iret C E rfl dX9_arriving_59 (Nat.le_of_ble_eq_true rfl) (Nat.le_of_ble_eq_true rfl) rfl rfl hB
    · replace h := ite_f hc1 h
      refine go_iconst C dX9_arriving_15 ?_
      refine go_istore_n (ls2 := [some (rf G 0), some (.int (iI v1)), some (.int (iI v2)), some (.int (iI 0))]) C dX9_arriving_16 rfl (Nat.le_of_ble_eq_true rfl) rfl ?_
      exact w_X9_arriving_17 C E ih F v1 v2 0 M hB h
set_option maxHeartbeats 4000000 in
theorem ok_X9_arriving {G : gC} {l : Launch} (hl : l.stackTraces = false) {F : Nat} {M : Mem} (hB : Bd M) {res : Int × Mem} (h : f_X9_arriving F M = some res) : Ok G l 4 0 0 yX9_arriving (.code yX9_arriving cX9_arriving 4 (some .int)) [rf G 0] M (.inr (some (.int (iI res.1)))) res.2 := by
  refine ok_of (ls := [some (rf G 0), none, none, none]) hl (by decide +kernel) (Nat.le_of_ble_eq_true rfl) ⟨rfl, trivial⟩ ?_
  intro X hX C E
  subst hX
  rw [f_X9_arriving] at h
  refine go_iconst C dX9_arriving_0 ?_
  refine go_istore_n (ls2 := [some (rf G 0), some (.int (iI 0)), none, none]) C dX9_arriving_1 rfl (Nat.le_of_ble_eq_true rfl) rfl ?_
  refine go_iconst C dX9_arriving_2 ?_
  refine go_istore_n (ls2 := [some (rf G 0), some (.int (iI 0)), some (.int (iI 0)), none]) C dX9_arriving_3 rfl (Nat.le_of_ble_eq_true rfl) rfl ?_
  exact w_X9_arriving_4 C E F 0 0 M hB h
-- IntervalRouter.stretch()D
set_option maxHeartbeats 4000000 in
theorem w_X9_stretch_18 {G : gC} {X : gX} {res : UInt64 × Mem} {F : Nat} (C : Cx G X cX9_stretch 8 RX9 4 0 0 (some .double) []) (E : Fnl G X 0 0 (.inr (some (.double res.1))) res.2) {k4 : UInt64 → Int → Mem → Option (UInt64 × Mem)} (hk4 : ∀ (v1 : UInt64) (v3 : Int) (M : Mem), Bd M → k4 v1 v3 M = some res → Go G X 8 0 0 4 [some (rf G 0), some (.double v1), none, some (.int (iI v3)), none, none, none, none] [] M) : ∀ (fu : Nat) (v1 : UInt64) (v3 : Int) (v4 : Int) (M : Mem), Bd M → f_X9_stretch_18 F k4 fu v1 v3 v4 M = some res → Go G X 8 0 0 18 [some (rf G 0), some (.double v1), none, some (.int (iI v3)), some (.int (iI v4)), none, none, none] [] M := by
  intro fu
  induction fu with
  | zero => intro v1 v3 v4 M hB h; exact nomatch (show (none : Option (UInt64 × Mem)) = some res from h)
  | succ fu ih =>
    intro v1 v3 v4 M hB h
    rw [f_X9_stretch_18] at h
    obtain ⟨hp_v4, h⟩ := chk_some h
    refine go_iload C dX9_stretch_18 rfl ?_
    refine go_aload_n C dX9_stretch_20 rfl rfl ?_
    refine go_getR (o := 1) (k2 := 1) C dX9_stretch_21 fl_X9_12 sh_0 rfl rfl ?_
    refine go_getI (z := 0) C dX9_stretch_24 fl_X9_126 sh_1 rfl rfl ?_
    refine go_icmp_ge (tgt := 92) C dX9_stretch_27 rfl hp_v4 (hB 1 0 (by decide)) (fun hc2 => ?_) (fun hc2 => ?_)
    · replace h := ite_t hc2 h
      refine go_iinc (ls2 := [some (rf G 0), some (.double v1), none, some (.int (iI (v3 + 1))), some (.int (iI v4)), none, none, none]) C dX9_stretch_92 rfl (Nat.le_of_ble_eq_true rfl) rfl ?_
      refine go_goto (tgt := 4) C dX9_stretch_95 rfl ?_
      refine go_weak (ls' := [some (rf G 0), some (.double v1), none, some (.int (iI (v3 + 1))), none, none, none, none]) ⟨rfl, ⟨rfl, ⟨rfl, trivial⟩⟩⟩ ?_
      exact hk4 v1 (v3 + 1) M hB h
    · replace h := ite_f hc2 h
      refine go_aload_n C dX9_stretch_30 rfl rfl ?_
      refine go_getR (o := 39) (k2 := 39) C dX9_stretch_31 fl_X9_29 sh_0 rfl rfl ?_
      refine go_iload_n C dX9_stretch_34 rfl rfl ?_
      refine go_iload C dX9_stretch_35 rfl ?_
      obtain ⟨q3, h3, h⟩ := ob_some h
      refine go_callV_i C dX9_stretch_37 (ok_X8_between C.hl hB h3) mv_X9_133 sh_39 rfl rfl (Nat.le_of_ble_eq_true rfl) ⟨(Nat.le_of_ble_eq_true rfl), (Nat.le_of_ble_eq_true rfl)⟩ ⟨(Nat.le_of_ble_eq_true rfl), (Nat.le_of_ble_eq_true rfl)⟩ (fun hB3 => ?_)
      refine go_istore (ls2 := [some (rf G 0), some (.double v1), none, some (.int (iI v3)), some (.int (iI v4)), some (.int (iI q3)), none, none]) C dX9_stretch_40 (Nat.le_of_ble_eq_true rfl) rfl ?_
      refine go_iload C dX9_stretch_42 rfl ?_
      obtain ⟨hc4, h⟩ := chk_some h
      refine go_if_le (tgt := 86) C dX9_stretch_44 rfl hc4 (fun hc5 => ?_) (fun hc5 => ?_)
      · replace h := ite_t hc5 h
        refine go_iinc (ls2 := [some (rf G 0), some (.double v1), none, some (.int (iI v3)), some (.int (iI (v4 + 1))), some (.int (iI q3)), none, none]) C dX9_stretch_86 rfl (Nat.le_of_ble_eq_true rfl) rfl ?_
        refine go_goto (tgt := 18) C dX9_stretch_89 rfl ?_
        refine go_weak (ls' := [some (rf G 0), some (.double v1), none, some (.int (iI v3)), some (.int (iI (v4 + 1))), none, none, none]) ⟨rfl, ⟨rfl, ⟨rfl, ⟨rfl, trivial⟩⟩⟩⟩ ?_
        exact ih v1 v3 (v4 + 1) M hB3 h
      · replace h := ite_f hc5 h
        refine go_aload_n C dX9_stretch_47 rfl rfl ?_
        refine go_iload_n C dX9_stretch_48 rfl rfl ?_
        refine go_iload C dX9_stretch_49 rfl ?_
        refine go_iconst C dX9_stretch_51 ?_
        obtain ⟨q6, h6, h⟩ := ob_some h
        refine go_callV_i C dX9_stretch_52 (ok_X9_arrives C.hl hB3 h6) mv_X9_275 sh_0 rfl rfl (Nat.le_of_ble_eq_true rfl) ⟨(Nat.le_of_ble_eq_true rfl), (Nat.le_of_ble_eq_true rfl)⟩ ⟨(Nat.le_of_ble_eq_true rfl), (Nat.le_of_ble_eq_true rfl)⟩ (fun hB6 => ?_)
        obtain ⟨hc7, h⟩ := chk_some h
        refine go_if_eq (tgt := 86) C dX9_stretch_55 rfl hc7 (fun hc8 => ?_) (fun hc8 => ?_)
        · replace h := ite_t hc8 h
          refine go_iinc (ls2 := [some (rf G 0), some (.double v1), none, some (.int (iI v3)), some (.int (iI (v4 + 1))), some (.int (iI q3)), none, none]) C dX9_stretch_86 rfl (Nat.le_of_ble_eq_true rfl) rfl ?_
          refine go_goto (tgt := 18) C dX9_stretch_89 rfl ?_
          refine go_weak (ls' := [some (rf G 0), some (.double v1), none, some (.int (iI v3)), some (.int (iI (v4 + 1))), none, none, none]) ⟨rfl, ⟨rfl, ⟨rfl, ⟨rfl, trivial⟩⟩⟩⟩ ?_
          exact ih v1 v3 (v4 + 1) q6.2 hB6 h
        · replace h := ite_f hc8 h
          refine go_aload_n C dX9_stretch_58 rfl rfl ?_
          refine go_getR (o := 57) (k2 := 57) C dX9_stretch_59 fl_X9_57 sh_0 rfl rfl ?_
          refine go_getI (z := 1) C dX9_stretch_62 fl_X9_264 sh_57 rfl rfl ?_
          refine go_i2d C dX9_stretch_65 ?_
          refine go_iload C dX9_stretch_66 rfl ?_
          refine go_i2d C dX9_stretch_68 ?_
          obtain ⟨hc9, h⟩ := chk_some h
          refine go_ddiv C dX9_stretch_69 hc9 ?_
          refine go_dstore (ls2 := [some (rf G 0), some (.double v1), none, some (.int (iI v3)), some (.int (iI v4)), some (.int (iI q3)), some (.double (FP.ddiv (FP.i2d (iI (q6.2 57 1))) (FP.i2d (iI q3)))), none]) C dX9_stretch_70 (Nat.le_of_ble_eq_true rfl) rfl ?_
          refine go_dload C dX9_stretch_72 rfl ?_
          refine go_dload_n C dX9_stretch_74 rfl rfl ?_
          refine go_dcmp C dX9_stretch_75 ?_
          refine go_if_le (tgt := 84) C dX9_stretch_76 rfl (iI_inR _) (fun hc10 => ?_) (fun hc10 => ?_)
          · replace h := ite_t hc10 h
            refine go_dload_n C dX9_stretch_84 rfl rfl ?_
            refine go_dstore_n (ls2 := [some (rf G 0), some (.double v1), none, some (.int (iI v3)), some (.int (iI v4)), some (.int (iI q3)), some (.double (FP.ddiv (FP.i2d (iI (q6.2 57 1))) (FP.i2d (iI q3)))), none]) C dX9_stretch_85 rfl (Nat.le_of_ble_eq_true rfl) rfl ?_
            refine go_iinc (ls2 := [some (rf G 0), some (.double v1), none, some (.int (iI v3)), some (.int (iI (v4 + 1))), some (.int (iI q3)), some (.double (FP.ddiv (FP.i2d (iI (q6.2 57 1))) (FP.i2d (iI q3)))), none]) C dX9_stretch_86 rfl (Nat.le_of_ble_eq_true rfl) rfl ?_
            refine go_goto (tgt := 18) C dX9_stretch_89 rfl ?_
            refine go_weak (ls' := [some (rf G 0), some (.double v1), none, some (.int (iI v3)), some (.int (iI (v4 + 1))), none, none, none]) ⟨rfl, ⟨rfl, ⟨rfl, ⟨rfl, trivial⟩⟩⟩⟩ ?_
            exact ih v1 v3 (v4 + 1) q6.2 hB6 h
          · replace h := ite_f hc10 h
            refine go_dload C dX9_stretch_79 rfl ?_
            refine go_goto (tgt := 85) C dX9_stretch_81 rfl ?_
            refine go_dstore_n (ls2 := [some (rf G 0), some (.double (FP.ddiv (FP.i2d (iI (q6.2 57 1))) (FP.i2d (iI q3)))), none, some (.int (iI v3)), some (.int (iI v4)), some (.int (iI q3)), some (.double (FP.ddiv (FP.i2d (iI (q6.2 57 1))) (FP.i2d (iI q3)))), none]) C dX9_stretch_85 rfl (Nat.le_of_ble_eq_true rfl) rfl ?_
            refine go_iinc (ls2 := [some (rf G 0), some (.double (FP.ddiv (FP.i2d (iI (q6.2 57 1))) (FP.i2d (iI q3)))), none, some (.int (iI v3)), some (.int (iI (v4 + 1))), some (.int (iI q3)), some (.double (FP.ddiv (FP.i2d (iI (q6.2 57 1))) (FP.i2d (iI q3)))), none]) C dX9_stretch_86 rfl (Nat.le_of_ble_eq_true rfl) rfl ?_
            refine go_goto (tgt := 18) C dX9_stretch_89 rfl ?_
            refine go_weak (ls' := [some (rf G 0), some (.double (FP.ddiv (FP.i2d (iI (q6.2 57 1))) (FP.i2d (iI q3)))), none, some (.int (iI v3)), some (.int (iI (v4 + 1))), none, none, none]) ⟨rfl, ⟨rfl, ⟨rfl, ⟨rfl, trivial⟩⟩⟩⟩ ?_
            exact ih (FP.ddiv (FP.i2d (iI (q6.2 57 1))) (FP.i2d (iI q3))) v3 (v4 + 1) q6.2 hB6 h
set_option maxHeartbeats 4000000 in
theorem w_X9_stretch_4 {G : gC} {X : gX} {res : UInt64 × Mem} {F : Nat} (C : Cx G X cX9_stretch 8 RX9 4 0 0 (some .double) []) (E : Fnl G X 0 0 (.inr (some (.double res.1))) res.2) : ∀ (fu : Nat) (v1 : UInt64) (v3 : Int) (M : Mem), Bd M → f_X9_stretch_4 F fu v1 v3 M = some res → Go G X 8 0 0 4 [some (rf G 0), some (.double v1), none, some (.int (iI v3)), none, none, none, none] [] M := by
  intro fu
  induction fu with
  | zero => intro v1 v3 M hB h; exact nomatch (show (none : Option (UInt64 × Mem)) = some res from h)
  | succ fu ih =>
    intro v1 v3 M hB h
    rw [f_X9_stretch_4] at h
    obtain ⟨hp_v3, h⟩ := chk_some h
    refine go_iload_n C dX9_stretch_4 rfl rfl ?_
    refine go_aload_n C dX9_stretch_5 rfl rfl ?_
    refine go_getR (o := 1) (k2 := 1) C dX9_stretch_6 fl_X9_12 sh_0 rfl rfl ?_
    refine go_getI (z := 0) C dX9_stretch_9 fl_X9_126 sh_1 rfl rfl ?_
    refine go_icmp_ge (tgt := 98) C dX9_stretch_12 rfl hp_v3 (hB 1 0 (by decide)) (fun hc1 => ?_) (fun hc1 => ?_)
    · replace h := ite_t hc1 h
      refine go_dload_n C dX9_stretch_98 rfl rfl ?_
      cases h
      exact go_dret C E rfl dX9_stretch_99 (Nat.le_of_ble_eq_true rfl) (Nat.le_of_ble_eq_true rfl) rfl rfl hB
    · replace h := ite_f hc1 h
      refine go_iconst C dX9_stretch_15 ?_
      refine go_istore (ls2 := [some (rf G 0), some (.double v1), none, some (.int (iI v3)), some (.int (iI 0)), none, none, none]) C dX9_stretch_16 (Nat.le_of_ble_eq_true rfl) rfl ?_
      exact w_X9_stretch_18 C E ih F v1 v3 0 M hB h
set_option maxHeartbeats 4000000 in
theorem ok_X9_stretch {G : gC} {l : Launch} (hl : l.stackTraces = false) {F : Nat} {M : Mem} (hB : Bd M) {res : UInt64 × Mem} (h : f_X9_stretch F M = some res) : Ok G l 4 0 0 yX9_stretch (.code yX9_stretch cX9_stretch 8 (some .double)) [rf G 0] M (.inr (some (.double res.1))) res.2 := by
  refine ok_of (ls := [some (rf G 0), none, none, none, none, none, none, none]) hl (by decide +kernel) (Nat.le_of_ble_eq_true rfl) ⟨rfl, trivial⟩ ?_
  intro X hX C E
  subst hX
  rw [f_X9_stretch] at h
  refine go_dconst0 C dX9_stretch_0 ?_
  refine go_dstore_n (ls2 := [some (rf G 0), some (.double 0), none, none, none, none, none, none]) C dX9_stretch_1 rfl (Nat.le_of_ble_eq_true rfl) rfl ?_
  refine go_iconst C dX9_stretch_2 ?_
  refine go_istore_n (ls2 := [some (rf G 0), some (.double 0), none, some (.int (iI 0)), none, none, none, none]) C dX9_stretch_3 rfl (Nat.le_of_ble_eq_true rfl) rfl ?_
  exact w_X9_stretch_4 C E F 0 0 M hB h
-- IntervalRouter.load(I)I
set_option maxHeartbeats 4000000 in
theorem w_X9_load_23 {G : gC} {X : gX} {res : (Nat ⊕ Int) × Mem} {F : Nat} (C : Cx G X cX9_load 5 RX9 7 1 6 (some .int) []) (E : Fnl G X 1 6 (oxI res.1) res.2) {k9 : Int → Int → Int → Mem → Option ((Nat ⊕ Int) × Mem)} (hk9 : ∀ (v1 : Int) (v2 : Int) (v3 : Int) (M : Mem), Bd M → k9 v1 v2 v3 M = some res → Go G X 5 1 6 9 [some (rf G 0), some (.int (iI v1)), some (.int (iI v2)), some (.int (iI v3)), none] [] M) : ∀ (fu : Nat) (v1 : Int) (v2 : Int) (v3 : Int) (v4 : Int) (M : Mem), Bd M → f_X9_load_23 F k9 fu v1 v2 v3 v4 M = some res → Go G X 5 1 6 23 [some (rf G 0), some (.int (iI v1)), some (.int (iI v2)), some (.int (iI v3)), some (.int (iI v4))] [] M := by
  intro fu
  induction fu with
  | zero => intro v1 v2 v3 v4 M hB h; exact nomatch (show (none : Option ((Nat ⊕ Int) × Mem)) = some res from h)
  | succ fu ih =>
    intro v1 v2 v3 v4 M hB h
    rw [f_X9_load_23] at h
    obtain ⟨⟨hp_v3, hp_v4⟩, h⟩ := chk_some h
    refine go_iload C dX9_load_23 rfl ?_
    refine go_aload_n C dX9_load_25 rfl rfl ?_
    refine go_getR (o := 1) (k2 := 1) C dX9_load_26 fl_X9_12 sh_0 rfl rfl ?_
    refine go_getI (z := 0) C dX9_load_29 fl_X9_126 sh_1 rfl rfl ?_
    refine go_icmp_ge (tgt := 72) C dX9_load_32 rfl hp_v4 (hB 1 0 (by decide)) (fun hc3 => ?_) (fun hc3 => ?_)
    · replace h := ite_t hc3 h
      refine go_iinc (ls2 := [some (rf G 0), some (.int (iI v1)), some (.int (iI v2)), some (.int (iI (v3 + 1))), some (.int (iI v4))]) C dX9_load_72 rfl (Nat.le_of_ble_eq_true rfl) rfl ?_
      refine go_goto (tgt := 9) C dX9_load_75 rfl ?_
      refine go_weak (ls' := [some (rf G 0), some (.int (iI v1)), some (.int (iI v2)), some (.int (iI (v3 + 1))), none]) ⟨rfl, ⟨rfl, ⟨rfl, ⟨rfl, trivial⟩⟩⟩⟩ ?_
      exact hk9 v1 v2 (v3 + 1) M hB h
    · replace h := ite_f hc3 h
      refine go_iload_n C dX9_load_35 rfl rfl ?_
      refine go_iload C dX9_load_36 rfl ?_
      refine go_icmp_eq (tgt := 66) C dX9_load_38 rfl hp_v3 hp_v4 (fun hc4 => ?_) (fun hc4 => ?_)
      · replace h := ite_t hc4 h
        refine go_iinc (ls2 := [some (rf G 0), some (.int (iI v1)), some (.int (iI v2)), some (.int (iI v3)), some (.int (iI (v4 + 1)))]) C dX9_load_66 rfl (Nat.le_of_ble_eq_true rfl) rfl ?_
        refine go_goto (tgt := 23) C dX9_load_69 rfl ?_
        exact ih v1 v2 v3 (v4 + 1) M hB h
      · replace h := ite_f hc4 h
        refine go_aload_n C dX9_load_41 rfl rfl ?_
        refine go_iload_n C dX9_load_42 rfl rfl ?_
        refine go_iload C dX9_load_43 rfl ?_
        refine go_iconst C dX9_load_45 ?_
        obtain ⟨q5, h5, h⟩ := ob_some h
        refine go_callV_i C dX9_load_46 (ok_X9_arrives C.hl hB h5) mv_X9_275 sh_0 rfl rfl (Nat.le_of_ble_eq_true rfl) ⟨(Nat.le_of_ble_eq_true rfl), (Nat.le_of_ble_eq_true rfl)⟩ ⟨(Nat.le_of_ble_eq_true rfl), (Nat.le_of_ble_eq_true rfl)⟩ (fun hB5 => ?_)
        obtain ⟨hc6, h⟩ := chk_some h
        refine go_if_eq (tgt := 66) C dX9_load_49 rfl hc6 (fun hc7 => ?_) (fun hc7 => ?_)
        · replace h := ite_t hc7 h
          refine go_iinc (ls2 := [some (rf G 0), some (.int (iI v1)), some (.int (iI v2)), some (.int (iI v3)), some (.int (iI (v4 + 1)))]) C dX9_load_66 rfl (Nat.le_of_ble_eq_true rfl) rfl ?_
          refine go_goto (tgt := 23) C dX9_load_69 rfl ?_
          exact ih v1 v2 v3 (v4 + 1) q5.2 hB5 h
        · replace h := ite_f hc7 h
          refine go_aload_n C dX9_load_52 rfl rfl ?_
          refine go_getR (o := 57) (k2 := 57) C dX9_load_53 fl_X9_57 sh_0 rfl rfl ?_
          refine go_iload_n C dX9_load_56 rfl rfl ?_
          obtain ⟨q8, h8, h⟩ := ob_some h
          refine go_callV_i C dX9_load_57 (ok_X2_wentOver C.hl hB5 h8) mv_X9_279 sh_57 rfl rfl (Nat.le_of_ble_eq_true rfl) ⟨(Nat.le_of_ble_eq_true rfl), (Nat.le_of_ble_eq_true rfl)⟩ ⟨(Nat.le_of_ble_eq_true rfl), (Nat.le_of_ble_eq_true rfl)⟩ (fun hB8 => ?_)
          obtain ⟨hc9, h⟩ := chk_some h
          refine go_if_eq (tgt := 66) C dX9_load_60 rfl hc9 (fun hc10 => ?_) (fun hc10 => ?_)
          · replace h := ite_t hc10 h
            refine go_iinc (ls2 := [some (rf G 0), some (.int (iI v1)), some (.int (iI v2)), some (.int (iI v3)), some (.int (iI (v4 + 1)))]) C dX9_load_66 rfl (Nat.le_of_ble_eq_true rfl) rfl ?_
            refine go_goto (tgt := 23) C dX9_load_69 rfl ?_
            exact ih v1 v2 v3 (v4 + 1) q5.2 hB8 h
          · replace h := ite_f hc10 h
            refine go_iinc (ls2 := [some (rf G 0), some (.int (iI v1)), some (.int (iI (v2 + 1))), some (.int (iI v3)), some (.int (iI v4))]) C dX9_load_63 rfl (Nat.le_of_ble_eq_true rfl) rfl ?_
            refine go_iinc (ls2 := [some (rf G 0), some (.int (iI v1)), some (.int (iI (v2 + 1))), some (.int (iI v3)), some (.int (iI (v4 + 1)))]) C dX9_load_66 rfl (Nat.le_of_ble_eq_true rfl) rfl ?_
            refine go_goto (tgt := 23) C dX9_load_69 rfl ?_
            exact ih v1 (v2 + 1) v3 (v4 + 1) q5.2 hB8 h
set_option maxHeartbeats 4000000 in
theorem w_X9_load_9 {G : gC} {X : gX} {res : (Nat ⊕ Int) × Mem} {F : Nat} (C : Cx G X cX9_load 5 RX9 7 1 6 (some .int) []) (E : Fnl G X 1 6 (oxI res.1) res.2) : ∀ (fu : Nat) (v1 : Int) (v2 : Int) (v3 : Int) (M : Mem), Bd M → f_X9_load_9 F fu v1 v2 v3 M = some res → Go G X 5 1 6 9 [some (rf G 0), some (.int (iI v1)), some (.int (iI v2)), some (.int (iI v3)), none] [] M := by
  intro fu
  induction fu with
  | zero => intro v1 v2 v3 M hB h; exact nomatch (show (none : Option ((Nat ⊕ Int) × Mem)) = some res from h)
  | succ fu ih =>
    intro v1 v2 v3 M hB h
    rw [f_X9_load_9] at h
    obtain ⟨hp_v3, h⟩ := chk_some h
    refine go_iload_n C dX9_load_9 rfl rfl ?_
    refine go_aload_n C dX9_load_10 rfl rfl ?_
    refine go_getR (o := 1) (k2 := 1) C dX9_load_11 fl_X9_12 sh_0 rfl rfl ?_
    refine go_getI (z := 0) C dX9_load_14 fl_X9_126 sh_1 rfl rfl ?_
    refine go_icmp_ge (tgt := 78) C dX9_load_17 rfl hp_v3 (hB 1 0 (by decide)) (fun hc2 => ?_) (fun hc2 => ?_)
    · replace h := ite_t hc2 h
      refine go_iload_n C dX9_load_78 rfl rfl ?_
      cases h
      exact go_iret C E rfl dX9_load_79 (Nat.le_of_ble_eq_true rfl) (Nat.le_of_ble_eq_true rfl) rfl rfl hB
    · replace h := ite_f hc2 h
      refine go_iconst C dX9_load_20 ?_
      refine go_istore (ls2 := [some (rf G 0), some (.int (iI v1)), some (.int (iI v2)), some (.int (iI v3)), some (.int (iI 0))]) C dX9_load_21 (Nat.le_of_ble_eq_true rfl) rfl ?_
      exact w_X9_load_23 C E ih F v1 v2 v3 0 M hB h
set_option maxHeartbeats 4000000 in
theorem ok_X9_load {G : gC} {l : Launch} (hl : l.stackTraces = false) {F : Nat} {v1 : Int} {M : Mem} (hB : Bd M) {res : (Nat ⊕ Int) × Mem} (h : f_X9_load F v1 M = some res) : Ok G l 7 1 6 yX9_load (.code yX9_load cX9_load 5 (some .int)) [rf G 0, .int (iI v1)] M (oxI res.1) res.2 := by
  refine ok_of (ls := [some (rf G 0), some (.int (iI v1)), none, none, none]) hl (by decide +kernel) (Nat.le_of_ble_eq_true rfl) ⟨rfl, ⟨rfl, trivial⟩⟩ ?_
  intro X hX C E
  subst hX
  rw [f_X9_load] at h
  refine go_aload_n C dX9_load_0 rfl rfl ?_
  refine go_iload_n C dX9_load_1 rfl rfl ?_
  obtain ⟨q1, h1, h⟩ := ob_some h
  refine go_callV_xv C dX9_load_2 (ok_X9_needLink C.hl hB h1) mv_X9_116 sh_0 rfl rfl (Nat.le_of_ble_eq_true rfl) ⟨(Nat.le_of_ble_eq_true rfl), (Nat.le_of_ble_eq_true rfl)⟩ ⟨(Nat.le_of_ble_eq_true rfl), (Nat.le_of_ble_eq_true rfl)⟩ (fun e1 he1 hB1 => ?_) (fun r1 hr1 hB1 => ?_)
  · replace h := ox_l he1 h
    cases h
    exact go_out C E (Nat.le_of_ble_eq_true rfl) (Nat.le_of_ble_eq_true rfl) rfl rfl hB1
  · replace h := ox_r hr1 h
    refine go_iconst C dX9_load_5 ?_
    refine go_istore_n (ls2 := [some (rf G 0), some (.int (iI v1)), some (.int (iI 0)), none, none]) C dX9_load_6 rfl (Nat.le_of_ble_eq_true rfl) rfl ?_
    refine go_iconst C dX9_load_7 ?_
    refine go_istore_n (ls2 := [some (rf G 0), some (.int (iI v1)), some (.int (iI 0)), some (.int (iI 0)), none]) C dX9_load_8 rfl (Nat.le_of_ble_eq_true rfl) rfl ?_
    exact w_X9_load_9 C E F v1 0 0 M hB1 h
-- IntervalRouter.lostWithout(I)I
set_option maxHeartbeats 4000000 in
theorem w_X9_lostWithout_23 {G : gC} {X : gX} {res : (Nat ⊕ Int) × Mem} {F : Nat} (C : Cx G X cX9_lostWithout 5 RX9 7 1 6 (some .int) []) (E : Fnl G X 1 6 (oxI res.1) res.2) {k9 : Int → Int → Int → Mem → Option ((Nat ⊕ Int) × Mem)} (hk9 : ∀ (v1 : Int) (v2 : Int) (v3 : Int) (M : Mem), Bd M → k9 v1 v2 v3 M = some res → Go G X 5 1 6 9 [some (rf G 0), some (.int (iI v1)), some (.int (iI v2)), some (.int (iI v3)), none] [] M) : ∀ (fu : Nat) (v1 : Int) (v2 : Int) (v3 : Int) (v4 : Int) (M : Mem), Bd M → f_X9_lostWithout_23 F k9 fu v1 v2 v3 v4 M = some res → Go G X 5 1 6 23 [some (rf G 0), some (.int (iI v1)), some (.int (iI v2)), some (.int (iI v3)), some (.int (iI v4))] [] M := by
  intro fu
  induction fu with
  | zero => intro v1 v2 v3 v4 M hB h; exact nomatch (show (none : Option ((Nat ⊕ Int) × Mem)) = some res from h)
  | succ fu ih =>
    intro v1 v2 v3 v4 M hB h
    rw [f_X9_lostWithout_23] at h
    obtain ⟨⟨hp_v3, hp_v4⟩, h⟩ := chk_some h
    refine go_iload C dX9_lostWithout_23 rfl ?_
    refine go_aload_n C dX9_lostWithout_25 rfl rfl ?_
    refine go_getR (o := 1) (k2 := 1) C dX9_lostWithout_26 fl_X9_12 sh_0 rfl rfl ?_
    refine go_getI (z := 0) C dX9_lostWithout_29 fl_X9_126 sh_1 rfl rfl ?_
    refine go_icmp_ge (tgt := 72) C dX9_lostWithout_32 rfl hp_v4 (hB 1 0 (by decide)) (fun hc3 => ?_) (fun hc3 => ?_)
    · replace h := ite_t hc3 h
      refine go_iinc (ls2 := [some (rf G 0), some (.int (iI v1)), some (.int (iI v2)), some (.int (iI (v3 + 1))), some (.int (iI v4))]) C dX9_lostWithout_72 rfl (Nat.le_of_ble_eq_true rfl) rfl ?_
      refine go_goto (tgt := 9) C dX9_lostWithout_75 rfl ?_
      refine go_weak (ls' := [some (rf G 0), some (.int (iI v1)), some (.int (iI v2)), some (.int (iI (v3 + 1))), none]) ⟨rfl, ⟨rfl, ⟨rfl, ⟨rfl, trivial⟩⟩⟩⟩ ?_
      exact hk9 v1 v2 (v3 + 1) M hB h
    · replace h := ite_f hc3 h
      refine go_iload_n C dX9_lostWithout_35 rfl rfl ?_
      refine go_iload C dX9_lostWithout_36 rfl ?_
      refine go_icmp_eq (tgt := 66) C dX9_lostWithout_38 rfl hp_v3 hp_v4 (fun hc4 => ?_) (fun hc4 => ?_)
      · replace h := ite_t hc4 h
        refine go_iinc (ls2 := [some (rf G 0), some (.int (iI v1)), some (.int (iI v2)), some (.int (iI v3)), some (.int (iI (v4 + 1)))]) C dX9_lostWithout_66 rfl (Nat.le_of_ble_eq_true rfl) rfl ?_
        refine go_goto (tgt := 23) C dX9_lostWithout_69 rfl ?_
        exact ih v1 v2 v3 (v4 + 1) M hB h
      · replace h := ite_f hc4 h
        refine go_aload_n C dX9_lostWithout_41 rfl rfl ?_
        refine go_iload_n C dX9_lostWithout_42 rfl rfl ?_
        refine go_iload C dX9_lostWithout_43 rfl ?_
        refine go_iconst C dX9_lostWithout_45 ?_
        obtain ⟨q5, h5, h⟩ := ob_some h
        refine go_callV_i C dX9_lostWithout_46 (ok_X9_arrives C.hl hB h5) mv_X9_275 sh_0 rfl rfl (Nat.le_of_ble_eq_true rfl) ⟨(Nat.le_of_ble_eq_true rfl), (Nat.le_of_ble_eq_true rfl)⟩ ⟨(Nat.le_of_ble_eq_true rfl), (Nat.le_of_ble_eq_true rfl)⟩ (fun hB5 => ?_)
        obtain ⟨hc6, h⟩ := chk_some h
        refine go_if_eq (tgt := 66) C dX9_lostWithout_49 rfl hc6 (fun hc7 => ?_) (fun hc7 => ?_)
        · replace h := ite_t hc7 h
          refine go_iinc (ls2 := [some (rf G 0), some (.int (iI v1)), some (.int (iI v2)), some (.int (iI v3)), some (.int (iI (v4 + 1)))]) C dX9_lostWithout_66 rfl (Nat.le_of_ble_eq_true rfl) rfl ?_
          refine go_goto (tgt := 23) C dX9_lostWithout_69 rfl ?_
          exact ih v1 v2 v3 (v4 + 1) q5.2 hB5 h
        · replace h := ite_f hc7 h
          refine go_aload_n C dX9_lostWithout_52 rfl rfl ?_
          refine go_iload_n C dX9_lostWithout_53 rfl rfl ?_
          refine go_iload C dX9_lostWithout_54 rfl ?_
          refine go_iload_n C dX9_lostWithout_56 rfl rfl ?_
          obtain ⟨q8, h8, h⟩ := ob_some h
          refine go_callV_i C dX9_lostWithout_57 (ok_X9_arrives C.hl hB5 h8) mv_X9_275 sh_0 rfl rfl (Nat.le_of_ble_eq_true rfl) ⟨(Nat.le_of_ble_eq_true rfl), (Nat.le_of_ble_eq_true rfl)⟩ ⟨(Nat.le_of_ble_eq_true rfl), (Nat.le_of_ble_eq_true rfl)⟩ (fun hB8 => ?_)
          obtain ⟨hc9, h⟩ := chk_some h
          refine go_if_ne (tgt := 66) C dX9_lostWithout_60 rfl hc9 (fun hc10 => ?_) (fun hc10 => ?_)
          · replace h := ite_f hc10 h
            refine go_iinc (ls2 := [some (rf G 0), some (.int (iI v1)), some (.int (iI v2)), some (.int (iI v3)), some (.int (iI (v4 + 1)))]) C dX9_lostWithout_66 rfl (Nat.le_of_ble_eq_true rfl) rfl ?_
            refine go_goto (tgt := 23) C dX9_lostWithout_69 rfl ?_
            exact ih v1 v2 v3 (v4 + 1) q8.2 hB8 h
          · replace h := ite_t hc10 h
            refine go_iinc (ls2 := [some (rf G 0), some (.int (iI v1)), some (.int (iI (v2 + 1))), some (.int (iI v3)), some (.int (iI v4))]) C dX9_lostWithout_63 rfl (Nat.le_of_ble_eq_true rfl) rfl ?_
            refine go_iinc (ls2 := [some (rf G 0), some (.int (iI v1)), some (.int (iI (v2 + 1))), some (.int (iI v3)), some (.int (iI (v4 + 1)))]) C dX9_lostWithout_66 rfl (Nat.le_of_ble_eq_true rfl) rfl ?_
            refine go_goto (tgt := 23) C dX9_lostWithout_69 rfl ?_
            exact ih v1 (v2 + 1) v3 (v4 + 1) q8.2 hB8 h
set_option maxHeartbeats 4000000 in
theorem w_X9_lostWithout_9 {G : gC} {X : gX} {res : (Nat ⊕ Int) × Mem} {F : Nat} (C : Cx G X cX9_lostWithout 5 RX9 7 1 6 (some .int) []) (E : Fnl G X 1 6 (oxI res.1) res.2) : ∀ (fu : Nat) (v1 : Int) (v2 : Int) (v3 : Int) (M : Mem), Bd M → f_X9_lostWithout_9 F fu v1 v2 v3 M = some res → Go G X 5 1 6 9 [some (rf G 0), some (.int (iI v1)), some (.int (iI v2)), some (.int (iI v3)), none] [] M := by
  intro fu
  induction fu with
  | zero => intro v1 v2 v3 M hB h; exact nomatch (show (none : Option ((Nat ⊕ Int) × Mem)) = some res from h)
  | succ fu ih =>
    intro v1 v2 v3 M hB h
    rw [f_X9_lostWithout_9] at h
    obtain ⟨hp_v3, h⟩ := chk_some h
    refine go_iload_n C dX9_lostWithout_9 rfl rfl ?_
    refine go_aload_n C dX9_lostWithout_10 rfl rfl ?_
    refine go_getR (o := 1) (k2 := 1) C dX9_lostWithout_11 fl_X9_12 sh_0 rfl rfl ?_
    refine go_getI (z := 0) C dX9_lostWithout_14 fl_X9_126 sh_1 rfl rfl ?_
    refine go_icmp_ge (tgt := 78) C dX9_lostWithout_17 rfl hp_v3 (hB 1 0 (by decide)) (fun hc2 => ?_) (fun hc2 => ?_)
    · replace h := ite_t hc2 h
      refine go_iload_n C dX9_lostWithout_78 rfl rfl ?_
      cases h
      exact go_iret C E rfl dX9_lostWithout_79 (Nat.le_of_ble_eq_true rfl) (Nat.le_of_ble_eq_true rfl) rfl rfl hB
    · replace h := ite_f hc2 h
      refine go_iconst C dX9_lostWithout_20 ?_
      refine go_istore (ls2 := [some (rf G 0), some (.int (iI v1)), some (.int (iI v2)), some (.int (iI v3)), some (.int (iI 0))]) C dX9_lostWithout_21 (Nat.le_of_ble_eq_true rfl) rfl ?_
      exact w_X9_lostWithout_23 C E ih F v1 v2 v3 0 M hB h
set_option maxHeartbeats 4000000 in
theorem ok_X9_lostWithout {G : gC} {l : Launch} (hl : l.stackTraces = false) {F : Nat} {v1 : Int} {M : Mem} (hB : Bd M) {res : (Nat ⊕ Int) × Mem} (h : f_X9_lostWithout F v1 M = some res) : Ok G l 7 1 6 yX9_lostWithout (.code yX9_lostWithout cX9_lostWithout 5 (some .int)) [rf G 0, .int (iI v1)] M (oxI res.1) res.2 := by
  refine ok_of (ls := [some (rf G 0), some (.int (iI v1)), none, none, none]) hl (by decide +kernel) (Nat.le_of_ble_eq_true rfl) ⟨rfl, ⟨rfl, trivial⟩⟩ ?_
  intro X hX C E
  subst hX
  rw [f_X9_lostWithout] at h
  refine go_aload_n C dX9_lostWithout_0 rfl rfl ?_
  refine go_iload_n C dX9_lostWithout_1 rfl rfl ?_
  obtain ⟨q1, h1, h⟩ := ob_some h
  refine go_callV_xv C dX9_lostWithout_2 (ok_X9_needLink C.hl hB h1) mv_X9_116 sh_0 rfl rfl (Nat.le_of_ble_eq_true rfl) ⟨(Nat.le_of_ble_eq_true rfl), (Nat.le_of_ble_eq_true rfl)⟩ ⟨(Nat.le_of_ble_eq_true rfl), (Nat.le_of_ble_eq_true rfl)⟩ (fun e1 he1 hB1 => ?_) (fun r1 hr1 hB1 => ?_)
  · replace h := ox_l he1 h
    cases h
    exact go_out C E (Nat.le_of_ble_eq_true rfl) (Nat.le_of_ble_eq_true rfl) rfl rfl hB1
  · replace h := ox_r hr1 h
    refine go_iconst C dX9_lostWithout_5 ?_
    refine go_istore_n (ls2 := [some (rf G 0), some (.int (iI v1)), some (.int (iI 0)), none, none]) C dX9_lostWithout_6 rfl (Nat.le_of_ble_eq_true rfl) rfl ?_
    refine go_iconst C dX9_lostWithout_7 ?_
    refine go_istore_n (ls2 := [some (rf G 0), some (.int (iI v1)), some (.int (iI 0)), some (.int (iI 0)), none]) C dX9_lostWithout_8 rfl (Nat.le_of_ble_eq_true rfl) rfl ?_
    exact w_X9_lostWithout_9 C E F v1 0 0 M hB1 h
-- IntervalRouter.bestCompactness()I
set_option maxHeartbeats 4000000 in
theorem ok_X9_bestCompactness {G : gC} {l : Launch} (hl : l.stackTraces = false) {F : Nat} {M : Mem} (hB : Bd M) {res : (Nat ⊕ Int) × Mem} (h : f_X9_bestCompactness F M = some res) : Ok G l 7 1 6 yX9_bestCompactness (.code yX9_bestCompactness cX9_bestCompactness 1 (some .int)) [rf G 0] M (oxI res.1) res.2 := by
  refine ok_of (ls := [some (rf G 0)]) hl (by decide +kernel) (Nat.le_of_ble_eq_true rfl) ⟨rfl, trivial⟩ ?_
  intro X hX C E
  subst hX
  rw [f_X9_bestCompactness] at h
  refine go_aload_n C dX9_bestCompactness_0 rfl rfl ?_
  obtain ⟨q1, h1, h⟩ := ob_some h
  refine go_callV_xv C dX9_bestCompactness_1 (ok_X9_needSearchable C.hl hB h1) mv_X9_157 sh_0 rfl rfl (Nat.le_of_ble_eq_true rfl) ⟨(Nat.le_of_ble_eq_true rfl), (Nat.le_of_ble_eq_true rfl)⟩ ⟨(Nat.le_of_ble_eq_true rfl), (Nat.le_of_ble_eq_true rfl)⟩ (fun e1 he1 hB1 => ?_) (fun r1 hr1 hB1 => ?_)
  · replace h := ox_l he1 h
    cases h
    exact go_out C E (Nat.le_of_ble_eq_true rfl) (Nat.le_of_ble_eq_true rfl) rfl rfl hB1
  · replace h := ox_r hr1 h
    refine go_aload_n C dX9_bestCompactness_4 rfl rfl ?_
    refine go_getR (o := 51) (k2 := 51) C dX9_bestCompactness_5 fl_X9_50 sh_0 rfl rfl ?_
    refine go_aload_n C dX9_bestCompactness_8 rfl rfl ?_
    refine go_getR (o := 39) (k2 := 39) C dX9_bestCompactness_9 fl_X9_29 sh_0 rfl rfl ?_
    refine go_aload_n C dX9_bestCompactness_12 rfl rfl ?_
    refine go_getR (o := 1) (k2 := 1) C dX9_bestCompactness_13 fl_X9_12 sh_0 rfl rfl ?_
    refine go_getI (z := 0) C dX9_bestCompactness_16 fl_X9_126 sh_1 rfl rfl ?_
    refine go_aload_n C dX9_bestCompactness_19 rfl rfl ?_
    refine go_getR (o := 46) (k2 := 46) C dX9_bestCompactness_20 fl_X9_43 sh_0 rfl rfl ?_
    obtain ⟨q2, h2, h⟩ := ob_some h
    refine go_callV_v C dX9_bestCompactness_23 (ok_X5_ensure C.hl hB1 h2) mv_X9_171 sh_51 rfl rfl (Nat.le_of_ble_eq_true rfl) ⟨(Nat.le_of_ble_eq_true rfl), (Nat.le_of_ble_eq_true rfl)⟩ ⟨(Nat.le_of_ble_eq_true rfl), (Nat.le_of_ble_eq_true rfl)⟩ (fun hB2 => ?_)
    refine go_aload_n C dX9_bestCompactness_26 rfl rfl ?_
    refine go_getR (o := 51) (k2 := 51) C dX9_bestCompactness_27 fl_X9_50 sh_0 rfl rfl ?_
    refine go_getI (z := 0) C dX9_bestCompactness_30 fl_X9_282 sh_51 rfl rfl ?_
    cases h
    exact go_iret C E rfl dX9_bestCompactness_33 (Nat.le_of_ble_eq_true rfl) (Nat.le_of_ble_eq_true rfl) rfl rfl hB2
-- IntervalRouter.labelings(I)I
set_option maxHeartbeats 4000000 in
theorem ok_X9_labelings {G : gC} {l : Launch} (hl : l.stackTraces = false) {F : Nat} {v1 : Int} {M : Mem} (hB : Bd M) {res : (Nat ⊕ Int) × Mem} (h : f_X9_labelings F v1 M = some res) : Ok G l 7 2 12 yX9_labelings (.code yX9_labelings cX9_labelings 2 (some .int)) [rf G 0, .int (iI v1)] M (oxI res.1) res.2 := by
  refine ok_of (ls := [some (rf G 0), some (.int (iI v1))]) hl (by decide +kernel) (Nat.le_of_ble_eq_true rfl) ⟨rfl, ⟨rfl, trivial⟩⟩ ?_
  intro X hX C E
  subst hX
  rw [f_X9_labelings] at h
  refine go_aload_n C dX9_labelings_0 rfl rfl ?_
  refine go_iload_n C dX9_labelings_1 rfl rfl ?_
  refine go_iconst C dX9_labelings_2 ?_
  refine go_bipush C dX9_labelings_3 (by decide +kernel) ?_
  obtain ⟨q1, h1, h⟩ := ob_some h
  refine go_callV_xv C dX9_labelings_5 (ok_X9_needRange C.hl hB h1) mv_X9_75 sh_0 rfl rfl (Nat.le_of_ble_eq_true rfl) ⟨(Nat.le_of_ble_eq_true rfl), (Nat.le_of_ble_eq_true rfl)⟩ ⟨(Nat.le_of_ble_eq_true rfl), (Nat.le_of_ble_eq_true rfl)⟩ (fun e1 he1 hB1 => ?_) (fun r1 hr1 hB1 => ?_)
  · replace h := ox_l he1 h
    cases h
    exact go_out C E (Nat.le_of_ble_eq_true rfl) (Nat.le_of_ble_eq_true rfl) rfl rfl hB1
  · replace h := ox_r hr1 h
    refine go_aload_n C dX9_labelings_8 rfl rfl ?_
    obtain ⟨q2, h2, h⟩ := ob_some h
    refine go_callV_xv C dX9_labelings_9 (ok_X9_needSearchable C.hl hB1 h2) mv_X9_157 sh_0 rfl rfl (Nat.le_of_ble_eq_true rfl) ⟨(Nat.le_of_ble_eq_true rfl), (Nat.le_of_ble_eq_true rfl)⟩ ⟨(Nat.le_of_ble_eq_true rfl), (Nat.le_of_ble_eq_true rfl)⟩ (fun e2 he2 hB2 => ?_) (fun r2 hr2 hB2 => ?_)
    · replace h := ox_l he2 h
      cases h
      exact go_out C E (Nat.le_of_ble_eq_true rfl) (Nat.le_of_ble_eq_true rfl) rfl rfl hB2
    · replace h := ox_r hr2 h
      refine go_aload_n C dX9_labelings_12 rfl rfl ?_
      refine go_getR (o := 51) (k2 := 51) C dX9_labelings_13 fl_X9_50 sh_0 rfl rfl ?_
      refine go_aload_n C dX9_labelings_16 rfl rfl ?_
      refine go_getR (o := 39) (k2 := 39) C dX9_labelings_17 fl_X9_29 sh_0 rfl rfl ?_
      refine go_aload_n C dX9_labelings_20 rfl rfl ?_
      refine go_getR (o := 1) (k2 := 1) C dX9_labelings_21 fl_X9_12 sh_0 rfl rfl ?_
      refine go_getI (z := 0) C dX9_labelings_24 fl_X9_126 sh_1 rfl rfl ?_
      refine go_aload_n C dX9_labelings_27 rfl rfl ?_
      refine go_getR (o := 46) (k2 := 46) C dX9_labelings_28 fl_X9_43 sh_0 rfl rfl ?_
      obtain ⟨q3, h3, h⟩ := ob_some h
      refine go_callV_v C dX9_labelings_31 (ok_X5_ensure C.hl hB2 h3) mv_X9_171 sh_51 rfl rfl (Nat.le_of_ble_eq_true rfl) ⟨(Nat.le_of_ble_eq_true rfl), (Nat.le_of_ble_eq_true rfl)⟩ ⟨(Nat.le_of_ble_eq_true rfl), (Nat.le_of_ble_eq_true rfl)⟩ (fun hB3 => ?_)
      refine go_aload_n C dX9_labelings_34 rfl rfl ?_
      refine go_getR (o := 51) (k2 := 51) C dX9_labelings_35 fl_X9_50 sh_0 rfl rfl ?_
      refine go_iload_n C dX9_labelings_38 rfl rfl ?_
      obtain ⟨q4, h4, h⟩ := ob_some h
      refine go_callV_i C dX9_labelings_39 (ok_X5_countUpTo C.hl hB3 h4) mv_X9_285 sh_51 rfl rfl (Nat.le_of_ble_eq_true rfl) ⟨(Nat.le_of_ble_eq_true rfl), (Nat.le_of_ble_eq_true rfl)⟩ ⟨(Nat.le_of_ble_eq_true rfl), (Nat.le_of_ble_eq_true rfl)⟩ (fun hB4 => ?_)
      cases h
      exact go_iret C E rfl dX9_labelings_42 (Nat.le_of_ble_eq_true rfl) (Nat.le_of_ble_eq_true rfl) rfl rfl hB4
-- IntervalRouter.append(I)I
set_option maxHeartbeats 4000000 in
theorem ok_X9_append {G : gC} {l : Launch} (hl : l.stackTraces = false) {v1 : Int} {M : Mem} (hB : Bd M) {res : (Nat ⊕ Int) × Mem} (h : f_X9_append v1 M = some res) : Ok G l 7 2 12 yX9_append (.code yX9_append cX9_append 2 (some .int)) [rf G 0, .int (iI v1)] M (oxI res.1) res.2 := by
  refine ok_of (ls := [some (rf G 0), some (.int (iI v1))]) hl (by decide +kernel) (Nat.le_of_ble_eq_true rfl) ⟨rfl, ⟨rfl, trivial⟩⟩ ?_
  intro X hX C E
  subst hX
  rw [f_X9_append] at h
  refine go_aload_n C dX9_append_0 rfl rfl ?_
  refine go_iload_n C dX9_append_1 rfl rfl ?_
  refine go_iconst C dX9_append_2 ?_
  refine go_bipush C dX9_append_3 (by decide +kernel) ?_
  obtain ⟨q1, h1, h⟩ := ob_some h
  refine go_callV_xv C dX9_append_5 (ok_X9_needRange C.hl hB h1) mv_X9_75 sh_0 rfl rfl (Nat.le_of_ble_eq_true rfl) ⟨(Nat.le_of_ble_eq_true rfl), (Nat.le_of_ble_eq_true rfl)⟩ ⟨(Nat.le_of_ble_eq_true rfl), (Nat.le_of_ble_eq_true rfl)⟩ (fun e1 he1 hB1 => ?_) (fun r1 hr1 hB1 => ?_)
  · replace h := ox_l he1 h
    cases h
    exact go_out C E (Nat.le_of_ble_eq_true rfl) (Nat.le_of_ble_eq_true rfl) rfl rfl hB1
  · replace h := ox_r hr1 h
    refine go_aload_n C dX9_append_8 rfl rfl ?_
    refine go_getR (o := 62) (k2 := 62) C dX9_append_9 fl_X9_71 sh_0 rfl rfl ?_
    refine go_getI (z := 0) C dX9_append_12 fl_X9_288 sh_62 rfl rfl ?_
    refine go_bipush C dX9_append_15 (by decide +kernel) ?_
    refine go_icmp_lt (tgt := 31) C dX9_append_17 rfl (hB1 62 0 (by decide)) (by decide) (fun hc2 => ?_) (fun hc2 => ?_)
    · replace h := ite_t hc2 h
      refine go_aload_n C dX9_append_31 rfl rfl ?_
      refine go_getR (o := 62) (k2 := 62) C dX9_append_32 fl_X9_71 sh_0 rfl rfl ?_
      refine go_iload_n C dX9_append_35 rfl rfl ?_
      obtain ⟨q3, h3, h⟩ := ob_some h
      refine go_callV_v C dX9_append_36 (ok_X3_put C.hl hB1 h3) mv_X9_293 sh_62 rfl rfl (Nat.le_of_ble_eq_true rfl) ⟨(Nat.le_of_ble_eq_true rfl), (Nat.le_of_ble_eq_true rfl)⟩ ⟨(Nat.le_of_ble_eq_true rfl), (Nat.le_of_ble_eq_true rfl)⟩ (fun hB3 => ?_)
      refine go_aload_n C dX9_append_39 rfl rfl ?_
      refine go_getR (o := 62) (k2 := 62) C dX9_append_40 fl_X9_71 sh_0 rfl rfl ?_
      refine go_getI (z := 0) C dX9_append_43 fl_X9_288 sh_62 rfl rfl ?_
      cases h
      exact go_iret C E rfl dX9_append_46 (Nat.le_of_ble_eq_true rfl) (Nat.le_of_ble_eq_true rfl) rfl rfl hB3
    · replace h := ite_f hc2 h
      cases h
      exact go_throwW C E TH_2 (show (291, "the text has 100 bytes") ∈ stT by decide +kernel) dX9_append_20 dX9_append_23 dX9_append_24 dX9_append_27 dX9_append_30 (Nat.le_of_ble_eq_true rfl) (Nat.le_of_ble_eq_true rfl) (Nat.le_of_ble_eq_true rfl) (Nat.le_of_ble_eq_true rfl) rfl rfl hB1
-- IntervalRouter.clearText()I
set_option maxHeartbeats 4000000 in
theorem ok_X9_clearText {G : gC} {l : Launch} (hl : l.stackTraces = false) {M : Mem} (hB : Bd M) {res : Int × Mem} (h : f_X9_clearText M = some res) : Ok G l 0 0 0 yX9_clearText (.code yX9_clearText cX9_clearText 2 (some .int)) [rf G 0] M (.inr (some (.int (iI res.1)))) res.2 := by
  refine ok_of (ls := [some (rf G 0), none]) hl (by decide +kernel) (Nat.le_of_ble_eq_true rfl) ⟨rfl, trivial⟩ ?_
  intro X hX C E
  subst hX
  rw [f_X9_clearText] at h
  refine go_aload_n C dX9_clearText_0 rfl rfl ?_
  refine go_getR (o := 62) (k2 := 62) C dX9_clearText_1 fl_X9_71 sh_0 rfl rfl ?_
  refine go_getI (z := 0) C dX9_clearText_4 fl_X9_288 sh_62 rfl rfl ?_
  refine go_istore_n (ls2 := [some (rf G 0), some (.int (iI (M 62 0)))]) C dX9_clearText_7 rfl (Nat.le_of_ble_eq_true rfl) rfl ?_
  refine go_aload_n C dX9_clearText_8 rfl rfl ?_
  refine go_getR (o := 62) (k2 := 62) C dX9_clearText_9 fl_X9_71 sh_0 rfl rfl ?_
  refine go_iconst C dX9_clearText_12 ?_
  refine go_putI (z := 0) C dX9_clearText_13 fp_X9_288 sh_62 rfl rfl rfl rfl ?_
  have hB1 := hB.set 62 0 (x := 0) (by decide)
  refine go_iload_n C dX9_clearText_16 rfl rfl ?_
  cases h
  exact go_iret C E rfl dX9_clearText_17 (Nat.le_of_ble_eq_true rfl) (Nat.le_of_ble_eq_true rfl) rfl rfl hB1
-- IntervalRouter.parse()I
set_option maxHeartbeats 4000000 in
theorem ok_X9_parse {G : gC} {l : Launch} (hl : l.stackTraces = false) {F : Nat} {M : Mem} (hB : Bd M) {res : Int × Mem} (h : f_X9_parse F M = some res) : Ok G l 6 0 0 yX9_parse (.code yX9_parse cX9_parse 2 (some .int)) [rf G 0] M (.inr (some (.int (iI res.1)))) res.2 := by
  refine ok_of (ls := [some (rf G 0), none]) hl (by decide +kernel) (Nat.le_of_ble_eq_true rfl) ⟨rfl, trivial⟩ ?_
  intro X hX C E
  subst hX
  rw [f_X9_parse] at h
  refine go_aload_n C dX9_parse_0 rfl rfl ?_
  refine go_getR (o := 62) (k2 := 62) C dX9_parse_1 fl_X9_71 sh_0 rfl rfl ?_
  refine go_aload_n C dX9_parse_4 rfl rfl ?_
  refine go_getR (o := 7) (k2 := 7) C dX9_parse_5 fl_X9_16 sh_0 rfl rfl ?_
  obtain ⟨q1, h1, h⟩ := ob_some h
  refine go_callV_i C dX9_parse_8 (ok_X3_readInto C.hl hB h1) mv_X9_296 sh_62 rfl rfl (Nat.le_of_ble_eq_true rfl) ⟨(Nat.le_of_ble_eq_true rfl), (Nat.le_of_ble_eq_true rfl)⟩ ⟨(Nat.le_of_ble_eq_true rfl), (Nat.le_of_ble_eq_true rfl)⟩ (fun hB1 => ?_)
  refine go_istore_n (ls2 := [some (rf G 0), some (.int (iI q1.1))]) C dX9_parse_11 rfl (Nat.le_of_ble_eq_true rfl) rfl ?_
  refine go_iload_n C dX9_parse_12 rfl rfl ?_
  refine go_iconst C dX9_parse_13 ?_
  obtain ⟨hc2, h⟩ := chk_some h
  refine go_icmp_eq (tgt := 22) C dX9_parse_14 rfl hc2 (by decide) (fun hc3 => ?_) (fun hc3 => ?_)
  · replace h := ite_t hc3 h
    refine go_aload_n C dX9_parse_22 rfl rfl ?_
    refine go_getR (o := 13) (k2 := 13) C dX9_parse_23 fl_X9_22 sh_0 rfl rfl ?_
    refine go_aload_n C dX9_parse_26 rfl rfl ?_
    refine go_getR (o := 1) (k2 := 1) C dX9_parse_27 fl_X9_12 sh_0 rfl rfl ?_
    obtain ⟨q4, h4, h⟩ := ob_some h
    refine go_callV_v C dX9_parse_30 (ok_X0_save C.hl hB1 h4) mv_X9_83 sh_13 rfl rfl (Nat.le_of_ble_eq_true rfl) ⟨(Nat.le_of_ble_eq_true rfl), (Nat.le_of_ble_eq_true rfl)⟩ ⟨(Nat.le_of_ble_eq_true rfl), (Nat.le_of_ble_eq_true rfl)⟩ (fun hB4 => ?_)
    refine go_aload_n C dX9_parse_33 rfl rfl ?_
    refine go_getR (o := 1) (k2 := 1) C dX9_parse_34 fl_X9_12 sh_0 rfl rfl ?_
    refine go_aload_n C dX9_parse_37 rfl rfl ?_
    refine go_getR (o := 7) (k2 := 7) C dX9_parse_38 fl_X9_16 sh_0 rfl rfl ?_
    obtain ⟨q5, h5, h⟩ := ob_some h
    refine go_callV_v C dX9_parse_41 (ok_X6_copyFrom C.hl hB4 sh_1 sh_7 h5) mv_X9_300 sh_1 rfl rfl (Nat.le_of_ble_eq_true rfl) ⟨(Nat.le_of_ble_eq_true rfl), (Nat.le_of_ble_eq_true rfl)⟩ ⟨(Nat.le_of_ble_eq_true rfl), (Nat.le_of_ble_eq_true rfl)⟩ (fun hB5 => ?_)
    refine go_aload_n C dX9_parse_44 rfl rfl ?_
    obtain ⟨q6, h6, h⟩ := ob_some h
    refine go_callV_v C dX9_parse_45 (ok_X9_networkChanged C.hl hB5 h6) mv_X9_91 sh_0 rfl rfl (Nat.le_of_ble_eq_true rfl) ⟨(Nat.le_of_ble_eq_true rfl), (Nat.le_of_ble_eq_true rfl)⟩ ⟨(Nat.le_of_ble_eq_true rfl), (Nat.le_of_ble_eq_true rfl)⟩ (fun hB6 => ?_)
    refine go_aload_n C dX9_parse_48 rfl rfl ?_
    refine go_getR (o := 1) (k2 := 1) C dX9_parse_49 fl_X9_12 sh_0 rfl rfl ?_
    refine go_getI (z := 1) C dX9_parse_52 fl_X9_79 sh_1 rfl rfl ?_
    cases h
    exact go_iret C E rfl dX9_parse_55 (Nat.le_of_ble_eq_true rfl) (Nat.le_of_ble_eq_true rfl) rfl rfl hB6
  · replace h := ite_f hc3 h
    refine go_bipush C dX9_parse_17 (by decide +kernel) ?_
    refine go_iload_n C dX9_parse_19 rfl rfl ?_
    refine go_isub C dX9_parse_20 ?_
    cases h
    exact go_iret C E rfl dX9_parse_21 (Nat.le_of_ble_eq_true rfl) (Nat.le_of_ble_eq_true rfl) rfl rfl hB1
-- IntervalRouter.undo()I
set_option maxHeartbeats 4000000 in
theorem ok_X9_undo {G : gC} {l : Launch} (hl : l.stackTraces = false) {F : Nat} {M : Mem} (hB : Bd M) {res : (Nat ⊕ Int) × Mem} (h : f_X9_undo F M = some res) : Ok G l 6 1 6 yX9_undo (.code yX9_undo cX9_undo 1 (some .int)) [rf G 0] M (oxI res.1) res.2 := by
  refine ok_of (ls := [some (rf G 0)]) hl (by decide +kernel) (Nat.le_of_ble_eq_true rfl) ⟨rfl, trivial⟩ ?_
  intro X hX C E
  subst hX
  rw [f_X9_undo] at h
  refine go_aload_n C dX9_undo_0 rfl rfl ?_
  refine go_getR (o := 13) (k2 := 13) C dX9_undo_1 fl_X9_22 sh_0 rfl rfl ?_
  refine go_getI (z := 0) C dX9_undo_4 fl_X9_303 sh_13 rfl rfl ?_
  refine go_if_ne (tgt := 21) C dX9_undo_7 rfl (hB 13 0 (by decide)) (fun hc1 => ?_) (fun hc1 => ?_)
  · replace h := ite_f hc1 h
    refine go_aload_n C dX9_undo_21 rfl rfl ?_
    refine go_getR (o := 13) (k2 := 13) C dX9_undo_22 fl_X9_22 sh_0 rfl rfl ?_
    refine go_aload_n C dX9_undo_25 rfl rfl ?_
    refine go_getR (o := 1) (k2 := 1) C dX9_undo_26 fl_X9_12 sh_0 rfl rfl ?_
    obtain ⟨q2, h2, h⟩ := ob_some h
    refine go_callV_v C dX9_undo_29 (ok_X0_restore C.hl hB h2) mv_X9_308 sh_13 rfl rfl (Nat.le_of_ble_eq_true rfl) ⟨(Nat.le_of_ble_eq_true rfl), (Nat.le_of_ble_eq_true rfl)⟩ ⟨(Nat.le_of_ble_eq_true rfl), (Nat.le_of_ble_eq_true rfl)⟩ (fun hB2 => ?_)
    refine go_aload_n C dX9_undo_32 rfl rfl ?_
    obtain ⟨q3, h3, h⟩ := ob_some h
    refine go_callV_v C dX9_undo_33 (ok_X9_measureNetwork C.hl hB2 h3) mv_X9_311 sh_0 rfl rfl (Nat.le_of_ble_eq_true rfl) ⟨(Nat.le_of_ble_eq_true rfl), (Nat.le_of_ble_eq_true rfl)⟩ ⟨(Nat.le_of_ble_eq_true rfl), (Nat.le_of_ble_eq_true rfl)⟩ (fun hB3 => ?_)
    refine go_aload_n C dX9_undo_36 rfl rfl ?_
    refine go_getR (o := 13) (k2 := 13) C dX9_undo_37 fl_X9_22 sh_0 rfl rfl ?_
    refine go_getI (z := 0) C dX9_undo_40 fl_X9_303 sh_13 rfl rfl ?_
    cases h
    exact go_iret C E rfl dX9_undo_43 (Nat.le_of_ble_eq_true rfl) (Nat.le_of_ble_eq_true rfl) rfl rfl hB3
  · replace h := ite_t hc1 h
    cases h
    exact go_throwW C E TH_2 (show (306, "there is no saved state") ∈ stT by decide +kernel) dX9_undo_10 dX9_undo_13 dX9_undo_14 dX9_undo_17 dX9_undo_20 (Nat.le_of_ble_eq_true rfl) (Nat.le_of_ble_eq_true rfl) (Nat.le_of_ble_eq_true rfl) (Nat.le_of_ble_eq_true rfl) rfl rfl hB
-- IntervalRouter.digest()J
set_option maxHeartbeats 4000000 in
theorem w_X9_digest_54 {G : gC} {X : gX} {res : Int × Mem} {F : Nat} (C : Cx G X cX9_digest 4 RX9 5 0 0 (some .long) []) (E : Fnl G X 0 0 (.inr (some (.long (lI res.1)))) res.2) : ∀ (fu : Nat) (v1 : Int) (v3 : Int) (M : Mem), Bd M → f_X9_digest_54 F fu v1 v3 M = some res → Go G X 4 0 0 54 [some (rf G 0), some (.long (lI v1)), none, some (.int (iI v3))] [] M := by
  intro fu
  induction fu with
  | zero => intro v1 v3 M hB h; exact nomatch (show (none : Option (Int × Mem)) = some res from h)
  | succ fu ih =>
    intro v1 v3 M hB h
    rw [f_X9_digest_54] at h
    obtain ⟨hp_v3, h⟩ := chk_some h
    refine go_iload_n C dX9_digest_54 rfl rfl ?_
    refine go_iconst C dX9_digest_55 ?_
    refine go_icmp_ge (tgt := 78) C dX9_digest_56 rfl hp_v3 (by decide) (fun hc6 => ?_) (fun hc6 => ?_)
    · replace h := ite_t hc6 h
      refine go_ldc2 (v := 31) C dX9_digest_78 gt_577 ?_
      refine go_lload_n C dX9_digest_81 rfl rfl ?_
      refine go_lmul C dX9_digest_82 ?_
      refine go_aload_n C dX9_digest_83 rfl rfl ?_
      obtain ⟨q7, h7, h⟩ := ob_some h
      refine go_callV_i C dX9_digest_84 (ok_X9_arriving C.hl hB h7) mv_X9_325 sh_0 rfl rfl (Nat.le_of_ble_eq_true rfl) ⟨(Nat.le_of_ble_eq_true rfl), (Nat.le_of_ble_eq_true rfl)⟩ ⟨(Nat.le_of_ble_eq_true rfl), (Nat.le_of_ble_eq_true rfl)⟩ (fun hB7 => ?_)
      obtain ⟨hc8, h⟩ := chk_some h
      refine go_i2l C dX9_digest_87 hc8 ?_
      refine go_ladd C dX9_digest_88 ?_
      refine go_lstore_n (ls2 := [some (rf G 0), some (.long (lI ((31 * v1) + q7.1))), none, some (.int (iI v3))]) C dX9_digest_89 rfl (Nat.le_of_ble_eq_true rfl) rfl ?_
      refine go_ldc2 (v := 31) C dX9_digest_90 gt_577 ?_
      refine go_lload_n C dX9_digest_93 rfl rfl ?_
      refine go_lmul C dX9_digest_94 ?_
      refine go_aload_n C dX9_digest_95 rfl rfl ?_
      refine go_getR (o := 13) (k2 := 13) C dX9_digest_96 fl_X9_22 sh_0 rfl rfl ?_
      refine go_getI (z := 0) C dX9_digest_99 fl_X9_303 sh_13 rfl rfl ?_
      refine go_i2l C dX9_digest_102 (hB7 13 0 (by decide)) ?_
      refine go_ladd C dX9_digest_103 ?_
      cases h
      exact go_lret C E rfl dX9_digest_104 (Nat.le_of_ble_eq_true rfl) (Nat.le_of_ble_eq_true rfl) rfl rfl hB7
    · replace h := ite_f hc6 h
      refine go_ldc2 (v := 31) C dX9_digest_59 gt_577 ?_
      refine go_lload_n C dX9_digest_62 rfl rfl ?_
      refine go_lmul C dX9_digest_63 ?_
      refine go_aload_n C dX9_digest_64 rfl rfl ?_
      refine go_iload_n C dX9_digest_65 rfl rfl ?_
      obtain ⟨q9, h9, h⟩ := ob_some h
      refine go_callV_i C dX9_digest_66 (ok_X9_pairsJudged C.hl hB h9) mv_X9_253 sh_0 rfl rfl (Nat.le_of_ble_eq_true rfl) ⟨(Nat.le_of_ble_eq_true rfl), (Nat.le_of_ble_eq_true rfl)⟩ ⟨(Nat.le_of_ble_eq_true rfl), (Nat.le_of_ble_eq_true rfl)⟩ (fun hB9 => ?_)
      obtain ⟨hc10, h⟩ := chk_some h
      refine go_i2l C dX9_digest_69 hc10 ?_
      refine go_ladd C dX9_digest_70 ?_
      refine go_lstore_n (ls2 := [some (rf G 0), some (.long (lI ((31 * v1) + q9))), none, some (.int (iI v3))]) C dX9_digest_71 rfl (Nat.le_of_ble_eq_true rfl) rfl ?_
      refine go_iinc (ls2 := [some (rf G 0), some (.long (lI ((31 * v1) + q9))), none, some (.int (iI (v3 + 1)))]) C dX9_digest_72 rfl (Nat.le_of_ble_eq_true rfl) rfl ?_
      refine go_goto (tgt := 54) C dX9_digest_75 rfl ?_
      exact ih ((31 * v1) + q9) (v3 + 1) M hB9 h
set_option maxHeartbeats 4000000 in
theorem ok_X9_digest {G : gC} {l : Launch} (hl : l.stackTraces = false) {F : Nat} {M : Mem} (hB : Bd M) {res : Int × Mem} (h : f_X9_digest F M = some res) : Ok G l 5 0 0 yX9_digest (.code yX9_digest cX9_digest 4 (some .long)) [rf G 0] M (.inr (some (.long (lI res.1)))) res.2 := by
  refine ok_of (ls := [some (rf G 0), none, none, none]) hl (by decide +kernel) (Nat.le_of_ble_eq_true rfl) ⟨rfl, trivial⟩ ?_
  intro X hX C E
  subst hX
  rw [f_X9_digest] at h
  refine go_ldc2 (v := 3083) C dX9_digest_0 gt_576 ?_
  refine go_lstore_n (ls2 := [some (rf G 0), some (.long (lI 3083)), none, none]) C dX9_digest_3 rfl (Nat.le_of_ble_eq_true rfl) rfl ?_
  refine go_ldc2 (v := 31) C dX9_digest_4 gt_577 ?_
  refine go_lload_n C dX9_digest_7 rfl rfl ?_
  refine go_lmul C dX9_digest_8 ?_
  refine go_aload_n C dX9_digest_9 rfl rfl ?_
  refine go_getR (o := 62) (k2 := 62) C dX9_digest_10 fl_X9_71 sh_0 rfl rfl ?_
  refine go_getI (z := 0) C dX9_digest_13 fl_X9_288 sh_62 rfl rfl ?_
  refine go_i2l C dX9_digest_16 (hB 62 0 (by decide)) ?_
  refine go_ladd C dX9_digest_17 ?_
  refine go_lstore_n (ls2 := [some (rf G 0), some (.long (lI ((31 * 3083) + (M 62 0)))), none, none]) C dX9_digest_18 rfl (Nat.le_of_ble_eq_true rfl) rfl ?_
  refine go_aload_n C dX9_digest_19 rfl rfl ?_
  refine go_getR (o := 1) (k2 := 1) C dX9_digest_20 fl_X9_12 sh_0 rfl rfl ?_
  refine go_lload_n C dX9_digest_23 rfl rfl ?_
  obtain ⟨q1, h1, h⟩ := ob_some h
  refine go_callV_l C dX9_digest_24 (ok_X6_mixInto C.hl hB sh_1 h1) mv_X9_318 sh_1 rfl rfl (Nat.le_of_ble_eq_true rfl) ⟨(Nat.le_of_ble_eq_true rfl), (Nat.le_of_ble_eq_true rfl)⟩ ⟨(Nat.le_of_ble_eq_true rfl), (Nat.le_of_ble_eq_true rfl)⟩ (fun hB1 => ?_)
  refine go_lstore_n (ls2 := [some (rf G 0), some (.long (lI q1)), none, none]) C dX9_digest_27 rfl (Nat.le_of_ble_eq_true rfl) rfl ?_
  refine go_ldc2 (v := 31) C dX9_digest_28 gt_577 ?_
  refine go_lload_n C dX9_digest_31 rfl rfl ?_
  refine go_lmul C dX9_digest_32 ?_
  refine go_aload_n C dX9_digest_33 rfl rfl ?_
  obtain ⟨q2, h2, h⟩ := ob_some h
  refine go_callV_i C dX9_digest_34 (ok_X9_networkSize C.hl hB1 h2) mv_X9_239 sh_0 rfl rfl (Nat.le_of_ble_eq_true rfl) ⟨(Nat.le_of_ble_eq_true rfl), (Nat.le_of_ble_eq_true rfl)⟩ ⟨(Nat.le_of_ble_eq_true rfl), (Nat.le_of_ble_eq_true rfl)⟩ (fun hB2 => ?_)
  obtain ⟨hc3, h⟩ := chk_some h
  refine go_i2l C dX9_digest_37 hc3 ?_
  refine go_ladd C dX9_digest_38 ?_
  refine go_lstore_n (ls2 := [some (rf G 0), some (.long (lI ((31 * q1) + q2.1))), none, none]) C dX9_digest_39 rfl (Nat.le_of_ble_eq_true rfl) rfl ?_
  refine go_ldc2 (v := 31) C dX9_digest_40 gt_577 ?_
  refine go_lload_n C dX9_digest_43 rfl rfl ?_
  refine go_lmul C dX9_digest_44 ?_
  refine go_aload_n C dX9_digest_45 rfl rfl ?_
  obtain ⟨q4, h4, h⟩ := ob_some h
  refine go_callV_i C dX9_digest_46 (ok_X9_compactness C.hl hB2 h4) mv_X9_322 sh_0 rfl rfl (Nat.le_of_ble_eq_true rfl) ⟨(Nat.le_of_ble_eq_true rfl), (Nat.le_of_ble_eq_true rfl)⟩ ⟨(Nat.le_of_ble_eq_true rfl), (Nat.le_of_ble_eq_true rfl)⟩ (fun hB4 => ?_)
  obtain ⟨hc5, h⟩ := chk_some h
  refine go_i2l C dX9_digest_49 hc5 ?_
  refine go_ladd C dX9_digest_50 ?_
  refine go_lstore_n (ls2 := [some (rf G 0), some (.long (lI ((31 * ((31 * q1) + q2.1)) + q4.1))), none, none]) C dX9_digest_51 rfl (Nat.le_of_ble_eq_true rfl) rfl ?_
  refine go_iconst C dX9_digest_52 ?_
  refine go_istore_n (ls2 := [some (rf G 0), some (.long (lI ((31 * ((31 * q1) + q2.1)) + q4.1))), none, some (.int (iI 0))]) C dX9_digest_53 rfl (Nat.le_of_ble_eq_true rfl) rfl ?_
  exact w_X9_digest_54 C E F ((31 * ((31 * q1) + q2.1)) + q4.1) 0 q4.2 hB4 h
