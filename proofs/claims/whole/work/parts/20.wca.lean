-- IntervalRouter$History.dropOldest()V
set_option maxHeartbeats 4000000 in
theorem w_X0_dropOldest_9 {G : gC} {X : gX} {res : Mem} {F : Nat} (C : Cx G X cX0_dropOldest 3 RX0 0 0 0 none []) (E : Fnl G X 0 0 (.inr none) res) : ∀ (fu : Nat) (a1 : Nat) (v2 : Int) (M : Mem), Bd M → f_X0_dropOldest_9 F fu a1 v2 M = some res → Go G X 3 0 0 9 [some (rf G 13), some (rf G a1), some (.int (iI v2))] [] M := by
  intro fu
  induction fu with
  | zero => intro a1 v2 M hB h; exact nomatch (show (none : Option (Mem)) = some res from h)
  | succ fu ih =>
    intro a1 v2 M hB h
    rw [f_X0_dropOldest_9] at h
    refine go_iload_n C dX0_dropOldest_9 rfl rfl ?_
    refine go_iconst C dX0_dropOldest_10 ?_
    refine go_iadd C dX0_dropOldest_11 ?_
    refine go_iconst C dX0_dropOldest_12 ?_
    obtain ⟨hc1, h⟩ := chk_some h
    refine go_icmp_ge (tgt := 36) C dX0_dropOldest_13 rfl hc1 (by decide) (fun hc2 => ?_) (fun hc2 => ?_)
    · replace h := ite_t hc2 h
      refine go_aload_n C dX0_dropOldest_36 rfl rfl ?_
      refine go_getR (o := 1) (k2 := 14) C dX0_dropOldest_37 fl_X0_11 sh_13 rfl rfl ?_
      refine go_iconst C dX0_dropOldest_40 ?_
      refine go_aload_n C dX0_dropOldest_41 rfl rfl ?_
      obtain ⟨hc3, h⟩ := chk_some h
      refine go_aast C dX0_dropOldest_42 sh_14 hc3 (by decide) ⟨by decide, by decide⟩ ?_
      have hB4 := hB.set 14 3 (sh_R hc3)
      refine go_aload_n C dX0_dropOldest_43 rfl rfl ?_
      refine go_dup C dX0_dropOldest_44 rfl ?_
      refine go_getI (z := 0) C dX0_dropOldest_45 fl_X0_18 sh_13 rfl rfl ?_
      refine go_iconst C dX0_dropOldest_48 ?_
      refine go_isub C dX0_dropOldest_49 ?_
      obtain ⟨hc5, h⟩ := chk_some h
      refine go_putI (z := 0) C dX0_dropOldest_50 fp_X0_18 sh_13 rfl rfl rfl rfl ?_
      have hB6 := hB4.set 13 0 (x := ((mset M 14 3 ((a1 : Nat) : Int)) 13 0) - 1) hc5
      cases h
      exact go_vret C E rfl dX0_dropOldest_53 (Nat.le_of_ble_eq_true rfl) (Nat.le_of_ble_eq_true rfl) rfl rfl hB6
    · replace h := ite_f hc2 h
      refine go_aload_n C dX0_dropOldest_16 rfl rfl ?_
      refine go_getR (o := 1) (k2 := 14) C dX0_dropOldest_17 fl_X0_11 sh_13 rfl rfl ?_
      refine go_iload_n C dX0_dropOldest_20 rfl rfl ?_
      refine go_aload_n C dX0_dropOldest_21 rfl rfl ?_
      refine go_getR (o := 1) (k2 := 14) C dX0_dropOldest_22 fl_X0_11 sh_13 rfl rfl ?_
      refine go_iload_n C dX0_dropOldest_25 rfl rfl ?_
      refine go_iconst C dX0_dropOldest_26 ?_
      refine go_iadd C dX0_dropOldest_27 ?_
      obtain ⟨hc7, h⟩ := chk_some h
      refine go_aald C dX0_dropOldest_28 sh_14 (by decide) hc7 ?_
      obtain ⟨hc8, h⟩ := chk_some h
      obtain ⟨hc9, h⟩ := chk_some h
      refine go_aast C dX0_dropOldest_29 sh_14 hc9 (by decide) hc8 ?_
      have hB10 := hB.set 14 v2 (sh_R hc9)
      refine go_iinc (ls2 := [some (rf G 13), some (rf G a1), some (.int (iI (v2 + 1)))]) C dX0_dropOldest_30 rfl (Nat.le_of_ble_eq_true rfl) rfl ?_
      refine go_goto (tgt := 9) C dX0_dropOldest_33 rfl ?_
      exact ih a1 (v2 + 1) (mset M 14 v2 (((M 14 (v2 + 1)).toNat : Nat) : Int)) hB10 h
set_option maxHeartbeats 4000000 in
theorem ok_X0_dropOldest {G : gC} {l : Launch} (hl : l.stackTraces = false) {F : Nat} {M : Mem} (hB : Bd M) {res : Mem} (h : f_X0_dropOldest F M = some res) : Ok G l 0 0 0 yX0_dropOldest (.code yX0_dropOldest cX0_dropOldest 3 none) [rf G 13] M (.inr none) res := by
  refine ok_of (ls := [some (rf G 13), none, none]) hl (by decide +kernel) (Nat.le_of_ble_eq_true rfl) ⟨rfl, trivial⟩ ?_
  intro X hX C E
  subst hX
  rw [f_X0_dropOldest] at h
  refine go_aload_n C dX0_dropOldest_0 rfl rfl ?_
  refine go_getR (o := 1) (k2 := 14) C dX0_dropOldest_1 fl_X0_11 sh_13 rfl rfl ?_
  refine go_iconst C dX0_dropOldest_4 ?_
  refine go_aald C dX0_dropOldest_5 sh_14 (by decide) ⟨by decide, by decide⟩ ?_
  refine go_astore_n (ls2 := [some (rf G 13), some (rf G ((M 14 0).toNat)), none]) C dX0_dropOldest_6 rfl (Nat.le_of_ble_eq_true rfl) rfl ?_
  refine go_iconst C dX0_dropOldest_7 ?_
  refine go_istore_n (ls2 := [some (rf G 13), some (rf G ((M 14 0).toNat)), some (.int (iI 0))]) C dX0_dropOldest_8 rfl (Nat.le_of_ble_eq_true rfl) rfl ?_
  exact w_X0_dropOldest_9 C E F ((M 14 0).toNat) 0 M hB h
-- IntervalRouter$State.copyFrom(LIntervalRouter$State;)V
set_option maxHeartbeats 4000000 in
theorem ok_X6_copyFrom {G : gC} {l : Launch} (hl : l.stackTraces = false) {M : Mem} (hB : Bd M) {r : Nat} (hr : shT[r]? = some (.inl 6)) {o : Nat} (ho : shT[o]? = some (.inl 6)) {res : Mem} (h : f_X6_copyFrom r o M = some res) : Ok G l 2 0 0 yX6_copyFrom (.code yX6_copyFrom cX6_copyFrom 2 none) [rf G r, rf G o] M (.inr none) res := by
  refine ok_of (ls := [some (rf G r), some (rf G o)]) hl (by decide +kernel) (Nat.le_of_ble_eq_true rfl) ⟨rfl, ⟨rfl, trivial⟩⟩ ?_
  intro X hX C E
  subst hX
  rw [f_X6_copyFrom] at h
  refine go_aload_n C dX6_copyFrom_0 rfl rfl ?_
  refine go_aload_n C dX6_copyFrom_1 rfl rfl ?_
  refine go_getI (z := 0) C dX6_copyFrom_2 fl_X6_33 ho rfl rfl ?_
  refine go_putI (z := 0) C dX6_copyFrom_5 fp_X6_33 hr rfl rfl rfl rfl ?_
  have hB1 := hB.set r 0 (x := M o 0) (hB o 0 (Nat.lt_of_lt_of_le (sh_lt ho) (by decide)))
  refine go_aload_n C dX6_copyFrom_8 rfl rfl ?_
  refine go_aload_n C dX6_copyFrom_9 rfl rfl ?_
  refine go_getI (z := 1) C dX6_copyFrom_10 fl_X6_37 ho rfl rfl ?_
  refine go_putI (z := 1) C dX6_copyFrom_13 fp_X6_37 hr rfl rfl rfl rfl ?_
  have hB2 := hB1.set r 1 (x := (mset M r 0 (M o 0)) o 1) (hB1 o 1 (Nat.lt_of_lt_of_le (sh_lt ho) (by decide)))
  refine go_aload_n C dX6_copyFrom_16 rfl rfl ?_
  refine go_getR (o := 1) (k2 := (o + 1)) C dX6_copyFrom_17 fl_X6_9 ho rfl rfl ?_
  refine go_iconst C dX6_copyFrom_20 ?_
  refine go_aload_n C dX6_copyFrom_21 rfl rfl ?_
  refine go_getR (o := 1) (k2 := (r + 1)) C dX6_copyFrom_22 fl_X6_9 hr rfl rfl ?_
  refine go_iconst C dX6_copyFrom_25 ?_
  refine go_bipush C dX6_copyFrom_26 (by decide +kernel) ?_
  refine go_cpy C dX6_copyFrom_28 ⟨gt_386, gt_388, gt_387, gt_88⟩ (so_6_2 ho) (so_6_2 hr) (by decide) (by decide) (by decide) (Nat.le_of_ble_eq_true rfl) (Nat.le_of_ble_eq_true rfl) ?_
  have hB3 := hB2.cpy (o + 1) (Nat.lt_of_lt_of_le (sh_lt (so_6_2 ho)) (by decide)) 0 (r + 1) 0 16
  refine go_aload_n C dX6_copyFrom_31 rfl rfl ?_
  refine go_getR (o := 2) (k2 := (o + 2)) C dX6_copyFrom_32 fl_X6_15 ho rfl rfl ?_
  refine go_iconst C dX6_copyFrom_35 ?_
  refine go_aload_n C dX6_copyFrom_36 rfl rfl ?_
  refine go_getR (o := 2) (k2 := (r + 2)) C dX6_copyFrom_37 fl_X6_15 hr rfl rfl ?_
  refine go_iconst C dX6_copyFrom_40 ?_
  refine go_bipush C dX6_copyFrom_41 (by decide +kernel) ?_
  refine go_cpy C dX6_copyFrom_43 ⟨gt_386, gt_388, gt_387, gt_88⟩ (so_6_3 ho) (so_6_3 hr) (by decide) (by decide) (by decide) (Nat.le_of_ble_eq_true rfl) (Nat.le_of_ble_eq_true rfl) ?_
  have hB4 := hB3.cpy (o + 2) (Nat.lt_of_lt_of_le (sh_lt (so_6_3 ho)) (by decide)) 0 (r + 2) 0 16
  refine go_aload_n C dX6_copyFrom_46 rfl rfl ?_
  refine go_getR (o := 3) (k2 := (o + 3)) C dX6_copyFrom_47 fl_X6_18 ho rfl rfl ?_
  refine go_iconst C dX6_copyFrom_50 ?_
  refine go_aload_n C dX6_copyFrom_51 rfl rfl ?_
  refine go_getR (o := 3) (k2 := (r + 3)) C dX6_copyFrom_52 fl_X6_18 hr rfl rfl ?_
  refine go_iconst C dX6_copyFrom_55 ?_
  refine go_bipush C dX6_copyFrom_56 (by decide +kernel) ?_
  refine go_cpy C dX6_copyFrom_58 ⟨gt_386, gt_388, gt_387, gt_88⟩ (so_6_4 ho) (so_6_4 hr) (by decide) (by decide) (by decide) (Nat.le_of_ble_eq_true rfl) (Nat.le_of_ble_eq_true rfl) ?_
  have hB5 := hB4.cpy (o + 3) (Nat.lt_of_lt_of_le (sh_lt (so_6_4 ho)) (by decide)) 0 (r + 3) 0 16
  refine go_aload_n C dX6_copyFrom_61 rfl rfl ?_
  refine go_getR (o := 4) (k2 := (o + 4)) C dX6_copyFrom_62 fl_X6_21 ho rfl rfl ?_
  refine go_iconst C dX6_copyFrom_65 ?_
  refine go_aload_n C dX6_copyFrom_66 rfl rfl ?_
  refine go_getR (o := 4) (k2 := (r + 4)) C dX6_copyFrom_67 fl_X6_21 hr rfl rfl ?_
  refine go_iconst C dX6_copyFrom_70 ?_
  refine go_bipush C dX6_copyFrom_71 (by decide +kernel) ?_
  refine go_cpy C dX6_copyFrom_73 ⟨gt_386, gt_388, gt_387, gt_88⟩ (so_6_5 ho) (so_6_5 hr) (by decide) (by decide) (by decide) (Nat.le_of_ble_eq_true rfl) (Nat.le_of_ble_eq_true rfl) ?_
  have hB6 := hB5.cpy (o + 4) (Nat.lt_of_lt_of_le (sh_lt (so_6_5 ho)) (by decide)) 0 (r + 4) 0 9
  refine go_aload_n C dX6_copyFrom_76 rfl rfl ?_
  refine go_getR (o := 5) (k2 := (o + 5)) C dX6_copyFrom_77 fl_X6_24 ho rfl rfl ?_
  refine go_iconst C dX6_copyFrom_80 ?_
  refine go_aload_n C dX6_copyFrom_81 rfl rfl ?_
  refine go_getR (o := 5) (k2 := (r + 5)) C dX6_copyFrom_82 fl_X6_24 hr rfl rfl ?_
  refine go_iconst C dX6_copyFrom_85 ?_
  refine go_bipush C dX6_copyFrom_86 (by decide +kernel) ?_
  refine go_cpy C dX6_copyFrom_88 ⟨gt_386, gt_388, gt_387, gt_88⟩ (so_6_6 ho) (so_6_6 hr) (by decide) (by decide) (by decide) (Nat.le_of_ble_eq_true rfl) (Nat.le_of_ble_eq_true rfl) ?_
  have hB7 := hB6.cpy (o + 5) (Nat.lt_of_lt_of_le (sh_lt (so_6_6 ho)) (by decide)) 0 (r + 5) 0 81
  cases h
  exact go_vret C E rfl dX6_copyFrom_91 (Nat.le_of_ble_eq_true rfl) (Nat.le_of_ble_eq_true rfl) rfl rfl hB7
-- IntervalRouter$History.save(LIntervalRouter$State;)V
set_option maxHeartbeats 4000000 in
theorem ok_X0_save {G : gC} {l : Launch} (hl : l.stackTraces = false) {F : Nat} {M : Mem} (hB : Bd M) {res : Mem} (h : f_X0_save F M = some res) : Ok G l 3 0 0 yX0_save (.code yX0_save cX0_save 2 none) [rf G 13, rf G 1] M (.inr none) res := by
  refine ok_of (ls := [some (rf G 13), some (rf G 1)]) hl (by decide +kernel) (Nat.le_of_ble_eq_true rfl) ⟨rfl, ⟨rfl, trivial⟩⟩ ?_
  intro X hX C E
  subst hX
  rw [f_X0_save] at h
  refine go_aload_n C dX0_save_0 rfl rfl ?_
  refine go_getI (z := 0) C dX0_save_1 fl_X0_18 sh_13 rfl rfl ?_
  refine go_iconst C dX0_save_4 ?_
  refine go_icmp_ne (tgt := 12) C dX0_save_5 rfl (hB 13 0 (by decide)) (by decide) (fun hc1 => ?_) (fun hc1 => ?_)
  · replace h := ite_f hc1 h
    refine go_aload_n C dX0_save_12 rfl rfl ?_
    refine go_getR (o := 1) (k2 := 14) C dX0_save_13 fl_X0_11 sh_13 rfl rfl ?_
    refine go_aload_n C dX0_save_16 rfl rfl ?_
    refine go_getI (z := 0) C dX0_save_17 fl_X0_18 sh_13 rfl rfl ?_
    obtain ⟨hc2, h⟩ := chk_some h
    refine go_aald C dX0_save_20 sh_14 (by decide) hc2 ?_
    refine go_aload_n C dX0_save_21 rfl rfl ?_
    obtain ⟨hc3, h⟩ := chk_some h
    obtain ⟨q4, h4, h⟩ := ob_some h
    refine go_callV_v C dX0_save_22 (ok_X6_copyFrom C.hl hB hc3 sh_1 h4) mv_X0_25 hc3 rfl rfl (Nat.le_of_ble_eq_true rfl) ⟨(Nat.le_of_ble_eq_true rfl), (Nat.le_of_ble_eq_true rfl)⟩ ⟨(Nat.le_of_ble_eq_true rfl), (Nat.le_of_ble_eq_true rfl)⟩ (fun hB4 => ?_)
    refine go_aload_n C dX0_save_25 rfl rfl ?_
    refine go_dup C dX0_save_26 rfl ?_
    refine go_getI (z := 0) C dX0_save_27 fl_X0_18 sh_13 rfl rfl ?_
    refine go_iconst C dX0_save_30 ?_
    refine go_iadd C dX0_save_31 ?_
    obtain ⟨hc5, h⟩ := chk_some h
    refine go_putI (z := 0) C dX0_save_32 fp_X0_18 sh_13 rfl rfl rfl rfl ?_
    have hB6 := hB4.set 13 0 (x := (q4 13 0) + 1) hc5
    cases h
    exact go_vret C E rfl dX0_save_35 (Nat.le_of_ble_eq_true rfl) (Nat.le_of_ble_eq_true rfl) rfl rfl hB6
  · replace h := ite_t hc1 h
    refine go_aload_n C dX0_save_8 rfl rfl ?_
    obtain ⟨q7, h7, h⟩ := ob_some h
    refine go_callV_v C dX0_save_9 (ok_X0_dropOldest C.hl hB h7) mv_X0_22 sh_13 rfl rfl (Nat.le_of_ble_eq_true rfl) ⟨(Nat.le_of_ble_eq_true rfl), (Nat.le_of_ble_eq_true rfl)⟩ ⟨(Nat.le_of_ble_eq_true rfl), (Nat.le_of_ble_eq_true rfl)⟩ (fun hB7 => ?_)
    refine go_aload_n C dX0_save_12 rfl rfl ?_
    refine go_getR (o := 1) (k2 := 14) C dX0_save_13 fl_X0_11 sh_13 rfl rfl ?_
    refine go_aload_n C dX0_save_16 rfl rfl ?_
    refine go_getI (z := 0) C dX0_save_17 fl_X0_18 sh_13 rfl rfl ?_
    obtain ⟨hc8, h⟩ := chk_some h
    refine go_aald C dX0_save_20 sh_14 (by decide) hc8 ?_
    refine go_aload_n C dX0_save_21 rfl rfl ?_
    obtain ⟨hc9, h⟩ := chk_some h
    obtain ⟨q10, h10, h⟩ := ob_some h
    refine go_callV_v C dX0_save_22 (ok_X6_copyFrom C.hl hB7 hc9 sh_1 h10) mv_X0_25 hc9 rfl rfl (Nat.le_of_ble_eq_true rfl) ⟨(Nat.le_of_ble_eq_true rfl), (Nat.le_of_ble_eq_true rfl)⟩ ⟨(Nat.le_of_ble_eq_true rfl), (Nat.le_of_ble_eq_true rfl)⟩ (fun hB10 => ?_)
    refine go_aload_n C dX0_save_25 rfl rfl ?_
    refine go_dup C dX0_save_26 rfl ?_
    refine go_getI (z := 0) C dX0_save_27 fl_X0_18 sh_13 rfl rfl ?_
    refine go_iconst C dX0_save_30 ?_
    refine go_iadd C dX0_save_31 ?_
    obtain ⟨hc11, h⟩ := chk_some h
    refine go_putI (z := 0) C dX0_save_32 fp_X0_18 sh_13 rfl rfl rfl rfl ?_
    have hB12 := hB10.set 13 0 (x := (q10 13 0) + 1) hc11
    cases h
    exact go_vret C E rfl dX0_save_35 (Nat.le_of_ble_eq_true rfl) (Nat.le_of_ble_eq_true rfl) rfl rfl hB12
-- IntervalRouter$History.restore(LIntervalRouter$State;)V
set_option maxHeartbeats 4000000 in
theorem ok_X0_restore {G : gC} {l : Launch} (hl : l.stackTraces = false) {M : Mem} (hB : Bd M) {res : Mem} (h : f_X0_restore M = some res) : Ok G l 3 0 0 yX0_restore (.code yX0_restore cX0_restore 2 none) [rf G 13, rf G 1] M (.inr none) res := by
  refine ok_of (ls := [some (rf G 13), some (rf G 1)]) hl (by decide +kernel) (Nat.le_of_ble_eq_true rfl) ⟨rfl, ⟨rfl, trivial⟩⟩ ?_
  intro X hX C E
  subst hX
  rw [f_X0_restore] at h
  refine go_aload_n C dX0_restore_0 rfl rfl ?_
  refine go_dup C dX0_restore_1 rfl ?_
  refine go_getI (z := 0) C dX0_restore_2 fl_X0_18 sh_13 rfl rfl ?_
  refine go_iconst C dX0_restore_5 ?_
  refine go_isub C dX0_restore_6 ?_
  obtain ⟨hc1, h⟩ := chk_some h
  refine go_putI (z := 0) C dX0_restore_7 fp_X0_18 sh_13 rfl rfl rfl rfl ?_
  have hB2 := hB.set 13 0 (x := (M 13 0) - 1) hc1
  refine go_aload_n C dX0_restore_10 rfl rfl ?_
  refine go_aload_n C dX0_restore_11 rfl rfl ?_
  refine go_getR (o := 1) (k2 := 14) C dX0_restore_12 fl_X0_11 sh_13 rfl rfl ?_
  refine go_aload_n C dX0_restore_15 rfl rfl ?_
  refine go_getI (z := 0) C dX0_restore_16 fl_X0_18 sh_13 rfl rfl ?_
  obtain ⟨hc3, h⟩ := chk_some h
  refine go_aald C dX0_restore_19 sh_14 (by decide) hc3 ?_
  obtain ⟨hc4, h⟩ := chk_some h
  obtain ⟨q5, h5, h⟩ := ob_some h
  refine go_callV_v C dX0_restore_20 (ok_X6_copyFrom C.hl hB2 sh_1 hc4 h5) mv_X0_25 sh_1 rfl rfl (Nat.le_of_ble_eq_true rfl) ⟨(Nat.le_of_ble_eq_true rfl), (Nat.le_of_ble_eq_true rfl)⟩ ⟨(Nat.le_of_ble_eq_true rfl), (Nat.le_of_ble_eq_true rfl)⟩ (fun hB5 => ?_)
  cases h
  exact go_vret C E rfl dX0_restore_23 (Nat.le_of_ble_eq_true rfl) (Nat.le_of_ble_eq_true rfl) rfl rfl hB5
-- IntervalRouter$State.touches(II)Z
set_option maxHeartbeats 4000000 in
theorem ok_X6_touches {G : gC} {l : Launch} (hl : l.stackTraces = false) {v1 : Int} {v2 : Int} {M : Mem} (hB : Bd M) {r : Nat} (hr : shT[r]? = some (.inl 6)) {res : Int} (h : f_X6_touches r v1 v2 M = some res) : Ok G l 0 0 0 yX6_touches (.code yX6_touches cX6_touches 3 (some .boolean)) [rf G r, .int (iI v1), .int (iI v2)] M (.inr (some (.int (iI res)))) M := by
  refine ok_of (ls := [some (rf G r), some (.int (iI v1)), some (.int (iI v2))]) hl (by decide +kernel) (Nat.le_of_ble_eq_true rfl) ⟨rfl, ⟨rfl, ⟨rfl, trivial⟩⟩⟩ ?_
  intro X hX C E
  subst hX
  rw [f_X6_touches] at h
  obtain ⟨hp_v2, h⟩ := chk_some h
  refine go_aload_n C dX6_touches_0 rfl rfl ?_
  refine go_getR (o := 1) (k2 := (r + 1)) C dX6_touches_1 fl_X6_9 hr rfl rfl ?_
  refine go_iload_n C dX6_touches_4 rfl rfl ?_
  obtain ⟨hc1, h⟩ := chk_some h
  refine go_iald C dX6_touches_5 (so_6_2 hr) (by decide) hc1 ?_
  refine go_iload_n C dX6_touches_6 rfl rfl ?_
  refine go_icmp_eq (tgt := 20) C dX6_touches_7 rfl (hB (r + 1) v1 (Nat.lt_of_lt_of_le (sh_lt (so_6_2 hr)) (by decide))) hp_v2 (fun hc2 => ?_) (fun hc2 => ?_)
  · replace h := ite_t hc2 h
    refine go_iconst C dX6_touches_20 ?_
    refine go_goto (tgt := 25) C dX6_touches_21 rfl ?_
    cases h
    exact go_zret C E rfl dX6_touches_25 (by decide) (Nat.le_of_ble_eq_true rfl) (Nat.le_of_ble_eq_true rfl) rfl rfl hB
  · replace h := ite_f hc2 h
    refine go_aload_n C dX6_touches_10 rfl rfl ?_
    refine go_getR (o := 2) (k2 := (r + 2)) C dX6_touches_11 fl_X6_15 hr rfl rfl ?_
    refine go_iload_n C dX6_touches_14 rfl rfl ?_
    refine go_iald C dX6_touches_15 (so_6_3 hr) (by decide) hc1 ?_
    refine go_iload_n C dX6_touches_16 rfl rfl ?_
    refine go_icmp_ne (tgt := 24) C dX6_touches_17 rfl (hB (r + 2) v1 (Nat.lt_of_lt_of_le (sh_lt (so_6_3 hr)) (by decide))) hp_v2 (fun hc3 => ?_) (fun hc3 => ?_)
    · replace h := ite_f hc3 h
      refine go_iconst C dX6_touches_24 ?_
      cases h
      exact go_zret C E rfl dX6_touches_25 (by decide) (Nat.le_of_ble_eq_true rfl) (Nat.le_of_ble_eq_true rfl) rfl rfl hB
    · replace h := ite_t hc3 h
      refine go_iconst C dX6_touches_20 ?_
      refine go_goto (tgt := 25) C dX6_touches_21 rfl ?_
      cases h
      exact go_zret C E rfl dX6_touches_25 (by decide) (Nat.le_of_ble_eq_true rfl) (Nat.le_of_ble_eq_true rfl) rfl rfl hB
-- IntervalRouter$State.otherEnd(II)I
set_option maxHeartbeats 4000000 in
theorem ok_X6_otherEnd {G : gC} {l : Launch} (hl : l.stackTraces = false) {v1 : Int} {v2 : Int} {M : Mem} (hB : Bd M) {r : Nat} (hr : shT[r]? = some (.inl 6)) {res : Int} (h : f_X6_otherEnd r v1 v2 M = some res) : Ok G l 0 0 0 yX6_otherEnd (.code yX6_otherEnd cX6_otherEnd 3 (some .int)) [rf G r, .int (iI v1), .int (iI v2)] M (.inr (some (.int (iI res)))) M := by
  refine ok_of (ls := [some (rf G r), some (.int (iI v1)), some (.int (iI v2))]) hl (by decide +kernel) (Nat.le_of_ble_eq_true rfl) ⟨rfl, ⟨rfl, ⟨rfl, trivial⟩⟩⟩ ?_
  intro X hX C E
  subst hX
  rw [f_X6_otherEnd] at h
  obtain ⟨hp_v2, h⟩ := chk_some h
  refine go_aload_n C dX6_otherEnd_0 rfl rfl ?_
  refine go_getR (o := 1) (k2 := (r + 1)) C dX6_otherEnd_1 fl_X6_9 hr rfl rfl ?_
  refine go_iload_n C dX6_otherEnd_4 rfl rfl ?_
  obtain ⟨hc1, h⟩ := chk_some h
  refine go_iald C dX6_otherEnd_5 (so_6_2 hr) (by decide) hc1 ?_
  refine go_iload_n C dX6_otherEnd_6 rfl rfl ?_
  refine go_icmp_ne (tgt := 19) C dX6_otherEnd_7 rfl (hB (r + 1) v1 (Nat.lt_of_lt_of_le (sh_lt (so_6_2 hr)) (by decide))) hp_v2 (fun hc2 => ?_) (fun hc2 => ?_)
  · replace h := ite_f hc2 h
    refine go_aload_n C dX6_otherEnd_19 rfl rfl ?_
    refine go_getR (o := 1) (k2 := (r + 1)) C dX6_otherEnd_20 fl_X6_9 hr rfl rfl ?_
    refine go_iload_n C dX6_otherEnd_23 rfl rfl ?_
    refine go_iald C dX6_otherEnd_24 (so_6_2 hr) (by decide) hc1 ?_
    cases h
    exact go_iret C E rfl dX6_otherEnd_25 (Nat.le_of_ble_eq_true rfl) (Nat.le_of_ble_eq_true rfl) rfl rfl hB
  · replace h := ite_t hc2 h
    refine go_aload_n C dX6_otherEnd_10 rfl rfl ?_
    refine go_getR (o := 2) (k2 := (r + 2)) C dX6_otherEnd_11 fl_X6_15 hr rfl rfl ?_
    refine go_iload_n C dX6_otherEnd_14 rfl rfl ?_
    refine go_iald C dX6_otherEnd_15 (so_6_3 hr) (by decide) hc1 ?_
    refine go_goto (tgt := 25) C dX6_otherEnd_16 rfl ?_
    cases h
    exact go_iret C E rfl dX6_otherEnd_25 (Nat.le_of_ble_eq_true rfl) (Nat.le_of_ble_eq_true rfl) rfl rfl hB
-- IntervalRouter$Labeler.firstUnlabeled(LIntervalRouter$State;I)I
set_option maxHeartbeats 4000000 in
theorem w_X1_firstUnlabeled_2 {G : gC} {X : gX} {res : Int} {F : Nat} {M : Mem} (hB : Bd M) (C : Cx G X cX1_firstUnlabeled 3 RX1 1 0 0 (some .int) []) (E : Fnl G X 0 0 (.inr (some (.int (iI res)))) M) : ∀ (fu : Nat) (v1 : Int) (v2 : Int), f_X1_firstUnlabeled_2 F fu v1 v2 M = some res → Go G X 3 0 0 2 [some (rf G 1), some (.int (iI v1)), some (.int (iI v2))] [] M := by
  intro fu
  induction fu with
  | zero => intro v1 v2 h; exact nomatch (show (none : Option (Int)) = some res from h)
  | succ fu ih =>
    intro v1 v2 h
    rw [f_X1_firstUnlabeled_2] at h
    obtain ⟨hp_v2, h⟩ := chk_some h
    refine go_iload_n C dX1_firstUnlabeled_2 rfl rfl ?_
    refine go_aload_n C dX1_firstUnlabeled_3 rfl rfl ?_
    refine go_getI (z := 1) C dX1_firstUnlabeled_4 fl_X1_53 sh_1 rfl rfl ?_
    refine go_icmp_ge (tgt := 47) C dX1_firstUnlabeled_7 rfl hp_v2 (hB 1 1 (by decide)) (fun hc1 => ?_) (fun hc1 => ?_)
    · replace h := ite_t hc1 h
      refine go_iconst C dX1_firstUnlabeled_47 ?_
      cases h
      exact go_iret C E rfl dX1_firstUnlabeled_48 (Nat.le_of_ble_eq_true rfl) (Nat.le_of_ble_eq_true rfl) rfl rfl hB
    · replace h := ite_f hc1 h
      refine go_aload_n C dX1_firstUnlabeled_10 rfl rfl ?_
      refine go_iload_n C dX1_firstUnlabeled_11 rfl rfl ?_
      refine go_iload_n C dX1_firstUnlabeled_12 rfl rfl ?_
      obtain ⟨q2, h2, h⟩ := ob_some h
      refine go_callV_i C dX1_firstUnlabeled_13 (ok_X6_touches C.hl hB sh_1 h2) mv_X1_56 sh_1 rfl rfl (Nat.le_of_ble_eq_true rfl) ⟨(Nat.le_of_ble_eq_true rfl), (Nat.le_of_ble_eq_true rfl)⟩ ⟨(Nat.le_of_ble_eq_true rfl), (Nat.le_of_ble_eq_true rfl)⟩ (fun hB2 => ?_)
      obtain ⟨hc3, h⟩ := chk_some h
      refine go_if_eq (tgt := 41) C dX1_firstUnlabeled_16 rfl hc3 (fun hc4 => ?_) (fun hc4 => ?_)
      · replace h := ite_t hc4 h
        refine go_iinc (ls2 := [some (rf G 1), some (.int (iI v1)), some (.int (iI (v2 + 1)))]) C dX1_firstUnlabeled_41 rfl (Nat.le_of_ble_eq_true rfl) rfl ?_
        refine go_goto (tgt := 2) C dX1_firstUnlabeled_44 rfl ?_
        exact ih v1 (v2 + 1) h
      · replace h := ite_f hc4 h
        refine go_aload_n C dX1_firstUnlabeled_19 rfl rfl ?_
        refine go_getR (o := 4) (k2 := 5) C dX1_firstUnlabeled_20 fl_X1_21 sh_1 rfl rfl ?_
        refine go_aload_n C dX1_firstUnlabeled_23 rfl rfl ?_
        refine go_iload_n C dX1_firstUnlabeled_24 rfl rfl ?_
        refine go_iload_n C dX1_firstUnlabeled_25 rfl rfl ?_
        obtain ⟨q5, h5, h⟩ := ob_some h
        refine go_callV_i C dX1_firstUnlabeled_26 (ok_X6_otherEnd C.hl hB2 sh_1 h5) mv_X1_60 sh_1 rfl rfl (Nat.le_of_ble_eq_true rfl) ⟨(Nat.le_of_ble_eq_true rfl), (Nat.le_of_ble_eq_true rfl)⟩ ⟨(Nat.le_of_ble_eq_true rfl), (Nat.le_of_ble_eq_true rfl)⟩ (fun hB5 => ?_)
        obtain ⟨hc6, h⟩ := chk_some h
        refine go_iald C dX1_firstUnlabeled_29 sh_5 (by decide) hc6 ?_
        refine go_iconst C dX1_firstUnlabeled_30 ?_
        refine go_icmp_ne (tgt := 41) C dX1_firstUnlabeled_31 rfl (hB5 5 q5 (by decide)) (by decide) (fun hc7 => ?_) (fun hc7 => ?_)
        · replace h := ite_f hc7 h
          refine go_iinc (ls2 := [some (rf G 1), some (.int (iI v1)), some (.int (iI (v2 + 1)))]) C dX1_firstUnlabeled_41 rfl (Nat.le_of_ble_eq_true rfl) rfl ?_
          refine go_goto (tgt := 2) C dX1_firstUnlabeled_44 rfl ?_
          exact ih v1 (v2 + 1) h
        · replace h := ite_t hc7 h
          refine go_aload_n C dX1_firstUnlabeled_34 rfl rfl ?_
          refine go_iload_n C dX1_firstUnlabeled_35 rfl rfl ?_
          refine go_iload_n C dX1_firstUnlabeled_36 rfl rfl ?_
          obtain ⟨q8, h8, h⟩ := ob_some h
          refine go_callV_i C dX1_firstUnlabeled_37 (ok_X6_otherEnd C.hl hB5 sh_1 h8) mv_X1_60 sh_1 rfl rfl (Nat.le_of_ble_eq_true rfl) ⟨(Nat.le_of_ble_eq_true rfl), (Nat.le_of_ble_eq_true rfl)⟩ ⟨(Nat.le_of_ble_eq_true rfl), (Nat.le_of_ble_eq_true rfl)⟩ (fun hB8 => ?_)
          cases h
          exact go_iret C E rfl dX1_firstUnlabeled_40 (Nat.le_of_ble_eq_true rfl) (Nat.le_of_ble_eq_true rfl) rfl rfl hB8
set_option maxHeartbeats 4000000 in
theorem ok_X1_firstUnlabeled {G : gC} {l : Launch} (hl : l.stackTraces = false) {F : Nat} {v1 : Int} {M : Mem} (hB : Bd M) {res : Int} (h : f_X1_firstUnlabeled F v1 M = some res) : Ok G l 1 0 0 yX1_firstUnlabeled (.code yX1_firstUnlabeled cX1_firstUnlabeled 3 (some .int)) [rf G 1, .int (iI v1)] M (.inr (some (.int (iI res)))) M := by
  refine ok_of (ls := [some (rf G 1), some (.int (iI v1)), none]) hl (by decide +kernel) (Nat.le_of_ble_eq_true rfl) ⟨rfl, ⟨rfl, trivial⟩⟩ ?_
  intro X hX C E
  subst hX
  rw [f_X1_firstUnlabeled] at h
  refine go_iconst C dX1_firstUnlabeled_0 ?_
  refine go_istore_n (ls2 := [some (rf G 1), some (.int (iI v1)), some (.int (iI 0))]) C dX1_firstUnlabeled_1 rfl (Nat.le_of_ble_eq_true rfl) rfl ?_
  exact w_X1_firstUnlabeled_2 hB C E F v1 0 h
-- IntervalRouter$Labeler.labelTheRest(LIntervalRouter$State;I)V
set_option maxHeartbeats 4000000 in
theorem w_X1_labelTheRest_4 {G : gC} {X : gX} {res : Mem} {F : Nat} (C : Cx G X cX1_labelTheRest 4 RX1 0 0 0 none []) (E : Fnl G X 0 0 (.inr none) res) : ∀ (fu : Nat) (v2 : Int) (v3 : Int) (M : Mem), Bd M → f_X1_labelTheRest_4 F fu v2 v3 M = some res → Go G X 4 0 0 4 [some (rf G 1), none, some (.int (iI v2)), some (.int (iI v3))] [] M := by
  intro fu
  induction fu with
  | zero => intro v2 v3 M hB h; exact nomatch (show (none : Option (Mem)) = some res from h)
  | succ fu ih =>
    intro v2 v3 M hB h
    rw [f_X1_labelTheRest_4] at h
    obtain ⟨⟨hp_v2, hp_v3⟩, h⟩ := chk_some h
    refine go_iload_n C dX1_labelTheRest_4 rfl rfl ?_
    refine go_aload_n C dX1_labelTheRest_5 rfl rfl ?_
    refine go_getI (z := 0) C dX1_labelTheRest_6 fl_X1_15 sh_1 rfl rfl ?_
    refine go_icmp_ge (tgt := 38) C dX1_labelTheRest_9 rfl hp_v3 (hB 1 0 (by decide)) (fun hc1 => ?_) (fun hc1 => ?_)
    · replace h := ite_t hc1 h
      cases h
      exact go_vret C E rfl dX1_labelTheRest_38 (Nat.le_of_ble_eq_true rfl) (Nat.le_of_ble_eq_true rfl) rfl rfl hB
    · replace h := ite_f hc1 h
      refine go_aload_n C dX1_labelTheRest_12 rfl rfl ?_
      refine go_getR (o := 4) (k2 := 5) C dX1_labelTheRest_13 fl_X1_21 sh_1 rfl rfl ?_
      refine go_iload_n C dX1_labelTheRest_16 rfl rfl ?_
      obtain ⟨hc2, h⟩ := chk_some h
      refine go_iald C dX1_labelTheRest_17 sh_5 (by decide) hc2 ?_
      refine go_iconst C dX1_labelTheRest_18 ?_
      refine go_icmp_ne (tgt := 32) C dX1_labelTheRest_19 rfl (hB 5 v3 (by decide)) (by decide) (fun hc3 => ?_) (fun hc3 => ?_)
      · replace h := ite_f hc3 h
        refine go_iinc (ls2 := [some (rf G 1), none, some (.int (iI v2)), some (.int (iI (v3 + 1)))]) C dX1_labelTheRest_32 rfl (Nat.le_of_ble_eq_true rfl) rfl ?_
        refine go_goto (tgt := 4) C dX1_labelTheRest_35 rfl ?_
        exact ih v2 (v3 + 1) M hB h
      · replace h := ite_t hc3 h
        refine go_aload_n C dX1_labelTheRest_22 rfl rfl ?_
        refine go_getR (o := 4) (k2 := 5) C dX1_labelTheRest_23 fl_X1_21 sh_1 rfl rfl ?_
        refine go_iload_n C dX1_labelTheRest_26 rfl rfl ?_
        refine go_iload_n C dX1_labelTheRest_27 rfl rfl ?_
        refine go_iast C dX1_labelTheRest_28 sh_5 (by decide) hc2 ?_
        have hB4 := hB.set 5 v3 (x := v2) hp_v2
        refine go_iinc (ls2 := [some (rf G 1), none, some (.int (iI (v2 + 1))), some (.int (iI v3))]) C dX1_labelTheRest_29 rfl (Nat.le_of_ble_eq_true rfl) rfl ?_
        refine go_iinc (ls2 := [some (rf G 1), none, some (.int (iI (v2 + 1))), some (.int (iI (v3 + 1)))]) C dX1_labelTheRest_32 rfl (Nat.le_of_ble_eq_true rfl) rfl ?_
        refine go_goto (tgt := 4) C dX1_labelTheRest_35 rfl ?_
        exact ih (v2 + 1) (v3 + 1) (mset M 5 v3 v2) hB4 h
set_option maxHeartbeats 4000000 in
theorem ok_X1_labelTheRest {G : gC} {l : Launch} (hl : l.stackTraces = false) {F : Nat} {v1 : Int} {M : Mem} (hB : Bd M) {res : Mem} (h : f_X1_labelTheRest F v1 M = some res) : Ok G l 0 0 0 yX1_labelTheRest (.code yX1_labelTheRest cX1_labelTheRest 4 none) [rf G 1, .int (iI v1)] M (.inr none) res := by
  refine ok_of (ls := [some (rf G 1), some (.int (iI v1)), none, none]) hl (by decide +kernel) (Nat.le_of_ble_eq_true rfl) ⟨rfl, ⟨rfl, trivial⟩⟩ ?_
  intro X hX C E
  subst hX
  rw [f_X1_labelTheRest] at h
  refine go_iload_n C dX1_labelTheRest_0 rfl rfl ?_
  refine go_istore_n (ls2 := [some (rf G 1), some (.int (iI v1)), some (.int (iI v1)), none]) C dX1_labelTheRest_1 rfl (Nat.le_of_ble_eq_true rfl) rfl ?_
  refine go_iconst C dX1_labelTheRest_2 ?_
  refine go_istore_n (ls2 := [some (rf G 1), some (.int (iI v1)), some (.int (iI v1)), some (.int (iI 0))]) C dX1_labelTheRest_3 rfl (Nat.le_of_ble_eq_true rfl) rfl ?_
  refine go_weak (ls' := [some (rf G 1), none, some (.int (iI v1)), some (.int (iI 0))]) ⟨rfl, ⟨rfl, ⟨rfl, trivial⟩⟩⟩ ?_
  exact w_X1_labelTheRest_4 C E F v1 0 M hB h
-- IntervalRouter$Labeler.depthFirst(LIntervalRouter$State;I)V
set_option maxHeartbeats 4000000 in
theorem w_X1_depthFirst_45 {G : gC} {X : gX} {res : Mem} {F : Nat} (C : Cx G X cX1_depthFirst 7 RX1 2 0 0 none []) (E : Fnl G X 0 0 (.inr none) res) : ∀ (fu : Nat) (v3 : Int) (v4 : Int) (v5 : Int) (M : Mem), Bd M → f_X1_depthFirst_45 F fu v3 v4 v5 M = some res → Go G X 7 0 0 45 [some (rf G 60), some (rf G 1), none, some (.int (iI v3)), some (.int (iI v4)), some (.int (iI v5)), none] [] M := by
  intro fu
  induction fu with
  | zero => intro v3 v4 v5 M hB h; exact nomatch (show (none : Option (Mem)) = some res from h)
  | succ fu ih =>
    intro v3 v4 v5 M hB h
    rw [f_X1_depthFirst_45] at h
    obtain ⟨⟨hp_v3, hp_v4, hp_v5⟩, h⟩ := chk_some h
    refine go_iload C dX1_depthFirst_45 rfl ?_
    refine go_bipush C dX1_depthFirst_47 (by decide +kernel) ?_
    refine go_icmp_ge (tgt := 114) C dX1_depthFirst_49 rfl hp_v5 (by decide) (fun hc5 => ?_) (fun hc5 => ?_)
    · replace h := ite_t hc5 h
      refine go_aload_n C dX1_depthFirst_114 rfl rfl ?_
      refine go_iload_n C dX1_depthFirst_115 rfl rfl ?_
      obtain ⟨q6, h6, h⟩ := ob_some h
      refine go_callS_v C dX1_depthFirst_116 (ok_X1_labelTheRest C.hl hB h6) ms_X1_28 rfl rfl (Nat.le_of_ble_eq_true rfl) ⟨(Nat.le_of_ble_eq_true rfl), (Nat.le_of_ble_eq_true rfl)⟩ ⟨(Nat.le_of_ble_eq_true rfl), (Nat.le_of_ble_eq_true rfl)⟩ (fun hB6 => ?_)
      cases h
      exact go_vret C E rfl dX1_depthFirst_119 (Nat.le_of_ble_eq_true rfl) (Nat.le_of_ble_eq_true rfl) rfl rfl hB6
    · replace h := ite_f hc5 h
      refine go_iload C dX1_depthFirst_52 rfl ?_
      refine go_iconst C dX1_depthFirst_54 ?_
      refine go_icmp_eq (tgt := 114) C dX1_depthFirst_55 rfl hp_v4 (by decide) (fun hc7 => ?_) (fun hc7 => ?_)
      · replace h := ite_t hc7 h
        refine go_aload_n C dX1_depthFirst_114 rfl rfl ?_
        refine go_iload_n C dX1_depthFirst_115 rfl rfl ?_
        obtain ⟨q8, h8, h⟩ := ob_some h
        refine go_callS_v C dX1_depthFirst_116 (ok_X1_labelTheRest C.hl hB h8) ms_X1_28 rfl rfl (Nat.le_of_ble_eq_true rfl) ⟨(Nat.le_of_ble_eq_true rfl), (Nat.le_of_ble_eq_true rfl)⟩ ⟨(Nat.le_of_ble_eq_true rfl), (Nat.le_of_ble_eq_true rfl)⟩ (fun hB8 => ?_)
        cases h
        exact go_vret C E rfl dX1_depthFirst_119 (Nat.le_of_ble_eq_true rfl) (Nat.le_of_ble_eq_true rfl) rfl rfl hB8
      · replace h := ite_f hc7 h
        refine go_aload_n C dX1_depthFirst_58 rfl rfl ?_
        refine go_iload C dX1_depthFirst_59 rfl ?_
        obtain ⟨q9, h9, h⟩ := ob_some h
        refine go_callS_i C dX1_depthFirst_61 (ok_X1_firstUnlabeled C.hl hB h9) ms_X1_24 rfl rfl (Nat.le_of_ble_eq_true rfl) ⟨(Nat.le_of_ble_eq_true rfl), (Nat.le_of_ble_eq_true rfl)⟩ ⟨(Nat.le_of_ble_eq_true rfl), (Nat.le_of_ble_eq_true rfl)⟩ (fun hB9 => ?_)
        refine go_istore (ls2 := [some (rf G 60), some (rf G 1), none, some (.int (iI v3)), some (.int (iI v4)), some (.int (iI v5)), some (.int (iI q9))]) C dX1_depthFirst_64 (Nat.le_of_ble_eq_true rfl) rfl ?_
        refine go_iload C dX1_depthFirst_66 rfl ?_
        refine go_iconst C dX1_depthFirst_68 ?_
        obtain ⟨hc10, h⟩ := chk_some h
        refine go_icmp_ne (tgt := 84) C dX1_depthFirst_69 rfl hc10 (by decide) (fun hc11 => ?_) (fun hc11 => ?_)
        · replace h := ite_f hc11 h
          refine go_aload_n C dX1_depthFirst_84 rfl rfl ?_
          refine go_getR (o := 1) (k2 := 61) C dX1_depthFirst_85 fl_X1_9 sh_60 rfl rfl ?_
          refine go_iload C dX1_depthFirst_88 rfl ?_
          refine go_iload C dX1_depthFirst_90 rfl ?_
          obtain ⟨hc12, h⟩ := chk_some h
          refine go_iast C dX1_depthFirst_92 sh_61 (by decide) hc12 ?_
          have hB13 := hB9.set 61 q9 (x := v4) hp_v4
          refine go_aload_n C dX1_depthFirst_93 rfl rfl ?_
          refine go_getR (o := 4) (k2 := 5) C dX1_depthFirst_94 fl_X1_21 sh_1 rfl rfl ?_
          refine go_iload C dX1_depthFirst_97 rfl ?_
          refine go_iload_n C dX1_depthFirst_99 rfl rfl ?_
          refine go_iast C dX1_depthFirst_100 sh_5 (by decide) hc12 ?_
          have hB14 := hB13.set 5 q9 (x := v3) hp_v3
          refine go_iinc (ls2 := [some (rf G 60), some (rf G 1), none, some (.int (iI (v3 + 1))), some (.int (iI v4)), some (.int (iI v5)), some (.int (iI q9))]) C dX1_depthFirst_101 rfl (Nat.le_of_ble_eq_true rfl) rfl ?_
          refine go_iload C dX1_depthFirst_104 rfl ?_
          refine go_istore (ls2 := [some (rf G 60), some (rf G 1), none, some (.int (iI (v3 + 1))), some (.int (iI q9)), some (.int (iI v5)), some (.int (iI q9))]) C dX1_depthFirst_106 (Nat.le_of_ble_eq_true rfl) rfl ?_
          refine go_iinc (ls2 := [some (rf G 60), some (rf G 1), none, some (.int (iI (v3 + 1))), some (.int (iI q9)), some (.int (iI (v5 + 1))), some (.int (iI q9))]) C dX1_depthFirst_108 rfl (Nat.le_of_ble_eq_true rfl) rfl ?_
          refine go_goto (tgt := 45) C dX1_depthFirst_111 rfl ?_
          refine go_weak (ls' := [some (rf G 60), some (rf G 1), none, some (.int (iI (v3 + 1))), some (.int (iI q9)), some (.int (iI (v5 + 1))), none]) ⟨rfl, ⟨rfl, ⟨rfl, ⟨rfl, ⟨rfl, trivial⟩⟩⟩⟩⟩ ?_
          exact ih (v3 + 1) q9 (v5 + 1) (mset (mset M 61 q9 v4) 5 q9 v3) hB14 h
        · replace h := ite_t hc11 h
          refine go_aload_n C dX1_depthFirst_72 rfl rfl ?_
          refine go_getR (o := 1) (k2 := 61) C dX1_depthFirst_73 fl_X1_9 sh_60 rfl rfl ?_
          refine go_iload C dX1_depthFirst_76 rfl ?_
          obtain ⟨hc15, h⟩ := chk_some h
          refine go_iald C dX1_depthFirst_78 sh_61 (by decide) hc15 ?_
          refine go_istore (ls2 := [some (rf G 60), some (rf G 1), none, some (.int (iI v3)), some (.int (iI (M 61 v4))), some (.int (iI v5)), some (.int (iI q9))]) C dX1_depthFirst_79 (Nat.le_of_ble_eq_true rfl) rfl ?_
          refine go_goto (tgt := 108) C dX1_depthFirst_81 rfl ?_
          refine go_iinc (ls2 := [some (rf G 60), some (rf G 1), none, some (.int (iI v3)), some (.int (iI (M 61 v4))), some (.int (iI (v5 + 1))), some (.int (iI q9))]) C dX1_depthFirst_108 rfl (Nat.le_of_ble_eq_true rfl) rfl ?_
          refine go_goto (tgt := 45) C dX1_depthFirst_111 rfl ?_
          refine go_weak (ls' := [some (rf G 60), some (rf G 1), none, some (.int (iI v3)), some (.int (iI (M 61 v4))), some (.int (iI (v5 + 1))), none]) ⟨rfl, ⟨rfl, ⟨rfl, ⟨rfl, ⟨rfl, trivial⟩⟩⟩⟩⟩ ?_
          exact ih v3 (M 61 v4) (v5 + 1) M hB9 h
set_option maxHeartbeats 4000000 in
theorem w_X1_depthFirst_2 {G : gC} {X : gX} {res : Mem} {F : Nat} (C : Cx G X cX1_depthFirst 7 RX1 2 0 0 none []) (E : Fnl G X 0 0 (.inr none) res) : ∀ (fu : Nat) (v2 : Int) (v3 : Int) (M : Mem), Bd M → f_X1_depthFirst_2 F fu v2 v3 M = some res → Go G X 7 0 0 2 [some (rf G 60), some (rf G 1), some (.int (iI v2)), some (.int (iI v3)), none, none, none] [] M := by
  intro fu
  induction fu with
  | zero => intro v2 v3 M hB h; exact nomatch (show (none : Option (Mem)) = some res from h)
  | succ fu ih =>
    intro v2 v3 M hB h
    rw [f_X1_depthFirst_2] at h
    obtain ⟨hp_v3, h⟩ := chk_some h
    refine go_iload_n C dX1_depthFirst_2 rfl rfl ?_
    refine go_aload_n C dX1_depthFirst_3 rfl rfl ?_
    refine go_getI (z := 0) C dX1_depthFirst_4 fl_X1_15 sh_1 rfl rfl ?_
    refine go_icmp_ge (tgt := 23) C dX1_depthFirst_7 rfl hp_v3 (hB 1 0 (by decide)) (fun hc1 => ?_) (fun hc1 => ?_)
    · replace h := ite_t hc1 h
      refine go_aload_n C dX1_depthFirst_23 rfl rfl ?_
      refine go_getR (o := 4) (k2 := 5) C dX1_depthFirst_24 fl_X1_21 sh_1 rfl rfl ?_
      refine go_iload_n C dX1_depthFirst_27 rfl rfl ?_
      refine go_iconst C dX1_depthFirst_28 ?_
      obtain ⟨hc2, h⟩ := chk_some h
      refine go_iast C dX1_depthFirst_29 sh_5 (by decide) hc2 ?_
      have hB3 := hB.set 5 v2 (x := 0) (by decide)
      refine go_aload_n C dX1_depthFirst_30 rfl rfl ?_
      refine go_getR (o := 1) (k2 := 61) C dX1_depthFirst_31 fl_X1_9 sh_60 rfl rfl ?_
      refine go_iload_n C dX1_depthFirst_34 rfl rfl ?_
      refine go_iconst C dX1_depthFirst_35 ?_
      refine go_iast C dX1_depthFirst_36 sh_61 (by decide) hc2 ?_
      have hB4 := hB3.set 61 v2 (x := (-1)) (by decide)
      refine go_iconst C dX1_depthFirst_37 ?_
      refine go_istore_n (ls2 := [some (rf G 60), some (rf G 1), some (.int (iI v2)), some (.int (iI 1)), none, none, none]) C dX1_depthFirst_38 rfl (Nat.le_of_ble_eq_true rfl) rfl ?_
      refine go_iload_n C dX1_depthFirst_39 rfl rfl ?_
      refine go_istore (ls2 := [some (rf G 60), some (rf G 1), some (.int (iI v2)), some (.int (iI 1)), some (.int (iI v2)), none, none]) C dX1_depthFirst_40 (Nat.le_of_ble_eq_true rfl) rfl ?_
      refine go_iconst C dX1_depthFirst_42 ?_
      refine go_istore (ls2 := [some (rf G 60), some (rf G 1), some (.int (iI v2)), some (.int (iI 1)), some (.int (iI v2)), some (.int (iI 0)), none]) C dX1_depthFirst_43 (Nat.le_of_ble_eq_true rfl) rfl ?_
      refine go_weak (ls' := [some (rf G 60), some (rf G 1), none, some (.int (iI 1)), some (.int (iI v2)), some (.int (iI 0)), none]) ⟨rfl, ⟨rfl, ⟨rfl, ⟨rfl, ⟨rfl, trivial⟩⟩⟩⟩⟩ ?_
      exact w_X1_depthFirst_45 C E F 1 v2 0 (mset (mset M 5 v2 0) 61 v2 (-1)) hB4 h
    · replace h := ite_f hc1 h
      refine go_aload_n C dX1_depthFirst_10 rfl rfl ?_
      refine go_getR (o := 4) (k2 := 5) C dX1_depthFirst_11 fl_X1_21 sh_1 rfl rfl ?_
      refine go_iload_n C dX1_depthFirst_14 rfl rfl ?_
      refine go_iconst C dX1_depthFirst_15 ?_
      obtain ⟨hc16, h⟩ := chk_some h
      refine go_iast C dX1_depthFirst_16 sh_5 (by decide) hc16 ?_
      have hB17 := hB.set 5 v3 (x := (-1)) (by decide)
      refine go_iinc (ls2 := [some (rf G 60), some (rf G 1), some (.int (iI v2)), some (.int (iI (v3 + 1))), none, none, none]) C dX1_depthFirst_17 rfl (Nat.le_of_ble_eq_true rfl) rfl ?_
      refine go_goto (tgt := 2) C dX1_depthFirst_20 rfl ?_
      exact ih v2 (v3 + 1) (mset M 5 v3 (-1)) hB17 h
set_option maxHeartbeats 4000000 in
theorem ok_X1_depthFirst {G : gC} {l : Launch} (hl : l.stackTraces = false) {F : Nat} {v2 : Int} {M : Mem} (hB : Bd M) {res : Mem} (h : f_X1_depthFirst F v2 M = some res) : Ok G l 2 0 0 yX1_depthFirst (.code yX1_depthFirst cX1_depthFirst 7 none) [rf G 60, rf G 1, .int (iI v2)] M (.inr none) res := by
  refine ok_of (ls := [some (rf G 60), some (rf G 1), some (.int (iI v2)), none, none, none, none]) hl (by decide +kernel) (Nat.le_of_ble_eq_true rfl) ⟨rfl, ⟨rfl, ⟨rfl, trivial⟩⟩⟩ ?_
  intro X hX C E
  subst hX
  rw [f_X1_depthFirst] at h
  refine go_iconst C dX1_depthFirst_0 ?_
  refine go_istore_n (ls2 := [some (rf G 60), some (rf G 1), some (.int (iI v2)), some (.int (iI 0)), none, none, none]) C dX1_depthFirst_1 rfl (Nat.le_of_ble_eq_true rfl) rfl ?_
  exact w_X1_depthFirst_2 C E F v2 0 M hB h
-- IntervalRouter$Ways.between(II)I
set_option maxHeartbeats 4000000 in
theorem ok_X8_between {G : gC} {l : Launch} (hl : l.stackTraces = false) {v1 : Int} {v2 : Int} {M : Mem} (hB : Bd M) {res : Int} (h : f_X8_between v1 v2 M = some res) : Ok G l 0 0 0 yX8_between (.code yX8_between cX8_between 3 (some .int)) [rf G 39, .int (iI v1), .int (iI v2)] M (.inr (some (.int (iI res)))) M := by
  refine ok_of (ls := [some (rf G 39), some (.int (iI v1)), some (.int (iI v2))]) hl (by decide +kernel) (Nat.le_of_ble_eq_true rfl) ⟨rfl, ⟨rfl, ⟨rfl, trivial⟩⟩⟩ ?_
  intro X hX C E
  subst hX
  rw [f_X8_between] at h
  refine go_aload_n C dX8_between_0 rfl rfl ?_
  refine go_getR (o := 1) (k2 := 40) C dX8_between_1 fl_X8_9 sh_39 rfl rfl ?_
  refine go_iload_n C dX8_between_4 rfl rfl ?_
  refine go_bipush C dX8_between_5 (by decide +kernel) ?_
  refine go_imul C dX8_between_7 ?_
  refine go_iload_n C dX8_between_8 rfl rfl ?_
  refine go_iadd C dX8_between_9 ?_
  obtain ⟨hc1, h⟩ := chk_some h
  refine go_iald C dX8_between_10 sh_40 (by decide) hc1 ?_
  cases h
  exact go_iret C E rfl dX8_between_11 (Nat.le_of_ble_eq_true rfl) (Nat.le_of_ble_eq_true rfl) rfl rfl hB
-- IntervalRouter$Labeler.byRank(LIntervalRouter$State;LIntervalRouter$Ways;I)V
set_option maxHeartbeats 4000000 in
theorem w_X1_byRank_18 {G : gC} {X : gX} {res : Mem} {F : Nat} (C : Cx G X cX1_byRank 8 RX1 1 0 0 none []) (E : Fnl G X 0 0 (.inr none) res) {k3 : Int → Int → Mem → Option (Mem)} (hk3 : ∀ (v3 : Int) (v4 : Int) (M : Mem), Bd M → k3 v3 v4 M = some res → Go G X 8 0 0 3 [none, some (rf G 1), some (rf G 39), some (.int (iI v3)), some (.int (iI v4)), none, none, none] [] M) : ∀ (fu : Nat) (v3 : Int) (v4 : Int) (v5 : Int) (v6 : Int) (M : Mem), Bd M → f_X1_byRank_18 F k3 fu v3 v4 v5 v6 M = some res → Go G X 8 0 0 18 [none, some (rf G 1), some (rf G 39), some (.int (iI v3)), some (.int (iI v4)), some (.int (iI v5)), some (.int (iI v6)), none] [] M := by
  intro fu
  induction fu with
  | zero => intro v3 v4 v5 v6 M hB h; exact nomatch (show (none : Option (Mem)) = some res from h)
  | succ fu ih =>
    intro v3 v4 v5 v6 M hB h
    rw [f_X1_byRank_18] at h
    obtain ⟨⟨hp_v4, hp_v5, hp_v6⟩, h⟩ := chk_some h
    refine go_iload C dX1_byRank_18 rfl ?_
    refine go_aload_n C dX1_byRank_20 rfl rfl ?_
    refine go_getI (z := 0) C dX1_byRank_21 fl_X1_15 sh_1 rfl rfl ?_
    refine go_icmp_ge (tgt := 70) C dX1_byRank_24 rfl hp_v6 (hB 1 0 (by decide)) (fun hc2 => ?_) (fun hc2 => ?_)
    · replace h := ite_t hc2 h
      refine go_aload_n C dX1_byRank_70 rfl rfl ?_
      refine go_getR (o := 4) (k2 := 5) C dX1_byRank_71 fl_X1_21 sh_1 rfl rfl ?_
      refine go_iload C dX1_byRank_74 rfl ?_
      refine go_iload C dX1_byRank_76 rfl ?_
      obtain ⟨hc3, h⟩ := chk_some h
      refine go_iast C dX1_byRank_78 sh_5 (by decide) hc3 ?_
      have hB4 := hB.set 5 v4 (x := v5) hp_v5
      refine go_iinc (ls2 := [none, some (rf G 1), some (rf G 39), some (.int (iI v3)), some (.int (iI (v4 + 1))), some (.int (iI v5)), some (.int (iI v6)), none]) C dX1_byRank_79 rfl (Nat.le_of_ble_eq_true rfl) rfl ?_
      refine go_goto (tgt := 3) C dX1_byRank_82 rfl ?_
      refine go_weak (ls' := [none, some (rf G 1), some (rf G 39), some (.int (iI v3)), some (.int (iI (v4 + 1))), none, none, none]) ⟨rfl, ⟨rfl, ⟨rfl, ⟨rfl, trivial⟩⟩⟩⟩ ?_
      exact hk3 v3 (v4 + 1) (mset M 5 v4 v5) hB4 h
    · replace h := ite_f hc2 h
      refine go_aload_n C dX1_byRank_27 rfl rfl ?_
      refine go_iload_n C dX1_byRank_28 rfl rfl ?_
      refine go_iload C dX1_byRank_29 rfl ?_
      obtain ⟨q5, h5, h⟩ := ob_some h
      refine go_callV_i C dX1_byRank_31 (ok_X8_between C.hl hB h5) mv_X1_32 sh_39 rfl rfl (Nat.le_of_ble_eq_true rfl) ⟨(Nat.le_of_ble_eq_true rfl), (Nat.le_of_ble_eq_true rfl)⟩ ⟨(Nat.le_of_ble_eq_true rfl), (Nat.le_of_ble_eq_true rfl)⟩ (fun hB5 => ?_)
      refine go_aload_n C dX1_byRank_34 rfl rfl ?_
      refine go_iload_n C dX1_byRank_35 rfl rfl ?_
      refine go_iload C dX1_byRank_36 rfl ?_
      obtain ⟨q6, h6, h⟩ := ob_some h
      refine go_callV_i C dX1_byRank_38 (ok_X8_between C.hl hB5 h6) mv_X1_32 sh_39 rfl rfl (Nat.le_of_ble_eq_true rfl) ⟨(Nat.le_of_ble_eq_true rfl), (Nat.le_of_ble_eq_true rfl)⟩ ⟨(Nat.le_of_ble_eq_true rfl), (Nat.le_of_ble_eq_true rfl)⟩ (fun hB6 => ?_)
      refine go_isub C dX1_byRank_41 ?_
      refine go_istore (ls2 := [none, some (rf G 1), some (rf G 39), some (.int (iI v3)), some (.int (iI v4)), some (.int (iI v5)), some (.int (iI v6)), some (.int (iI (q5 - q6)))]) C dX1_byRank_42 (Nat.le_of_ble_eq_true rfl) rfl ?_
      refine go_iload C dX1_byRank_44 rfl ?_
      obtain ⟨hc7, h⟩ := chk_some h
      refine go_if_lt (tgt := 61) C dX1_byRank_46 rfl hc7 (fun hc8 => ?_) (fun hc8 => ?_)
      · replace h := ite_t hc8 h
        refine go_iinc (ls2 := [none, some (rf G 1), some (rf G 39), some (.int (iI v3)), some (.int (iI v4)), some (.int (iI (v5 + 1))), some (.int (iI v6)), some (.int (iI (q5 - q6)))]) C dX1_byRank_61 rfl (Nat.le_of_ble_eq_true rfl) rfl ?_
        refine go_iinc (ls2 := [none, some (rf G 1), some (rf G 39), some (.int (iI v3)), some (.int (iI v4)), some (.int (iI (v5 + 1))), some (.int (iI (v6 + 1))), some (.int (iI (q5 - q6)))]) C dX1_byRank_64 rfl (Nat.le_of_ble_eq_true rfl) rfl ?_
        refine go_goto (tgt := 18) C dX1_byRank_67 rfl ?_
        refine go_weak (ls' := [none, some (rf G 1), some (rf G 39), some (.int (iI v3)), some (.int (iI v4)), some (.int (iI (v5 + 1))), some (.int (iI (v6 + 1))), none]) ⟨rfl, ⟨rfl, ⟨rfl, ⟨rfl, ⟨rfl, ⟨rfl, trivial⟩⟩⟩⟩⟩⟩ ?_
        exact ih v3 v4 (v5 + 1) (v6 + 1) M hB6 h
      · replace h := ite_f hc8 h
        refine go_iload C dX1_byRank_49 rfl ?_
        refine go_if_ne (tgt := 64) C dX1_byRank_51 rfl hc7 (fun hc9 => ?_) (fun hc9 => ?_)
        · replace h := ite_f hc9 h
          refine go_iinc (ls2 := [none, some (rf G 1), some (rf G 39), some (.int (iI v3)), some (.int (iI v4)), some (.int (iI v5)), some (.int (iI (v6 + 1))), some (.int (iI (q5 - q6)))]) C dX1_byRank_64 rfl (Nat.le_of_ble_eq_true rfl) rfl ?_
          refine go_goto (tgt := 18) C dX1_byRank_67 rfl ?_
          refine go_weak (ls' := [none, some (rf G 1), some (rf G 39), some (.int (iI v3)), some (.int (iI v4)), some (.int (iI v5)), some (.int (iI (v6 + 1))), none]) ⟨rfl, ⟨rfl, ⟨rfl, ⟨rfl, ⟨rfl, ⟨rfl, trivial⟩⟩⟩⟩⟩⟩ ?_
          exact ih v3 v4 v5 (v6 + 1) M hB6 h
        · replace h := ite_t hc9 h
          refine go_iload C dX1_byRank_54 rfl ?_
          refine go_iload C dX1_byRank_56 rfl ?_
          refine go_icmp_ge (tgt := 64) C dX1_byRank_58 rfl hp_v6 hp_v4 (fun hc10 => ?_) (fun hc10 => ?_)
          · replace h := ite_t hc10 h
            refine go_iinc (ls2 := [none, some (rf G 1), some (rf G 39), some (.int (iI v3)), some (.int (iI v4)), some (.int (iI v5)), some (.int (iI (v6 + 1))), some (.int (iI (q5 - q6)))]) C dX1_byRank_64 rfl (Nat.le_of_ble_eq_true rfl) rfl ?_
            refine go_goto (tgt := 18) C dX1_byRank_67 rfl ?_
            refine go_weak (ls' := [none, some (rf G 1), some (rf G 39), some (.int (iI v3)), some (.int (iI v4)), some (.int (iI v5)), some (.int (iI (v6 + 1))), none]) ⟨rfl, ⟨rfl, ⟨rfl, ⟨rfl, ⟨rfl, ⟨rfl, trivial⟩⟩⟩⟩⟩⟩ ?_
            exact ih v3 v4 v5 (v6 + 1) M hB6 h
          · replace h := ite_f hc10 h
            refine go_iinc (ls2 := [none, some (rf G 1), some (rf G 39), some (.int (iI v3)), some (.int (iI v4)), some (.int (iI (v5 + 1))), some (.int (iI v6)), some (.int (iI (q5 - q6)))]) C dX1_byRank_61 rfl (Nat.le_of_ble_eq_true rfl) rfl ?_
            refine go_iinc (ls2 := [none, some (rf G 1), some (rf G 39), some (.int (iI v3)), some (.int (iI v4)), some (.int (iI (v5 + 1))), some (.int (iI (v6 + 1))), some (.int (iI (q5 - q6)))]) C dX1_byRank_64 rfl (Nat.le_of_ble_eq_true rfl) rfl ?_
            refine go_goto (tgt := 18) C dX1_byRank_67 rfl ?_
            refine go_weak (ls' := [none, some (rf G 1), some (rf G 39), some (.int (iI v3)), some (.int (iI v4)), some (.int (iI (v5 + 1))), some (.int (iI (v6 + 1))), none]) ⟨rfl, ⟨rfl, ⟨rfl, ⟨rfl, ⟨rfl, ⟨rfl, trivial⟩⟩⟩⟩⟩⟩ ?_
            exact ih v3 v4 (v5 + 1) (v6 + 1) M hB6 h
set_option maxHeartbeats 4000000 in
theorem w_X1_byRank_3 {G : gC} {X : gX} {res : Mem} {F : Nat} (C : Cx G X cX1_byRank 8 RX1 1 0 0 none []) (E : Fnl G X 0 0 (.inr none) res) : ∀ (fu : Nat) (v3 : Int) (v4 : Int) (M : Mem), Bd M → f_X1_byRank_3 F fu v3 v4 M = some res → Go G X 8 0 0 3 [none, some (rf G 1), some (rf G 39), some (.int (iI v3)), some (.int (iI v4)), none, none, none] [] M := by
  intro fu
  induction fu with
  | zero => intro v3 v4 M hB h; exact nomatch (show (none : Option (Mem)) = some res from h)
  | succ fu ih =>
    intro v3 v4 M hB h
    rw [f_X1_byRank_3] at h
    obtain ⟨hp_v4, h⟩ := chk_some h
    refine go_iload C dX1_byRank_3 rfl ?_
    refine go_aload_n C dX1_byRank_5 rfl rfl ?_
    refine go_getI (z := 0) C dX1_byRank_6 fl_X1_15 sh_1 rfl rfl ?_
    refine go_icmp_ge (tgt := 85) C dX1_byRank_9 rfl hp_v4 (hB 1 0 (by decide)) (fun hc1 => ?_) (fun hc1 => ?_)
    · replace h := ite_t hc1 h
      cases h
      exact go_vret C E rfl dX1_byRank_85 (Nat.le_of_ble_eq_true rfl) (Nat.le_of_ble_eq_true rfl) rfl rfl hB
    · replace h := ite_f hc1 h
      refine go_iconst C dX1_byRank_12 ?_
      refine go_istore (ls2 := [none, some (rf G 1), some (rf G 39), some (.int (iI v3)), some (.int (iI v4)), some (.int (iI 0)), none, none]) C dX1_byRank_13 (Nat.le_of_ble_eq_true rfl) rfl ?_
      refine go_iconst C dX1_byRank_15 ?_
      refine go_istore (ls2 := [none, some (rf G 1), some (rf G 39), some (.int (iI v3)), some (.int (iI v4)), some (.int (iI 0)), some (.int (iI 0)), none]) C dX1_byRank_16 (Nat.le_of_ble_eq_true rfl) rfl ?_
      exact w_X1_byRank_18 C E ih F v3 v4 0 0 M hB h
set_option maxHeartbeats 4000000 in
theorem ok_X1_byRank {G : gC} {l : Launch} (hl : l.stackTraces = false) {F : Nat} {v3 : Int} {M : Mem} (hB : Bd M) {res : Mem} (h : f_X1_byRank F v3 M = some res) : Ok G l 1 0 0 yX1_byRank (.code yX1_byRank cX1_byRank 8 none) [rf G 60, rf G 1, rf G 39, .int (iI v3)] M (.inr none) res := by
  refine ok_of (ls := [some (rf G 60), some (rf G 1), some (rf G 39), some (.int (iI v3)), none, none, none, none]) hl (by decide +kernel) (Nat.le_of_ble_eq_true rfl) ⟨rfl, ⟨rfl, ⟨rfl, ⟨rfl, trivial⟩⟩⟩⟩ ?_
  intro X hX C E
  subst hX
  rw [f_X1_byRank] at h
  refine go_iconst C dX1_byRank_0 ?_
  refine go_istore (ls2 := [some (rf G 60), some (rf G 1), some (rf G 39), some (.int (iI v3)), some (.int (iI 0)), none, none, none]) C dX1_byRank_1 (Nat.le_of_ble_eq_true rfl) rfl ?_
  refine go_weak (ls' := [none, some (rf G 1), some (rf G 39), some (.int (iI v3)), some (.int (iI 0)), none, none, none]) ⟨rfl, ⟨rfl, ⟨rfl, ⟨rfl, trivial⟩⟩⟩⟩ ?_
  exact w_X1_byRank_3 C E F v3 0 M hB h
-- IntervalRouter$State.resetLabels()V
set_option maxHeartbeats 4000000 in
theorem w_X6_resetLabels_2 {G : gC} {X : gX} {res : Mem} {F : Nat} {r : Nat} (hr : shT[r]? = some (.inl 6)) (C : Cx G X cX6_resetLabels 2 RX6 0 0 0 none []) (E : Fnl G X 0 0 (.inr none) res) : ∀ (fu : Nat) (v1 : Int) (M : Mem), Bd M → f_X6_resetLabels_2 F r fu v1 M = some res → Go G X 2 0 0 2 [some (rf G r), some (.int (iI v1))] [] M := by
  intro fu
  induction fu with
  | zero => intro v1 M hB h; exact nomatch (show (none : Option (Mem)) = some res from h)
  | succ fu ih =>
    intro v1 M hB h
    rw [f_X6_resetLabels_2] at h
    obtain ⟨hp_v1, h⟩ := chk_some h
    refine go_iload_n C dX6_resetLabels_2 rfl rfl ?_
    refine go_aload_n C dX6_resetLabels_3 rfl rfl ?_
    refine go_getI (z := 0) C dX6_resetLabels_4 fl_X6_33 hr rfl rfl ?_
    refine go_icmp_ge (tgt := 23) C dX6_resetLabels_7 rfl hp_v1 (hB r 0 (Nat.lt_of_lt_of_le (sh_lt hr) (by decide))) (fun hc1 => ?_) (fun hc1 => ?_)
    · replace h := ite_t hc1 h
      cases h
      exact go_vret C E rfl dX6_resetLabels_23 (Nat.le_of_ble_eq_true rfl) (Nat.le_of_ble_eq_true rfl) rfl rfl hB
    · replace h := ite_f hc1 h
      refine go_aload_n C dX6_resetLabels_10 rfl rfl ?_
      refine go_getR (o := 4) (k2 := (r + 4)) C dX6_resetLabels_11 fl_X6_21 hr rfl rfl ?_
      refine go_iload_n C dX6_resetLabels_14 rfl rfl ?_
      refine go_iload_n C dX6_resetLabels_15 rfl rfl ?_
      obtain ⟨hc2, h⟩ := chk_some h
      refine go_iast C dX6_resetLabels_16 (so_6_5 hr) (by decide) hc2 ?_
      have hB3 := hB.set (r + 4) v1 (x := v1) hp_v1
      refine go_iinc (ls2 := [some (rf G r), some (.int (iI (v1 + 1)))]) C dX6_resetLabels_17 rfl (Nat.le_of_ble_eq_true rfl) rfl ?_
      refine go_goto (tgt := 2) C dX6_resetLabels_20 rfl ?_
      exact ih (v1 + 1) (mset M (r + 4) v1 v1) hB3 h
set_option maxHeartbeats 4000000 in
theorem ok_X6_resetLabels {G : gC} {l : Launch} (hl : l.stackTraces = false) {F : Nat} {M : Mem} (hB : Bd M) {r : Nat} (hr : shT[r]? = some (.inl 6)) {res : Mem} (h : f_X6_resetLabels F r M = some res) : Ok G l 0 0 0 yX6_resetLabels (.code yX6_resetLabels cX6_resetLabels 2 none) [rf G r] M (.inr none) res := by
  refine ok_of (ls := [some (rf G r), none]) hl (by decide +kernel) (Nat.le_of_ble_eq_true rfl) ⟨rfl, trivial⟩ ?_
  intro X hX C E
  subst hX
  rw [f_X6_resetLabels] at h
  refine go_iconst C dX6_resetLabels_0 ?_
  refine go_istore_n (ls2 := [some (rf G r), some (.int (iI 0))]) C dX6_resetLabels_1 rfl (Nat.le_of_ble_eq_true rfl) rfl ?_
  exact w_X6_resetLabels_2 hr C E F 0 M hB h
-- IntervalRouter$State.exchangeLabels(II)V
set_option maxHeartbeats 4000000 in
theorem ok_X6_exchangeLabels {G : gC} {l : Launch} (hl : l.stackTraces = false) {v1 : Int} {v2 : Int} {M : Mem} (hB : Bd M) {r : Nat} (hr : shT[r]? = some (.inl 6)) {res : Mem} (h : f_X6_exchangeLabels r v1 v2 M = some res) : Ok G l 0 0 0 yX6_exchangeLabels (.code yX6_exchangeLabels cX6_exchangeLabels 4 none) [rf G r, .int (iI v1), .int (iI v2)] M (.inr none) res := by
  refine ok_of (ls := [some (rf G r), some (.int (iI v1)), some (.int (iI v2)), none]) hl (by decide +kernel) (Nat.le_of_ble_eq_true rfl) ⟨rfl, ⟨rfl, ⟨rfl, trivial⟩⟩⟩ ?_
  intro X hX C E
  subst hX
  rw [f_X6_exchangeLabels] at h
  refine go_aload_n C dX6_exchangeLabels_0 rfl rfl ?_
  refine go_getR (o := 4) (k2 := (r + 4)) C dX6_exchangeLabels_1 fl_X6_21 hr rfl rfl ?_
  refine go_iload_n C dX6_exchangeLabels_4 rfl rfl ?_
  obtain ⟨hc1, h⟩ := chk_some h
  refine go_iald C dX6_exchangeLabels_5 (so_6_5 hr) (by decide) hc1 ?_
  refine go_istore_n (ls2 := [some (rf G r), some (.int (iI v1)), some (.int (iI v2)), some (.int (iI (M (r + 4) v1)))]) C dX6_exchangeLabels_6 rfl (Nat.le_of_ble_eq_true rfl) rfl ?_
  refine go_aload_n C dX6_exchangeLabels_7 rfl rfl ?_
  refine go_getR (o := 4) (k2 := (r + 4)) C dX6_exchangeLabels_8 fl_X6_21 hr rfl rfl ?_
  refine go_iload_n C dX6_exchangeLabels_11 rfl rfl ?_
  refine go_aload_n C dX6_exchangeLabels_12 rfl rfl ?_
  refine go_getR (o := 4) (k2 := (r + 4)) C dX6_exchangeLabels_13 fl_X6_21 hr rfl rfl ?_
  refine go_iload_n C dX6_exchangeLabels_16 rfl rfl ?_
  obtain ⟨hc2, h⟩ := chk_some h
  refine go_iald C dX6_exchangeLabels_17 (so_6_5 hr) (by decide) hc2 ?_
  refine go_iast C dX6_exchangeLabels_18 (so_6_5 hr) (by decide) hc1 ?_
  have hB3 := hB.set (r + 4) v1 (x := M (r + 4) v2) (hB (r + 4) v2 (Nat.lt_of_lt_of_le (sh_lt (so_6_5 hr)) (by decide)))
  refine go_aload_n C dX6_exchangeLabels_19 rfl rfl ?_
  refine go_getR (o := 4) (k2 := (r + 4)) C dX6_exchangeLabels_20 fl_X6_21 hr rfl rfl ?_
  refine go_iload_n C dX6_exchangeLabels_23 rfl rfl ?_
  refine go_iload_n C dX6_exchangeLabels_24 rfl rfl ?_
  refine go_iast C dX6_exchangeLabels_25 (so_6_5 hr) (by decide) hc2 ?_
  have hB4 := hB3.set (r + 4) v2 (x := M (r + 4) v1) (hB (r + 4) v1 (Nat.lt_of_lt_of_le (sh_lt (so_6_5 hr)) (by decide)))
  cases h
  exact go_vret C E rfl dX6_exchangeLabels_26 (Nat.le_of_ble_eq_true rfl) (Nat.le_of_ble_eq_true rfl) rfl rfl hB4
-- IntervalRouter$Labeler.atRandom(LIntervalRouter$State;I)V
set_option maxHeartbeats 4000000 in
theorem w_X1_atRandom_15 {G : gC} {X : gX} {res : Mem} {F : Nat} (C : Cx G X cX1_atRandom 7 RX1 1 0 0 none []) (E : Fnl G X 0 0 (.inr none) res) : ∀ (fu : Nat) (v3 : Int) (v5 : Int) (M : Mem), Bd M → f_X1_atRandom_15 F fu v3 v5 M = some res → Go G X 7 0 0 15 [none, some (rf G 1), none, some (.long (lI v3)), none, some (.int (iI v5)), none] [] M := by
  intro fu
  induction fu with
  | zero => intro v3 v5 M hB h; exact nomatch (show (none : Option (Mem)) = some res from h)
  | succ fu ih =>
    intro v3 v5 M hB h
    rw [f_X1_atRandom_15] at h
    obtain ⟨hp_v5, h⟩ := chk_some h
    refine go_iload C dX1_atRandom_15 rfl ?_
    refine go_iconst C dX1_atRandom_17 ?_
    refine go_icmp_lt (tgt := 63) C dX1_atRandom_18 rfl hp_v5 (by decide) (fun hc2 => ?_) (fun hc2 => ?_)
    · replace h := ite_t hc2 h
      cases h
      exact go_vret C E rfl dX1_atRandom_63 (Nat.le_of_ble_eq_true rfl) (Nat.le_of_ble_eq_true rfl) rfl rfl hB
    · replace h := ite_f hc2 h
      refine go_ldc2 (v := 1103515245) C dX1_atRandom_21 gt_897 ?_
      refine go_lload_n C dX1_atRandom_24 rfl rfl ?_
      refine go_lmul C dX1_atRandom_25 ?_
      refine go_ldc2 (v := 12345) C dX1_atRandom_26 gt_898 ?_
      refine go_ladd C dX1_atRandom_29 ?_
      refine go_ldc2 (v := 2147483648) C dX1_atRandom_30 gt_899 ?_
      obtain ⟨hc3, h⟩ := chk_some h
      refine go_lrem C dX1_atRandom_33 hc3 ?_
      refine go_lstore_n (ls2 := [none, some (rf G 1), none, some (.long (lI (((1103515245 * v3) + 12345) % 2147483648))), none, some (.int (iI v5)), none]) C dX1_atRandom_34 rfl (Nat.le_of_ble_eq_true rfl) rfl ?_
      refine go_lload_n C dX1_atRandom_35 rfl rfl ?_
      refine go_ldc2 (v := 65536) C dX1_atRandom_36 gt_900 ?_
      obtain ⟨hc4, h⟩ := chk_some h
      refine go_ldiv C dX1_atRandom_39 hc4 ?_
      refine go_iload C dX1_atRandom_40 rfl ?_
      refine go_iconst C dX1_atRandom_42 ?_
      refine go_iadd C dX1_atRandom_43 ?_
      obtain ⟨hc5, h⟩ := chk_some h
      refine go_i2l C dX1_atRandom_44 hc5 ?_
      obtain ⟨hc6, h⟩ := chk_some h
      refine go_lrem C dX1_atRandom_45 hc6 ?_
      refine go_l2i C dX1_atRandom_46 ?_
      refine go_istore (ls2 := [none, some (rf G 1), none, some (.long (lI (((1103515245 * v3) + 12345) % 2147483648))), none, some (.int (iI v5)), some (.int (iI (((((1103515245 * v3) + 12345) % 2147483648) / 65536) % (v5 + 1))))]) C dX1_atRandom_47 (Nat.le_of_ble_eq_true rfl) rfl ?_
      refine go_aload_n C dX1_atRandom_49 rfl rfl ?_
      refine go_iload C dX1_atRandom_50 rfl ?_
      refine go_iload C dX1_atRandom_52 rfl ?_
      obtain ⟨q7, h7, h⟩ := ob_some h
      refine go_callV_v C dX1_atRandom_54 (ok_X6_exchangeLabels C.hl hB sh_1 h7) mv_X1_49 sh_1 rfl rfl (Nat.le_of_ble_eq_true rfl) ⟨(Nat.le_of_ble_eq_true rfl), (Nat.le_of_ble_eq_true rfl)⟩ ⟨(Nat.le_of_ble_eq_true rfl), (Nat.le_of_ble_eq_true rfl)⟩ (fun hB7 => ?_)
      refine go_iinc (ls2 := [none, some (rf G 1), none, some (.long (lI (((1103515245 * v3) + 12345) % 2147483648))), none, some (.int (iI (v5 + (-1)))), some (.int (iI (((((1103515245 * v3) + 12345) % 2147483648) / 65536) % (v5 + 1))))]) C dX1_atRandom_57 rfl (Nat.le_of_ble_eq_true rfl) rfl ?_
      refine go_goto (tgt := 15) C dX1_atRandom_60 rfl ?_
      refine go_weak (ls' := [none, some (rf G 1), none, some (.long (lI (((1103515245 * v3) + 12345) % 2147483648))), none, some (.int (iI (v5 + (-1)))), none]) ⟨rfl, ⟨rfl, ⟨rfl, trivial⟩⟩⟩ ?_
      exact ih (((1103515245 * v3) + 12345) % 2147483648) (v5 + (-1)) q7 hB7 h
set_option maxHeartbeats 4000000 in
theorem ok_X1_atRandom {G : gC} {l : Launch} (hl : l.stackTraces = false) {F : Nat} {v2 : Int} {M : Mem} (hB : Bd M) {res : Mem} (h : f_X1_atRandom F v2 M = some res) : Ok G l 1 0 0 yX1_atRandom (.code yX1_atRandom cX1_atRandom 7 none) [rf G 60, rf G 1, .int (iI v2)] M (.inr none) res := by
  refine ok_of (ls := [some (rf G 60), some (rf G 1), some (.int (iI v2)), none, none, none, none]) hl (by decide +kernel) (Nat.le_of_ble_eq_true rfl) ⟨rfl, ⟨rfl, ⟨rfl, trivial⟩⟩⟩ ?_
  intro X hX C E
  subst hX
  rw [f_X1_atRandom] at h
  obtain ⟨hp_v2, h⟩ := chk_some h
  refine go_aload_n C dX1_atRandom_0 rfl rfl ?_
  obtain ⟨q1, h1, h⟩ := ob_some h
  refine go_callV_v C dX1_atRandom_1 (ok_X6_resetLabels C.hl hB sh_1 h1) mv_X1_38 sh_1 rfl rfl (Nat.le_of_ble_eq_true rfl) ⟨(Nat.le_of_ble_eq_true rfl), (Nat.le_of_ble_eq_true rfl)⟩ ⟨(Nat.le_of_ble_eq_true rfl), (Nat.le_of_ble_eq_true rfl)⟩ (fun hB1 => ?_)
  refine go_iload_n C dX1_atRandom_4 rfl rfl ?_
  refine go_i2l C dX1_atRandom_5 hp_v2 ?_
  refine go_lstore_n (ls2 := [some (rf G 60), some (rf G 1), some (.int (iI v2)), some (.long (lI v2)), none, none, none]) C dX1_atRandom_6 rfl (Nat.le_of_ble_eq_true rfl) rfl ?_
  refine go_aload_n C dX1_atRandom_7 rfl rfl ?_
  refine go_getI (z := 0) C dX1_atRandom_8 fl_X1_15 sh_1 rfl rfl ?_
  refine go_iconst C dX1_atRandom_11 ?_
  refine go_isub C dX1_atRandom_12 ?_
  refine go_istore (ls2 := [some (rf G 60), some (rf G 1), some (.int (iI v2)), some (.long (lI v2)), none, some (.int (iI ((q1 1 0) - 1))), none]) C dX1_atRandom_13 (Nat.le_of_ble_eq_true rfl) rfl ?_
  refine go_weak (ls' := [none, some (rf G 1), none, some (.long (lI v2)), none, some (.int (iI ((q1 1 0) - 1))), none]) ⟨rfl, ⟨rfl, ⟨rfl, trivial⟩⟩⟩ ?_
  exact w_X1_atRandom_15 C E F v2 ((q1 1 0) - 1) q1 hB1 h
-- IntervalRouter$State.entryAt(II)I
set_option maxHeartbeats 4000000 in
theorem ok_X6_entryAt {G : gC} {l : Launch} (hl : l.stackTraces = false) {v1 : Int} {v2 : Int} {M : Mem} (hB : Bd M) {r : Nat} (hr : shT[r]? = some (.inl 6)) {res : Int} (h : f_X6_entryAt r v1 v2 M = some res) : Ok G l 0 0 0 yX6_entryAt (.code yX6_entryAt cX6_entryAt 3 (some .int)) [rf G r, .int (iI v1), .int (iI v2)] M (.inr (some (.int (iI res)))) M := by
  refine ok_of (ls := [some (rf G r), some (.int (iI v1)), some (.int (iI v2))]) hl (by decide +kernel) (Nat.le_of_ble_eq_true rfl) ⟨rfl, ⟨rfl, ⟨rfl, trivial⟩⟩⟩ ?_
  intro X hX C E
  subst hX
  rw [f_X6_entryAt] at h
  refine go_aload_n C dX6_entryAt_0 rfl rfl ?_
  refine go_getR (o := 5) (k2 := (r + 5)) C dX6_entryAt_1 fl_X6_24 hr rfl rfl ?_
  refine go_iload_n C dX6_entryAt_4 rfl rfl ?_
  refine go_bipush C dX6_entryAt_5 (by decide +kernel) ?_
  refine go_imul C dX6_entryAt_7 ?_
  refine go_iload_n C dX6_entryAt_8 rfl rfl ?_
  refine go_iadd C dX6_entryAt_9 ?_
  obtain ⟨hc1, h⟩ := chk_some h
  refine go_iald C dX6_entryAt_10 (so_6_6 hr) (by decide) hc1 ?_
  cases h
  exact go_iret C E rfl dX6_entryAt_11 (Nat.le_of_ble_eq_true rfl) (Nat.le_of_ble_eq_true rfl) rfl rfl hB
-- IntervalRouter$State.lowestLinkBut(II)I
set_option maxHeartbeats 4000000 in
theorem w_X6_lowestLinkBut_2 {G : gC} {X : gX} {res : Int} {F : Nat} {M : Mem} (hB : Bd M) {r : Nat} (hr : shT[r]? = some (.inl 6)) (C : Cx G X cX6_lowestLinkBut 4 RX6 1 0 0 (some .int) []) (E : Fnl G X 0 0 (.inr (some (.int (iI res)))) M) : ∀ (fu : Nat) (v1 : Int) (v2 : Int) (v3 : Int), f_X6_lowestLinkBut_2 F r fu v1 v2 v3 M = some res → Go G X 4 0 0 2 [some (rf G r), some (.int (iI v1)), some (.int (iI v2)), some (.int (iI v3))] [] M := by
  intro fu
  induction fu with
  | zero => intro v1 v2 v3 h; exact nomatch (show (none : Option (Int)) = some res from h)
  | succ fu ih =>
    intro v1 v2 v3 h
    rw [f_X6_lowestLinkBut_2] at h
    obtain ⟨⟨hp_v1, hp_v3⟩, h⟩ := chk_some h
    refine go_iload_n C dX6_lowestLinkBut_2 rfl rfl ?_
    refine go_aload_n C dX6_lowestLinkBut_3 rfl rfl ?_
    refine go_getI (z := 1) C dX6_lowestLinkBut_4 fl_X6_37 hr rfl rfl ?_
    refine go_icmp_ge (tgt := 32) C dX6_lowestLinkBut_7 rfl hp_v3 (hB r 1 (Nat.lt_of_lt_of_le (sh_lt hr) (by decide))) (fun hc1 => ?_) (fun hc1 => ?_)
    · replace h := ite_t hc1 h
      refine go_iconst C dX6_lowestLinkBut_32 ?_
      cases h
      exact go_iret C E rfl dX6_lowestLinkBut_33 (Nat.le_of_ble_eq_true rfl) (Nat.le_of_ble_eq_true rfl) rfl rfl hB
    · replace h := ite_f hc1 h
      refine go_iload_n C dX6_lowestLinkBut_10 rfl rfl ?_
      refine go_iload_n C dX6_lowestLinkBut_11 rfl rfl ?_
      refine go_icmp_eq (tgt := 26) C dX6_lowestLinkBut_12 rfl hp_v3 hp_v1 (fun hc2 => ?_) (fun hc2 => ?_)
      · replace h := ite_t hc2 h
        refine go_iinc (ls2 := [some (rf G r), some (.int (iI v1)), some (.int (iI v2)), some (.int (iI (v3 + 1)))]) C dX6_lowestLinkBut_26 rfl (Nat.le_of_ble_eq_true rfl) rfl ?_
        refine go_goto (tgt := 2) C dX6_lowestLinkBut_29 rfl ?_
        exact ih v1 v2 (v3 + 1) h
      · replace h := ite_f hc2 h
        refine go_aload_n C dX6_lowestLinkBut_15 rfl rfl ?_
        refine go_iload_n C dX6_lowestLinkBut_16 rfl rfl ?_
        refine go_iload_n C dX6_lowestLinkBut_17 rfl rfl ?_
        obtain ⟨q3, h3, h⟩ := ob_some h
        refine go_callV_i C dX6_lowestLinkBut_18 (ok_X6_touches C.hl hB hr h3) mv_X6_52 hr rfl rfl (Nat.le_of_ble_eq_true rfl) ⟨(Nat.le_of_ble_eq_true rfl), (Nat.le_of_ble_eq_true rfl)⟩ ⟨(Nat.le_of_ble_eq_true rfl), (Nat.le_of_ble_eq_true rfl)⟩ (fun hB3 => ?_)
        obtain ⟨hc4, h⟩ := chk_some h
        refine go_if_eq (tgt := 26) C dX6_lowestLinkBut_21 rfl hc4 (fun hc5 => ?_) (fun hc5 => ?_)
        · replace h := ite_t hc5 h
          refine go_iinc (ls2 := [some (rf G r), some (.int (iI v1)), some (.int (iI v2)), some (.int (iI (v3 + 1)))]) C dX6_lowestLinkBut_26 rfl (Nat.le_of_ble_eq_true rfl) rfl ?_
          refine go_goto (tgt := 2) C dX6_lowestLinkBut_29 rfl ?_
          exact ih v1 v2 (v3 + 1) h
        · replace h := ite_f hc5 h
          refine go_iload_n C dX6_lowestLinkBut_24 rfl rfl ?_
          cases h
          exact go_iret C E rfl dX6_lowestLinkBut_25 (Nat.le_of_ble_eq_true rfl) (Nat.le_of_ble_eq_true rfl) rfl rfl hB3
set_option maxHeartbeats 4000000 in
theorem ok_X6_lowestLinkBut {G : gC} {l : Launch} (hl : l.stackTraces = false) {F : Nat} {v1 : Int} {v2 : Int} {M : Mem} (hB : Bd M) {r : Nat} (hr : shT[r]? = some (.inl 6)) {res : Int} (h : f_X6_lowestLinkBut F r v1 v2 M = some res) : Ok G l 1 0 0 yX6_lowestLinkBut (.code yX6_lowestLinkBut cX6_lowestLinkBut 4 (some .int)) [rf G r, .int (iI v1), .int (iI v2)] M (.inr (some (.int (iI res)))) M := by
  refine ok_of (ls := [some (rf G r), some (.int (iI v1)), some (.int (iI v2)), none]) hl (by decide +kernel) (Nat.le_of_ble_eq_true rfl) ⟨rfl, ⟨rfl, ⟨rfl, trivial⟩⟩⟩ ?_
  intro X hX C E
  subst hX
  rw [f_X6_lowestLinkBut] at h
  refine go_iconst C dX6_lowestLinkBut_0 ?_
  refine go_istore_n (ls2 := [some (rf G r), some (.int (iI v1)), some (.int (iI v2)), some (.int (iI 0))]) C dX6_lowestLinkBut_1 rfl (Nat.le_of_ble_eq_true rfl) rfl ?_
  exact w_X6_lowestLinkBut_2 hB hr C E F v1 v2 0 h
-- IntervalRouter$Letter.travel(LIntervalRouter$State;III)V
set_option maxHeartbeats 4000000 in
theorem w_X2_travel_75 {G : gC} {X : gX} {res : Mem} {F : Nat} (C : Cx G X cX2_travel 8 RX2 2 0 0 none []) (E : Fnl G X 0 0 (.inr none) res) {k23 : Int → Int → Int → Int → Mem → Option (Mem)} (hk23 : ∀ (v3 : Int) (v4 : Int) (v5 : Int) (v6 : Int) (M : Mem), Bd M → k23 v3 v4 v5 v6 M = some res → Go G X 8 0 0 23 [some (rf G 57), some (rf G 1), none, some (.int (iI v3)), some (.int (iI v4)), some (.int (iI v5)), some (.int (iI v6)), none] [] M) : ∀ (v3 : Int) (v4 : Int) (v5 : Int) (v6 : Int) (v7 : Int) (M : Mem), Bd M → f_X2_travel_75 F k23 v3 v4 v5 v6 v7 M = some res → Go G X 8 0 0 75 [some (rf G 57), some (rf G 1), none, some (.int (iI v3)), some (.int (iI v4)), some (.int (iI v5)), some (.int (iI v6)), some (.int (iI v7))] [] M := by
  intro v3 v4 v5 v6 v7 M hB h
  rw [f_X2_travel_75] at h
  obtain ⟨⟨hp_v3, hp_v5, hp_v7⟩, h⟩ := chk_some h
  refine go_iload C dX2_travel_75 rfl ?_
  refine go_iconst C dX2_travel_77 ?_
  refine go_icmp_ne (tgt := 84) C dX2_travel_78 rfl hp_v7 (by decide) (fun hc16 => ?_) (fun hc16 => ?_)
  · replace h := ite_f hc16 h
    refine go_aload_n C dX2_travel_84 rfl rfl ?_
    refine go_iload C dX2_travel_85 rfl ?_
    refine go_iload C dX2_travel_87 rfl ?_
    obtain ⟨q17, h17, h⟩ := ob_some h
    refine go_callV_i C dX2_travel_89 (ok_X6_otherEnd C.hl hB sh_1 h17) mv_X2_40 sh_1 rfl rfl (Nat.le_of_ble_eq_true rfl) ⟨(Nat.le_of_ble_eq_true rfl), (Nat.le_of_ble_eq_true rfl)⟩ ⟨(Nat.le_of_ble_eq_true rfl), (Nat.le_of_ble_eq_true rfl)⟩ (fun hB17 => ?_)
    refine go_istore (ls2 := [some (rf G 57), some (rf G 1), none, some (.int (iI v3)), some (.int (iI v4)), some (.int (iI q17)), some (.int (iI v6)), some (.int (iI v7))]) C dX2_travel_92 (Nat.le_of_ble_eq_true rfl) rfl ?_
    refine go_aload_n C dX2_travel_94 rfl rfl ?_
    refine go_getR (o := 2) (k2 := 59) C dX2_travel_95 fl_X2_15 sh_57 rfl rfl ?_
    refine go_iload C dX2_travel_98 rfl ?_
    refine go_iload C dX2_travel_100 rfl ?_
    obtain ⟨hc18, h⟩ := chk_some h
    refine go_iast C dX2_travel_102 sh_59 (by decide) hc18 ?_
    have hB19 := hB17.set 59 v6 (x := v7) hp_v7
    refine go_aload_n C dX2_travel_103 rfl rfl ?_
    refine go_getR (o := 1) (k2 := 58) C dX2_travel_104 fl_X2_9 sh_57 rfl rfl ?_
    refine go_iload C dX2_travel_107 rfl ?_
    refine go_iconst C dX2_travel_109 ?_
    refine go_iadd C dX2_travel_110 ?_
    refine go_iload C dX2_travel_111 rfl ?_
    obtain ⟨hc20, h⟩ := chk_some h
    obtain ⟨hc21, h⟩ := chk_some h
    refine go_iast C dX2_travel_113 sh_58 (by decide) hc20 ?_
    have hB22 := hB19.set 58 (v6 + 1) (x := q17) hc21
    refine go_aload_n C dX2_travel_114 rfl rfl ?_
    refine go_dup C dX2_travel_115 rfl ?_
    refine go_getI (z := 2) C dX2_travel_116 fl_X2_18 sh_57 rfl rfl ?_
    refine go_iconst C dX2_travel_119 ?_
    refine go_iadd C dX2_travel_120 ?_
    obtain ⟨hc23, h⟩ := chk_some h
    refine go_putI (z := 2) C dX2_travel_121 fp_X2_18 sh_57 rfl rfl rfl rfl ?_
    have hB24 := hB22.set 57 2 (x := ((mset (mset M 59 v6 v7) 58 (v6 + 1) q17) 57 2) + 1) hc23
    refine go_aload_n C dX2_travel_124 rfl rfl ?_
    refine go_dup C dX2_travel_125 rfl ?_
    refine go_getI (z := 1) C dX2_travel_126 fl_X2_22 sh_57 rfl rfl ?_
    refine go_aload_n C dX2_travel_129 rfl rfl ?_
    refine go_getR (o := 3) (k2 := 4) C dX2_travel_130 fl_X2_43 sh_1 rfl rfl ?_
    refine go_iload C dX2_travel_133 rfl ?_
    obtain ⟨hc25, h⟩ := chk_some h
    refine go_iald C dX2_travel_135 sh_4 (by decide) hc25 ?_
    refine go_iadd C dX2_travel_136 ?_
    obtain ⟨hc26, h⟩ := chk_some h
    refine go_putI (z := 1) C dX2_travel_137 fp_X2_22 sh_57 rfl rfl rfl rfl ?_
    have hB27 := hB24.set 57 1 (x := ((mset (mset (mset M 59 v6 v7) 58 (v6 + 1) q17) 57 2 (((mset (mset M 59 v6 v7) 58 (v6 + 1) q17) 57 2) + 1)) 57 1) + ((mset (mset (mset M 59 v6 v7) 58 (v6 + 1) q17) 57 2 (((mset (mset M 59 v6 v7) 58 (v6 + 1) q17) 57 2) + 1)) 4 v7)) hc26
    refine go_iinc (ls2 := [some (rf G 57), some (rf G 1), none, some (.int (iI v3)), some (.int (iI v4)), some (.int (iI q17)), some (.int (iI (v6 + 1))), some (.int (iI v7))]) C dX2_travel_140 rfl (Nat.le_of_ble_eq_true rfl) rfl ?_
    refine go_goto (tgt := 23) C dX2_travel_143 rfl ?_
    refine go_weak (ls' := [some (rf G 57), some (rf G 1), none, some (.int (iI v3)), some (.int (iI v4)), some (.int (iI q17)), some (.int (iI (v6 + 1))), none]) ⟨rfl, ⟨rfl, ⟨rfl, ⟨rfl, ⟨rfl, ⟨rfl, trivial⟩⟩⟩⟩⟩⟩ ?_
    exact hk23 v3 v4 q17 (v6 + 1) (mset (mset (mset (mset M 59 v6 v7) 58 (v6 + 1) q17) 57 2 (((mset (mset M 59 v6 v7) 58 (v6 + 1) q17) 57 2) + 1)) 57 1 (((mset (mset (mset M 59 v6 v7) 58 (v6 + 1) q17) 57 2 (((mset (mset M 59 v6 v7) 58 (v6 + 1) q17) 57 2) + 1)) 57 1) + ((mset (mset (mset M 59 v6 v7) 58 (v6 + 1) q17) 57 2 (((mset (mset M 59 v6 v7) 58 (v6 + 1) q17) 57 2) + 1)) 4 v7))) hB27 h
  · replace h := ite_t hc16 h
    refine go_goto (tgt := 146) C dX2_travel_81 rfl ?_
    refine go_aload_n C dX2_travel_146 rfl rfl ?_
    refine go_iload C dX2_travel_147 rfl ?_
    refine go_iload_n C dX2_travel_149 rfl rfl ?_
    refine go_icmp_ne (tgt := 157) C dX2_travel_150 rfl hp_v5 hp_v3 (fun hc28 => ?_) (fun hc28 => ?_)
    · replace h := ite_f hc28 h
      refine go_iconst C dX2_travel_157 ?_
      refine go_putI (z := 0) C dX2_travel_158 fp_X2_46 sh_57 rfl rfl (nar_b (by decide)) (fit_b (by decide)) ?_
      have hB29 := hB.set 57 0 (x := 0) (by decide)
      cases h
      exact go_vret C E rfl dX2_travel_161 (Nat.le_of_ble_eq_true rfl) (Nat.le_of_ble_eq_true rfl) rfl rfl hB29
    · replace h := ite_t hc28 h
      refine go_iconst C dX2_travel_153 ?_
      refine go_goto (tgt := 158) C dX2_travel_154 rfl ?_
      refine go_putI (z := 0) C dX2_travel_158 fp_X2_46 sh_57 rfl rfl (nar_b (by decide)) (fit_b (by decide)) ?_
      have hB30 := hB.set 57 0 (x := 1) (by decide)
      cases h
      exact go_vret C E rfl dX2_travel_161 (Nat.le_of_ble_eq_true rfl) (Nat.le_of_ble_eq_true rfl) rfl rfl hB30
set_option maxHeartbeats 4000000 in
theorem w_X2_travel_23 {G : gC} {X : gX} {res : Mem} {F : Nat} (C : Cx G X cX2_travel 8 RX2 2 0 0 none []) (E : Fnl G X 0 0 (.inr none) res) : ∀ (fu : Nat) (v3 : Int) (v4 : Int) (v5 : Int) (v6 : Int) (M : Mem), Bd M → f_X2_travel_23 F fu v3 v4 v5 v6 M = some res → Go G X 8 0 0 23 [some (rf G 57), some (rf G 1), none, some (.int (iI v3)), some (.int (iI v4)), some (.int (iI v5)), some (.int (iI v6)), none] [] M := by
  intro fu
  induction fu with
  | zero => intro v3 v4 v5 v6 M hB h; exact nomatch (show (none : Option (Mem)) = some res from h)
  | succ fu ih =>
    intro v3 v4 v5 v6 M hB h
    rw [f_X2_travel_23] at h
    obtain ⟨⟨hp_v3, hp_v4, hp_v5, hp_v6⟩, h⟩ := chk_some h
    refine go_iload C dX2_travel_23 rfl ?_
    refine go_aload_n C dX2_travel_25 rfl rfl ?_
    refine go_getI (z := 0) C dX2_travel_26 fl_X2_25 sh_1 rfl rfl ?_
    refine go_icmp_ge (tgt := 146) C dX2_travel_29 rfl hp_v6 (hB 1 0 (by decide)) (fun hc4 => ?_) (fun hc4 => ?_)
    · replace h := ite_t hc4 h
      refine go_aload_n C dX2_travel_146 rfl rfl ?_
      refine go_iload C dX2_travel_147 rfl ?_
      refine go_iload_n C dX2_travel_149 rfl rfl ?_
      refine go_icmp_ne (tgt := 157) C dX2_travel_150 rfl hp_v5 hp_v3 (fun hc5 => ?_) (fun hc5 => ?_)
      · replace h := ite_f hc5 h
        refine go_iconst C dX2_travel_157 ?_
        refine go_putI (z := 0) C dX2_travel_158 fp_X2_46 sh_57 rfl rfl (nar_b (by decide)) (fit_b (by decide)) ?_
        have hB6 := hB.set 57 0 (x := 0) (by decide)
        cases h
        exact go_vret C E rfl dX2_travel_161 (Nat.le_of_ble_eq_true rfl) (Nat.le_of_ble_eq_true rfl) rfl rfl hB6
      · replace h := ite_t hc5 h
        refine go_iconst C dX2_travel_153 ?_
        refine go_goto (tgt := 158) C dX2_travel_154 rfl ?_
        refine go_putI (z := 0) C dX2_travel_158 fp_X2_46 sh_57 rfl rfl (nar_b (by decide)) (fit_b (by decide)) ?_
        have hB7 := hB.set 57 0 (x := 1) (by decide)
        cases h
        exact go_vret C E rfl dX2_travel_161 (Nat.le_of_ble_eq_true rfl) (Nat.le_of_ble_eq_true rfl) rfl rfl hB7
    · replace h := ite_f hc4 h
      refine go_iload C dX2_travel_32 rfl ?_
      refine go_iload_n C dX2_travel_34 rfl rfl ?_
      refine go_icmp_eq (tgt := 146) C dX2_travel_35 rfl hp_v5 hp_v3 (fun hc8 => ?_) (fun hc8 => ?_)
      · replace h := ite_t hc8 h
        refine go_aload_n C dX2_travel_146 rfl rfl ?_
        refine go_iload C dX2_travel_147 rfl ?_
        refine go_iload_n C dX2_travel_149 rfl rfl ?_
        refine go_icmp_ne (tgt := 157) C dX2_travel_150 rfl hp_v5 hp_v3 (fun hc9 => ?_) (fun hc9 => ?_)
        · replace h := ite_f hc9 h
          refine go_iconst C dX2_travel_157 ?_
          refine go_putI (z := 0) C dX2_travel_158 fp_X2_46 sh_57 rfl rfl (nar_b (by decide)) (fit_b (by decide)) ?_
          have hB10 := hB.set 57 0 (x := 0) (by decide)
          cases h
          exact go_vret C E rfl dX2_travel_161 (Nat.le_of_ble_eq_true rfl) (Nat.le_of_ble_eq_true rfl) rfl rfl hB10
        · replace h := ite_t hc9 h
          refine go_iconst C dX2_travel_153 ?_
          refine go_goto (tgt := 158) C dX2_travel_154 rfl ?_
          refine go_putI (z := 0) C dX2_travel_158 fp_X2_46 sh_57 rfl rfl (nar_b (by decide)) (fit_b (by decide)) ?_
          have hB11 := hB.set 57 0 (x := 1) (by decide)
          cases h
          exact go_vret C E rfl dX2_travel_161 (Nat.le_of_ble_eq_true rfl) (Nat.le_of_ble_eq_true rfl) rfl rfl hB11
      · replace h := ite_f hc8 h
        refine go_aload_n C dX2_travel_38 rfl rfl ?_
        refine go_iload C dX2_travel_39 rfl ?_
        refine go_aload_n C dX2_travel_41 rfl rfl ?_
        refine go_getR (o := 4) (k2 := 5) C dX2_travel_42 fl_X2_30 sh_1 rfl rfl ?_
        refine go_iload_n C dX2_travel_45 rfl rfl ?_
        obtain ⟨hc12, h⟩ := chk_some h
        refine go_iald C dX2_travel_46 sh_5 (by decide) hc12 ?_
        obtain ⟨q13, h13, h⟩ := ob_some h
        refine go_callV_i C dX2_travel_47 (ok_X6_entryAt C.hl hB sh_1 h13) mv_X2_33 sh_1 rfl rfl (Nat.le_of_ble_eq_true rfl) ⟨(Nat.le_of_ble_eq_true rfl), (Nat.le_of_ble_eq_true rfl)⟩ ⟨(Nat.le_of_ble_eq_true rfl), (Nat.le_of_ble_eq_true rfl)⟩ (fun hB13 => ?_)
        refine go_istore (ls2 := [some (rf G 57), some (rf G 1), none, some (.int (iI v3)), some (.int (iI v4)), some (.int (iI v5)), some (.int (iI v6)), some (.int (iI q13))]) C dX2_travel_50 (Nat.le_of_ble_eq_true rfl) rfl ?_
        refine go_iload C dX2_travel_52 rfl ?_
        refine go_iconst C dX2_travel_54 ?_
        obtain ⟨hc14, h⟩ := chk_some h
        refine go_icmp_eq (tgt := 75) C dX2_travel_55 rfl hc14 (by decide) (fun hc15 => ?_) (fun hc15 => ?_)
        · replace h := ite_t hc15 h
          exact w_X2_travel_75 C E ih v3 v4 v5 v6 q13 M hB13 h
        · replace h := ite_f hc15 h
          refine go_iload C dX2_travel_58 rfl ?_
          refine go_iload C dX2_travel_60 rfl ?_
          refine go_icmp_ne (tgt := 75) C dX2_travel_62 rfl hc14 hp_v4 (fun hc31 => ?_) (fun hc31 => ?_)
          · replace h := ite_f hc31 h
            exact w_X2_travel_75 C E ih v3 v4 v5 v6 q13 M hB13 h
          · replace h := ite_t hc31 h
            refine go_aload_n C dX2_travel_65 rfl rfl ?_
            refine go_iload C dX2_travel_66 rfl ?_
            refine go_iload C dX2_travel_68 rfl ?_
            obtain ⟨q32, h32, h⟩ := ob_some h
            refine go_callV_i C dX2_travel_70 (ok_X6_lowestLinkBut C.hl hB13 sh_1 h32) mv_X2_37 sh_1 rfl rfl (Nat.le_of_ble_eq_true rfl) ⟨(Nat.le_of_ble_eq_true rfl), (Nat.le_of_ble_eq_true rfl)⟩ ⟨(Nat.le_of_ble_eq_true rfl), (Nat.le_of_ble_eq_true rfl)⟩ (fun hB32 => ?_)
            refine go_istore (ls2 := [some (rf G 57), some (rf G 1), none, some (.int (iI v3)), some (.int (iI v4)), some (.int (iI v5)), some (.int (iI v6)), some (.int (iI q32))]) C dX2_travel_73 (Nat.le_of_ble_eq_true rfl) rfl ?_
            exact w_X2_travel_75 C E ih v3 v4 v5 v6 q32 M hB32 h
set_option maxHeartbeats 4000000 in
theorem ok_X2_travel {G : gC} {l : Launch} (hl : l.stackTraces = false) {F : Nat} {v2 : Int} {v3 : Int} {v4 : Int} {M : Mem} (hB : Bd M) {res : Mem} (h : f_X2_travel F v2 v3 v4 M = some res) : Ok G l 2 0 0 yX2_travel (.code yX2_travel cX2_travel 8 none) [rf G 57, rf G 1, .int (iI v2), .int (iI v3), .int (iI v4)] M (.inr none) res := by
  refine ok_of (ls := [some (rf G 57), some (rf G 1), some (.int (iI v2)), some (.int (iI v3)), some (.int (iI v4)), none, none, none]) hl (by decide +kernel) (Nat.le_of_ble_eq_true rfl) ⟨rfl, ⟨rfl, ⟨rfl, ⟨rfl, ⟨rfl, trivial⟩⟩⟩⟩⟩ ?_
  intro X hX C E
  subst hX
  rw [f_X2_travel] at h
  obtain ⟨hp_v2, h⟩ := chk_some h
  refine go_iload_n C dX2_travel_0 rfl rfl ?_
  refine go_istore (ls2 := [some (rf G 57), some (rf G 1), some (.int (iI v2)), some (.int (iI v3)), some (.int (iI v4)), some (.int (iI v2)), none, none]) C dX2_travel_1 (Nat.le_of_ble_eq_true rfl) rfl ?_
  refine go_aload_n C dX2_travel_3 rfl rfl ?_
  refine go_getR (o := 1) (k2 := 58) C dX2_travel_4 fl_X2_9 sh_57 rfl rfl ?_
  refine go_iconst C dX2_travel_7 ?_
  refine go_iload_n C dX2_travel_8 rfl rfl ?_
  refine go_iast C dX2_travel_9 sh_58 (by decide) ⟨by decide, by decide⟩ ?_
  have hB1 := hB.set 58 0 (x := v2) hp_v2
  refine go_aload_n C dX2_travel_10 rfl rfl ?_
  refine go_iconst C dX2_travel_11 ?_
  refine go_putI (z := 2) C dX2_travel_12 fp_X2_18 sh_57 rfl rfl rfl rfl ?_
  have hB2 := hB1.set 57 2 (x := 1) (by decide)
  refine go_aload_n C dX2_travel_15 rfl rfl ?_
  refine go_iconst C dX2_travel_16 ?_
  refine go_putI (z := 1) C dX2_travel_17 fp_X2_22 sh_57 rfl rfl rfl rfl ?_
  have hB3 := hB2.set 57 1 (x := 0) (by decide)
  refine go_iconst C dX2_travel_20 ?_
  refine go_istore (ls2 := [some (rf G 57), some (rf G 1), some (.int (iI v2)), some (.int (iI v3)), some (.int (iI v4)), some (.int (iI v2)), some (.int (iI 0)), none]) C dX2_travel_21 (Nat.le_of_ble_eq_true rfl) rfl ?_
  refine go_weak (ls' := [some (rf G 57), some (rf G 1), none, some (.int (iI v3)), some (.int (iI v4)), some (.int (iI v2)), some (.int (iI 0)), none]) ⟨rfl, ⟨rfl, ⟨rfl, ⟨rfl, ⟨rfl, ⟨rfl, trivial⟩⟩⟩⟩⟩⟩ ?_
  exact w_X2_travel_23 C E F v3 v4 v2 0 (mset (mset (mset M 58 0 v2) 57 2 1) 57 1 0) hB3 h
-- IntervalRouter$Letter.wentOver(I)Z
set_option maxHeartbeats 4000000 in
theorem w_X2_wentOver_2 {G : gC} {X : gX} {res : Int} {F : Nat} {M : Mem} (hB : Bd M) (C : Cx G X cX2_wentOver 3 RX2 0 0 0 (some .boolean) []) (E : Fnl G X 0 0 (.inr (some (.int (iI res)))) M) : ∀ (fu : Nat) (v1 : Int) (v2 : Int), f_X2_wentOver_2 F fu v1 v2 M = some res → Go G X 3 0 0 2 [some (rf G 57), some (.int (iI v1)), some (.int (iI v2))] [] M := by
  intro fu
  induction fu with
  | zero => intro v1 v2 h; exact nomatch (show (none : Option (Int)) = some res from h)
  | succ fu ih =>
    intro v1 v2 h
    rw [f_X2_wentOver_2] at h
    obtain ⟨⟨hp_v1, hp_v2⟩, h⟩ := chk_some h
    refine go_iload_n C dX2_wentOver_2 rfl rfl ?_
    refine go_aload_n C dX2_wentOver_3 rfl rfl ?_
    refine go_getI (z := 2) C dX2_wentOver_4 fl_X2_18 sh_57 rfl rfl ?_
    refine go_iconst C dX2_wentOver_7 ?_
    refine go_isub C dX2_wentOver_8 ?_
    obtain ⟨hc1, h⟩ := chk_some h
    refine go_icmp_ge (tgt := 30) C dX2_wentOver_9 rfl hp_v2 hc1 (fun hc2 => ?_) (fun hc2 => ?_)
    · replace h := ite_t hc2 h
      refine go_iconst C dX2_wentOver_30 ?_
      cases h
      exact go_zret C E rfl dX2_wentOver_31 (by decide) (Nat.le_of_ble_eq_true rfl) (Nat.le_of_ble_eq_true rfl) rfl rfl hB
    · replace h := ite_f hc2 h
      refine go_aload_n C dX2_wentOver_12 rfl rfl ?_
      refine go_getR (o := 2) (k2 := 59) C dX2_wentOver_13 fl_X2_15 sh_57 rfl rfl ?_
      refine go_iload_n C dX2_wentOver_16 rfl rfl ?_
      obtain ⟨hc3, h⟩ := chk_some h
      refine go_iald C dX2_wentOver_17 sh_59 (by decide) hc3 ?_
      refine go_iload_n C dX2_wentOver_18 rfl rfl ?_
      refine go_icmp_ne (tgt := 24) C dX2_wentOver_19 rfl (hB 59 v2 (by decide)) hp_v1 (fun hc4 => ?_) (fun hc4 => ?_)
      · replace h := ite_f hc4 h
        refine go_iinc (ls2 := [some (rf G 57), some (.int (iI v1)), some (.int (iI (v2 + 1)))]) C dX2_wentOver_24 rfl (Nat.le_of_ble_eq_true rfl) rfl ?_
        refine go_goto (tgt := 2) C dX2_wentOver_27 rfl ?_
        exact ih v1 (v2 + 1) h
      · replace h := ite_t hc4 h
        refine go_iconst C dX2_wentOver_22 ?_
        cases h
        exact go_zret C E rfl dX2_wentOver_23 (by decide) (Nat.le_of_ble_eq_true rfl) (Nat.le_of_ble_eq_true rfl) rfl rfl hB
set_option maxHeartbeats 4000000 in
theorem ok_X2_wentOver {G : gC} {l : Launch} (hl : l.stackTraces = false) {F : Nat} {v1 : Int} {M : Mem} (hB : Bd M) {res : Int} (h : f_X2_wentOver F v1 M = some res) : Ok G l 0 0 0 yX2_wentOver (.code yX2_wentOver cX2_wentOver 3 (some .boolean)) [rf G 57, .int (iI v1)] M (.inr (some (.int (iI res)))) M := by
  refine ok_of (ls := [some (rf G 57), some (.int (iI v1)), none]) hl (by decide +kernel) (Nat.le_of_ble_eq_true rfl) ⟨rfl, ⟨rfl, trivial⟩⟩ ?_
  intro X hX C E
  subst hX
  rw [f_X2_wentOver] at h
  refine go_iconst C dX2_wentOver_0 ?_
  refine go_istore_n (ls2 := [some (rf G 57), some (.int (iI v1)), some (.int (iI 0))]) C dX2_wentOver_1 rfl (Nat.le_of_ble_eq_true rfl) rfl ?_
  exact w_X2_wentOver_2 hB C E F v1 0 h
-- IntervalRouter$NetworkText.put(I)V
set_option maxHeartbeats 4000000 in
theorem ok_X3_put {G : gC} {l : Launch} (hl : l.stackTraces = false) {v1 : Int} {M : Mem} (hB : Bd M) {res : Mem} (h : f_X3_put v1 M = some res) : Ok G l 0 0 0 yX3_put (.code yX3_put cX3_put 2 none) [rf G 62, .int (iI v1)] M (.inr none) res := by
  refine ok_of (ls := [some (rf G 62), some (.int (iI v1))]) hl (by decide +kernel) (Nat.le_of_ble_eq_true rfl) ⟨rfl, ⟨rfl, trivial⟩⟩ ?_
  intro X hX C E
  subst hX
  rw [f_X3_put] at h
  obtain ⟨hp_v1, h⟩ := chk_some h
  refine go_aload_n C dX3_put_0 rfl rfl ?_
  refine go_getR (o := 1) (k2 := 63) C dX3_put_1 fl_X3_9 sh_62 rfl rfl ?_
  refine go_aload_n C dX3_put_4 rfl rfl ?_
  refine go_getI (z := 0) C dX3_put_5 fl_X3_15 sh_62 rfl rfl ?_
  refine go_iload_n C dX3_put_8 rfl rfl ?_
  obtain ⟨hc1, h⟩ := chk_some h
  refine go_iast C dX3_put_9 sh_63 (by decide) hc1 ?_
  have hB2 := hB.set 63 (M 62 0) (x := v1) hp_v1
  refine go_aload_n C dX3_put_10 rfl rfl ?_
  refine go_dup C dX3_put_11 rfl ?_
  refine go_getI (z := 0) C dX3_put_12 fl_X3_15 sh_62 rfl rfl ?_
  refine go_iconst C dX3_put_15 ?_
  refine go_iadd C dX3_put_16 ?_
  obtain ⟨hc3, h⟩ := chk_some h
  refine go_putI (z := 0) C dX3_put_17 fp_X3_15 sh_62 rfl rfl rfl rfl ?_
  have hB4 := hB2.set 62 0 (x := ((mset M 63 (M 62 0) v1) 62 0) + 1) hc3
  cases h
  exact go_vret C E rfl dX3_put_20 (Nat.le_of_ble_eq_true rfl) (Nat.le_of_ble_eq_true rfl) rfl rfl hB4
-- IntervalRouter$NetworkText.digitAt(I)I
set_option maxHeartbeats 4000000 in
theorem ok_X3_digitAt {G : gC} {l : Launch} (hl : l.stackTraces = false) {v1 : Int} {M : Mem} (hB : Bd M) {res : Int} (h : f_X3_digitAt v1 M = some res) : Ok G l 0 0 0 yX3_digitAt (.code yX3_digitAt cX3_digitAt 2 (some .int)) [rf G 62, .int (iI v1)] M (.inr (some (.int (iI res)))) M := by
  refine ok_of (ls := [some (rf G 62), some (.int (iI v1))]) hl (by decide +kernel) (Nat.le_of_ble_eq_true rfl) ⟨rfl, ⟨rfl, trivial⟩⟩ ?_
  intro X hX C E
  subst hX
  rw [f_X3_digitAt] at h
  obtain ⟨hp_v1, h⟩ := chk_some h
  refine go_iload_n C dX3_digitAt_0 rfl rfl ?_
  refine go_aload_n C dX3_digitAt_1 rfl rfl ?_
  refine go_getI (z := 0) C dX3_digitAt_2 fl_X3_15 sh_62 rfl rfl ?_
  refine go_icmp_ge (tgt := 30) C dX3_digitAt_5 rfl hp_v1 (hB 62 0 (by decide)) (fun hc1 => ?_) (fun hc1 => ?_)
  · replace h := ite_t hc1 h
    refine go_iconst C dX3_digitAt_30 ?_
    cases h
    exact go_iret C E rfl dX3_digitAt_31 (Nat.le_of_ble_eq_true rfl) (Nat.le_of_ble_eq_true rfl) rfl rfl hB
  · replace h := ite_f hc1 h
    refine go_aload_n C dX3_digitAt_8 rfl rfl ?_
    refine go_getR (o := 1) (k2 := 63) C dX3_digitAt_9 fl_X3_9 sh_62 rfl rfl ?_
    refine go_iload_n C dX3_digitAt_12 rfl rfl ?_
    obtain ⟨hc2, h⟩ := chk_some h
    refine go_iald C dX3_digitAt_13 sh_63 (by decide) hc2 ?_
    refine go_bipush C dX3_digitAt_14 (by decide +kernel) ?_
    refine go_icmp_lt (tgt := 30) C dX3_digitAt_16 rfl (hB 63 v1 (by decide)) (by decide) (fun hc3 => ?_) (fun hc3 => ?_)
    · replace h := ite_t hc3 h
      refine go_iconst C dX3_digitAt_30 ?_
      cases h
      exact go_iret C E rfl dX3_digitAt_31 (Nat.le_of_ble_eq_true rfl) (Nat.le_of_ble_eq_true rfl) rfl rfl hB
    · replace h := ite_f hc3 h
      refine go_aload_n C dX3_digitAt_19 rfl rfl ?_
      refine go_getR (o := 1) (k2 := 63) C dX3_digitAt_20 fl_X3_9 sh_62 rfl rfl ?_
      refine go_iload_n C dX3_digitAt_23 rfl rfl ?_
      refine go_iald C dX3_digitAt_24 sh_63 (by decide) hc2 ?_
      refine go_bipush C dX3_digitAt_25 (by decide +kernel) ?_
      refine go_icmp_le (tgt := 32) C dX3_digitAt_27 rfl (hB 63 v1 (by decide)) (by decide) (fun hc4 => ?_) (fun hc4 => ?_)
      · replace h := ite_t hc4 h
        refine go_aload_n C dX3_digitAt_32 rfl rfl ?_
        refine go_getR (o := 1) (k2 := 63) C dX3_digitAt_33 fl_X3_9 sh_62 rfl rfl ?_
        refine go_iload_n C dX3_digitAt_36 rfl rfl ?_
        refine go_iald C dX3_digitAt_37 sh_63 (by decide) hc2 ?_
        refine go_bipush C dX3_digitAt_38 (by decide +kernel) ?_
        refine go_isub C dX3_digitAt_40 ?_
        cases h
        exact go_iret C E rfl dX3_digitAt_41 (Nat.le_of_ble_eq_true rfl) (Nat.le_of_ble_eq_true rfl) rfl rfl hB
      · replace h := ite_f hc4 h
        refine go_iconst C dX3_digitAt_30 ?_
        cases h
        exact go_iret C E rfl dX3_digitAt_31 (Nat.le_of_ble_eq_true rfl) (Nat.le_of_ble_eq_true rfl) rfl rfl hB
-- java/util/Arrays.fill([II)V
set_option maxHeartbeats 4000000 in
theorem w_J7_fill_53178_5 {G : gC} {X : gX} {res : Mem} {F : Nat} {a : Nat} (ha : shT[a]? = some (.inr (0, (alen a)))) (C : Cx G X cJ7_fill_53178 4 RJ7 0 0 0 none []) (E : Fnl G X 0 0 (.inr none) res) : ∀ (fu : Nat) (v1 : Int) (v2 : Int) (v3 : Int) (M : Mem), Bd M → f_J7_fill_53178_5 F a fu v1 v2 v3 M = some res → Go G X 4 0 0 5 [some (rf G a), some (.int (iI v1)), some (.int (iI v2)), some (.int (iI v3))] [] M := by
  intro fu
  induction fu with
  | zero => intro v1 v2 v3 M hB h; exact nomatch (show (none : Option (Mem)) = some res from h)
  | succ fu ih =>
    intro v1 v2 v3 M hB h
    rw [f_J7_fill_53178_5] at h
    obtain ⟨⟨hp_v1, hp_v2, hp_v3⟩, h⟩ := chk_some h
    refine go_iload_n C dJ7_fill_53178_5 rfl rfl ?_
    refine go_iload_n C dJ7_fill_53178_6 rfl rfl ?_
    refine go_icmp_ge (tgt := 20) C dJ7_fill_53178_7 rfl hp_v2 hp_v3 (fun hc1 => ?_) (fun hc1 => ?_)
    · replace h := ite_t hc1 h
      cases h
      exact go_vret C E rfl dJ7_fill_53178_20 (Nat.le_of_ble_eq_true rfl) (Nat.le_of_ble_eq_true rfl) rfl rfl hB
    · replace h := ite_f hc1 h
      refine go_aload_n C dJ7_fill_53178_10 rfl rfl ?_
      refine go_iload_n C dJ7_fill_53178_11 rfl rfl ?_
      refine go_iload_n C dJ7_fill_53178_12 rfl rfl ?_
      obtain ⟨hc2, h⟩ := chk_some h
      refine go_iast C dJ7_fill_53178_13 ha (alen_lt a) hc2 ?_
      have hB3 := hB.set a v2 (x := v1) hp_v1
      refine go_iinc (ls2 := [some (rf G a), some (.int (iI v1)), some (.int (iI (v2 + 1))), some (.int (iI v3))]) C dJ7_fill_53178_14 rfl (Nat.le_of_ble_eq_true rfl) rfl ?_
      refine go_goto (tgt := 5) C dJ7_fill_53178_17 rfl ?_
      exact ih v1 (v2 + 1) v3 (mset M a v2 v1) hB3 h
set_option maxHeartbeats 4000000 in
theorem ok_J7_fill_53178 {G : gC} {l : Launch} (hl : l.stackTraces = false) {F : Nat} {v1 : Int} {M : Mem} (hB : Bd M) {a : Nat} (ha : shT[a]? = some (.inr (0, (alen a)))) {res : Mem} (h : f_J7_fill_53178 F a v1 M = some res) : Ok G l 0 0 0 yJ7_fill_53178 (.code yJ7_fill_53178 cJ7_fill_53178 4 none) [rf G a, .int (iI v1)] M (.inr none) res := by
  refine ok_of (ls := [some (rf G a), some (.int (iI v1)), none, none]) hl (by decide +kernel) (Nat.le_of_ble_eq_true rfl) ⟨rfl, ⟨rfl, trivial⟩⟩ ?_
  intro X hX C E
  subst hX
  rw [f_J7_fill_53178] at h
  refine go_iconst C dJ7_fill_53178_0 ?_
  refine go_istore_n (ls2 := [some (rf G a), some (.int (iI v1)), some (.int (iI 0)), none]) C dJ7_fill_53178_1 rfl (Nat.le_of_ble_eq_true rfl) rfl ?_
  refine go_aload_n C dJ7_fill_53178_2 rfl rfl ?_
  refine go_alen (z := (alen a : Int)) C dJ7_fill_53178_3 ha rfl ?_
  refine go_istore_n (ls2 := [some (rf G a), some (.int (iI v1)), some (.int (iI 0)), some (.int (iI (alen a : Int)))]) C dJ7_fill_53178_4 rfl (Nat.le_of_ble_eq_true rfl) rfl ?_
  exact w_J7_fill_53178_5 ha C E F v1 0 (alen a : Int) M hB h
-- IntervalRouter$State.clearEntries()V
set_option maxHeartbeats 4000000 in
theorem ok_X6_clearEntries {G : gC} {l : Launch} (hl : l.stackTraces = false) {F : Nat} {M : Mem} (hB : Bd M) {r : Nat} (hr : shT[r]? = some (.inl 6)) {res : Mem} (h : f_X6_clearEntries F r M = some res) : Ok G l 1 0 0 yX6_clearEntries (.code yX6_clearEntries cX6_clearEntries 1 none) [rf G r] M (.inr none) res := by
  refine ok_of (ls := [some (rf G r)]) hl (by decide +kernel) (Nat.le_of_ble_eq_true rfl) ⟨rfl, trivial⟩ ?_
  intro X hX C E
  subst hX
  rw [f_X6_clearEntries] at h
  refine go_aload_n C dX6_clearEntries_0 rfl rfl ?_
  refine go_getR (o := 5) (k2 := (r + 5)) C dX6_clearEntries_1 fl_X6_24 hr rfl rfl ?_
  refine go_iconst C dX6_clearEntries_4 ?_
  obtain ⟨q1, h1, h⟩ := ob_some h
  refine go_callS_v C dX6_clearEntries_5 (ok_J7_fill_53178 C.hl hB (ia_of (so_6_6 hr)) h1) ms_X6_27 rfl rfl (Nat.le_of_ble_eq_true rfl) ⟨(Nat.le_of_ble_eq_true rfl), (Nat.le_of_ble_eq_true rfl)⟩ ⟨(Nat.le_of_ble_eq_true rfl), (Nat.le_of_ble_eq_true rfl)⟩ (fun hB1 => ?_)
  cases h
  exact go_vret C E rfl dX6_clearEntries_8 (Nat.le_of_ble_eq_true rfl) (Nat.le_of_ble_eq_true rfl) rfl rfl hB1
-- IntervalRouter$State.start(I)V
set_option maxHeartbeats 4000000 in
theorem ok_X6_start {G : gC} {l : Launch} (hl : l.stackTraces = false) {F : Nat} {v1 : Int} {M : Mem} (hB : Bd M) {r : Nat} (hr : shT[r]? = some (.inl 6)) {res : Mem} (h : f_X6_start F r v1 M = some res) : Ok G l 2 0 0 yX6_start (.code yX6_start cX6_start 2 none) [rf G r, .int (iI v1)] M (.inr none) res := by
  refine ok_of (ls := [some (rf G r), some (.int (iI v1))]) hl (by decide +kernel) (Nat.le_of_ble_eq_true rfl) ⟨rfl, ⟨rfl, trivial⟩⟩ ?_
  intro X hX C E
  subst hX
  rw [f_X6_start] at h
  obtain ⟨hp_v1, h⟩ := chk_some h
  refine go_aload_n C dX6_start_0 rfl rfl ?_
  refine go_iload_n C dX6_start_1 rfl rfl ?_
  refine go_putI (z := 0) C dX6_start_2 fp_X6_33 hr rfl rfl rfl rfl ?_
  have hB1 := hB.set r 0 (x := v1) hp_v1
  refine go_aload_n C dX6_start_5 rfl rfl ?_
  refine go_iconst C dX6_start_6 ?_
  refine go_putI (z := 1) C dX6_start_7 fp_X6_37 hr rfl rfl rfl rfl ?_
  have hB2 := hB1.set r 1 (x := 0) (by decide)
  refine go_aload_n C dX6_start_10 rfl rfl ?_
  obtain ⟨q3, h3, h⟩ := ob_some h
  refine go_callV_v C dX6_start_11 (ok_X6_resetLabels C.hl hB2 hr h3) mv_X6_40 hr rfl rfl (Nat.le_of_ble_eq_true rfl) ⟨(Nat.le_of_ble_eq_true rfl), (Nat.le_of_ble_eq_true rfl)⟩ ⟨(Nat.le_of_ble_eq_true rfl), (Nat.le_of_ble_eq_true rfl)⟩ (fun hB3 => ?_)
  refine go_aload_n C dX6_start_14 rfl rfl ?_
  obtain ⟨q4, h4, h⟩ := ob_some h
  refine go_callV_v C dX6_start_15 (ok_X6_clearEntries C.hl hB3 hr h4) mv_X6_43 hr rfl rfl (Nat.le_of_ble_eq_true rfl) ⟨(Nat.le_of_ble_eq_true rfl), (Nat.le_of_ble_eq_true rfl)⟩ ⟨(Nat.le_of_ble_eq_true rfl), (Nat.le_of_ble_eq_true rfl)⟩ (fun hB4 => ?_)
  cases h
  exact go_vret C E rfl dX6_start_18 (Nat.le_of_ble_eq_true rfl) (Nat.le_of_ble_eq_true rfl) rfl rfl hB4
-- IntervalRouter$State.joined(II)Z
set_option maxHeartbeats 4000000 in
theorem w_X6_joined_2 {G : gC} {X : gX} {res : Int} {F : Nat} {M : Mem} (hB : Bd M) {r : Nat} (hr : shT[r]? = some (.inl 6)) (C : Cx G X cX6_joined 4 RX6 1 0 0 (some .boolean) []) (E : Fnl G X 0 0 (.inr (some (.int (iI res)))) M) : ∀ (fu : Nat) (v1 : Int) (v2 : Int) (v3 : Int), f_X6_joined_2 F r fu v1 v2 v3 M = some res → Go G X 4 0 0 2 [some (rf G r), some (.int (iI v1)), some (.int (iI v2)), some (.int (iI v3))] [] M := by
  intro fu
  induction fu with
  | zero => intro v1 v2 v3 h; exact nomatch (show (none : Option (Int)) = some res from h)
  | succ fu ih =>
    intro v1 v2 v3 h
    rw [f_X6_joined_2] at h
    obtain ⟨⟨hp_v2, hp_v3⟩, h⟩ := chk_some h
    refine go_iload_n C dX6_joined_2 rfl rfl ?_
    refine go_aload_n C dX6_joined_3 rfl rfl ?_
    refine go_getI (z := 1) C dX6_joined_4 fl_X6_37 hr rfl rfl ?_
    refine go_icmp_ge (tgt := 37) C dX6_joined_7 rfl hp_v3 (hB r 1 (Nat.lt_of_lt_of_le (sh_lt hr) (by decide))) (fun hc1 => ?_) (fun hc1 => ?_)
    · replace h := ite_t hc1 h
      refine go_iconst C dX6_joined_37 ?_
      cases h
      exact go_zret C E rfl dX6_joined_38 (by decide) (Nat.le_of_ble_eq_true rfl) (Nat.le_of_ble_eq_true rfl) rfl rfl hB
    · replace h := ite_f hc1 h
      refine go_aload_n C dX6_joined_10 rfl rfl ?_
      refine go_iload_n C dX6_joined_11 rfl rfl ?_
      refine go_iload_n C dX6_joined_12 rfl rfl ?_
      obtain ⟨q2, h2, h⟩ := ob_some h
      refine go_callV_i C dX6_joined_13 (ok_X6_touches C.hl hB hr h2) mv_X6_52 hr rfl rfl (Nat.le_of_ble_eq_true rfl) ⟨(Nat.le_of_ble_eq_true rfl), (Nat.le_of_ble_eq_true rfl)⟩ ⟨(Nat.le_of_ble_eq_true rfl), (Nat.le_of_ble_eq_true rfl)⟩ (fun hB2 => ?_)
      obtain ⟨hc3, h⟩ := chk_some h
      refine go_if_eq (tgt := 31) C dX6_joined_16 rfl hc3 (fun hc4 => ?_) (fun hc4 => ?_)
      · replace h := ite_t hc4 h
        refine go_iinc (ls2 := [some (rf G r), some (.int (iI v1)), some (.int (iI v2)), some (.int (iI (v3 + 1)))]) C dX6_joined_31 rfl (Nat.le_of_ble_eq_true rfl) rfl ?_
        refine go_goto (tgt := 2) C dX6_joined_34 rfl ?_
        exact ih v1 v2 (v3 + 1) h
      · replace h := ite_f hc4 h
        refine go_aload_n C dX6_joined_19 rfl rfl ?_
        refine go_iload_n C dX6_joined_20 rfl rfl ?_
        refine go_iload_n C dX6_joined_21 rfl rfl ?_
        obtain ⟨q5, h5, h⟩ := ob_some h
        refine go_callV_i C dX6_joined_22 (ok_X6_otherEnd C.hl hB2 hr h5) mv_X6_56 hr rfl rfl (Nat.le_of_ble_eq_true rfl) ⟨(Nat.le_of_ble_eq_true rfl), (Nat.le_of_ble_eq_true rfl)⟩ ⟨(Nat.le_of_ble_eq_true rfl), (Nat.le_of_ble_eq_true rfl)⟩ (fun hB5 => ?_)
        refine go_iload_n C dX6_joined_25 rfl rfl ?_
        obtain ⟨hc6, h⟩ := chk_some h
        refine go_icmp_ne (tgt := 31) C dX6_joined_26 rfl hc6 hp_v2 (fun hc7 => ?_) (fun hc7 => ?_)
        · replace h := ite_f hc7 h
          refine go_iinc (ls2 := [some (rf G r), some (.int (iI v1)), some (.int (iI v2)), some (.int (iI (v3 + 1)))]) C dX6_joined_31 rfl (Nat.le_of_ble_eq_true rfl) rfl ?_
          refine go_goto (tgt := 2) C dX6_joined_34 rfl ?_
          exact ih v1 v2 (v3 + 1) h
        · replace h := ite_t hc7 h
          refine go_iconst C dX6_joined_29 ?_
          cases h
          exact go_zret C E rfl dX6_joined_30 (by decide) (Nat.le_of_ble_eq_true rfl) (Nat.le_of_ble_eq_true rfl) rfl rfl hB5
set_option maxHeartbeats 4000000 in
theorem ok_X6_joined {G : gC} {l : Launch} (hl : l.stackTraces = false) {F : Nat} {v1 : Int} {v2 : Int} {M : Mem} (hB : Bd M) {r : Nat} (hr : shT[r]? = some (.inl 6)) {res : Int} (h : f_X6_joined F r v1 v2 M = some res) : Ok G l 1 0 0 yX6_joined (.code yX6_joined cX6_joined 4 (some .boolean)) [rf G r, .int (iI v1), .int (iI v2)] M (.inr (some (.int (iI res)))) M := by
  refine ok_of (ls := [some (rf G r), some (.int (iI v1)), some (.int (iI v2)), none]) hl (by decide +kernel) (Nat.le_of_ble_eq_true rfl) ⟨rfl, ⟨rfl, ⟨rfl, trivial⟩⟩⟩ ?_
  intro X hX C E
  subst hX
  rw [f_X6_joined] at h
  refine go_iconst C dX6_joined_0 ?_
  refine go_istore_n (ls2 := [some (rf G r), some (.int (iI v1)), some (.int (iI v2)), some (.int (iI 0))]) C dX6_joined_1 rfl (Nat.le_of_ble_eq_true rfl) rfl ?_
  exact w_X6_joined_2 hB hr C E F v1 v2 0 h
-- IntervalRouter$State.join(III)V
set_option maxHeartbeats 4000000 in
theorem ok_X6_join {G : gC} {l : Launch} (hl : l.stackTraces = false) {v1 : Int} {v2 : Int} {v3 : Int} {M : Mem} (hB : Bd M) {r : Nat} (hr : shT[r]? = some (.inl 6)) {res : Mem} (h : f_X6_join r v1 v2 v3 M = some res) : Ok G l 0 0 0 yX6_join (.code yX6_join cX6_join 4 none) [rf G r, .int (iI v1), .int (iI v2), .int (iI v3)] M (.inr none) res := by
  refine ok_of (ls := [some (rf G r), some (.int (iI v1)), some (.int (iI v2)), some (.int (iI v3))]) hl (by decide +kernel) (Nat.le_of_ble_eq_true rfl) ⟨rfl, ⟨rfl, ⟨rfl, ⟨rfl, trivial⟩⟩⟩⟩ ?_
  intro X hX C E
  subst hX
  rw [f_X6_join] at h
  obtain ⟨⟨hp_v1, hp_v2, hp_v3⟩, h⟩ := chk_some h
  refine go_aload_n C dX6_join_0 rfl rfl ?_
  refine go_getR (o := 1) (k2 := (r + 1)) C dX6_join_1 fl_X6_9 hr rfl rfl ?_
  refine go_aload_n C dX6_join_4 rfl rfl ?_
  refine go_getI (z := 1) C dX6_join_5 fl_X6_37 hr rfl rfl ?_
  refine go_iload_n C dX6_join_8 rfl rfl ?_
  obtain ⟨hc1, h⟩ := chk_some h
  refine go_iast C dX6_join_9 (so_6_2 hr) (by decide) hc1 ?_
  have hB2 := hB.set (r + 1) (M r 1) (x := v1) hp_v1
  refine go_aload_n C dX6_join_10 rfl rfl ?_
  refine go_getR (o := 2) (k2 := (r + 2)) C dX6_join_11 fl_X6_15 hr rfl rfl ?_
  refine go_aload_n C dX6_join_14 rfl rfl ?_
  refine go_getI (z := 1) C dX6_join_15 fl_X6_37 hr rfl rfl ?_
  refine go_iload_n C dX6_join_18 rfl rfl ?_
  obtain ⟨hc3, h⟩ := chk_some h
  refine go_iast C dX6_join_19 (so_6_3 hr) (by decide) hc3 ?_
  have hB4 := hB2.set (r + 2) ((mset M (r + 1) (M r 1) v1) r 1) (x := v2) hp_v2
  refine go_aload_n C dX6_join_20 rfl rfl ?_
  refine go_getR (o := 3) (k2 := (r + 3)) C dX6_join_21 fl_X6_18 hr rfl rfl ?_
  refine go_aload_n C dX6_join_24 rfl rfl ?_
  refine go_getI (z := 1) C dX6_join_25 fl_X6_37 hr rfl rfl ?_
  refine go_iload_n C dX6_join_28 rfl rfl ?_
  obtain ⟨hc5, h⟩ := chk_some h
  refine go_iast C dX6_join_29 (so_6_4 hr) (by decide) hc5 ?_
  have hB6 := hB4.set (r + 3) ((mset (mset M (r + 1) (M r 1) v1) (r + 2) ((mset M (r + 1) (M r 1) v1) r 1) v2) r 1) (x := v3) hp_v3
  refine go_aload_n C dX6_join_30 rfl rfl ?_
  refine go_dup C dX6_join_31 rfl ?_
  refine go_getI (z := 1) C dX6_join_32 fl_X6_37 hr rfl rfl ?_
  refine go_iconst C dX6_join_35 ?_
  refine go_iadd C dX6_join_36 ?_
  obtain ⟨hc7, h⟩ := chk_some h
  refine go_putI (z := 1) C dX6_join_37 fp_X6_37 hr rfl rfl rfl rfl ?_
  have hB8 := hB6.set r 1 (x := ((mset (mset (mset M (r + 1) (M r 1) v1) (r + 2) ((mset M (r + 1) (M r 1) v1) r 1) v2) (r + 3) ((mset (mset M (r + 1) (M r 1) v1) (r + 2) ((mset M (r + 1) (M r 1) v1) r 1) v2) r 1) v3) r 1) + 1) hc7
  cases h
  exact go_vret C E rfl dX6_join_40 (Nat.le_of_ble_eq_true rfl) (Nat.le_of_ble_eq_true rfl) rfl rfl hB8
-- IntervalRouter$NetworkText.readLink(LIntervalRouter$State;I)I
set_option maxHeartbeats 4000000 in
theorem ok_X3_readLink {G : gC} {l : Launch} (hl : l.stackTraces = false) {F : Nat} {v2 : Int} {M : Mem} (hB : Bd M) {res : Int × Mem} (h : f_X3_readLink F v2 M = some res) : Ok G l 2 0 0 yX3_readLink (.code yX3_readLink cX3_readLink 6 (some .int)) [rf G 62, rf G 7, .int (iI v2)] M (.inr (some (.int (iI res.1)))) res.2 := by
  refine ok_of (ls := [some (rf G 62), some (rf G 7), some (.int (iI v2)), none, none, none]) hl (by decide +kernel) (Nat.le_of_ble_eq_true rfl) ⟨rfl, ⟨rfl, ⟨rfl, trivial⟩⟩⟩ ?_
  intro X hX C E
  subst hX
  rw [f_X3_readLink] at h
  refine go_aload_n C dX3_readLink_0 rfl rfl ?_
  refine go_getR (o := 1) (k2 := 63) C dX3_readLink_1 fl_X3_9 sh_62 rfl rfl ?_
  refine go_iload_n C dX3_readLink_4 rfl rfl ?_
  obtain ⟨hc1, h⟩ := chk_some h
  refine go_iald C dX3_readLink_5 sh_63 (by decide) hc1 ?_
  refine go_bipush C dX3_readLink_6 (by decide +kernel) ?_
  refine go_icmp_eq (tgt := 13) C dX3_readLink_8 rfl (hB 63 v2 (by decide)) (by decide) (fun hc2 => ?_) (fun hc2 => ?_)
  · replace h := ite_t hc2 h
    refine go_aload_n C dX3_readLink_13 rfl rfl ?_
    refine go_iload_n C dX3_readLink_14 rfl rfl ?_
    refine go_iconst C dX3_readLink_15 ?_
    refine go_iadd C dX3_readLink_16 ?_
    obtain ⟨q3, h3, h⟩ := ob_some h
    refine go_callV_i C dX3_readLink_17 (ok_X3_digitAt C.hl hB h3) mv_X3_19 sh_62 rfl rfl (Nat.le_of_ble_eq_true rfl) ⟨(Nat.le_of_ble_eq_true rfl), (Nat.le_of_ble_eq_true rfl)⟩ ⟨(Nat.le_of_ble_eq_true rfl), (Nat.le_of_ble_eq_true rfl)⟩ (fun hB3 => ?_)
    refine go_istore_n (ls2 := [some (rf G 62), some (rf G 7), some (.int (iI v2)), some (.int (iI q3)), none, none]) C dX3_readLink_20 rfl (Nat.le_of_ble_eq_true rfl) rfl ?_
    refine go_iload_n C dX3_readLink_21 rfl rfl ?_
    refine go_iconst C dX3_readLink_22 ?_
    obtain ⟨hc4, h⟩ := chk_some h
    refine go_icmp_eq (tgt := 43) C dX3_readLink_23 rfl hc4 (by decide) (fun hc5 => ?_) (fun hc5 => ?_)
    · replace h := ite_t hc5 h
      refine go_iload_n C dX3_readLink_43 rfl rfl ?_
      refine go_iconst C dX3_readLink_44 ?_
      refine go_iadd C dX3_readLink_45 ?_
      cases h
      exact go_iret C E rfl dX3_readLink_46 (Nat.le_of_ble_eq_true rfl) (Nat.le_of_ble_eq_true rfl) rfl rfl hB3
    · replace h := ite_f hc5 h
      refine go_iload_n C dX3_readLink_26 rfl rfl ?_
      refine go_aload_n C dX3_readLink_27 rfl rfl ?_
      refine go_getI (z := 0) C dX3_readLink_28 fl_X3_33 sh_7 rfl rfl ?_
      refine go_icmp_ge (tgt := 43) C dX3_readLink_31 rfl hc4 (hB3 7 0 (by decide)) (fun hc6 => ?_) (fun hc6 => ?_)
      · replace h := ite_t hc6 h
        refine go_iload_n C dX3_readLink_43 rfl rfl ?_
        refine go_iconst C dX3_readLink_44 ?_
        refine go_iadd C dX3_readLink_45 ?_
        cases h
        exact go_iret C E rfl dX3_readLink_46 (Nat.le_of_ble_eq_true rfl) (Nat.le_of_ble_eq_true rfl) rfl rfl hB3
      · replace h := ite_f hc6 h
        refine go_aload_n C dX3_readLink_34 rfl rfl ?_
        refine go_getI (z := 1) C dX3_readLink_35 fl_X3_36 sh_7 rfl rfl ?_
        refine go_bipush C dX3_readLink_38 (by decide +kernel) ?_
        refine go_icmp_lt (tgt := 47) C dX3_readLink_40 rfl (hB3 7 1 (by decide)) (by decide) (fun hc7 => ?_) (fun hc7 => ?_)
        · replace h := ite_t hc7 h
          refine go_aload_n C dX3_readLink_47 rfl rfl ?_
          refine go_iload_n C dX3_readLink_48 rfl rfl ?_
          refine go_iconst C dX3_readLink_49 ?_
          refine go_iadd C dX3_readLink_50 ?_
          obtain ⟨q8, h8, h⟩ := ob_some h
          refine go_callV_i C dX3_readLink_51 (ok_X3_digitAt C.hl hB3 h8) mv_X3_19 sh_62 rfl rfl (Nat.le_of_ble_eq_true rfl) ⟨(Nat.le_of_ble_eq_true rfl), (Nat.le_of_ble_eq_true rfl)⟩ ⟨(Nat.le_of_ble_eq_true rfl), (Nat.le_of_ble_eq_true rfl)⟩ (fun hB8 => ?_)
          refine go_istore (ls2 := [some (rf G 62), some (rf G 7), some (.int (iI v2)), some (.int (iI q3)), some (.int (iI q8)), none]) C dX3_readLink_54 (Nat.le_of_ble_eq_true rfl) rfl ?_
          refine go_iload C dX3_readLink_56 rfl ?_
          refine go_iconst C dX3_readLink_58 ?_
          obtain ⟨hc9, h⟩ := chk_some h
          refine go_icmp_eq (tgt := 87) C dX3_readLink_59 rfl hc9 (by decide) (fun hc10 => ?_) (fun hc10 => ?_)
          · replace h := ite_t hc10 h
            refine go_iload_n C dX3_readLink_87 rfl rfl ?_
            refine go_iconst C dX3_readLink_88 ?_
            refine go_iadd C dX3_readLink_89 ?_
            cases h
            exact go_iret C E rfl dX3_readLink_90 (Nat.le_of_ble_eq_true rfl) (Nat.le_of_ble_eq_true rfl) rfl rfl hB8
          · replace h := ite_f hc10 h
            refine go_iload C dX3_readLink_62 rfl ?_
            refine go_aload_n C dX3_readLink_64 rfl rfl ?_
            refine go_getI (z := 0) C dX3_readLink_65 fl_X3_33 sh_7 rfl rfl ?_
            refine go_icmp_ge (tgt := 87) C dX3_readLink_68 rfl hc9 (hB8 7 0 (by decide)) (fun hc11 => ?_) (fun hc11 => ?_)
            · replace h := ite_t hc11 h
              refine go_iload_n C dX3_readLink_87 rfl rfl ?_
              refine go_iconst C dX3_readLink_88 ?_
              refine go_iadd C dX3_readLink_89 ?_
              cases h
              exact go_iret C E rfl dX3_readLink_90 (Nat.le_of_ble_eq_true rfl) (Nat.le_of_ble_eq_true rfl) rfl rfl hB8
            · replace h := ite_f hc11 h
              refine go_iload C dX3_readLink_71 rfl ?_
              refine go_iload_n C dX3_readLink_73 rfl rfl ?_
              refine go_icmp_eq (tgt := 87) C dX3_readLink_74 rfl hc9 hc4 (fun hc12 => ?_) (fun hc12 => ?_)
              · replace h := ite_t hc12 h
                refine go_iload_n C dX3_readLink_87 rfl rfl ?_
                refine go_iconst C dX3_readLink_88 ?_
                refine go_iadd C dX3_readLink_89 ?_
                cases h
                exact go_iret C E rfl dX3_readLink_90 (Nat.le_of_ble_eq_true rfl) (Nat.le_of_ble_eq_true rfl) rfl rfl hB8
              · replace h := ite_f hc12 h
                refine go_aload_n C dX3_readLink_77 rfl rfl ?_
                refine go_iload_n C dX3_readLink_78 rfl rfl ?_
                refine go_iload C dX3_readLink_79 rfl ?_
                obtain ⟨q13, h13, h⟩ := ob_some h
                refine go_callV_i C dX3_readLink_81 (ok_X6_joined C.hl hB8 sh_7 h13) mv_X3_39 sh_7 rfl rfl (Nat.le_of_ble_eq_true rfl) ⟨(Nat.le_of_ble_eq_true rfl), (Nat.le_of_ble_eq_true rfl)⟩ ⟨(Nat.le_of_ble_eq_true rfl), (Nat.le_of_ble_eq_true rfl)⟩ (fun hB13 => ?_)
                obtain ⟨hc14, h⟩ := chk_some h
                refine go_if_eq (tgt := 91) C dX3_readLink_84 rfl hc14 (fun hc15 => ?_) (fun hc15 => ?_)
                · replace h := ite_t hc15 h
                  refine go_aload_n C dX3_readLink_91 rfl rfl ?_
                  refine go_iload_n C dX3_readLink_92 rfl rfl ?_
                  refine go_iconst C dX3_readLink_93 ?_
                  refine go_iadd C dX3_readLink_94 ?_
                  obtain ⟨q16, h16, h⟩ := ob_some h
                  refine go_callV_i C dX3_readLink_95 (ok_X3_digitAt C.hl hB13 h16) mv_X3_19 sh_62 rfl rfl (Nat.le_of_ble_eq_true rfl) ⟨(Nat.le_of_ble_eq_true rfl), (Nat.le_of_ble_eq_true rfl)⟩ ⟨(Nat.le_of_ble_eq_true rfl), (Nat.le_of_ble_eq_true rfl)⟩ (fun hB16 => ?_)
                  refine go_istore (ls2 := [some (rf G 62), some (rf G 7), some (.int (iI v2)), some (.int (iI q3)), some (.int (iI q8)), some (.int (iI q16))]) C dX3_readLink_98 (Nat.le_of_ble_eq_true rfl) rfl ?_
                  refine go_iload C dX3_readLink_100 rfl ?_
                  refine go_iconst C dX3_readLink_102 ?_
                  obtain ⟨hc17, h⟩ := chk_some h
                  refine go_icmp_ge (tgt := 110) C dX3_readLink_103 rfl hc17 (by decide) (fun hc18 => ?_) (fun hc18 => ?_)
                  · replace h := ite_t hc18 h
                    refine go_aload_n C dX3_readLink_110 rfl rfl ?_
                    refine go_iload_n C dX3_readLink_111 rfl rfl ?_
                    refine go_iload C dX3_readLink_112 rfl ?_
                    refine go_iload C dX3_readLink_114 rfl ?_
                    obtain ⟨q19, h19, h⟩ := ob_some h
                    refine go_callV_v C dX3_readLink_116 (ok_X6_join C.hl hB16 sh_7 h19) mv_X3_43 sh_7 rfl rfl (Nat.le_of_ble_eq_true rfl) ⟨(Nat.le_of_ble_eq_true rfl), (Nat.le_of_ble_eq_true rfl)⟩ ⟨(Nat.le_of_ble_eq_true rfl), (Nat.le_of_ble_eq_true rfl)⟩ (fun hB19 => ?_)
                    refine go_iconst C dX3_readLink_119 ?_
                    cases h
                    exact go_iret C E rfl dX3_readLink_120 (Nat.le_of_ble_eq_true rfl) (Nat.le_of_ble_eq_true rfl) rfl rfl hB19
                  · replace h := ite_f hc18 h
                    refine go_iload_n C dX3_readLink_106 rfl rfl ?_
                    refine go_iconst C dX3_readLink_107 ?_
                    refine go_iadd C dX3_readLink_108 ?_
                    cases h
                    exact go_iret C E rfl dX3_readLink_109 (Nat.le_of_ble_eq_true rfl) (Nat.le_of_ble_eq_true rfl) rfl rfl hB16
                · replace h := ite_f hc15 h
                  refine go_iload_n C dX3_readLink_87 rfl rfl ?_
                  refine go_iconst C dX3_readLink_88 ?_
                  refine go_iadd C dX3_readLink_89 ?_
                  cases h
                  exact go_iret C E rfl dX3_readLink_90 (Nat.le_of_ble_eq_true rfl) (Nat.le_of_ble_eq_true rfl) rfl rfl hB13
        · replace h := ite_f hc7 h
          refine go_iload_n C dX3_readLink_43 rfl rfl ?_
          refine go_iconst C dX3_readLink_44 ?_
          refine go_iadd C dX3_readLink_45 ?_
          cases h
          exact go_iret C E rfl dX3_readLink_46 (Nat.le_of_ble_eq_true rfl) (Nat.le_of_ble_eq_true rfl) rfl rfl hB3
  · replace h := ite_f hc2 h
    refine go_iload_n C dX3_readLink_11 rfl rfl ?_
    cases h
    exact go_iret C E rfl dX3_readLink_12 (Nat.le_of_ble_eq_true rfl) (Nat.le_of_ble_eq_true rfl) rfl rfl hB
-- IntervalRouter$NetworkText.readInto(LIntervalRouter$State;)I
set_option maxHeartbeats 4000000 in
theorem w_X3_readInto_20 {G : gC} {X : gX} {res : Int × Mem} {F : Nat} (C : Cx G X cX3_readInto 5 RX3 3 0 0 (some .int) []) (E : Fnl G X 0 0 (.inr (some (.int (iI res.1)))) res.2) : ∀ (fu : Nat) (v3 : Int) (M : Mem), Bd M → f_X3_readInto_20 F fu v3 M = some res → Go G X 5 0 0 20 [some (rf G 62), some (rf G 7), none, some (.int (iI v3)), none] [] M := by
  intro fu
  induction fu with
  | zero => intro v3 M hB h; exact nomatch (show (none : Option (Int × Mem)) = some res from h)
  | succ fu ih =>
    intro v3 M hB h
    rw [f_X3_readInto_20] at h
    obtain ⟨hp_v3, h⟩ := chk_some h
    refine go_iload_n C dX3_readInto_20 rfl rfl ?_
    refine go_aload_n C dX3_readInto_21 rfl rfl ?_
    refine go_getI (z := 0) C dX3_readInto_22 fl_X3_15 sh_62 rfl rfl ?_
    refine go_icmp_ge (tgt := 51) C dX3_readInto_25 rfl hp_v3 (hB 62 0 (by decide)) (fun hc5 => ?_) (fun hc5 => ?_)
    · replace h := ite_t hc5 h
      refine go_iconst C dX3_readInto_51 ?_
      cases h
      exact go_iret C E rfl dX3_readInto_52 (Nat.le_of_ble_eq_true rfl) (Nat.le_of_ble_eq_true rfl) rfl rfl hB
    · replace h := ite_f hc5 h
      refine go_aload_n C dX3_readInto_28 rfl rfl ?_
      refine go_aload_n C dX3_readInto_29 rfl rfl ?_
      refine go_iload_n C dX3_readInto_30 rfl rfl ?_
      obtain ⟨q6, h6, h⟩ := ob_some h
      refine go_callV_i C dX3_readInto_31 (ok_X3_readLink C.hl hB h6) mv_X3_29 sh_62 rfl rfl (Nat.le_of_ble_eq_true rfl) ⟨(Nat.le_of_ble_eq_true rfl), (Nat.le_of_ble_eq_true rfl)⟩ ⟨(Nat.le_of_ble_eq_true rfl), (Nat.le_of_ble_eq_true rfl)⟩ (fun hB6 => ?_)
      refine go_istore (ls2 := [some (rf G 62), some (rf G 7), none, some (.int (iI v3)), some (.int (iI q6.1))]) C dX3_readInto_34 (Nat.le_of_ble_eq_true rfl) rfl ?_
      refine go_iload C dX3_readInto_36 rfl ?_
      refine go_iconst C dX3_readInto_38 ?_
      obtain ⟨hc7, h⟩ := chk_some h
      refine go_icmp_eq (tgt := 45) C dX3_readInto_39 rfl hc7 (by decide) (fun hc8 => ?_) (fun hc8 => ?_)
      · replace h := ite_t hc8 h
        refine go_iinc (ls2 := [some (rf G 62), some (rf G 7), none, some (.int (iI (v3 + 4))), some (.int (iI q6.1))]) C dX3_readInto_45 rfl (Nat.le_of_ble_eq_true rfl) rfl ?_
        refine go_goto (tgt := 20) C dX3_readInto_48 rfl ?_
        refine go_weak (ls' := [some (rf G 62), some (rf G 7), none, some (.int (iI (v3 + 4))), none]) ⟨rfl, ⟨rfl, ⟨rfl, trivial⟩⟩⟩ ?_
        exact ih (v3 + 4) q6.2 hB6 h
      · replace h := ite_f hc8 h
        refine go_iload C dX3_readInto_42 rfl ?_
        cases h
        exact go_iret C E rfl dX3_readInto_44 (Nat.le_of_ble_eq_true rfl) (Nat.le_of_ble_eq_true rfl) rfl rfl hB6
set_option maxHeartbeats 4000000 in
theorem ok_X3_readInto {G : gC} {l : Launch} (hl : l.stackTraces = false) {F : Nat} {M : Mem} (hB : Bd M) {res : Int × Mem} (h : f_X3_readInto F M = some res) : Ok G l 3 0 0 yX3_readInto (.code yX3_readInto cX3_readInto 5 (some .int)) [rf G 62, rf G 7] M (.inr (some (.int (iI res.1)))) res.2 := by
  refine ok_of (ls := [some (rf G 62), some (rf G 7), none, none, none]) hl (by decide +kernel) (Nat.le_of_ble_eq_true rfl) ⟨rfl, ⟨rfl, trivial⟩⟩ ?_
  intro X hX C E
  subst hX
  rw [f_X3_readInto] at h
  refine go_aload_n C dX3_readInto_0 rfl rfl ?_
  refine go_iconst C dX3_readInto_1 ?_
  obtain ⟨q1, h1, h⟩ := ob_some h
  refine go_callV_i C dX3_readInto_2 (ok_X3_digitAt C.hl hB h1) mv_X3_19 sh_62 rfl rfl (Nat.le_of_ble_eq_true rfl) ⟨(Nat.le_of_ble_eq_true rfl), (Nat.le_of_ble_eq_true rfl)⟩ ⟨(Nat.le_of_ble_eq_true rfl), (Nat.le_of_ble_eq_true rfl)⟩ (fun hB1 => ?_)
  refine go_istore_n (ls2 := [some (rf G 62), some (rf G 7), some (.int (iI q1)), none, none]) C dX3_readInto_5 rfl (Nat.le_of_ble_eq_true rfl) rfl ?_
  refine go_iload_n C dX3_readInto_6 rfl rfl ?_
  refine go_iconst C dX3_readInto_7 ?_
  obtain ⟨hc2, h⟩ := chk_some h
  refine go_icmp_ne (tgt := 13) C dX3_readInto_8 rfl hc2 (by decide) (fun hc3 => ?_) (fun hc3 => ?_)
  · replace h := ite_f hc3 h
    refine go_aload_n C dX3_readInto_13 rfl rfl ?_
    refine go_iload_n C dX3_readInto_14 rfl rfl ?_
    obtain ⟨q4, h4, h⟩ := ob_some h
    refine go_callV_v C dX3_readInto_15 (ok_X6_start C.hl hB1 sh_7 h4) mv_X3_23 sh_7 rfl rfl (Nat.le_of_ble_eq_true rfl) ⟨(Nat.le_of_ble_eq_true rfl), (Nat.le_of_ble_eq_true rfl)⟩ ⟨(Nat.le_of_ble_eq_true rfl), (Nat.le_of_ble_eq_true rfl)⟩ (fun hB4 => ?_)
    refine go_iconst C dX3_readInto_18 ?_
    refine go_istore_n (ls2 := [some (rf G 62), some (rf G 7), some (.int (iI q1)), some (.int (iI 1)), none]) C dX3_readInto_19 rfl (Nat.le_of_ble_eq_true rfl) rfl ?_
    refine go_weak (ls' := [some (rf G 62), some (rf G 7), none, some (.int (iI 1)), none]) ⟨rfl, ⟨rfl, ⟨rfl, trivial⟩⟩⟩ ?_
    exact w_X3_readInto_20 C E F 1 q4 hB4 h
  · replace h := ite_t hc3 h
    refine go_iconst C dX3_readInto_11 ?_
    cases h
    exact go_iret C E rfl dX3_readInto_12 (Nat.le_of_ble_eq_true rfl) (Nat.le_of_ble_eq_true rfl) rfl rfl hB1
-- IntervalRouter$Ring.labelAt(II)I
set_option maxHeartbeats 4000000 in
theorem ok_X4_labelAt {G : gC} {l : Launch} (hl : l.stackTraces = false) {v0 : Int} {v1 : Int} {M : Mem} (hB : Bd M) {res : Int} (h : f_X4_labelAt v0 v1 M = some res) : Ok G l 0 0 0 yX4_labelAt (.code yX4_labelAt cX4_labelAt 2 (some .int)) [.int (iI v0), .int (iI v1)] M (.inr (some (.int (iI res)))) M := by
  refine ok_of (ls := [some (.int (iI v0)), some (.int (iI v1))]) hl (by decide +kernel) (Nat.le_of_ble_eq_true rfl) ⟨rfl, ⟨rfl, trivial⟩⟩ ?_
  intro X hX C E
  subst hX
  rw [f_X4_labelAt] at h
  obtain ⟨⟨hp_v0, hp_v1⟩, h⟩ := chk_some h
  refine go_iload_n C dX4_labelAt_0 rfl rfl ?_
  refine go_iload_n C dX4_labelAt_1 rfl rfl ?_
  refine go_icmp_ge (tgt := 9) C dX4_labelAt_2 rfl hp_v0 hp_v1 (fun hc1 => ?_) (fun hc1 => ?_)
  · replace h := ite_t hc1 h
    refine go_iload_n C dX4_labelAt_9 rfl rfl ?_
    refine go_iconst C dX4_labelAt_10 ?_
    refine go_iadd C dX4_labelAt_11 ?_
    cases h
    exact go_iret C E rfl dX4_labelAt_12 (Nat.le_of_ble_eq_true rfl) (Nat.le_of_ble_eq_true rfl) rfl rfl hB
  · replace h := ite_f hc1 h
    refine go_iload_n C dX4_labelAt_5 rfl rfl ?_
    refine go_goto (tgt := 12) C dX4_labelAt_6 rfl ?_
    cases h
    exact go_iret C E rfl dX4_labelAt_12 (Nat.le_of_ble_eq_true rfl) (Nat.le_of_ble_eq_true rfl) rfl rfl hB
-- IntervalRouter$Ring.read(LIntervalRouter$State;I)V
set_option maxHeartbeats 4000000 in
theorem w_X4_read_12 {G : gC} {X : gX} {res : Mem} {F : Nat} {r : Nat} (hr : shT[r]? = some (.inl 4)) (C : Cx G X cX4_read 4 RX4 1 0 0 none []) (E : Fnl G X 0 0 (.inr none) res) : ∀ (fu : Nat) (v2 : Int) (v3 : Int) (M : Mem), Bd M → f_X4_read_12 F r fu v2 v3 M = some res → Go G X 4 0 0 12 [some (rf G r), some (rf G 1), some (.int (iI v2)), some (.int (iI v3))] [] M := by
  intro fu
  induction fu with
  | zero => intro v2 v3 M hB h; exact nomatch (show (none : Option (Mem)) = some res from h)
  | succ fu ih =>
    intro v2 v3 M hB h
    rw [f_X4_read_12] at h
    obtain ⟨hp_v3, h⟩ := chk_some h
    refine go_iload_n C dX4_read_12 rfl rfl ?_
    refine go_aload_n C dX4_read_13 rfl rfl ?_
    refine go_getI (z := 0) C dX4_read_14 fl_X4_21 hr rfl rfl ?_
    refine go_icmp_ge (tgt := 47) C dX4_read_17 rfl hp_v3 (hB r 0 (Nat.lt_of_lt_of_le (sh_lt hr) (by decide))) (fun hc3 => ?_) (fun hc3 => ?_)
    · replace h := ite_t hc3 h
      cases h
      exact go_vret C E rfl dX4_read_47 (Nat.le_of_ble_eq_true rfl) (Nat.le_of_ble_eq_true rfl) rfl rfl hB
    · replace h := ite_f hc3 h
      refine go_aload_n C dX4_read_20 rfl rfl ?_
      refine go_getR (o := 1) (k2 := (r + 1)) C dX4_read_21 fl_X4_9 hr rfl rfl ?_
      refine go_iload_n C dX4_read_24 rfl rfl ?_
      refine go_aload_n C dX4_read_25 rfl rfl ?_
      refine go_iload_n C dX4_read_26 rfl rfl ?_
      refine go_iload_n C dX4_read_27 rfl rfl ?_
      refine go_aload_n C dX4_read_28 rfl rfl ?_
      refine go_getR (o := 4) (k2 := 5) C dX4_read_29 fl_X4_24 sh_1 rfl rfl ?_
      refine go_iload_n C dX4_read_32 rfl rfl ?_
      obtain ⟨hc4, h⟩ := chk_some h
      refine go_iald C dX4_read_33 sh_5 (by decide) hc4 ?_
      obtain ⟨q5, h5, h⟩ := ob_some h
      refine go_callS_i C dX4_read_34 (ok_X4_labelAt C.hl hB h5) ms_X4_27 rfl rfl (Nat.le_of_ble_eq_true rfl) ⟨(Nat.le_of_ble_eq_true rfl), (Nat.le_of_ble_eq_true rfl)⟩ ⟨(Nat.le_of_ble_eq_true rfl), (Nat.le_of_ble_eq_true rfl)⟩ (fun hB5 => ?_)
      obtain ⟨q6, h6, h⟩ := ob_some h
      refine go_callV_i C dX4_read_37 (ok_X6_entryAt C.hl hB5 sh_1 h6) mv_X4_31 sh_1 rfl rfl (Nat.le_of_ble_eq_true rfl) ⟨(Nat.le_of_ble_eq_true rfl), (Nat.le_of_ble_eq_true rfl)⟩ ⟨(Nat.le_of_ble_eq_true rfl), (Nat.le_of_ble_eq_true rfl)⟩ (fun hB6 => ?_)
      obtain ⟨hc7, h⟩ := chk_some h
      obtain ⟨hc8, h⟩ := chk_some h
      refine go_iast C dX4_read_40 (so_4_1 hr) (by decide) hc7 ?_
      have hB9 := hB6.set (r + 1) v3 (x := q6) hc8
      refine go_iinc (ls2 := [some (rf G r), some (rf G 1), some (.int (iI v2)), some (.int (iI (v3 + 1)))]) C dX4_read_41 rfl (Nat.le_of_ble_eq_true rfl) rfl ?_
      refine go_goto (tgt := 12) C dX4_read_44 rfl ?_
      exact ih v2 (v3 + 1) (mset M (r + 1) v3 q6) hB9 h
set_option maxHeartbeats 4000000 in
theorem ok_X4_read {G : gC} {l : Launch} (hl : l.stackTraces = false) {F : Nat} {v2 : Int} {M : Mem} (hB : Bd M) {r : Nat} (hr : shT[r]? = some (.inl 4)) {res : Mem} (h : f_X4_read F r v2 M = some res) : Ok G l 1 0 0 yX4_read (.code yX4_read cX4_read 4 none) [rf G r, rf G 1, .int (iI v2)] M (.inr none) res := by
  refine ok_of (ls := [some (rf G r), some (rf G 1), some (.int (iI v2)), none]) hl (by decide +kernel) (Nat.le_of_ble_eq_true rfl) ⟨rfl, ⟨rfl, ⟨rfl, trivial⟩⟩⟩ ?_
  intro X hX C E
  subst hX
  rw [f_X4_read] at h
  refine go_aload_n C dX4_read_0 rfl rfl ?_
  refine go_aload_n C dX4_read_1 rfl rfl ?_
  refine go_getI (z := 0) C dX4_read_2 fl_X4_15 sh_1 rfl rfl ?_
  refine go_iconst C dX4_read_5 ?_
  refine go_isub C dX4_read_6 ?_
  obtain ⟨hc1, h⟩ := chk_some h
  refine go_putI (z := 0) C dX4_read_7 fp_X4_21 hr rfl rfl rfl rfl ?_
  have hB2 := hB.set r 0 (x := (M 1 0) - 1) hc1
  refine go_iconst C dX4_read_10 ?_
  refine go_istore_n (ls2 := [some (rf G r), some (rf G 1), some (.int (iI v2)), some (.int (iI 0))]) C dX4_read_11 rfl (Nat.le_of_ble_eq_true rfl) rfl ?_
  exact w_X4_read_12 hr C E F v2 0 (mset M r 0 ((M 1 0) - 1)) hB2 h
-- IntervalRouter$Ring.allEqual()Z
set_option maxHeartbeats 4000000 in
theorem w_X4_allEqual_2 {G : gC} {X : gX} {res : Int} {F : Nat} {M : Mem} (hB : Bd M) {r : Nat} (hr : shT[r]? = some (.inl 4)) (C : Cx G X cX4_allEqual 2 RX4 0 0 0 (some .boolean) []) (E : Fnl G X 0 0 (.inr (some (.int (iI res)))) M) : ∀ (fu : Nat) (v1 : Int), f_X4_allEqual_2 F r fu v1 M = some res → Go G X 2 0 0 2 [some (rf G r), some (.int (iI v1))] [] M := by
  intro fu
  induction fu with
  | zero => intro v1 h; exact nomatch (show (none : Option (Int)) = some res from h)
  | succ fu ih =>
    intro v1 h
    rw [f_X4_allEqual_2] at h
    obtain ⟨hp_v1, h⟩ := chk_some h
    refine go_iload_n C dX4_allEqual_2 rfl rfl ?_
    refine go_aload_n C dX4_allEqual_3 rfl rfl ?_
    refine go_getI (z := 0) C dX4_allEqual_4 fl_X4_21 hr rfl rfl ?_
    refine go_icmp_ge (tgt := 33) C dX4_allEqual_7 rfl hp_v1 (hB r 0 (Nat.lt_of_lt_of_le (sh_lt hr) (by decide))) (fun hc1 => ?_) (fun hc1 => ?_)
    · replace h := ite_t hc1 h
      refine go_iconst C dX4_allEqual_33 ?_
      cases h
      exact go_zret C E rfl dX4_allEqual_34 (by decide) (Nat.le_of_ble_eq_true rfl) (Nat.le_of_ble_eq_true rfl) rfl rfl hB
    · replace h := ite_f hc1 h
      refine go_aload_n C dX4_allEqual_10 rfl rfl ?_
      refine go_getR (o := 1) (k2 := (r + 1)) C dX4_allEqual_11 fl_X4_9 hr rfl rfl ?_
      refine go_iload_n C dX4_allEqual_14 rfl rfl ?_
      obtain ⟨hc2, h⟩ := chk_some h
      refine go_iald C dX4_allEqual_15 (so_4_1 hr) (by decide) hc2 ?_
      refine go_aload_n C dX4_allEqual_16 rfl rfl ?_
      refine go_getR (o := 1) (k2 := (r + 1)) C dX4_allEqual_17 fl_X4_9 hr rfl rfl ?_
      refine go_iconst C dX4_allEqual_20 ?_
      refine go_iald C dX4_allEqual_21 (so_4_1 hr) (by decide) ⟨by decide, by decide⟩ ?_
      refine go_icmp_eq (tgt := 27) C dX4_allEqual_22 rfl (hB (r + 1) v1 (Nat.lt_of_lt_of_le (sh_lt (so_4_1 hr)) (by decide))) (hB (r + 1) 0 (Nat.lt_of_lt_of_le (sh_lt (so_4_1 hr)) (by decide))) (fun hc3 => ?_) (fun hc3 => ?_)
      · replace h := ite_t hc3 h
        refine go_iinc (ls2 := [some (rf G r), some (.int (iI (v1 + 1)))]) C dX4_allEqual_27 rfl (Nat.le_of_ble_eq_true rfl) rfl ?_
        refine go_goto (tgt := 2) C dX4_allEqual_30 rfl ?_
        exact ih (v1 + 1) h
      · replace h := ite_f hc3 h
        refine go_iconst C dX4_allEqual_25 ?_
        cases h
        exact go_zret C E rfl dX4_allEqual_26 (by decide) (Nat.le_of_ble_eq_true rfl) (Nat.le_of_ble_eq_true rfl) rfl rfl hB
set_option maxHeartbeats 4000000 in
theorem ok_X4_allEqual {G : gC} {l : Launch} (hl : l.stackTraces = false) {F : Nat} {M : Mem} (hB : Bd M) {r : Nat} (hr : shT[r]? = some (.inl 4)) {res : Int} (h : f_X4_allEqual F r M = some res) : Ok G l 0 0 0 yX4_allEqual (.code yX4_allEqual cX4_allEqual 2 (some .boolean)) [rf G r] M (.inr (some (.int (iI res)))) M := by
  refine ok_of (ls := [some (rf G r), none]) hl (by decide +kernel) (Nat.le_of_ble_eq_true rfl) ⟨rfl, trivial⟩ ?_
  intro X hX C E
  subst hX
  rw [f_X4_allEqual] at h
  refine go_iconst C dX4_allEqual_0 ?_
  refine go_istore_n (ls2 := [some (rf G r), some (.int (iI 1))]) C dX4_allEqual_1 rfl (Nat.le_of_ble_eq_true rfl) rfl ?_
  exact w_X4_allEqual_2 hB hr C E F 1 h
-- IntervalRouter$Ring.runBeginsAt(I)Z
set_option maxHeartbeats 4000000 in
theorem ok_X4_runBeginsAt {G : gC} {l : Launch} (hl : l.stackTraces = false) {F : Nat} {v1 : Int} {M : Mem} (hB : Bd M) {r : Nat} (hr : shT[r]? = some (.inl 4)) {res : Int} (h : f_X4_runBeginsAt F r v1 M = some res) : Ok G l 1 0 0 yX4_runBeginsAt (.code yX4_runBeginsAt cX4_runBeginsAt 3 (some .boolean)) [rf G r, .int (iI v1)] M (.inr (some (.int (iI res)))) M := by
  refine ok_of (ls := [some (rf G r), some (.int (iI v1)), none]) hl (by decide +kernel) (Nat.le_of_ble_eq_true rfl) ⟨rfl, ⟨rfl, trivial⟩⟩ ?_
  intro X hX C E
  subst hX
  rw [f_X4_runBeginsAt] at h
  obtain ⟨hp_v1, h⟩ := chk_some h
  refine go_aload_n C dX4_runBeginsAt_0 rfl rfl ?_
  refine go_getR (o := 1) (k2 := (r + 1)) C dX4_runBeginsAt_1 fl_X4_9 hr rfl rfl ?_
  refine go_iload_n C dX4_runBeginsAt_4 rfl rfl ?_
  obtain ⟨hc1, h⟩ := chk_some h
  refine go_iald C dX4_runBeginsAt_5 (so_4_1 hr) (by decide) hc1 ?_
  refine go_iconst C dX4_runBeginsAt_6 ?_
  refine go_icmp_ne (tgt := 12) C dX4_runBeginsAt_7 rfl (hB (r + 1) v1 (Nat.lt_of_lt_of_le (sh_lt (so_4_1 hr)) (by decide))) (by decide) (fun hc2 => ?_) (fun hc2 => ?_)
  · replace h := ite_f hc2 h
    refine go_aload_n C dX4_runBeginsAt_12 rfl rfl ?_
    refine go_getR (o := 1) (k2 := (r + 1)) C dX4_runBeginsAt_13 fl_X4_9 hr rfl rfl ?_
    refine go_iload_n C dX4_runBeginsAt_16 rfl rfl ?_
    refine go_if_ne (tgt := 29) C dX4_runBeginsAt_17 rfl hp_v1 (fun hc3 => ?_) (fun hc3 => ?_)
    · replace h := ite_f hc3 h
      refine go_iload_n C dX4_runBeginsAt_29 rfl rfl ?_
      refine go_iconst C dX4_runBeginsAt_30 ?_
      refine go_isub C dX4_runBeginsAt_31 ?_
      obtain ⟨hc4, h⟩ := chk_some h
      refine go_iald C dX4_runBeginsAt_32 (so_4_1 hr) (by decide) hc4 ?_
      refine go_istore_n (ls2 := [some (rf G r), some (.int (iI v1)), some (.int (iI (M (r + 1) (v1 - 1))))]) C dX4_runBeginsAt_33 rfl (Nat.le_of_ble_eq_true rfl) rfl ?_
      refine go_iload_n C dX4_runBeginsAt_34 rfl rfl ?_
      refine go_aload_n C dX4_runBeginsAt_35 rfl rfl ?_
      refine go_getR (o := 1) (k2 := (r + 1)) C dX4_runBeginsAt_36 fl_X4_9 hr rfl rfl ?_
      refine go_iload_n C dX4_runBeginsAt_39 rfl rfl ?_
      refine go_iald C dX4_runBeginsAt_40 (so_4_1 hr) (by decide) hc1 ?_
      refine go_icmp_ne (tgt := 55) C dX4_runBeginsAt_41 rfl (hB (r + 1) (v1 - 1) (Nat.lt_of_lt_of_le (sh_lt (so_4_1 hr)) (by decide))) (hB (r + 1) v1 (Nat.lt_of_lt_of_le (sh_lt (so_4_1 hr)) (by decide))) (fun hc5 => ?_) (fun hc5 => ?_)
      · replace h := ite_f hc5 h
        refine go_iconst C dX4_runBeginsAt_55 ?_
        refine go_goto (tgt := 60) C dX4_runBeginsAt_56 rfl ?_
        cases h
        exact go_zret C E rfl dX4_runBeginsAt_60 (by decide) (Nat.le_of_ble_eq_true rfl) (Nat.le_of_ble_eq_true rfl) rfl rfl hB
      · replace h := ite_t hc5 h
        refine go_iload_n C dX4_runBeginsAt_44 rfl rfl ?_
        refine go_if_ne (tgt := 59) C dX4_runBeginsAt_45 rfl hp_v1 (fun hc6 => ?_) (fun hc6 => ?_)
        · replace h := ite_f hc6 h
          refine go_iconst C dX4_runBeginsAt_59 ?_
          cases h
          exact go_zret C E rfl dX4_runBeginsAt_60 (by decide) (Nat.le_of_ble_eq_true rfl) (Nat.le_of_ble_eq_true rfl) rfl rfl hB
        · replace h := ite_t hc6 h
          refine go_aload_n C dX4_runBeginsAt_48 rfl rfl ?_
          obtain ⟨q7, h7, h⟩ := ob_some h
          refine go_callV_i C dX4_runBeginsAt_49 (ok_X4_allEqual C.hl hB hr h7) mv_X4_47 hr rfl rfl (Nat.le_of_ble_eq_true rfl) ⟨(Nat.le_of_ble_eq_true rfl), (Nat.le_of_ble_eq_true rfl)⟩ ⟨(Nat.le_of_ble_eq_true rfl), (Nat.le_of_ble_eq_true rfl)⟩ (fun hB7 => ?_)
          obtain ⟨hc8, h⟩ := chk_some h
          refine go_if_eq (tgt := 59) C dX4_runBeginsAt_52 rfl hc8 (fun hc9 => ?_) (fun hc9 => ?_)
          · replace h := ite_t hc9 h
            refine go_iconst C dX4_runBeginsAt_59 ?_
            cases h
            exact go_zret C E rfl dX4_runBeginsAt_60 (by decide) (Nat.le_of_ble_eq_true rfl) (Nat.le_of_ble_eq_true rfl) rfl rfl hB7
          · replace h := ite_f hc9 h
            refine go_iconst C dX4_runBeginsAt_55 ?_
            refine go_goto (tgt := 60) C dX4_runBeginsAt_56 rfl ?_
            cases h
            exact go_zret C E rfl dX4_runBeginsAt_60 (by decide) (Nat.le_of_ble_eq_true rfl) (Nat.le_of_ble_eq_true rfl) rfl rfl hB7
    · replace h := ite_t hc3 h
      refine go_aload_n C dX4_runBeginsAt_20 rfl rfl ?_
      refine go_getI (z := 0) C dX4_runBeginsAt_21 fl_X4_21 hr rfl rfl ?_
      refine go_iconst C dX4_runBeginsAt_24 ?_
      refine go_isub C dX4_runBeginsAt_25 ?_
      refine go_goto (tgt := 32) C dX4_runBeginsAt_26 rfl ?_
      obtain ⟨hc10, h⟩ := chk_some h
      refine go_iald C dX4_runBeginsAt_32 (so_4_1 hr) (by decide) hc10 ?_
      refine go_istore_n (ls2 := [some (rf G r), some (.int (iI v1)), some (.int (iI (M (r + 1) ((M r 0) - 1))))]) C dX4_runBeginsAt_33 rfl (Nat.le_of_ble_eq_true rfl) rfl ?_
      refine go_iload_n C dX4_runBeginsAt_34 rfl rfl ?_
      refine go_aload_n C dX4_runBeginsAt_35 rfl rfl ?_
      refine go_getR (o := 1) (k2 := (r + 1)) C dX4_runBeginsAt_36 fl_X4_9 hr rfl rfl ?_
      refine go_iload_n C dX4_runBeginsAt_39 rfl rfl ?_
      refine go_iald C dX4_runBeginsAt_40 (so_4_1 hr) (by decide) hc1 ?_
      refine go_icmp_ne (tgt := 55) C dX4_runBeginsAt_41 rfl (hB (r + 1) ((M r 0) - 1) (Nat.lt_of_lt_of_le (sh_lt (so_4_1 hr)) (by decide))) (hB (r + 1) v1 (Nat.lt_of_lt_of_le (sh_lt (so_4_1 hr)) (by decide))) (fun hc11 => ?_) (fun hc11 => ?_)
      · replace h := ite_f hc11 h
        refine go_iconst C dX4_runBeginsAt_55 ?_
        refine go_goto (tgt := 60) C dX4_runBeginsAt_56 rfl ?_
        cases h
        exact go_zret C E rfl dX4_runBeginsAt_60 (by decide) (Nat.le_of_ble_eq_true rfl) (Nat.le_of_ble_eq_true rfl) rfl rfl hB
      · replace h := ite_t hc11 h
        refine go_iload_n C dX4_runBeginsAt_44 rfl rfl ?_
        refine go_if_ne (tgt := 59) C dX4_runBeginsAt_45 rfl hp_v1 (fun hc12 => ?_) (fun hc12 => ?_)
        · replace h := ite_f hc12 h
          refine go_iconst C dX4_runBeginsAt_59 ?_
          cases h
          exact go_zret C E rfl dX4_runBeginsAt_60 (by decide) (Nat.le_of_ble_eq_true rfl) (Nat.le_of_ble_eq_true rfl) rfl rfl hB
        · replace h := ite_t hc12 h
          refine go_aload_n C dX4_runBeginsAt_48 rfl rfl ?_
          obtain ⟨q13, h13, h⟩ := ob_some h
          refine go_callV_i C dX4_runBeginsAt_49 (ok_X4_allEqual C.hl hB hr h13) mv_X4_47 hr rfl rfl (Nat.le_of_ble_eq_true rfl) ⟨(Nat.le_of_ble_eq_true rfl), (Nat.le_of_ble_eq_true rfl)⟩ ⟨(Nat.le_of_ble_eq_true rfl), (Nat.le_of_ble_eq_true rfl)⟩ (fun hB13 => ?_)
          obtain ⟨hc14, h⟩ := chk_some h
          refine go_if_eq (tgt := 59) C dX4_runBeginsAt_52 rfl hc14 (fun hc15 => ?_) (fun hc15 => ?_)
          · replace h := ite_t hc15 h
            refine go_iconst C dX4_runBeginsAt_59 ?_
            cases h
            exact go_zret C E rfl dX4_runBeginsAt_60 (by decide) (Nat.le_of_ble_eq_true rfl) (Nat.le_of_ble_eq_true rfl) rfl rfl hB13
          · replace h := ite_f hc15 h
            refine go_iconst C dX4_runBeginsAt_55 ?_
            refine go_goto (tgt := 60) C dX4_runBeginsAt_56 rfl ?_
            cases h
            exact go_zret C E rfl dX4_runBeginsAt_60 (by decide) (Nat.le_of_ble_eq_true rfl) (Nat.le_of_ble_eq_true rfl) rfl rfl hB13
  · replace h := ite_t hc2 h
    refine go_iconst C dX4_runBeginsAt_10 ?_
    cases h
    exact go_zret C E rfl dX4_runBeginsAt_11 (by decide) (Nat.le_of_ble_eq_true rfl) (Nat.le_of_ble_eq_true rfl) rfl rfl hB
-- IntervalRouter$Ring.runsOf(I)I
set_option maxHeartbeats 4000000 in
theorem w_X4_runsOf_4 {G : gC} {X : gX} {res : Int} {F : Nat} {M : Mem} (hB : Bd M) {r : Nat} (hr : shT[r]? = some (.inl 4)) (C : Cx G X cX4_runsOf 4 RX4 2 0 0 (some .int) []) (E : Fnl G X 0 0 (.inr (some (.int (iI res)))) M) : ∀ (fu : Nat) (v1 : Int) (v2 : Int) (v3 : Int), f_X4_runsOf_4 F r fu v1 v2 v3 M = some res → Go G X 4 0 0 4 [some (rf G r), some (.int (iI v1)), some (.int (iI v2)), some (.int (iI v3))] [] M := by
  intro fu
  induction fu with
  | zero => intro v1 v2 v3 h; exact nomatch (show (none : Option (Int)) = some res from h)
  | succ fu ih =>
    intro v1 v2 v3 h
    rw [f_X4_runsOf_4] at h
    obtain ⟨⟨hp_v1, hp_v3⟩, h⟩ := chk_some h
    refine go_iload_n C dX4_runsOf_4 rfl rfl ?_
    refine go_aload_n C dX4_runsOf_5 rfl rfl ?_
    refine go_getI (z := 0) C dX4_runsOf_6 fl_X4_21 hr rfl rfl ?_
    refine go_icmp_ge (tgt := 39) C dX4_runsOf_9 rfl hp_v3 (hB r 0 (Nat.lt_of_lt_of_le (sh_lt hr) (by decide))) (fun hc1 => ?_) (fun hc1 => ?_)
    · replace h := ite_t hc1 h
      refine go_iload_n C dX4_runsOf_39 rfl rfl ?_
      cases h
      exact go_iret C E rfl dX4_runsOf_40 (Nat.le_of_ble_eq_true rfl) (Nat.le_of_ble_eq_true rfl) rfl rfl hB
    · replace h := ite_f hc1 h
      refine go_aload_n C dX4_runsOf_12 rfl rfl ?_
      refine go_getR (o := 1) (k2 := (r + 1)) C dX4_runsOf_13 fl_X4_9 hr rfl rfl ?_
      refine go_iload_n C dX4_runsOf_16 rfl rfl ?_
      obtain ⟨hc2, h⟩ := chk_some h
      refine go_iald C dX4_runsOf_17 (so_4_1 hr) (by decide) hc2 ?_
      refine go_iload_n C dX4_runsOf_18 rfl rfl ?_
      refine go_icmp_ne (tgt := 33) C dX4_runsOf_19 rfl (hB (r + 1) v3 (Nat.lt_of_lt_of_le (sh_lt (so_4_1 hr)) (by decide))) hp_v1 (fun hc3 => ?_) (fun hc3 => ?_)
      · replace h := ite_f hc3 h
        refine go_iinc (ls2 := [some (rf G r), some (.int (iI v1)), some (.int (iI v2)), some (.int (iI (v3 + 1)))]) C dX4_runsOf_33 rfl (Nat.le_of_ble_eq_true rfl) rfl ?_
        refine go_goto (tgt := 4) C dX4_runsOf_36 rfl ?_
        exact ih v1 v2 (v3 + 1) h
      · replace h := ite_t hc3 h
        refine go_aload_n C dX4_runsOf_22 rfl rfl ?_
        refine go_iload_n C dX4_runsOf_23 rfl rfl ?_
        obtain ⟨q4, h4, h⟩ := ob_some h
        refine go_callV_i C dX4_runsOf_24 (ok_X4_runBeginsAt C.hl hB hr h4) mv_X4_34 hr rfl rfl (Nat.le_of_ble_eq_true rfl) ⟨(Nat.le_of_ble_eq_true rfl), (Nat.le_of_ble_eq_true rfl)⟩ ⟨(Nat.le_of_ble_eq_true rfl), (Nat.le_of_ble_eq_true rfl)⟩ (fun hB4 => ?_)
        obtain ⟨hc5, h⟩ := chk_some h
        refine go_if_eq (tgt := 33) C dX4_runsOf_27 rfl hc5 (fun hc6 => ?_) (fun hc6 => ?_)
        · replace h := ite_t hc6 h
          refine go_iinc (ls2 := [some (rf G r), some (.int (iI v1)), some (.int (iI v2)), some (.int (iI (v3 + 1)))]) C dX4_runsOf_33 rfl (Nat.le_of_ble_eq_true rfl) rfl ?_
          refine go_goto (tgt := 4) C dX4_runsOf_36 rfl ?_
          exact ih v1 v2 (v3 + 1) h
        · replace h := ite_f hc6 h
          refine go_iinc (ls2 := [some (rf G r), some (.int (iI v1)), some (.int (iI (v2 + 1))), some (.int (iI v3))]) C dX4_runsOf_30 rfl (Nat.le_of_ble_eq_true rfl) rfl ?_
          refine go_iinc (ls2 := [some (rf G r), some (.int (iI v1)), some (.int (iI (v2 + 1))), some (.int (iI (v3 + 1)))]) C dX4_runsOf_33 rfl (Nat.le_of_ble_eq_true rfl) rfl ?_
          refine go_goto (tgt := 4) C dX4_runsOf_36 rfl ?_
          exact ih v1 (v2 + 1) (v3 + 1) h
set_option maxHeartbeats 4000000 in
theorem ok_X4_runsOf {G : gC} {l : Launch} (hl : l.stackTraces = false) {F : Nat} {v1 : Int} {M : Mem} (hB : Bd M) {r : Nat} (hr : shT[r]? = some (.inl 4)) {res : Int} (h : f_X4_runsOf F r v1 M = some res) : Ok G l 2 0 0 yX4_runsOf (.code yX4_runsOf cX4_runsOf 4 (some .int)) [rf G r, .int (iI v1)] M (.inr (some (.int (iI res)))) M := by
  refine ok_of (ls := [some (rf G r), some (.int (iI v1)), none, none]) hl (by decide +kernel) (Nat.le_of_ble_eq_true rfl) ⟨rfl, ⟨rfl, trivial⟩⟩ ?_
  intro X hX C E
  subst hX
  rw [f_X4_runsOf] at h
  refine go_iconst C dX4_runsOf_0 ?_
  refine go_istore_n (ls2 := [some (rf G r), some (.int (iI v1)), some (.int (iI 0)), none]) C dX4_runsOf_1 rfl (Nat.le_of_ble_eq_true rfl) rfl ?_
  refine go_iconst C dX4_runsOf_2 ?_
  refine go_istore_n (ls2 := [some (rf G r), some (.int (iI v1)), some (.int (iI 0)), some (.int (iI 0))]) C dX4_runsOf_3 rfl (Nat.le_of_ble_eq_true rfl) rfl ?_
  exact w_X4_runsOf_4 hB hr C E F v1 0 0 h
-- IntervalRouter$Ring.allRuns()I
set_option maxHeartbeats 4000000 in
theorem w_X4_allRuns_4 {G : gC} {X : gX} {res : Int} {F : Nat} {M : Mem} (hB : Bd M) {r : Nat} (hr : shT[r]? = some (.inl 4)) (C : Cx G X cX4_allRuns 3 RX4 2 0 0 (some .int) []) (E : Fnl G X 0 0 (.inr (some (.int (iI res)))) M) : ∀ (fu : Nat) (v1 : Int) (v2 : Int), f_X4_allRuns_4 F r fu v1 v2 M = some res → Go G X 3 0 0 4 [some (rf G r), some (.int (iI v1)), some (.int (iI v2))] [] M := by
  intro fu
  induction fu with
  | zero => intro v1 v2 h; exact nomatch (show (none : Option (Int)) = some res from h)
  | succ fu ih =>
    intro v1 v2 h
    rw [f_X4_allRuns_4] at h
    obtain ⟨hp_v2, h⟩ := chk_some h
    refine go_iload_n C dX4_allRuns_4 rfl rfl ?_
    refine go_aload_n C dX4_allRuns_5 rfl rfl ?_
    refine go_getI (z := 0) C dX4_allRuns_6 fl_X4_21 hr rfl rfl ?_
    refine go_icmp_ge (tgt := 29) C dX4_allRuns_9 rfl hp_v2 (hB r 0 (Nat.lt_of_lt_of_le (sh_lt hr) (by decide))) (fun hc1 => ?_) (fun hc1 => ?_)
    · replace h := ite_t hc1 h
      refine go_iload_n C dX4_allRuns_29 rfl rfl ?_
      cases h
      exact go_iret C E rfl dX4_allRuns_30 (Nat.le_of_ble_eq_true rfl) (Nat.le_of_ble_eq_true rfl) rfl rfl hB
    · replace h := ite_f hc1 h
      refine go_aload_n C dX4_allRuns_12 rfl rfl ?_
      refine go_iload_n C dX4_allRuns_13 rfl rfl ?_
      obtain ⟨q2, h2, h⟩ := ob_some h
      refine go_callV_i C dX4_allRuns_14 (ok_X4_runBeginsAt C.hl hB hr h2) mv_X4_34 hr rfl rfl (Nat.le_of_ble_eq_true rfl) ⟨(Nat.le_of_ble_eq_true rfl), (Nat.le_of_ble_eq_true rfl)⟩ ⟨(Nat.le_of_ble_eq_true rfl), (Nat.le_of_ble_eq_true rfl)⟩ (fun hB2 => ?_)
      obtain ⟨hc3, h⟩ := chk_some h
      refine go_if_eq (tgt := 23) C dX4_allRuns_17 rfl hc3 (fun hc4 => ?_) (fun hc4 => ?_)
      · replace h := ite_t hc4 h
        refine go_iinc (ls2 := [some (rf G r), some (.int (iI v1)), some (.int (iI (v2 + 1)))]) C dX4_allRuns_23 rfl (Nat.le_of_ble_eq_true rfl) rfl ?_
        refine go_goto (tgt := 4) C dX4_allRuns_26 rfl ?_
        exact ih v1 (v2 + 1) h
      · replace h := ite_f hc4 h
        refine go_iinc (ls2 := [some (rf G r), some (.int (iI (v1 + 1))), some (.int (iI v2))]) C dX4_allRuns_20 rfl (Nat.le_of_ble_eq_true rfl) rfl ?_
        refine go_iinc (ls2 := [some (rf G r), some (.int (iI (v1 + 1))), some (.int (iI (v2 + 1)))]) C dX4_allRuns_23 rfl (Nat.le_of_ble_eq_true rfl) rfl ?_
        refine go_goto (tgt := 4) C dX4_allRuns_26 rfl ?_
        exact ih (v1 + 1) (v2 + 1) h
set_option maxHeartbeats 4000000 in
theorem ok_X4_allRuns {G : gC} {l : Launch} (hl : l.stackTraces = false) {F : Nat} {M : Mem} (hB : Bd M) {r : Nat} (hr : shT[r]? = some (.inl 4)) {res : Int} (h : f_X4_allRuns F r M = some res) : Ok G l 2 0 0 yX4_allRuns (.code yX4_allRuns cX4_allRuns 3 (some .int)) [rf G r] M (.inr (some (.int (iI res)))) M := by
  refine ok_of (ls := [some (rf G r), none, none]) hl (by decide +kernel) (Nat.le_of_ble_eq_true rfl) ⟨rfl, trivial⟩ ?_
  intro X hX C E
  subst hX
  rw [f_X4_allRuns] at h
  refine go_iconst C dX4_allRuns_0 ?_
  refine go_istore_n (ls2 := [some (rf G r), some (.int (iI 0)), none]) C dX4_allRuns_1 rfl (Nat.le_of_ble_eq_true rfl) rfl ?_
  refine go_iconst C dX4_allRuns_2 ?_
  refine go_istore_n (ls2 := [some (rf G r), some (.int (iI 0)), some (.int (iI 0))]) C dX4_allRuns_3 rfl (Nat.le_of_ble_eq_true rfl) rfl ?_
  exact w_X4_allRuns_4 hB hr C E F 0 0 h
-- IntervalRouter$Ring.mostRuns()I
set_option maxHeartbeats 4000000 in
theorem w_X4_mostRuns_4 {G : gC} {X : gX} {res : Int} {F : Nat} {M : Mem} (hB : Bd M) {r : Nat} (hr : shT[r]? = some (.inl 4)) (C : Cx G X cX4_mostRuns 3 RX4 3 0 0 (some .int) []) (E : Fnl G X 0 0 (.inr (some (.int (iI res)))) M) : ∀ (fu : Nat) (v1 : Int) (v2 : Int), f_X4_mostRuns_4 F r fu v1 v2 M = some res → Go G X 3 0 0 4 [some (rf G r), some (.int (iI v1)), some (.int (iI v2))] [] M := by
  intro fu
  induction fu with
  | zero => intro v1 v2 h; exact nomatch (show (none : Option (Int)) = some res from h)
  | succ fu ih =>
    intro v1 v2 h
    rw [f_X4_mostRuns_4] at h
    obtain ⟨⟨hp_v1, hp_v2⟩, h⟩ := chk_some h
    refine go_iload_n C dX4_mostRuns_4 rfl rfl ?_
    refine go_aload_n C dX4_mostRuns_5 rfl rfl ?_
    refine go_getI (z := 0) C dX4_mostRuns_6 fl_X4_21 hr rfl rfl ?_
    refine go_icmp_ge (tgt := 33) C dX4_mostRuns_9 rfl hp_v2 (hB r 0 (Nat.lt_of_lt_of_le (sh_lt hr) (by decide))) (fun hc1 => ?_) (fun hc1 => ?_)
    · replace h := ite_t hc1 h
      refine go_iload_n C dX4_mostRuns_33 rfl rfl ?_
      cases h
      exact go_iret C E rfl dX4_mostRuns_34 (Nat.le_of_ble_eq_true rfl) (Nat.le_of_ble_eq_true rfl) rfl rfl hB
    · replace h := ite_f hc1 h
      refine go_iload_n C dX4_mostRuns_12 rfl rfl ?_
      refine go_aload_n C dX4_mostRuns_13 rfl rfl ?_
      refine go_aload_n C dX4_mostRuns_14 rfl rfl ?_
      refine go_getR (o := 1) (k2 := (r + 1)) C dX4_mostRuns_15 fl_X4_9 hr rfl rfl ?_
      refine go_iload_n C dX4_mostRuns_18 rfl rfl ?_
      obtain ⟨hc2, h⟩ := chk_some h
      refine go_iald C dX4_mostRuns_19 (so_4_1 hr) (by decide) hc2 ?_
      obtain ⟨q3, h3, h⟩ := ob_some h
      refine go_callV_i C dX4_mostRuns_20 (ok_X4_runsOf C.hl hB hr h3) mv_X4_38 hr rfl rfl (Nat.le_of_ble_eq_true rfl) ⟨(Nat.le_of_ble_eq_true rfl), (Nat.le_of_ble_eq_true rfl)⟩ ⟨(Nat.le_of_ble_eq_true rfl), (Nat.le_of_ble_eq_true rfl)⟩ (fun hB3 => ?_)
      obtain ⟨hc4, h⟩ := chk_some h
      refine go_mmax C dX4_mostRuns_23 mx_X4_42 hp_v1 hc4 (Nat.le_of_ble_eq_true rfl) (Nat.le_of_ble_eq_true rfl) (Nat.le_of_ble_eq_true rfl) (Nat.le_of_ble_eq_true rfl) ?_
      refine go_istore_n (ls2 := [some (rf G r), some (.int (iI (imax v1 q3))), some (.int (iI v2))]) C dX4_mostRuns_26 rfl (Nat.le_of_ble_eq_true rfl) rfl ?_
      refine go_iinc (ls2 := [some (rf G r), some (.int (iI (imax v1 q3))), some (.int (iI (v2 + 1)))]) C dX4_mostRuns_27 rfl (Nat.le_of_ble_eq_true rfl) rfl ?_
      refine go_goto (tgt := 4) C dX4_mostRuns_30 rfl ?_
      exact ih (imax v1 q3) (v2 + 1) h
set_option maxHeartbeats 4000000 in
theorem ok_X4_mostRuns {G : gC} {l : Launch} (hl : l.stackTraces = false) {F : Nat} {M : Mem} (hB : Bd M) {r : Nat} (hr : shT[r]? = some (.inl 4)) {res : Int} (h : f_X4_mostRuns F r M = some res) : Ok G l 3 0 0 yX4_mostRuns (.code yX4_mostRuns cX4_mostRuns 3 (some .int)) [rf G r] M (.inr (some (.int (iI res)))) M := by
  refine ok_of (ls := [some (rf G r), none, none]) hl (by decide +kernel) (Nat.le_of_ble_eq_true rfl) ⟨rfl, trivial⟩ ?_
  intro X hX C E
  subst hX
  rw [f_X4_mostRuns] at h
  refine go_iconst C dX4_mostRuns_0 ?_
  refine go_istore_n (ls2 := [some (rf G r), some (.int (iI 0)), none]) C dX4_mostRuns_1 rfl (Nat.le_of_ble_eq_true rfl) rfl ?_
  refine go_iconst C dX4_mostRuns_2 ?_
  refine go_istore_n (ls2 := [some (rf G r), some (.int (iI 0)), some (.int (iI 0))]) C dX4_mostRuns_3 rfl (Nat.le_of_ble_eq_true rfl) rfl ?_
  exact w_X4_mostRuns_4 hB hr C E F 0 0 h
-- IntervalRouter$Ring.beginningOf(II)I
set_option maxHeartbeats 4000000 in
theorem w_X4_beginningOf_5 {G : gC} {X : gX} {res : Int} {F : Nat} {M : Mem} (hB : Bd M) {r : Nat} (hr : shT[r]? = some (.inl 4)) (C : Cx G X cX4_beginningOf 5 RX4 2 0 0 (some .int) []) (E : Fnl G X 0 0 (.inr (some (.int (iI res)))) M) : ∀ (fu : Nat) (v1 : Int) (v2 : Int) (v3 : Int) (v4 : Int), f_X4_beginningOf_5 F r fu v1 v2 v3 v4 M = some res → Go G X 5 0 0 5 [some (rf G r), some (.int (iI v1)), some (.int (iI v2)), some (.int (iI v3)), some (.int (iI v4))] [] M := by
  intro fu
  induction fu with
  | zero => intro v1 v2 v3 v4 h; exact nomatch (show (none : Option (Int)) = some res from h)
  | succ fu ih =>
    intro v1 v2 v3 v4 h
    rw [f_X4_beginningOf_5] at h
    obtain ⟨⟨hp_v1, hp_v2, hp_v3, hp_v4⟩, h⟩ := chk_some h
    refine go_iload C dX4_beginningOf_5 rfl ?_
    refine go_aload_n C dX4_beginningOf_7 rfl rfl ?_
    refine go_getI (z := 0) C dX4_beginningOf_8 fl_X4_21 hr rfl rfl ?_
    refine go_icmp_ge (tgt := 51) C dX4_beginningOf_11 rfl hp_v4 (hB r 0 (Nat.lt_of_lt_of_le (sh_lt hr) (by decide))) (fun hc1 => ?_) (fun hc1 => ?_)
    · replace h := ite_t hc1 h
      refine go_iconst C dX4_beginningOf_51 ?_
      cases h
      exact go_iret C E rfl dX4_beginningOf_52 (Nat.le_of_ble_eq_true rfl) (Nat.le_of_ble_eq_true rfl) rfl rfl hB
    · replace h := ite_f hc1 h
      refine go_aload_n C dX4_beginningOf_14 rfl rfl ?_
      refine go_getR (o := 1) (k2 := (r + 1)) C dX4_beginningOf_15 fl_X4_9 hr rfl rfl ?_
      refine go_iload C dX4_beginningOf_18 rfl ?_
      obtain ⟨hc2, h⟩ := chk_some h
      refine go_iald C dX4_beginningOf_20 (so_4_1 hr) (by decide) hc2 ?_
      refine go_iload_n C dX4_beginningOf_21 rfl rfl ?_
      refine go_icmp_ne (tgt := 45) C dX4_beginningOf_22 rfl (hB (r + 1) v4 (Nat.lt_of_lt_of_le (sh_lt (so_4_1 hr)) (by decide))) hp_v1 (fun hc3 => ?_) (fun hc3 => ?_)
      · replace h := ite_f hc3 h
        refine go_iinc (ls2 := [some (rf G r), some (.int (iI v1)), some (.int (iI v2)), some (.int (iI v3)), some (.int (iI (v4 + 1)))]) C dX4_beginningOf_45 rfl (Nat.le_of_ble_eq_true rfl) rfl ?_
        refine go_goto (tgt := 5) C dX4_beginningOf_48 rfl ?_
        exact ih v1 v2 v3 (v4 + 1) h
      · replace h := ite_t hc3 h
        refine go_aload_n C dX4_beginningOf_25 rfl rfl ?_
        refine go_iload C dX4_beginningOf_26 rfl ?_
        obtain ⟨q4, h4, h⟩ := ob_some h
        refine go_callV_i C dX4_beginningOf_28 (ok_X4_runBeginsAt C.hl hB hr h4) mv_X4_34 hr rfl rfl (Nat.le_of_ble_eq_true rfl) ⟨(Nat.le_of_ble_eq_true rfl), (Nat.le_of_ble_eq_true rfl)⟩ ⟨(Nat.le_of_ble_eq_true rfl), (Nat.le_of_ble_eq_true rfl)⟩ (fun hB4 => ?_)
        obtain ⟨hc5, h⟩ := chk_some h
        refine go_if_eq (tgt := 45) C dX4_beginningOf_31 rfl hc5 (fun hc6 => ?_) (fun hc6 => ?_)
        · replace h := ite_t hc6 h
          refine go_iinc (ls2 := [some (rf G r), some (.int (iI v1)), some (.int (iI v2)), some (.int (iI v3)), some (.int (iI (v4 + 1)))]) C dX4_beginningOf_45 rfl (Nat.le_of_ble_eq_true rfl) rfl ?_
          refine go_goto (tgt := 5) C dX4_beginningOf_48 rfl ?_
          exact ih v1 v2 v3 (v4 + 1) h
        · replace h := ite_f hc6 h
          refine go_iload_n C dX4_beginningOf_34 rfl rfl ?_
          refine go_iload_n C dX4_beginningOf_35 rfl rfl ?_
          refine go_icmp_ne (tgt := 42) C dX4_beginningOf_36 rfl hp_v3 hp_v2 (fun hc7 => ?_) (fun hc7 => ?_)
          · replace h := ite_f hc7 h
            refine go_iinc (ls2 := [some (rf G r), some (.int (iI v1)), some (.int (iI v2)), some (.int (iI (v3 + 1))), some (.int (iI v4))]) C dX4_beginningOf_42 rfl (Nat.le_of_ble_eq_true rfl) rfl ?_
            refine go_iinc (ls2 := [some (rf G r), some (.int (iI v1)), some (.int (iI v2)), some (.int (iI (v3 + 1))), some (.int (iI (v4 + 1)))]) C dX4_beginningOf_45 rfl (Nat.le_of_ble_eq_true rfl) rfl ?_
            refine go_goto (tgt := 5) C dX4_beginningOf_48 rfl ?_
            exact ih v1 v2 (v3 + 1) (v4 + 1) h
          · replace h := ite_t hc7 h
            refine go_iload C dX4_beginningOf_39 rfl ?_
            cases h
            exact go_iret C E rfl dX4_beginningOf_41 (Nat.le_of_ble_eq_true rfl) (Nat.le_of_ble_eq_true rfl) rfl rfl hB4
set_option maxHeartbeats 4000000 in
theorem ok_X4_beginningOf {G : gC} {l : Launch} (hl : l.stackTraces = false) {F : Nat} {v1 : Int} {v2 : Int} {M : Mem} (hB : Bd M) {r : Nat} (hr : shT[r]? = some (.inl 4)) {res : Int} (h : f_X4_beginningOf F r v1 v2 M = some res) : Ok G l 2 0 0 yX4_beginningOf (.code yX4_beginningOf cX4_beginningOf 5 (some .int)) [rf G r, .int (iI v1), .int (iI v2)] M (.inr (some (.int (iI res)))) M := by
  refine ok_of (ls := [some (rf G r), some (.int (iI v1)), some (.int (iI v2)), none, none]) hl (by decide +kernel) (Nat.le_of_ble_eq_true rfl) ⟨rfl, ⟨rfl, ⟨rfl, trivial⟩⟩⟩ ?_
  intro X hX C E
  subst hX
  rw [f_X4_beginningOf] at h
  refine go_iconst C dX4_beginningOf_0 ?_
  refine go_istore_n (ls2 := [some (rf G r), some (.int (iI v1)), some (.int (iI v2)), some (.int (iI 0)), none]) C dX4_beginningOf_1 rfl (Nat.le_of_ble_eq_true rfl) rfl ?_
  refine go_iconst C dX4_beginningOf_2 ?_
  refine go_istore (ls2 := [some (rf G r), some (.int (iI v1)), some (.int (iI v2)), some (.int (iI 0)), some (.int (iI 0))]) C dX4_beginningOf_3 (Nat.le_of_ble_eq_true rfl) rfl ?_
  exact w_X4_beginningOf_5 hB hr C E F v1 v2 0 0 h
-- IntervalRouter$Ring.endOfRunAt(I)I
set_option maxHeartbeats 4000000 in
theorem w_X4_endOfRunAt_4 {G : gC} {X : gX} {res : Int} {F : Nat} {M : Mem} (hB : Bd M) {r : Nat} (hr : shT[r]? = some (.inl 4)) (C : Cx G X cX4_endOfRunAt 5 RX4 0 0 0 (some .int) []) (E : Fnl G X 0 0 (.inr (some (.int (iI res)))) M) : ∀ (fu : Nat) (v1 : Int) (v2 : Int) (v3 : Int), f_X4_endOfRunAt_4 F r fu v1 v2 v3 M = some res → Go G X 5 0 0 4 [some (rf G r), some (.int (iI v1)), some (.int (iI v2)), some (.int (iI v3)), none] [] M := by
  intro fu
  induction fu with
  | zero => intro v1 v2 v3 h; exact nomatch (show (none : Option (Int)) = some res from h)
  | succ fu ih =>
    intro v1 v2 v3 h
    rw [f_X4_endOfRunAt_4] at h
    obtain ⟨hp_v3, h⟩ := chk_some h
    refine go_iload_n C dX4_endOfRunAt_4 rfl rfl ?_
    refine go_aload_n C dX4_endOfRunAt_5 rfl rfl ?_
    refine go_getI (z := 0) C dX4_endOfRunAt_6 fl_X4_21 hr rfl rfl ?_
    refine go_icmp_ge (tgt := 58) C dX4_endOfRunAt_9 rfl hp_v3 (hB r 0 (Nat.lt_of_lt_of_le (sh_lt hr) (by decide))) (fun hc1 => ?_) (fun hc1 => ?_)
    · replace h := ite_t hc1 h
      refine go_iload_n C dX4_endOfRunAt_58 rfl rfl ?_
      cases h
      exact go_iret C E rfl dX4_endOfRunAt_59 (Nat.le_of_ble_eq_true rfl) (Nat.le_of_ble_eq_true rfl) rfl rfl hB
    · replace h := ite_f hc1 h
      refine go_iload_n C dX4_endOfRunAt_12 rfl rfl ?_
      refine go_iconst C dX4_endOfRunAt_13 ?_
      refine go_iadd C dX4_endOfRunAt_14 ?_
      refine go_aload_n C dX4_endOfRunAt_15 rfl rfl ?_
      refine go_getI (z := 0) C dX4_endOfRunAt_16 fl_X4_21 hr rfl rfl ?_
      obtain ⟨hc2, h⟩ := chk_some h
      refine go_icmp_ge (tgt := 28) C dX4_endOfRunAt_19 rfl hc2 (hB r 0 (Nat.lt_of_lt_of_le (sh_lt hr) (by decide))) (fun hc3 => ?_) (fun hc3 => ?_)
      · replace h := ite_t hc3 h
        refine go_iconst C dX4_endOfRunAt_28 ?_
        refine go_istore (ls2 := [some (rf G r), some (.int (iI v1)), some (.int (iI v2)), some (.int (iI v3)), some (.int (iI 0))]) C dX4_endOfRunAt_29 (Nat.le_of_ble_eq_true rfl) rfl ?_
        refine go_aload_n C dX4_endOfRunAt_31 rfl rfl ?_
        refine go_getR (o := 1) (k2 := (r + 1)) C dX4_endOfRunAt_32 fl_X4_9 hr rfl rfl ?_
        refine go_iload C dX4_endOfRunAt_35 rfl ?_
        refine go_iald C dX4_endOfRunAt_37 (so_4_1 hr) (by decide) ⟨by decide, by decide⟩ ?_
        refine go_aload_n C dX4_endOfRunAt_38 rfl rfl ?_
        refine go_getR (o := 1) (k2 := (r + 1)) C dX4_endOfRunAt_39 fl_X4_9 hr rfl rfl ?_
        refine go_iload_n C dX4_endOfRunAt_42 rfl rfl ?_
        obtain ⟨hc4, h⟩ := chk_some h
        refine go_iald C dX4_endOfRunAt_43 (so_4_1 hr) (by decide) hc4 ?_
        refine go_icmp_eq (tgt := 49) C dX4_endOfRunAt_44 rfl (hB (r + 1) 0 (Nat.lt_of_lt_of_le (sh_lt (so_4_1 hr)) (by decide))) (hB (r + 1) v1 (Nat.lt_of_lt_of_le (sh_lt (so_4_1 hr)) (by decide))) (fun hc5 => ?_) (fun hc5 => ?_)
        · replace h := ite_t hc5 h
          refine go_iload C dX4_endOfRunAt_49 rfl ?_
          refine go_istore_n (ls2 := [some (rf G r), some (.int (iI v1)), some (.int (iI 0)), some (.int (iI v3)), some (.int (iI 0))]) C dX4_endOfRunAt_51 rfl (Nat.le_of_ble_eq_true rfl) rfl ?_
          refine go_iinc (ls2 := [some (rf G r), some (.int (iI v1)), some (.int (iI 0)), some (.int (iI (v3 + 1))), some (.int (iI 0))]) C dX4_endOfRunAt_52 rfl (Nat.le_of_ble_eq_true rfl) rfl ?_
          refine go_goto (tgt := 4) C dX4_endOfRunAt_55 rfl ?_
          refine go_weak (ls' := [some (rf G r), some (.int (iI v1)), some (.int (iI 0)), some (.int (iI (v3 + 1))), none]) ⟨rfl, ⟨rfl, ⟨rfl, ⟨rfl, trivial⟩⟩⟩⟩ ?_
          exact ih v1 0 (v3 + 1) h
        · replace h := ite_f hc5 h
          refine go_iload_n C dX4_endOfRunAt_47 rfl rfl ?_
          cases h
          exact go_iret C E rfl dX4_endOfRunAt_48 (Nat.le_of_ble_eq_true rfl) (Nat.le_of_ble_eq_true rfl) rfl rfl hB
      · replace h := ite_f hc3 h
        refine go_iload_n C dX4_endOfRunAt_22 rfl rfl ?_
        refine go_iconst C dX4_endOfRunAt_23 ?_
        refine go_iadd C dX4_endOfRunAt_24 ?_
        refine go_goto (tgt := 29) C dX4_endOfRunAt_25 rfl ?_
        refine go_istore (ls2 := [some (rf G r), some (.int (iI v1)), some (.int (iI v2)), some (.int (iI v3)), some (.int (iI (v2 + 1)))]) C dX4_endOfRunAt_29 (Nat.le_of_ble_eq_true rfl) rfl ?_
        refine go_aload_n C dX4_endOfRunAt_31 rfl rfl ?_
        refine go_getR (o := 1) (k2 := (r + 1)) C dX4_endOfRunAt_32 fl_X4_9 hr rfl rfl ?_
        refine go_iload C dX4_endOfRunAt_35 rfl ?_
        obtain ⟨hc6, h⟩ := chk_some h
        refine go_iald C dX4_endOfRunAt_37 (so_4_1 hr) (by decide) hc6 ?_
        refine go_aload_n C dX4_endOfRunAt_38 rfl rfl ?_
        refine go_getR (o := 1) (k2 := (r + 1)) C dX4_endOfRunAt_39 fl_X4_9 hr rfl rfl ?_
        refine go_iload_n C dX4_endOfRunAt_42 rfl rfl ?_
        obtain ⟨hc7, h⟩ := chk_some h
        refine go_iald C dX4_endOfRunAt_43 (so_4_1 hr) (by decide) hc7 ?_
        refine go_icmp_eq (tgt := 49) C dX4_endOfRunAt_44 rfl (hB (r + 1) (v2 + 1) (Nat.lt_of_lt_of_le (sh_lt (so_4_1 hr)) (by decide))) (hB (r + 1) v1 (Nat.lt_of_lt_of_le (sh_lt (so_4_1 hr)) (by decide))) (fun hc8 => ?_) (fun hc8 => ?_)
        · replace h := ite_t hc8 h
          refine go_iload C dX4_endOfRunAt_49 rfl ?_
          refine go_istore_n (ls2 := [some (rf G r), some (.int (iI v1)), some (.int (iI (v2 + 1))), some (.int (iI v3)), some (.int (iI (v2 + 1)))]) C dX4_endOfRunAt_51 rfl (Nat.le_of_ble_eq_true rfl) rfl ?_
          refine go_iinc (ls2 := [some (rf G r), some (.int (iI v1)), some (.int (iI (v2 + 1))), some (.int (iI (v3 + 1))), some (.int (iI (v2 + 1)))]) C dX4_endOfRunAt_52 rfl (Nat.le_of_ble_eq_true rfl) rfl ?_
          refine go_goto (tgt := 4) C dX4_endOfRunAt_55 rfl ?_
          refine go_weak (ls' := [some (rf G r), some (.int (iI v1)), some (.int (iI (v2 + 1))), some (.int (iI (v3 + 1))), none]) ⟨rfl, ⟨rfl, ⟨rfl, ⟨rfl, trivial⟩⟩⟩⟩ ?_
          exact ih v1 (v2 + 1) (v3 + 1) h
        · replace h := ite_f hc8 h
          refine go_iload_n C dX4_endOfRunAt_47 rfl rfl ?_
          cases h
          exact go_iret C E rfl dX4_endOfRunAt_48 (Nat.le_of_ble_eq_true rfl) (Nat.le_of_ble_eq_true rfl) rfl rfl hB
set_option maxHeartbeats 4000000 in
theorem ok_X4_endOfRunAt {G : gC} {l : Launch} (hl : l.stackTraces = false) {F : Nat} {v1 : Int} {M : Mem} (hB : Bd M) {r : Nat} (hr : shT[r]? = some (.inl 4)) {res : Int} (h : f_X4_endOfRunAt F r v1 M = some res) : Ok G l 0 0 0 yX4_endOfRunAt (.code yX4_endOfRunAt cX4_endOfRunAt 5 (some .int)) [rf G r, .int (iI v1)] M (.inr (some (.int (iI res)))) M := by
  refine ok_of (ls := [some (rf G r), some (.int (iI v1)), none, none, none]) hl (by decide +kernel) (Nat.le_of_ble_eq_true rfl) ⟨rfl, ⟨rfl, trivial⟩⟩ ?_
  intro X hX C E
  subst hX
  rw [f_X4_endOfRunAt] at h
  refine go_iload_n C dX4_endOfRunAt_0 rfl rfl ?_
  refine go_istore_n (ls2 := [some (rf G r), some (.int (iI v1)), some (.int (iI v1)), none, none]) C dX4_endOfRunAt_1 rfl (Nat.le_of_ble_eq_true rfl) rfl ?_
  refine go_iconst C dX4_endOfRunAt_2 ?_
  refine go_istore_n (ls2 := [some (rf G r), some (.int (iI v1)), some (.int (iI v1)), some (.int (iI 1)), none]) C dX4_endOfRunAt_3 rfl (Nat.le_of_ble_eq_true rfl) rfl ?_
  exact w_X4_endOfRunAt_4 hB hr C E F v1 v1 1 h
-- IntervalRouter$Search.forget()V
set_option maxHeartbeats 4000000 in
theorem ok_X5_forget {G : gC} {l : Launch} (hl : l.stackTraces = false) {M : Mem} (hB : Bd M) {res : Mem} (h : f_X5_forget M = some res) : Ok G l 0 0 0 yX5_forget (.code yX5_forget cX5_forget 1 none) [rf G 51] M (.inr none) res := by
  refine ok_of (ls := [some (rf G 51)]) hl (by decide +kernel) (Nat.le_of_ble_eq_true rfl) ⟨rfl, trivial⟩ ?_
  intro X hX C E
  subst hX
  rw [f_X5_forget] at h
  refine go_aload_n C dX5_forget_0 rfl rfl ?_
  refine go_iconst C dX5_forget_1 ?_
  refine go_putI (z := 2) C dX5_forget_2 fp_X5_28 sh_51 rfl rfl (nar_b (by decide)) (fit_b (by decide)) ?_
  have hB1 := hB.set 51 2 (x := 0) (by decide)
  cases h
  exact go_vret C E rfl dX5_forget_5 (Nat.le_of_ble_eq_true rfl) (Nat.le_of_ble_eq_true rfl) rfl rfl hB1
-- IntervalRouter$TableMaker.seat([II)V
set_option maxHeartbeats 4000000 in
theorem w_X7_seat_7 {G : gC} {X : gX} {res : Mem} {F : Nat} {a : Nat} (ha : shT[a]? = some (.inr (0, (alen a)))) (C : Cx G X cX7_seat 4 RX7 0 0 0 none []) (E : Fnl G X 0 0 (.inr none) res) : ∀ (fu : Nat) (v2 : Int) (v3 : Int) (M : Mem), Bd M → f_X7_seat_7 F a fu v2 v3 M = some res → Go G X 4 0 0 7 [some (rf G 46), some (rf G a), some (.int (iI v2)), some (.int (iI v3))] [] M := by
  intro fu
  induction fu with
  | zero => intro v2 v3 M hB h; exact nomatch (show (none : Option (Mem)) = some res from h)
  | succ fu ih =>
    intro v2 v3 M hB h
    rw [f_X7_seat_7] at h
    obtain ⟨⟨hp_v2, hp_v3⟩, h⟩ := chk_some h
    refine go_iload_n C dX7_seat_7 rfl rfl ?_
    refine go_iload_n C dX7_seat_8 rfl rfl ?_
    refine go_icmp_ge (tgt := 27) C dX7_seat_9 rfl hp_v3 hp_v2 (fun hc2 => ?_) (fun hc2 => ?_)
    · replace h := ite_t hc2 h
      cases h
      exact go_vret C E rfl dX7_seat_27 (Nat.le_of_ble_eq_true rfl) (Nat.le_of_ble_eq_true rfl) rfl rfl hB
    · replace h := ite_f hc2 h
      refine go_aload_n C dX7_seat_12 rfl rfl ?_
      refine go_getR (o := 1) (k2 := 47) C dX7_seat_13 fl_X7_9 sh_46 rfl rfl ?_
      refine go_aload_n C dX7_seat_16 rfl rfl ?_
      refine go_iload_n C dX7_seat_17 rfl rfl ?_
      obtain ⟨hc3, h⟩ := chk_some h
      refine go_iald C dX7_seat_18 ha (alen_lt a) hc3 ?_
      refine go_iload_n C dX7_seat_19 rfl rfl ?_
      obtain ⟨hc4, h⟩ := chk_some h
      refine go_iast C dX7_seat_20 sh_47 (by decide) hc4 ?_
      have hB5 := hB.set 47 (M a v3) (x := v3) hp_v3
      refine go_iinc (ls2 := [some (rf G 46), some (rf G a), some (.int (iI v2)), some (.int (iI (v3 + 1)))]) C dX7_seat_21 rfl (Nat.le_of_ble_eq_true rfl) rfl ?_
      refine go_goto (tgt := 7) C dX7_seat_24 rfl ?_
      exact ih v2 (v3 + 1) (mset M 47 (M a v3) v3) hB5 h
set_option maxHeartbeats 4000000 in
theorem ok_X7_seat {G : gC} {l : Launch} (hl : l.stackTraces = false) {F : Nat} {v2 : Int} {M : Mem} (hB : Bd M) {a : Nat} (ha : shT[a]? = some (.inr (0, (alen a)))) {res : Mem} (h : f_X7_seat F a v2 M = some res) : Ok G l 0 0 0 yX7_seat (.code yX7_seat cX7_seat 4 none) [rf G 46, rf G a, .int (iI v2)] M (.inr none) res := by
  refine ok_of (ls := [some (rf G 46), some (rf G a), some (.int (iI v2)), none]) hl (by decide +kernel) (Nat.le_of_ble_eq_true rfl) ⟨rfl, ⟨rfl, ⟨rfl, trivial⟩⟩⟩ ?_
  intro X hX C E
  subst hX
  rw [f_X7_seat] at h
  obtain ⟨hp_v2, h⟩ := chk_some h
  refine go_aload_n C dX7_seat_0 rfl rfl ?_
  refine go_iload_n C dX7_seat_1 rfl rfl ?_
  refine go_putI (z := 0) C dX7_seat_2 fp_X7_24 sh_46 rfl rfl rfl rfl ?_
  have hB1 := hB.set 46 0 (x := v2) hp_v2
  refine go_iconst C dX7_seat_5 ?_
  refine go_istore_n (ls2 := [some (rf G 46), some (rf G a), some (.int (iI v2)), some (.int (iI 0))]) C dX7_seat_6 rfl (Nat.le_of_ble_eq_true rfl) rfl ?_
  exact w_X7_seat_7 ha C E F v2 0 (mset M 46 0 v2) hB1 h
-- IntervalRouter$Ways.copyChoices(II[II)I
set_option maxHeartbeats 4000000 in
theorem w_X8_copyChoices_11 {G : gC} {X : gX} {res : Int × Mem} {F : Nat} (C : Cx G X cX8_copyChoices 7 RX8 0 0 0 (some .int) []) (E : Fnl G X 0 0 (.inr (some (.int (iI res.1)))) res.2) : ∀ (fu : Nat) (v4 : Int) (v5 : Int) (v6 : Int) (M : Mem), Bd M → f_X8_copyChoices_11 F fu v4 v5 v6 M = some res → Go G X 7 0 0 11 [some (rf G 39), none, none, some (rf G 49), some (.int (iI v4)), some (.int (iI v5)), some (.int (iI v6))] [] M := by
  intro fu
  induction fu with
  | zero => intro v4 v5 v6 M hB h; exact nomatch (show (none : Option (Int × Mem)) = some res from h)
  | succ fu ih =>
    intro v4 v5 v6 M hB h
    rw [f_X8_copyChoices_11] at h
    obtain ⟨hp_v6, h⟩ := chk_some h
    refine go_iload C dX8_copyChoices_11 rfl ?_
    refine go_aload_n C dX8_copyChoices_13 rfl rfl ?_
    refine go_getR (o := 4) (k2 := 43) C dX8_copyChoices_14 fl_X8_21 sh_39 rfl rfl ?_
    refine go_iload C dX8_copyChoices_17 rfl ?_
    obtain ⟨hc1, h⟩ := chk_some h
    refine go_iald C dX8_copyChoices_19 sh_43 (by decide) hc1 ?_
    refine go_icmp_ge (tgt := 49) C dX8_copyChoices_20 rfl hp_v6 (hB 43 v5 (by decide)) (fun hc2 => ?_) (fun hc2 => ?_)
    · replace h := ite_t hc2 h
      refine go_aload_n C dX8_copyChoices_49 rfl rfl ?_
      refine go_getR (o := 4) (k2 := 43) C dX8_copyChoices_50 fl_X8_21 sh_39 rfl rfl ?_
      refine go_iload C dX8_copyChoices_53 rfl ?_
      refine go_iald C dX8_copyChoices_55 sh_43 (by decide) hc1 ?_
      cases h
      exact go_iret C E rfl dX8_copyChoices_56 (Nat.le_of_ble_eq_true rfl) (Nat.le_of_ble_eq_true rfl) rfl rfl hB
    · replace h := ite_f hc2 h
      refine go_aload_n C dX8_copyChoices_23 rfl rfl ?_
      refine go_iload C dX8_copyChoices_24 rfl ?_
      refine go_iload C dX8_copyChoices_26 rfl ?_
      refine go_iadd C dX8_copyChoices_28 ?_
      refine go_aload_n C dX8_copyChoices_29 rfl rfl ?_
      refine go_getR (o := 3) (k2 := 42) C dX8_copyChoices_30 fl_X8_18 sh_39 rfl rfl ?_
      refine go_iload C dX8_copyChoices_33 rfl ?_
      refine go_bipush C dX8_copyChoices_35 (by decide +kernel) ?_
      refine go_imul C dX8_copyChoices_37 ?_
      refine go_iload C dX8_copyChoices_38 rfl ?_
      refine go_iadd C dX8_copyChoices_40 ?_
      obtain ⟨hc3, h⟩ := chk_some h
      refine go_iald C dX8_copyChoices_41 sh_42 (by decide) hc3 ?_
      obtain ⟨hc4, h⟩ := chk_some h
      refine go_iast C dX8_copyChoices_42 sh_49 (by decide) hc4 ?_
      have hB5 := hB.set 49 (v4 + v6) (x := M 42 ((v5 * 8) + v6)) (hB 42 ((v5 * 8) + v6) (by decide))
      refine go_iinc (ls2 := [some (rf G 39), none, none, some (rf G 49), some (.int (iI v4)), some (.int (iI v5)), some (.int (iI (v6 + 1)))]) C dX8_copyChoices_43 rfl (Nat.le_of_ble_eq_true rfl) rfl ?_
      refine go_goto (tgt := 11) C dX8_copyChoices_46 rfl ?_
      exact ih v4 v5 (v6 + 1) (mset M 49 (v4 + v6) (M 42 ((v5 * 8) + v6))) hB5 h
set_option maxHeartbeats 4000000 in
theorem ok_X8_copyChoices {G : gC} {l : Launch} (hl : l.stackTraces = false) {F : Nat} {v1 : Int} {v2 : Int} {v4 : Int} {M : Mem} (hB : Bd M) {res : Int × Mem} (h : f_X8_copyChoices F v1 v2 v4 M = some res) : Ok G l 0 0 0 yX8_copyChoices (.code yX8_copyChoices cX8_copyChoices 7 (some .int)) [rf G 39, .int (iI v1), .int (iI v2), rf G 49, .int (iI v4)] M (.inr (some (.int (iI res.1)))) res.2 := by
  refine ok_of (ls := [some (rf G 39), some (.int (iI v1)), some (.int (iI v2)), some (rf G 49), some (.int (iI v4)), none, none]) hl (by decide +kernel) (Nat.le_of_ble_eq_true rfl) ⟨rfl, ⟨rfl, ⟨rfl, ⟨rfl, ⟨rfl, trivial⟩⟩⟩⟩⟩ ?_
  intro X hX C E
  subst hX
  rw [f_X8_copyChoices] at h
  refine go_iload_n C dX8_copyChoices_0 rfl rfl ?_
  refine go_bipush C dX8_copyChoices_1 (by decide +kernel) ?_
  refine go_imul C dX8_copyChoices_3 ?_
  refine go_iload_n C dX8_copyChoices_4 rfl rfl ?_
  refine go_iadd C dX8_copyChoices_5 ?_
  refine go_istore (ls2 := [some (rf G 39), some (.int (iI v1)), some (.int (iI v2)), some (rf G 49), some (.int (iI v4)), some (.int (iI ((v1 * 9) + v2))), none]) C dX8_copyChoices_6 (Nat.le_of_ble_eq_true rfl) rfl ?_
  refine go_iconst C dX8_copyChoices_8 ?_
  refine go_istore (ls2 := [some (rf G 39), some (.int (iI v1)), some (.int (iI v2)), some (rf G 49), some (.int (iI v4)), some (.int (iI ((v1 * 9) + v2))), some (.int (iI 0))]) C dX8_copyChoices_9 (Nat.le_of_ble_eq_true rfl) rfl ?_
  refine go_weak (ls' := [some (rf G 39), none, none, some (rf G 49), some (.int (iI v4)), some (.int (iI ((v1 * 9) + v2))), some (.int (iI 0))]) ⟨rfl, ⟨rfl, ⟨rfl, ⟨rfl, ⟨rfl, trivial⟩⟩⟩⟩⟩ ?_
  exact w_X8_copyChoices_11 C E F v4 ((v1 * 9) + v2) 0 M hB h
-- IntervalRouter$TableMaker.step(II)I
set_option maxHeartbeats 4000000 in
theorem ok_X7_step {G : gC} {l : Launch} (hl : l.stackTraces = false) {v0 : Int} {v1 : Int} {M : Mem} (hB : Bd M) {res : Int} (h : f_X7_step v0 v1 M = some res) : Ok G l 0 0 0 yX7_step (.code yX7_step cX7_step 2 (some .int)) [.int (iI v0), .int (iI v1)] M (.inr (some (.int (iI res)))) M := by
  refine ok_of (ls := [some (.int (iI v0)), some (.int (iI v1))]) hl (by decide +kernel) (Nat.le_of_ble_eq_true rfl) ⟨rfl, ⟨rfl, trivial⟩⟩ ?_
  intro X hX C E
  subst hX
  rw [f_X7_step] at h
  obtain ⟨⟨hp_v0, hp_v1⟩, h⟩ := chk_some h
  refine go_iload_n C dX7_step_0 rfl rfl ?_
  refine go_iconst C dX7_step_1 ?_
  refine go_icmp_eq (tgt := 14) C dX7_step_2 rfl hp_v1 (by decide) (fun hc1 => ?_) (fun hc1 => ?_)
  · replace h := ite_t hc1 h
    refine go_iconst C dX7_step_14 ?_
    cases h
    exact go_iret C E rfl dX7_step_15 (Nat.le_of_ble_eq_true rfl) (Nat.le_of_ble_eq_true rfl) rfl rfl hB
  · replace h := ite_f hc1 h
    refine go_iload_n C dX7_step_5 rfl rfl ?_
    refine go_iload_n C dX7_step_6 rfl rfl ?_
    refine go_icmp_eq (tgt := 14) C dX7_step_7 rfl hp_v1 hp_v0 (fun hc2 => ?_) (fun hc2 => ?_)
    · replace h := ite_t hc2 h
      refine go_iconst C dX7_step_14 ?_
      cases h
      exact go_iret C E rfl dX7_step_15 (Nat.le_of_ble_eq_true rfl) (Nat.le_of_ble_eq_true rfl) rfl rfl hB
    · replace h := ite_f hc2 h
      refine go_iconst C dX7_step_10 ?_
      refine go_goto (tgt := 15) C dX7_step_11 rfl ?_
      cases h
      exact go_iret C E rfl dX7_step_15 (Nat.le_of_ble_eq_true rfl) (Nat.le_of_ble_eq_true rfl) rfl rfl hB
-- IntervalRouter$TableMaker.cheapestAt(II)I
set_option maxHeartbeats 4000000 in
theorem w_X7_cheapestAt_7 {G : gC} {X : gX} {res : Int} {F : Nat} {M : Mem} (hB : Bd M) (C : Cx G X cX7_cheapestAt 6 RX7 1 0 0 (some .int) []) (E : Fnl G X 0 0 (.inr (some (.int (iI res)))) M) : ∀ (fu : Nat) (v1 : Int) (v2 : Int) (v3 : Int) (v4 : Int), f_X7_cheapestAt_7 F fu v1 v2 v3 v4 M = some res → Go G X 6 0 0 7 [some (rf G 46), some (.int (iI v1)), some (.int (iI v2)), some (.int (iI v3)), some (.int (iI v4)), none] [] M := by
  intro fu
  induction fu with
  | zero => intro v1 v2 v3 v4 h; exact nomatch (show (none : Option (Int)) = some res from h)
  | succ fu ih =>
    intro v1 v2 v3 v4 h
    rw [f_X7_cheapestAt_7] at h
    obtain ⟨⟨hp_v3, hp_v4⟩, h⟩ := chk_some h
    refine go_iload C dX7_cheapestAt_7 rfl ?_
    refine go_aload_n C dX7_cheapestAt_9 rfl rfl ?_
    refine go_getR (o := 2) (k2 := 48) C dX7_cheapestAt_10 fl_X7_15 sh_46 rfl rfl ?_
    refine go_iload_n C dX7_cheapestAt_13 rfl rfl ?_
    obtain ⟨hc1, h⟩ := chk_some h
    refine go_iald C dX7_cheapestAt_14 sh_48 (by decide) hc1 ?_
    refine go_icmp_ge (tgt := 57) C dX7_cheapestAt_15 rfl hp_v4 (hB 48 v1 (by decide)) (fun hc2 => ?_) (fun hc2 => ?_)
    · replace h := ite_t hc2 h
      refine go_iload_n C dX7_cheapestAt_57 rfl rfl ?_
      cases h
      exact go_iret C E rfl dX7_cheapestAt_58 (Nat.le_of_ble_eq_true rfl) (Nat.le_of_ble_eq_true rfl) rfl rfl hB
    · replace h := ite_f hc2 h
      refine go_iload_n C dX7_cheapestAt_18 rfl rfl ?_
      refine go_bipush C dX7_cheapestAt_19 (by decide +kernel) ?_
      refine go_imul C dX7_cheapestAt_21 ?_
      refine go_iload C dX7_cheapestAt_22 rfl ?_
      refine go_iadd C dX7_cheapestAt_24 ?_
      refine go_istore (ls2 := [some (rf G 46), some (.int (iI v1)), some (.int (iI v2)), some (.int (iI v3)), some (.int (iI v4)), some (.int (iI ((v1 * 8) + v4)))]) C dX7_cheapestAt_25 (Nat.le_of_ble_eq_true rfl) rfl ?_
      refine go_iload_n C dX7_cheapestAt_27 rfl rfl ?_
      refine go_iload_n C dX7_cheapestAt_28 rfl rfl ?_
      refine go_aload_n C dX7_cheapestAt_29 rfl rfl ?_
      refine go_getR (o := 3) (k2 := 49) C dX7_cheapestAt_30 fl_X7_18 sh_46 rfl rfl ?_
      refine go_iload C dX7_cheapestAt_33 rfl ?_
      obtain ⟨hc3, h⟩ := chk_some h
      refine go_iald C dX7_cheapestAt_35 sh_49 (by decide) hc3 ?_
      obtain ⟨q4, h4, h⟩ := ob_some h
      refine go_callS_i C dX7_cheapestAt_36 (ok_X7_step C.hl hB h4) ms_X7_51 rfl rfl (Nat.le_of_ble_eq_true rfl) ⟨(Nat.le_of_ble_eq_true rfl), (Nat.le_of_ble_eq_true rfl)⟩ ⟨(Nat.le_of_ble_eq_true rfl), (Nat.le_of_ble_eq_true rfl)⟩ (fun hB4 => ?_)
      refine go_aload_n C dX7_cheapestAt_39 rfl rfl ?_
      refine go_getR (o := 4) (k2 := 50) C dX7_cheapestAt_40 fl_X7_21 sh_46 rfl rfl ?_
      refine go_iload C dX7_cheapestAt_43 rfl ?_
      refine go_iald C dX7_cheapestAt_45 sh_50 (by decide) hc3 ?_
      refine go_iadd C dX7_cheapestAt_46 ?_
      obtain ⟨hc5, h⟩ := chk_some h
      refine go_mmin C dX7_cheapestAt_47 mn_X7_57 hp_v3 hc5 (Nat.le_of_ble_eq_true rfl) (Nat.le_of_ble_eq_true rfl) (Nat.le_of_ble_eq_true rfl) (Nat.le_of_ble_eq_true rfl) ?_
      refine go_istore_n (ls2 := [some (rf G 46), some (.int (iI v1)), some (.int (iI v2)), some (.int (iI (imin v3 (q4 + (M 50 ((v1 * 8) + v4)))))), some (.int (iI v4)), some (.int (iI ((v1 * 8) + v4)))]) C dX7_cheapestAt_50 rfl (Nat.le_of_ble_eq_true rfl) rfl ?_
      refine go_iinc (ls2 := [some (rf G 46), some (.int (iI v1)), some (.int (iI v2)), some (.int (iI (imin v3 (q4 + (M 50 ((v1 * 8) + v4)))))), some (.int (iI (v4 + 1))), some (.int (iI ((v1 * 8) + v4)))]) C dX7_cheapestAt_51 rfl (Nat.le_of_ble_eq_true rfl) rfl ?_
      refine go_goto (tgt := 7) C dX7_cheapestAt_54 rfl ?_
      refine go_weak (ls' := [some (rf G 46), some (.int (iI v1)), some (.int (iI v2)), some (.int (iI (imin v3 (q4 + (M 50 ((v1 * 8) + v4)))))), some (.int (iI (v4 + 1))), none]) ⟨rfl, ⟨rfl, ⟨rfl, ⟨rfl, ⟨rfl, trivial⟩⟩⟩⟩⟩ ?_
      exact ih v1 v2 (imin v3 (q4 + (M 50 ((v1 * 8) + v4)))) (v4 + 1) h
set_option maxHeartbeats 4000000 in
theorem ok_X7_cheapestAt {G : gC} {l : Launch} (hl : l.stackTraces = false) {F : Nat} {v1 : Int} {v2 : Int} {M : Mem} (hB : Bd M) {res : Int} (h : f_X7_cheapestAt F v1 v2 M = some res) : Ok G l 1 0 0 yX7_cheapestAt (.code yX7_cheapestAt cX7_cheapestAt 6 (some .int)) [rf G 46, .int (iI v1), .int (iI v2)] M (.inr (some (.int (iI res)))) M := by
  refine ok_of (ls := [some (rf G 46), some (.int (iI v1)), some (.int (iI v2)), none, none, none]) hl (by decide +kernel) (Nat.le_of_ble_eq_true rfl) ⟨rfl, ⟨rfl, ⟨rfl, trivial⟩⟩⟩ ?_
  intro X hX C E
  subst hX
  rw [f_X7_cheapestAt] at h
  refine go_sipush C dX7_cheapestAt_0 (by decide +kernel) ?_
  refine go_istore_n (ls2 := [some (rf G 46), some (.int (iI v1)), some (.int (iI v2)), some (.int (iI 1000)), none, none]) C dX7_cheapestAt_3 rfl (Nat.le_of_ble_eq_true rfl) rfl ?_
  refine go_iconst C dX7_cheapestAt_4 ?_
  refine go_istore (ls2 := [some (rf G 46), some (.int (iI v1)), some (.int (iI v2)), some (.int (iI 1000)), some (.int (iI 0)), none]) C dX7_cheapestAt_5 (Nat.le_of_ble_eq_true rfl) rfl ?_
  exact w_X7_cheapestAt_7 hB C E F v1 v2 1000 0 h
-- IntervalRouter$TableMaker.priceBeginningWith(II)V
set_option maxHeartbeats 4000000 in
theorem w_X7_priceBeginningWith_11 {G : gC} {X : gX} {res : Mem} {F : Nat} (C : Cx G X cX7_priceBeginningWith 6 RX7 2 0 0 none []) (E : Fnl G X 0 0 (.inr none) res) {k4 : Int → Int → Int → Mem → Option (Mem)} (hk4 : ∀ (v1 : Int) (v2 : Int) (v3 : Int) (M : Mem), Bd M → k4 v1 v2 v3 M = some res → Go G X 6 0 0 4 [some (rf G 46), some (.int (iI v1)), some (.int (iI v2)), some (.int (iI v3)), none, none] [] M) : ∀ (fu : Nat) (v1 : Int) (v2 : Int) (v3 : Int) (v4 : Int) (M : Mem), Bd M → f_X7_priceBeginningWith_11 F k4 fu v1 v2 v3 v4 M = some res → Go G X 6 0 0 11 [some (rf G 46), some (.int (iI v1)), some (.int (iI v2)), some (.int (iI v3)), some (.int (iI v4)), none] [] M := by
  intro fu
  induction fu with
  | zero => intro v1 v2 v3 v4 M hB h; exact nomatch (show (none : Option (Mem)) = some res from h)
  | succ fu ih =>
    intro v1 v2 v3 v4 M hB h
    rw [f_X7_priceBeginningWith_11] at h
    obtain ⟨⟨hp_v3, hp_v4⟩, h⟩ := chk_some h
    refine go_iload C dX7_priceBeginningWith_11 rfl ?_
    refine go_aload_n C dX7_priceBeginningWith_13 rfl rfl ?_
    refine go_getR (o := 2) (k2 := 48) C dX7_priceBeginningWith_14 fl_X7_15 sh_46 rfl rfl ?_
    refine go_iload_n C dX7_priceBeginningWith_17 rfl rfl ?_
    obtain ⟨hc2, h⟩ := chk_some h
    refine go_iald C dX7_priceBeginningWith_18 sh_48 (by decide) hc2 ?_
    refine go_icmp_ge (tgt := 79) C dX7_priceBeginningWith_19 rfl hp_v4 (hB 48 v3 (by decide)) (fun hc3 => ?_) (fun hc3 => ?_)
    · replace h := ite_t hc3 h
      refine go_iinc (ls2 := [some (rf G 46), some (.int (iI v1)), some (.int (iI v2)), some (.int (iI (v3 + (-1)))), some (.int (iI v4)), none]) C dX7_priceBeginningWith_79 rfl (Nat.le_of_ble_eq_true rfl) rfl ?_
      refine go_goto (tgt := 4) C dX7_priceBeginningWith_82 rfl ?_
      refine go_weak (ls' := [some (rf G 46), some (.int (iI v1)), some (.int (iI v2)), some (.int (iI (v3 + (-1)))), none, none]) ⟨rfl, ⟨rfl, ⟨rfl, ⟨rfl, trivial⟩⟩⟩⟩ ?_
      exact hk4 v1 v2 (v3 + (-1)) M hB h
    · replace h := ite_f hc3 h
      refine go_iload_n C dX7_priceBeginningWith_22 rfl rfl ?_
      refine go_bipush C dX7_priceBeginningWith_23 (by decide +kernel) ?_
      refine go_imul C dX7_priceBeginningWith_25 ?_
      refine go_iload C dX7_priceBeginningWith_26 rfl ?_
      refine go_iadd C dX7_priceBeginningWith_28 ?_
      refine go_istore (ls2 := [some (rf G 46), some (.int (iI v1)), some (.int (iI v2)), some (.int (iI v3)), some (.int (iI v4)), some (.int (iI ((v3 * 8) + v4)))]) C dX7_priceBeginningWith_29 (Nat.le_of_ble_eq_true rfl) rfl ?_
      refine go_aload_n C dX7_priceBeginningWith_31 rfl rfl ?_
      refine go_getR (o := 4) (k2 := 50) C dX7_priceBeginningWith_32 fl_X7_21 sh_46 rfl rfl ?_
      refine go_iload C dX7_priceBeginningWith_35 rfl ?_
      refine go_iload_n C dX7_priceBeginningWith_37 rfl rfl ?_
      refine go_iload_n C dX7_priceBeginningWith_38 rfl rfl ?_
      refine go_iconst C dX7_priceBeginningWith_39 ?_
      refine go_isub C dX7_priceBeginningWith_40 ?_
      obtain ⟨hc4, h⟩ := chk_some h
      refine go_icmp_ne (tgt := 58) C dX7_priceBeginningWith_41 rfl hp_v3 hc4 (fun hc5 => ?_) (fun hc5 => ?_)
      · replace h := ite_f hc5 h
        refine go_aload_n C dX7_priceBeginningWith_58 rfl rfl ?_
        refine go_iload_n C dX7_priceBeginningWith_59 rfl rfl ?_
        refine go_iconst C dX7_priceBeginningWith_60 ?_
        refine go_iadd C dX7_priceBeginningWith_61 ?_
        refine go_aload_n C dX7_priceBeginningWith_62 rfl rfl ?_
        refine go_getR (o := 3) (k2 := 49) C dX7_priceBeginningWith_63 fl_X7_18 sh_46 rfl rfl ?_
        refine go_iload C dX7_priceBeginningWith_66 rfl ?_
        obtain ⟨hc6, h⟩ := chk_some h
        refine go_iald C dX7_priceBeginningWith_68 sh_49 (by decide) hc6 ?_
        obtain ⟨q7, h7, h⟩ := ob_some h
        refine go_callV_i C dX7_priceBeginningWith_69 (ok_X7_cheapestAt C.hl hB h7) mv_X7_54 sh_46 rfl rfl (Nat.le_of_ble_eq_true rfl) ⟨(Nat.le_of_ble_eq_true rfl), (Nat.le_of_ble_eq_true rfl)⟩ ⟨(Nat.le_of_ble_eq_true rfl), (Nat.le_of_ble_eq_true rfl)⟩ (fun hB7 => ?_)
        obtain ⟨hc8, h⟩ := chk_some h
        refine go_iast C dX7_priceBeginningWith_72 sh_50 (by decide) hc6 ?_
        have hB9 := hB7.set 50 ((v3 * 8) + v4) (x := q7) hc8
        refine go_iinc (ls2 := [some (rf G 46), some (.int (iI v1)), some (.int (iI v2)), some (.int (iI v3)), some (.int (iI (v4 + 1))), some (.int (iI ((v3 * 8) + v4)))]) C dX7_priceBeginningWith_73 rfl (Nat.le_of_ble_eq_true rfl) rfl ?_
        refine go_goto (tgt := 11) C dX7_priceBeginningWith_76 rfl ?_
        refine go_weak (ls' := [some (rf G 46), some (.int (iI v1)), some (.int (iI v2)), some (.int (iI v3)), some (.int (iI (v4 + 1))), none]) ⟨rfl, ⟨rfl, ⟨rfl, ⟨rfl, ⟨rfl, trivial⟩⟩⟩⟩⟩ ?_
        exact ih v1 v2 v3 (v4 + 1) (mset M 50 ((v3 * 8) + v4) q7) hB9 h
      · replace h := ite_t hc5 h
        refine go_aload_n C dX7_priceBeginningWith_44 rfl rfl ?_
        refine go_getR (o := 3) (k2 := 49) C dX7_priceBeginningWith_45 fl_X7_18 sh_46 rfl rfl ?_
        refine go_iload C dX7_priceBeginningWith_48 rfl ?_
        obtain ⟨hc10, h⟩ := chk_some h
        refine go_iald C dX7_priceBeginningWith_50 sh_49 (by decide) hc10 ?_
        refine go_iload_n C dX7_priceBeginningWith_51 rfl rfl ?_
        obtain ⟨q11, h11, h⟩ := ob_some h
        refine go_callS_i C dX7_priceBeginningWith_52 (ok_X7_step C.hl hB h11) ms_X7_51 rfl rfl (Nat.le_of_ble_eq_true rfl) ⟨(Nat.le_of_ble_eq_true rfl), (Nat.le_of_ble_eq_true rfl)⟩ ⟨(Nat.le_of_ble_eq_true rfl), (Nat.le_of_ble_eq_true rfl)⟩ (fun hB11 => ?_)
        refine go_goto (tgt := 72) C dX7_priceBeginningWith_55 rfl ?_
        obtain ⟨hc12, h⟩ := chk_some h
        refine go_iast C dX7_priceBeginningWith_72 sh_50 (by decide) hc10 ?_
        have hB13 := hB11.set 50 ((v3 * 8) + v4) (x := q11) hc12
        refine go_iinc (ls2 := [some (rf G 46), some (.int (iI v1)), some (.int (iI v2)), some (.int (iI v3)), some (.int (iI (v4 + 1))), some (.int (iI ((v3 * 8) + v4)))]) C dX7_priceBeginningWith_73 rfl (Nat.le_of_ble_eq_true rfl) rfl ?_
        refine go_goto (tgt := 11) C dX7_priceBeginningWith_76 rfl ?_
        refine go_weak (ls' := [some (rf G 46), some (.int (iI v1)), some (.int (iI v2)), some (.int (iI v3)), some (.int (iI (v4 + 1))), none]) ⟨rfl, ⟨rfl, ⟨rfl, ⟨rfl, ⟨rfl, trivial⟩⟩⟩⟩⟩ ?_
        exact ih v1 v2 v3 (v4 + 1) (mset M 50 ((v3 * 8) + v4) q11) hB13 h
set_option maxHeartbeats 4000000 in
theorem w_X7_priceBeginningWith_4 {G : gC} {X : gX} {res : Mem} {F : Nat} (C : Cx G X cX7_priceBeginningWith 6 RX7 2 0 0 none []) (E : Fnl G X 0 0 (.inr none) res) : ∀ (fu : Nat) (v1 : Int) (v2 : Int) (v3 : Int) (M : Mem), Bd M → f_X7_priceBeginningWith_4 F fu v1 v2 v3 M = some res → Go G X 6 0 0 4 [some (rf G 46), some (.int (iI v1)), some (.int (iI v2)), some (.int (iI v3)), none, none] [] M := by
  intro fu
  induction fu with
  | zero => intro v1 v2 v3 M hB h; exact nomatch (show (none : Option (Mem)) = some res from h)
  | succ fu ih =>
    intro v1 v2 v3 M hB h
    rw [f_X7_priceBeginningWith_4] at h
    obtain ⟨hp_v3, h⟩ := chk_some h
    refine go_iload_n C dX7_priceBeginningWith_4 rfl rfl ?_
    refine go_if_lt (tgt := 85) C dX7_priceBeginningWith_5 rfl hp_v3 (fun hc1 => ?_) (fun hc1 => ?_)
    · replace h := ite_t hc1 h
      cases h
      exact go_vret C E rfl dX7_priceBeginningWith_85 (Nat.le_of_ble_eq_true rfl) (Nat.le_of_ble_eq_true rfl) rfl rfl hB
    · replace h := ite_f hc1 h
      refine go_iconst C dX7_priceBeginningWith_8 ?_
      refine go_istore (ls2 := [some (rf G 46), some (.int (iI v1)), some (.int (iI v2)), some (.int (iI v3)), some (.int (iI 0)), none]) C dX7_priceBeginningWith_9 (Nat.le_of_ble_eq_true rfl) rfl ?_
      exact w_X7_priceBeginningWith_11 C E ih F v1 v2 v3 0 M hB h
set_option maxHeartbeats 4000000 in
theorem ok_X7_priceBeginningWith {G : gC} {l : Launch} (hl : l.stackTraces = false) {F : Nat} {v1 : Int} {v2 : Int} {M : Mem} (hB : Bd M) {res : Mem} (h : f_X7_priceBeginningWith F v1 v2 M = some res) : Ok G l 2 0 0 yX7_priceBeginningWith (.code yX7_priceBeginningWith cX7_priceBeginningWith 6 none) [rf G 46, .int (iI v1), .int (iI v2)] M (.inr none) res := by
  refine ok_of (ls := [some (rf G 46), some (.int (iI v1)), some (.int (iI v2)), none, none, none]) hl (by decide +kernel) (Nat.le_of_ble_eq_true rfl) ⟨rfl, ⟨rfl, ⟨rfl, trivial⟩⟩⟩ ?_
  intro X hX C E
  subst hX
  rw [f_X7_priceBeginningWith] at h
  refine go_iload_n C dX7_priceBeginningWith_0 rfl rfl ?_
  refine go_iconst C dX7_priceBeginningWith_1 ?_
  refine go_isub C dX7_priceBeginningWith_2 ?_
  refine go_istore_n (ls2 := [some (rf G 46), some (.int (iI v1)), some (.int (iI v2)), some (.int (iI (v2 - 1))), none, none]) C dX7_priceBeginningWith_3 rfl (Nat.le_of_ble_eq_true rfl) rfl ?_
  exact w_X7_priceBeginningWith_4 C E F v1 v2 (v2 - 1) M hB h
-- IntervalRouter$TableMaker.follow(ILIntervalRouter$Ring;)V
set_option maxHeartbeats 4000000 in
theorem w_X7_follow_45 {G : gC} {X : gX} {res : Mem} {F : Nat} {t : Nat} (ht : shT[t]? = some (.inl 4)) (C : Cx G X cX7_follow 8 RX7 1 0 0 none []) (E : Fnl G X 0 0 (.inr none) res) {k22 : Int → Int → Mem → Option (Mem)} (hk22 : ∀ (v3 : Int) (v4 : Int) (M : Mem), Bd M → k22 v3 v4 M = some res → Go G X 8 0 0 22 [some (rf G 46), none, some (rf G t), some (.int (iI v3)), some (.int (iI v4)), none, none, none] [] M) : ∀ (fu : Nat) (v3 : Int) (v4 : Int) (v5 : Int) (v6 : Int) (M : Mem), Bd M → f_X7_follow_45 F t k22 fu v3 v4 v5 v6 M = some res → Go G X 8 0 0 45 [some (rf G 46), none, some (rf G t), some (.int (iI v3)), some (.int (iI v4)), some (.int (iI v5)), some (.int (iI v6)), none] [] M := by
  intro fu
  induction fu with
  | zero => intro v3 v4 v5 v6 M hB h; exact nomatch (show (none : Option (Mem)) = some res from h)
  | succ fu ih =>
    intro v3 v4 v5 v6 M hB h
    rw [f_X7_follow_45] at h
    obtain ⟨⟨hp_v3, hp_v6⟩, h⟩ := chk_some h
    refine go_iload C dX7_follow_45 rfl ?_
    refine go_aload_n C dX7_follow_47 rfl rfl ?_
    refine go_getR (o := 2) (k2 := 48) C dX7_follow_48 fl_X7_15 sh_46 rfl rfl ?_
    refine go_iload C dX7_follow_51 rfl ?_
    obtain ⟨hc5, h⟩ := chk_some h
    refine go_iald C dX7_follow_53 sh_48 (by decide) hc5 ?_
    refine go_icmp_ge (tgt := 122) C dX7_follow_54 rfl hp_v6 (hB 48 v4 (by decide)) (fun hc6 => ?_) (fun hc6 => ?_)
    · replace h := ite_t hc6 h
      refine go_iinc (ls2 := [some (rf G 46), none, some (rf G t), some (.int (iI v3)), some (.int (iI (v4 + 1))), some (.int (iI v5)), some (.int (iI v6)), none]) C dX7_follow_122 rfl (Nat.le_of_ble_eq_true rfl) rfl ?_
      refine go_goto (tgt := 22) C dX7_follow_125 rfl ?_
      refine go_weak (ls' := [some (rf G 46), none, some (rf G t), some (.int (iI v3)), some (.int (iI (v4 + 1))), none, none, none]) ⟨rfl, ⟨rfl, ⟨rfl, ⟨rfl, trivial⟩⟩⟩⟩ ?_
      exact hk22 v3 (v4 + 1) M hB h
    · replace h := ite_f hc6 h
      refine go_iload C dX7_follow_57 rfl ?_
      refine go_bipush C dX7_follow_59 (by decide +kernel) ?_
      refine go_imul C dX7_follow_61 ?_
      refine go_iload C dX7_follow_62 rfl ?_
      refine go_iadd C dX7_follow_64 ?_
      refine go_istore (ls2 := [some (rf G 46), none, some (rf G t), some (.int (iI v3)), some (.int (iI v4)), some (.int (iI v5)), some (.int (iI v6)), some (.int (iI ((v4 * 8) + v6)))]) C dX7_follow_65 (Nat.le_of_ble_eq_true rfl) rfl ?_
      refine go_iload C dX7_follow_67 rfl ?_
      refine go_aload_n C dX7_follow_69 rfl rfl ?_
      refine go_getR (o := 3) (k2 := 49) C dX7_follow_70 fl_X7_18 sh_46 rfl rfl ?_
      refine go_iload C dX7_follow_73 rfl ?_
      obtain ⟨hc7, h⟩ := chk_some h
      refine go_iald C dX7_follow_75 sh_49 (by decide) hc7 ?_
      obtain ⟨q8, h8, h⟩ := ob_some h
      refine go_callS_i C dX7_follow_76 (ok_X7_step C.hl hB h8) ms_X7_51 rfl rfl (Nat.le_of_ble_eq_true rfl) ⟨(Nat.le_of_ble_eq_true rfl), (Nat.le_of_ble_eq_true rfl)⟩ ⟨(Nat.le_of_ble_eq_true rfl), (Nat.le_of_ble_eq_true rfl)⟩ (fun hB8 => ?_)
      refine go_aload_n C dX7_follow_79 rfl rfl ?_
      refine go_getR (o := 4) (k2 := 50) C dX7_follow_80 fl_X7_21 sh_46 rfl rfl ?_
      refine go_iload C dX7_follow_83 rfl ?_
      refine go_iald C dX7_follow_85 sh_50 (by decide) hc7 ?_
      refine go_iadd C dX7_follow_86 ?_
      refine go_iload_n C dX7_follow_87 rfl rfl ?_
      obtain ⟨hc9, h⟩ := chk_some h
      refine go_icmp_ne (tgt := 116) C dX7_follow_88 rfl hc9 hp_v3 (fun hc10 => ?_) (fun hc10 => ?_)
      · replace h := ite_f hc10 h
        refine go_iinc (ls2 := [some (rf G 46), none, some (rf G t), some (.int (iI v3)), some (.int (iI v4)), some (.int (iI v5)), some (.int (iI (v6 + 1))), some (.int (iI ((v4 * 8) + v6)))]) C dX7_follow_116 rfl (Nat.le_of_ble_eq_true rfl) rfl ?_
        refine go_goto (tgt := 45) C dX7_follow_119 rfl ?_
        refine go_weak (ls' := [some (rf G 46), none, some (rf G t), some (.int (iI v3)), some (.int (iI v4)), some (.int (iI v5)), some (.int (iI (v6 + 1))), none]) ⟨rfl, ⟨rfl, ⟨rfl, ⟨rfl, ⟨rfl, ⟨rfl, trivial⟩⟩⟩⟩⟩⟩ ?_
        exact ih v3 v4 v5 (v6 + 1) M hB8 h
      · replace h := ite_t hc10 h
        refine go_aload_n C dX7_follow_91 rfl rfl ?_
        refine go_getR (o := 1) (k2 := (t + 1)) C dX7_follow_92 fl_X7_62 ht rfl rfl ?_
        refine go_iload C dX7_follow_95 rfl ?_
        refine go_aload_n C dX7_follow_97 rfl rfl ?_
        refine go_getR (o := 3) (k2 := 49) C dX7_follow_98 fl_X7_18 sh_46 rfl rfl ?_
        refine go_iload C dX7_follow_101 rfl ?_
        refine go_iald C dX7_follow_103 sh_49 (by decide) hc7 ?_
        refine go_iast C dX7_follow_104 (so_4_1 ht) (by decide) hc5 ?_
        have hB11 := hB8.set (t + 1) v4 (x := M 49 ((v4 * 8) + v6)) (hB8 49 ((v4 * 8) + v6) (by decide))
        refine go_aload_n C dX7_follow_105 rfl rfl ?_
        refine go_getR (o := 4) (k2 := 50) C dX7_follow_106 fl_X7_21 sh_46 rfl rfl ?_
        refine go_iload C dX7_follow_109 rfl ?_
        refine go_iald C dX7_follow_111 sh_50 (by decide) hc7 ?_
        refine go_istore_n (ls2 := [some (rf G 46), none, some (rf G t), some (.int (iI ((mset M (t + 1) v4 (M 49 ((v4 * 8) + v6))) 50 ((v4 * 8) + v6)))), some (.int (iI v4)), some (.int (iI v5)), some (.int (iI v6)), some (.int (iI ((v4 * 8) + v6)))]) C dX7_follow_112 rfl (Nat.le_of_ble_eq_true rfl) rfl ?_
        refine go_goto (tgt := 122) C dX7_follow_113 rfl ?_
        refine go_iinc (ls2 := [some (rf G 46), none, some (rf G t), some (.int (iI ((mset M (t + 1) v4 (M 49 ((v4 * 8) + v6))) 50 ((v4 * 8) + v6)))), some (.int (iI (v4 + 1))), some (.int (iI v5)), some (.int (iI v6)), some (.int (iI ((v4 * 8) + v6)))]) C dX7_follow_122 rfl (Nat.le_of_ble_eq_true rfl) rfl ?_
        refine go_goto (tgt := 22) C dX7_follow_125 rfl ?_
        refine go_weak (ls' := [some (rf G 46), none, some (rf G t), some (.int (iI ((mset M (t + 1) v4 (M 49 ((v4 * 8) + v6))) 50 ((v4 * 8) + v6)))), some (.int (iI (v4 + 1))), none, none, none]) ⟨rfl, ⟨rfl, ⟨rfl, ⟨rfl, trivial⟩⟩⟩⟩ ?_
        exact hk22 ((mset M (t + 1) v4 (M 49 ((v4 * 8) + v6))) 50 ((v4 * 8) + v6)) (v4 + 1) (mset M (t + 1) v4 (M 49 ((v4 * 8) + v6))) hB11 h
set_option maxHeartbeats 4000000 in
theorem w_X7_follow_22 {G : gC} {X : gX} {res : Mem} {F : Nat} {t : Nat} (ht : shT[t]? = some (.inl 4)) (C : Cx G X cX7_follow 8 RX7 1 0 0 none []) (E : Fnl G X 0 0 (.inr none) res) : ∀ (fu : Nat) (v3 : Int) (v4 : Int) (M : Mem), Bd M → f_X7_follow_22 F t fu v3 v4 M = some res → Go G X 8 0 0 22 [some (rf G 46), none, some (rf G t), some (.int (iI v3)), some (.int (iI v4)), none, none, none] [] M := by
  intro fu
  induction fu with
  | zero => intro v3 v4 M hB h; exact nomatch (show (none : Option (Mem)) = some res from h)
  | succ fu ih =>
    intro v3 v4 M hB h
    rw [f_X7_follow_22] at h
    obtain ⟨hp_v4, h⟩ := chk_some h
    refine go_iload C dX7_follow_22 rfl ?_
    refine go_aload_n C dX7_follow_24 rfl rfl ?_
    refine go_getI (z := 0) C dX7_follow_25 fl_X7_28 ht rfl rfl ?_
    refine go_icmp_ge (tgt := 128) C dX7_follow_28 rfl hp_v4 (hB t 0 (Nat.lt_of_lt_of_le (sh_lt ht) (by decide))) (fun hc3 => ?_) (fun hc3 => ?_)
    · replace h := ite_t hc3 h
      cases h
      exact go_vret C E rfl dX7_follow_128 (Nat.le_of_ble_eq_true rfl) (Nat.le_of_ble_eq_true rfl) rfl rfl hB
    · replace h := ite_f hc3 h
      refine go_aload_n C dX7_follow_31 rfl rfl ?_
      refine go_getR (o := 1) (k2 := (t + 1)) C dX7_follow_32 fl_X7_62 ht rfl rfl ?_
      refine go_iload C dX7_follow_35 rfl ?_
      refine go_iconst C dX7_follow_37 ?_
      refine go_isub C dX7_follow_38 ?_
      obtain ⟨hc4, h⟩ := chk_some h
      refine go_iald C dX7_follow_39 (so_4_1 ht) (by decide) hc4 ?_
      refine go_istore (ls2 := [some (rf G 46), none, some (rf G t), some (.int (iI v3)), some (.int (iI v4)), some (.int (iI (M (t + 1) (v4 - 1)))), none, none]) C dX7_follow_40 (Nat.le_of_ble_eq_true rfl) rfl ?_
      refine go_iconst C dX7_follow_42 ?_
      refine go_istore (ls2 := [some (rf G 46), none, some (rf G t), some (.int (iI v3)), some (.int (iI v4)), some (.int (iI (M (t + 1) (v4 - 1)))), some (.int (iI 0)), none]) C dX7_follow_43 (Nat.le_of_ble_eq_true rfl) rfl ?_
      exact w_X7_follow_45 ht C E ih F v3 v4 (M (t + 1) (v4 - 1)) 0 M hB h
set_option maxHeartbeats 4000000 in
theorem ok_X7_follow {G : gC} {l : Launch} (hl : l.stackTraces = false) {F : Nat} {v1 : Int} {M : Mem} (hB : Bd M) {t : Nat} (ht : shT[t]? = some (.inl 4)) {res : Mem} (h : f_X7_follow F t v1 M = some res) : Ok G l 1 0 0 yX7_follow (.code yX7_follow cX7_follow 8 none) [rf G 46, .int (iI v1), rf G t] M (.inr none) res := by
  refine ok_of (ls := [some (rf G 46), some (.int (iI v1)), some (rf G t), none, none, none, none, none]) hl (by decide +kernel) (Nat.le_of_ble_eq_true rfl) ⟨rfl, ⟨rfl, ⟨rfl, trivial⟩⟩⟩ ?_
  intro X hX C E
  subst hX
  rw [f_X7_follow] at h
  refine go_aload_n C dX7_follow_0 rfl rfl ?_
  refine go_getR (o := 1) (k2 := (t + 1)) C dX7_follow_1 fl_X7_62 ht rfl rfl ?_
  refine go_iconst C dX7_follow_4 ?_
  refine go_aload_n C dX7_follow_5 rfl rfl ?_
  refine go_getR (o := 3) (k2 := 49) C dX7_follow_6 fl_X7_18 sh_46 rfl rfl ?_
  refine go_iload_n C dX7_follow_9 rfl rfl ?_
  obtain ⟨hc1, h⟩ := chk_some h
  refine go_iald C dX7_follow_10 sh_49 (by decide) hc1 ?_
  refine go_iast C dX7_follow_11 (so_4_1 ht) (by decide) ⟨by decide, by decide⟩ ?_
  have hB2 := hB.set (t + 1) 0 (x := M 49 v1) (hB 49 v1 (by decide))
  refine go_aload_n C dX7_follow_12 rfl rfl ?_
  refine go_getR (o := 4) (k2 := 50) C dX7_follow_13 fl_X7_21 sh_46 rfl rfl ?_
  refine go_iload_n C dX7_follow_16 rfl rfl ?_
  refine go_iald C dX7_follow_17 sh_50 (by decide) hc1 ?_
  refine go_istore_n (ls2 := [some (rf G 46), some (.int (iI v1)), some (rf G t), some (.int (iI ((mset M (t + 1) 0 (M 49 v1)) 50 v1))), none, none, none, none]) C dX7_follow_18 rfl (Nat.le_of_ble_eq_true rfl) rfl ?_
  refine go_iconst C dX7_follow_19 ?_
  refine go_istore (ls2 := [some (rf G 46), some (.int (iI v1)), some (rf G t), some (.int (iI ((mset M (t + 1) 0 (M 49 v1)) 50 v1))), some (.int (iI 1)), none, none, none]) C dX7_follow_20 (Nat.le_of_ble_eq_true rfl) rfl ?_
  refine go_weak (ls' := [some (rf G 46), none, some (rf G t), some (.int (iI ((mset M (t + 1) 0 (M 49 v1)) 50 v1))), some (.int (iI 1)), none, none, none]) ⟨rfl, ⟨rfl, ⟨rfl, ⟨rfl, trivial⟩⟩⟩⟩ ?_
  exact w_X7_follow_22 ht C E F ((mset M (t + 1) 0 (M 49 v1)) 50 v1) 1 (mset M (t + 1) 0 (M 49 v1)) hB2 h
-- IntervalRouter$TableMaker.fill(LIntervalRouter$Ways;IILIntervalRouter$Ring;)V
set_option maxHeartbeats 4000000 in
theorem w_X7_fill_83 {G : gC} {X : gX} {res : Mem} {F : Nat} {t : Nat} (ht : shT[t]? = some (.inl 4)) (C : Cx G X cX7_fill 7 RX7 3 0 0 none []) (E : Fnl G X 0 0 (.inr none) res) : ∀ (fu : Nat) (v5 : Int) (v6 : Int) (M : Mem), Bd M → f_X7_fill_83 F t fu v5 v6 M = some res → Go G X 7 0 0 83 [some (rf G 46), none, none, none, some (rf G t), some (.int (iI v5)), some (.int (iI v6))] [] M := by
  intro fu
  induction fu with
  | zero => intro v5 v6 M hB h; exact nomatch (show (none : Option (Mem)) = some res from h)
  | succ fu ih =>
    intro v5 v6 M hB h
    rw [f_X7_fill_83] at h
    obtain ⟨⟨hp_v5, hp_v6⟩, h⟩ := chk_some h
    refine go_iload C dX7_fill_83 rfl ?_
    refine go_aload_n C dX7_fill_85 rfl rfl ?_
    refine go_getR (o := 2) (k2 := 48) C dX7_fill_86 fl_X7_15 sh_46 rfl rfl ?_
    refine go_iconst C dX7_fill_89 ?_
    refine go_iald C dX7_fill_90 sh_48 (by decide) ⟨by decide, by decide⟩ ?_
    refine go_icmp_ge (tgt := 145) C dX7_fill_91 rfl hp_v6 (hB 48 0 (by decide)) (fun hc5 => ?_) (fun hc5 => ?_)
    · replace h := ite_t hc5 h
      cases h
      exact go_vret C E rfl dX7_fill_145 (Nat.le_of_ble_eq_true rfl) (Nat.le_of_ble_eq_true rfl) rfl rfl hB
    · replace h := ite_f hc5 h
      refine go_aload_n C dX7_fill_94 rfl rfl ?_
      refine go_aload_n C dX7_fill_95 rfl rfl ?_
      refine go_getR (o := 3) (k2 := 49) C dX7_fill_96 fl_X7_18 sh_46 rfl rfl ?_
      refine go_iload C dX7_fill_99 rfl ?_
      obtain ⟨hc6, h⟩ := chk_some h
      refine go_iald C dX7_fill_101 sh_49 (by decide) hc6 ?_
      refine go_aload C dX7_fill_102 rfl ?_
      refine go_getI (z := 0) C dX7_fill_104 fl_X7_28 ht rfl rfl ?_
      obtain ⟨q7, h7, h⟩ := ob_some h
      refine go_callV_v C dX7_fill_107 (ok_X7_priceBeginningWith C.hl hB h7) mv_X7_43 sh_46 rfl rfl (Nat.le_of_ble_eq_true rfl) ⟨(Nat.le_of_ble_eq_true rfl), (Nat.le_of_ble_eq_true rfl)⟩ ⟨(Nat.le_of_ble_eq_true rfl), (Nat.le_of_ble_eq_true rfl)⟩ (fun hB7 => ?_)
      refine go_aload_n C dX7_fill_110 rfl rfl ?_
      refine go_getR (o := 4) (k2 := 50) C dX7_fill_111 fl_X7_21 sh_46 rfl rfl ?_
      refine go_iload C dX7_fill_114 rfl ?_
      refine go_iald C dX7_fill_116 sh_50 (by decide) hc6 ?_
      refine go_iload C dX7_fill_117 rfl ?_
      refine go_icmp_ge (tgt := 139) C dX7_fill_119 rfl (hB7 50 v6 (by decide)) hp_v5 (fun hc8 => ?_) (fun hc8 => ?_)
      · replace h := ite_t hc8 h
        refine go_iinc (ls2 := [some (rf G 46), none, none, none, some (rf G t), some (.int (iI v5)), some (.int (iI (v6 + 1)))]) C dX7_fill_139 rfl (Nat.le_of_ble_eq_true rfl) rfl ?_
        refine go_goto (tgt := 83) C dX7_fill_142 rfl ?_
        exact ih v5 (v6 + 1) q7 hB7 h
      · replace h := ite_f hc8 h
        refine go_aload_n C dX7_fill_122 rfl rfl ?_
        refine go_getR (o := 4) (k2 := 50) C dX7_fill_123 fl_X7_21 sh_46 rfl rfl ?_
        refine go_iload C dX7_fill_126 rfl ?_
        refine go_iald C dX7_fill_128 sh_50 (by decide) hc6 ?_
        refine go_istore (ls2 := [some (rf G 46), none, none, none, some (rf G t), some (.int (iI (q7 50 v6))), some (.int (iI v6))]) C dX7_fill_129 (Nat.le_of_ble_eq_true rfl) rfl ?_
        refine go_aload_n C dX7_fill_131 rfl rfl ?_
        refine go_iload C dX7_fill_132 rfl ?_
        refine go_aload C dX7_fill_134 rfl ?_
        obtain ⟨q9, h9, h⟩ := ob_some h
        refine go_callV_v C dX7_fill_136 (ok_X7_follow C.hl hB7 ht h9) mv_X7_47 sh_46 rfl rfl (Nat.le_of_ble_eq_true rfl) ⟨(Nat.le_of_ble_eq_true rfl), (Nat.le_of_ble_eq_true rfl)⟩ ⟨(Nat.le_of_ble_eq_true rfl), (Nat.le_of_ble_eq_true rfl)⟩ (fun hB9 => ?_)
        refine go_iinc (ls2 := [some (rf G 46), none, none, none, some (rf G t), some (.int (iI (q7 50 v6))), some (.int (iI (v6 + 1)))]) C dX7_fill_139 rfl (Nat.le_of_ble_eq_true rfl) rfl ?_
        refine go_goto (tgt := 83) C dX7_fill_142 rfl ?_
        exact ih (q7 50 v6) (v6 + 1) q9 hB9 h
