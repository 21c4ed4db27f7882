set_option maxHeartbeats 4000000 in
theorem w_X7_fill_23 {G : gC} {X : gX} {res : Mem} {F : Nat} {t : Nat} (ht : shT[t]? = some (.inl 4)) (C : Cx G X cX7_fill 7 RX7 3 0 0 none []) (E : Fnl G X 0 0 (.inr none) res) : ∀ (fu : Nat) (v2 : Int) (v3 : Int) (v5 : Int) (M : Mem), Bd M → f_X7_fill_23 F t fu v2 v3 v5 M = some res → Go G X 7 0 0 23 [some (rf G 46), some (rf G 39), some (.int (iI v2)), some (.int (iI v3)), some (rf G t), some (.int (iI v5)), none] [] M := by
  intro fu
  induction fu with
  | zero => intro v2 v3 v5 M hB h; exact nomatch (show (none : Option (Mem)) = some res from h)
  | succ fu ih =>
    intro v2 v3 v5 M hB h
    rw [f_X7_fill_23] at h
    obtain ⟨hp_v5, h⟩ := chk_some h
    refine go_iload C dX7_fill_23 rfl ?_
    refine go_aload C dX7_fill_25 rfl ?_
    refine go_getI (z := 0) C dX7_fill_27 fl_X7_28 ht rfl rfl ?_
    refine go_icmp_ge (tgt := 75) C dX7_fill_30 rfl hp_v5 (hB t 0 (Nat.lt_of_lt_of_le (sh_lt ht) (by decide))) (fun hc4 => ?_) (fun hc4 => ?_)
    · replace h := ite_t hc4 h
      refine go_sipush C dX7_fill_75 (by decide +kernel) ?_
      refine go_istore (ls2 := [some (rf G 46), some (rf G 39), some (.int (iI v2)), some (.int (iI v3)), some (rf G t), some (.int (iI 1000)), none]) C dX7_fill_78 (Nat.le_of_ble_eq_true rfl) rfl ?_
      refine go_iconst C dX7_fill_80 ?_
      refine go_istore (ls2 := [some (rf G 46), some (rf G 39), some (.int (iI v2)), some (.int (iI v3)), some (rf G t), some (.int (iI 1000)), some (.int (iI 0))]) C dX7_fill_81 (Nat.le_of_ble_eq_true rfl) rfl ?_
      refine go_weak (ls' := [some (rf G 46), none, none, none, some (rf G t), some (.int (iI 1000)), some (.int (iI 0))]) ⟨rfl, ⟨rfl, ⟨rfl, ⟨rfl, trivial⟩⟩⟩⟩ ?_
      exact w_X7_fill_83 ht C E F 1000 0 M hB h
    · replace h := ite_f hc4 h
      refine go_aload_n C dX7_fill_33 rfl rfl ?_
      refine go_getR (o := 1) (k2 := 47) C dX7_fill_34 fl_X7_9 sh_46 rfl rfl ?_
      refine go_iload C dX7_fill_37 rfl ?_
      refine go_iload_n C dX7_fill_39 rfl rfl ?_
      obtain ⟨q10, h10, h⟩ := ob_some h
      refine go_callS_i C dX7_fill_40 (ok_X4_labelAt C.hl hB h10) ms_X7_33 rfl rfl (Nat.le_of_ble_eq_true rfl) ⟨(Nat.le_of_ble_eq_true rfl), (Nat.le_of_ble_eq_true rfl)⟩ ⟨(Nat.le_of_ble_eq_true rfl), (Nat.le_of_ble_eq_true rfl)⟩ (fun hB10 => ?_)
      obtain ⟨hc11, h⟩ := chk_some h
      refine go_iald C dX7_fill_43 sh_47 (by decide) hc11 ?_
      refine go_istore (ls2 := [some (rf G 46), some (rf G 39), some (.int (iI v2)), some (.int (iI v3)), some (rf G t), some (.int (iI v5)), some (.int (iI (M 47 q10)))]) C dX7_fill_44 (Nat.le_of_ble_eq_true rfl) rfl ?_
      refine go_aload_n C dX7_fill_46 rfl rfl ?_
      refine go_getR (o := 2) (k2 := 48) C dX7_fill_47 fl_X7_15 sh_46 rfl rfl ?_
      refine go_iload C dX7_fill_50 rfl ?_
      refine go_aload_n C dX7_fill_52 rfl rfl ?_
      refine go_iload_n C dX7_fill_53 rfl rfl ?_
      refine go_iload C dX7_fill_54 rfl ?_
      refine go_aload_n C dX7_fill_56 rfl rfl ?_
      refine go_getR (o := 3) (k2 := 49) C dX7_fill_57 fl_X7_18 sh_46 rfl rfl ?_
      refine go_iload C dX7_fill_60 rfl ?_
      refine go_bipush C dX7_fill_62 (by decide +kernel) ?_
      refine go_imul C dX7_fill_64 ?_
      obtain ⟨q12, h12, h⟩ := ob_some h
      refine go_callV_i C dX7_fill_65 (ok_X8_copyChoices C.hl hB10 h12) mv_X7_37 sh_39 rfl rfl (Nat.le_of_ble_eq_true rfl) ⟨(Nat.le_of_ble_eq_true rfl), (Nat.le_of_ble_eq_true rfl)⟩ ⟨(Nat.le_of_ble_eq_true rfl), (Nat.le_of_ble_eq_true rfl)⟩ (fun hB12 => ?_)
      obtain ⟨hc13, h⟩ := chk_some h
      obtain ⟨hc14, h⟩ := chk_some h
      refine go_iast C dX7_fill_68 sh_48 (by decide) hc13 ?_
      have hB15 := hB12.set 48 v5 (x := q12.1) hc14
      refine go_iinc (ls2 := [some (rf G 46), some (rf G 39), some (.int (iI v2)), some (.int (iI v3)), some (rf G t), some (.int (iI (v5 + 1))), some (.int (iI (M 47 q10)))]) C dX7_fill_69 rfl (Nat.le_of_ble_eq_true rfl) rfl ?_
      refine go_goto (tgt := 23) C dX7_fill_72 rfl ?_
      refine go_weak (ls' := [some (rf G 46), some (rf G 39), some (.int (iI v2)), some (.int (iI v3)), some (rf G t), some (.int (iI (v5 + 1))), none]) ⟨rfl, ⟨rfl, ⟨rfl, ⟨rfl, ⟨rfl, ⟨rfl, trivial⟩⟩⟩⟩⟩⟩ ?_
      exact ih v2 v3 (v5 + 1) (mset q12.2 48 v5 q12.1) hB15 h
set_option maxHeartbeats 4000000 in
theorem ok_X7_fill {G : gC} {l : Launch} (hl : l.stackTraces = false) {F : Nat} {v2 : Int} {v3 : Int} {M : Mem} (hB : Bd M) {t : Nat} (ht : shT[t]? = some (.inl 4)) {res : Mem} (h : f_X7_fill F t v2 v3 M = some res) : Ok G l 3 0 0 yX7_fill (.code yX7_fill cX7_fill 7 none) [rf G 46, rf G 39, .int (iI v2), .int (iI v3), rf G t] M (.inr none) res := by
  refine ok_of (ls := [some (rf G 46), some (rf G 39), some (.int (iI v2)), some (.int (iI v3)), some (rf G t), none, none]) hl (by decide +kernel) (Nat.le_of_ble_eq_true rfl) ⟨rfl, ⟨rfl, ⟨rfl, ⟨rfl, ⟨rfl, trivial⟩⟩⟩⟩⟩ ?_
  intro X hX C E
  subst hX
  rw [f_X7_fill] at h
  refine go_aload C dX7_fill_0 rfl ?_
  refine go_aload_n C dX7_fill_2 rfl rfl ?_
  refine go_getI (z := 0) C dX7_fill_3 fl_X7_24 sh_46 rfl rfl ?_
  refine go_iconst C dX7_fill_6 ?_
  refine go_isub C dX7_fill_7 ?_
  obtain ⟨hc1, h⟩ := chk_some h
  refine go_putI (z := 0) C dX7_fill_8 fp_X7_28 ht rfl rfl rfl rfl ?_
  have hB2 := hB.set t 0 (x := (M 46 0) - 1) hc1
  refine go_aload C dX7_fill_11 rfl ?_
  refine go_getI (z := 0) C dX7_fill_13 fl_X7_28 ht rfl rfl ?_
  refine go_if_gt (tgt := 20) C dX7_fill_16 rfl (hB2 t 0 (Nat.lt_of_lt_of_le (sh_lt ht) (by decide))) (fun hc3 => ?_) (fun hc3 => ?_)
  · replace h := ite_t hc3 h
    refine go_iconst C dX7_fill_20 ?_
    refine go_istore (ls2 := [some (rf G 46), some (rf G 39), some (.int (iI v2)), some (.int (iI v3)), some (rf G t), some (.int (iI 0)), none]) C dX7_fill_21 (Nat.le_of_ble_eq_true rfl) rfl ?_
    exact w_X7_fill_23 ht C E F v2 v3 0 (mset M t 0 ((M 46 0) - 1)) hB2 h
  · replace h := ite_f hc3 h
    cases h
    exact go_vret C E rfl dX7_fill_19 (Nat.le_of_ble_eq_true rfl) (Nat.le_of_ble_eq_true rfl) rfl rfl hB2
-- IntervalRouter$Search.evaluate(LIntervalRouter$Ways;ILIntervalRouter$TableMaker;)V
set_option maxHeartbeats 4000000 in
theorem w_X5_evaluate_22 {G : gC} {X : gX} {res : Mem} {F : Nat} (C : Cx G X cX5_evaluate 5 RX5 4 0 0 none []) (E : Fnl G X 0 0 (.inr none) res) : ∀ (fu : Nat) (v2 : Int) (v4 : Int) (M : Mem), Bd M → f_X5_evaluate_22 F fu v2 v4 M = some res → Go G X 5 0 0 22 [some (rf G 51), some (rf G 39), some (.int (iI v2)), some (rf G 46), some (.int (iI v4))] [] M := by
  intro fu
  induction fu with
  | zero => intro v2 v4 M hB h; exact nomatch (show (none : Option (Mem)) = some res from h)
  | succ fu ih =>
    intro v2 v4 M hB h
    rw [f_X5_evaluate_22] at h
    obtain ⟨⟨hp_v2, hp_v4⟩, h⟩ := chk_some h
    refine go_iload C dX5_evaluate_22 rfl ?_
    refine go_iload_n C dX5_evaluate_24 rfl rfl ?_
    refine go_icmp_ge (tgt := 86) C dX5_evaluate_25 rfl hp_v4 hp_v2 (fun hc4 => ?_) (fun hc4 => ?_)
    · replace h := ite_t hc4 h
      cases h
      exact go_vret C E rfl dX5_evaluate_86 (Nat.le_of_ble_eq_true rfl) (Nat.le_of_ble_eq_true rfl) rfl rfl hB
    · replace h := ite_f hc4 h
      refine go_aload_n C dX5_evaluate_28 rfl rfl ?_
      refine go_aload_n C dX5_evaluate_29 rfl rfl ?_
      refine go_iload C dX5_evaluate_30 rfl ?_
      refine go_aload_n C dX5_evaluate_32 rfl rfl ?_
      refine go_getR (o := 1) (k2 := 52) C dX5_evaluate_33 fl_X5_9 sh_51 rfl rfl ?_
      refine go_iload C dX5_evaluate_36 rfl ?_
      obtain ⟨hc5, h⟩ := chk_some h
      refine go_iald C dX5_evaluate_38 sh_52 (by decide) hc5 ?_
      refine go_aload_n C dX5_evaluate_39 rfl rfl ?_
      refine go_getR (o := 4) (k2 := 55) C dX5_evaluate_40 fl_X5_24 sh_51 rfl rfl ?_
      obtain ⟨q6, h6, h⟩ := ob_some h
      refine go_callV_v C dX5_evaluate_43 (ok_X7_fill C.hl hB sh_55 h6) mv_X5_79 sh_46 rfl rfl (Nat.le_of_ble_eq_true rfl) ⟨(Nat.le_of_ble_eq_true rfl), (Nat.le_of_ble_eq_true rfl)⟩ ⟨(Nat.le_of_ble_eq_true rfl), (Nat.le_of_ble_eq_true rfl)⟩ (fun hB6 => ?_)
      refine go_aload_n C dX5_evaluate_46 rfl rfl ?_
      refine go_aload_n C dX5_evaluate_47 rfl rfl ?_
      refine go_getI (z := 3) C dX5_evaluate_48 fl_X5_73 sh_51 rfl rfl ?_
      refine go_aload_n C dX5_evaluate_51 rfl rfl ?_
      refine go_getR (o := 4) (k2 := 55) C dX5_evaluate_52 fl_X5_24 sh_51 rfl rfl ?_
      obtain ⟨q7, h7, h⟩ := ob_some h
      refine go_callV_i C dX5_evaluate_55 (ok_X4_mostRuns C.hl hB6 sh_55 h7) mv_X5_82 sh_55 rfl rfl (Nat.le_of_ble_eq_true rfl) ⟨(Nat.le_of_ble_eq_true rfl), (Nat.le_of_ble_eq_true rfl)⟩ ⟨(Nat.le_of_ble_eq_true rfl), (Nat.le_of_ble_eq_true rfl)⟩ (fun hB7 => ?_)
      obtain ⟨hc8, h⟩ := chk_some h
      refine go_mmax C dX5_evaluate_58 mx_X5_86 (hB6 51 3 (by decide)) hc8 (Nat.le_of_ble_eq_true rfl) (Nat.le_of_ble_eq_true rfl) (Nat.le_of_ble_eq_true rfl) (Nat.le_of_ble_eq_true rfl) ?_
      refine go_putI (z := 3) C dX5_evaluate_61 fp_X5_73 sh_51 rfl rfl rfl rfl ?_
      have hB9 := hB7.set 51 3 (x := imax (q6 51 3) q7) (imax_R (hB6 51 3 (by decide)) hc8)
      refine go_aload_n C dX5_evaluate_64 rfl rfl ?_
      refine go_dup C dX5_evaluate_65 rfl ?_
      refine go_getI (z := 4) C dX5_evaluate_66 fl_X5_76 sh_51 rfl rfl ?_
      refine go_aload_n C dX5_evaluate_69 rfl rfl ?_
      refine go_getR (o := 4) (k2 := 55) C dX5_evaluate_70 fl_X5_24 sh_51 rfl rfl ?_
      obtain ⟨q10, h10, h⟩ := ob_some h
      refine go_callV_i C dX5_evaluate_73 (ok_X4_allRuns C.hl hB9 sh_55 h10) mv_X5_92 sh_55 rfl rfl (Nat.le_of_ble_eq_true rfl) ⟨(Nat.le_of_ble_eq_true rfl), (Nat.le_of_ble_eq_true rfl)⟩ ⟨(Nat.le_of_ble_eq_true rfl), (Nat.le_of_ble_eq_true rfl)⟩ (fun hB10 => ?_)
      refine go_iadd C dX5_evaluate_76 ?_
      obtain ⟨hc11, h⟩ := chk_some h
      refine go_putI (z := 4) C dX5_evaluate_77 fp_X5_76 sh_51 rfl rfl rfl rfl ?_
      have hB12 := hB10.set 51 4 (x := ((mset q6 51 3 (imax (q6 51 3) q7)) 51 4) + q10) hc11
      refine go_iinc (ls2 := [some (rf G 51), some (rf G 39), some (.int (iI v2)), some (rf G 46), some (.int (iI (v4 + 1)))]) C dX5_evaluate_80 rfl (Nat.le_of_ble_eq_true rfl) rfl ?_
      refine go_goto (tgt := 22) C dX5_evaluate_83 rfl ?_
      exact ih v2 (v4 + 1) (mset (mset q6 51 3 (imax (q6 51 3) q7)) 51 4 (((mset q6 51 3 (imax (q6 51 3) q7)) 51 4) + q10)) hB12 h
set_option maxHeartbeats 4000000 in
theorem ok_X5_evaluate {G : gC} {l : Launch} (hl : l.stackTraces = false) {F : Nat} {v2 : Int} {M : Mem} (hB : Bd M) {res : Mem} (h : f_X5_evaluate F v2 M = some res) : Ok G l 4 0 0 yX5_evaluate (.code yX5_evaluate cX5_evaluate 5 none) [rf G 51, rf G 39, .int (iI v2), rf G 46] M (.inr none) res := by
  refine ok_of (ls := [some (rf G 51), some (rf G 39), some (.int (iI v2)), some (rf G 46), none]) hl (by decide +kernel) (Nat.le_of_ble_eq_true rfl) ⟨rfl, ⟨rfl, ⟨rfl, ⟨rfl, trivial⟩⟩⟩⟩ ?_
  intro X hX C E
  subst hX
  rw [f_X5_evaluate] at h
  refine go_aload_n C dX5_evaluate_0 rfl rfl ?_
  refine go_aload_n C dX5_evaluate_1 rfl rfl ?_
  refine go_getR (o := 1) (k2 := 52) C dX5_evaluate_2 fl_X5_9 sh_51 rfl rfl ?_
  refine go_iload_n C dX5_evaluate_5 rfl rfl ?_
  obtain ⟨q1, h1, h⟩ := ob_some h
  refine go_callV_v C dX5_evaluate_6 (ok_X7_seat C.hl hB (ia_of sh_52) h1) mv_X5_68 sh_46 rfl rfl (Nat.le_of_ble_eq_true rfl) ⟨(Nat.le_of_ble_eq_true rfl), (Nat.le_of_ble_eq_true rfl)⟩ ⟨(Nat.le_of_ble_eq_true rfl), (Nat.le_of_ble_eq_true rfl)⟩ (fun hB1 => ?_)
  refine go_aload_n C dX5_evaluate_9 rfl rfl ?_
  refine go_iconst C dX5_evaluate_10 ?_
  refine go_putI (z := 3) C dX5_evaluate_11 fp_X5_73 sh_51 rfl rfl rfl rfl ?_
  have hB2 := hB1.set 51 3 (x := 0) (by decide)
  refine go_aload_n C dX5_evaluate_14 rfl rfl ?_
  refine go_iconst C dX5_evaluate_15 ?_
  refine go_putI (z := 4) C dX5_evaluate_16 fp_X5_76 sh_51 rfl rfl rfl rfl ?_
  have hB3 := hB2.set 51 4 (x := 0) (by decide)
  refine go_iconst C dX5_evaluate_19 ?_
  refine go_istore (ls2 := [some (rf G 51), some (rf G 39), some (.int (iI v2)), some (rf G 46), some (.int (iI 0))]) C dX5_evaluate_20 (Nat.le_of_ble_eq_true rfl) rfl ?_
  exact w_X5_evaluate_22 C E F v2 0 (mset (mset q1 51 3 0) 51 4 0) hB3 h
-- IntervalRouter$Search.note(I)V
set_option maxHeartbeats 4000000 in
theorem w_X5_note_22 {G : gC} {X : gX} {res : Mem} (C : Cx G X cX5_note 3 RX5 2 0 0 none []) (E : Fnl G X 0 0 (.inr none) res) : ∀ (v1 : Int) (M : Mem), Bd M → f_X5_note_22 v1 M = some res → Go G X 3 0 0 22 [some (rf G 51), some (.int (iI v1)), none] [] M := by
  intro v1 M hB h
  rw [f_X5_note_22] at h
  refine go_aload_n C dX5_note_22 rfl rfl ?_
  refine go_getI (z := 3) C dX5_note_23 fl_X5_73 sh_51 rfl rfl ?_
  refine go_aload_n C dX5_note_26 rfl rfl ?_
  refine go_getI (z := 0) C dX5_note_27 fl_X5_32 sh_51 rfl rfl ?_
  refine go_icmp_lt (tgt := 55) C dX5_note_30 rfl (hB 51 3 (by decide)) (hB 51 0 (by decide)) (fun hc2 => ?_) (fun hc2 => ?_)
  · replace h := ite_t hc2 h
    refine go_iconst C dX5_note_55 ?_
    refine go_goto (tgt := 60) C dX5_note_56 rfl ?_
    refine go_istore_n (ls2 := [some (rf G 51), some (.int (iI v1)), some (.int (iI 1))]) C dX5_note_60 rfl (Nat.le_of_ble_eq_true rfl) rfl ?_
    refine go_iload_n C dX5_note_61 rfl rfl ?_
    refine go_if_eq (tgt := 95) C dX5_note_62 rfl (by decide) (fun hc3 => ?_) (fun hc3 => ?_)
    · exact absurd hc3 (by decide)
    · refine go_aload_n C dX5_note_65 rfl rfl ?_
      refine go_aload_n C dX5_note_66 rfl rfl ?_
      refine go_getI (z := 3) C dX5_note_67 fl_X5_73 sh_51 rfl rfl ?_
      refine go_putI (z := 0) C dX5_note_70 fp_X5_32 sh_51 rfl rfl rfl rfl ?_
      have hB4 := hB.set 51 0 (x := M 51 3) (hB 51 3 (by decide))
      refine go_aload_n C dX5_note_73 rfl rfl ?_
      refine go_aload_n C dX5_note_74 rfl rfl ?_
      refine go_getI (z := 4) C dX5_note_75 fl_X5_76 sh_51 rfl rfl ?_
      refine go_putI (z := 1) C dX5_note_78 fp_X5_95 sh_51 rfl rfl rfl rfl ?_
      have hB5 := hB4.set 51 1 (x := (mset M 51 0 (M 51 3)) 51 4) (hB4 51 4 (by decide))
      refine go_aload_n C dX5_note_81 rfl rfl ?_
      refine go_getR (o := 1) (k2 := 52) C dX5_note_82 fl_X5_9 sh_51 rfl rfl ?_
      refine go_iconst C dX5_note_85 ?_
      refine go_aload_n C dX5_note_86 rfl rfl ?_
      refine go_getR (o := 2) (k2 := 53) C dX5_note_87 fl_X5_15 sh_51 rfl rfl ?_
      refine go_iconst C dX5_note_90 ?_
      refine go_iload_n C dX5_note_91 rfl rfl ?_
      obtain ⟨hc6, h⟩ := chk_some h
      refine go_cpy C dX5_note_92 ⟨gt_852, gt_388, gt_387, gt_88⟩ sh_52 sh_53 (by decide) (by decide) hc6 (Nat.le_of_ble_eq_true rfl) (Nat.le_of_ble_eq_true rfl) ?_
      have hB7 := hB5.cpy 52 (by decide) 0 53 0 v1
      cases h
      exact go_vret C E rfl dX5_note_95 (Nat.le_of_ble_eq_true rfl) (Nat.le_of_ble_eq_true rfl) rfl rfl hB7
  · replace h := ite_f hc2 h
    refine go_aload_n C dX5_note_33 rfl rfl ?_
    refine go_getI (z := 3) C dX5_note_34 fl_X5_73 sh_51 rfl rfl ?_
    refine go_aload_n C dX5_note_37 rfl rfl ?_
    refine go_getI (z := 0) C dX5_note_38 fl_X5_32 sh_51 rfl rfl ?_
    refine go_icmp_ne (tgt := 59) C dX5_note_41 rfl (hB 51 3 (by decide)) (hB 51 0 (by decide)) (fun hc8 => ?_) (fun hc8 => ?_)
    · replace h := ite_f hc8 h
      refine go_iconst C dX5_note_59 ?_
      refine go_istore_n (ls2 := [some (rf G 51), some (.int (iI v1)), some (.int (iI 0))]) C dX5_note_60 rfl (Nat.le_of_ble_eq_true rfl) rfl ?_
      refine go_iload_n C dX5_note_61 rfl rfl ?_
      refine go_if_eq (tgt := 95) C dX5_note_62 rfl (by decide) (fun hc9 => ?_) (fun hc9 => ?_)
      · cases h
        exact go_vret C E rfl dX5_note_95 (Nat.le_of_ble_eq_true rfl) (Nat.le_of_ble_eq_true rfl) rfl rfl hB
      · exact absurd hc9 (by decide)
    · replace h := ite_t hc8 h
      refine go_aload_n C dX5_note_44 rfl rfl ?_
      refine go_getI (z := 4) C dX5_note_45 fl_X5_76 sh_51 rfl rfl ?_
      refine go_aload_n C dX5_note_48 rfl rfl ?_
      refine go_getI (z := 1) C dX5_note_49 fl_X5_95 sh_51 rfl rfl ?_
      refine go_icmp_ge (tgt := 59) C dX5_note_52 rfl (hB 51 4 (by decide)) (hB 51 1 (by decide)) (fun hc10 => ?_) (fun hc10 => ?_)
      · replace h := ite_t hc10 h
        refine go_iconst C dX5_note_59 ?_
        refine go_istore_n (ls2 := [some (rf G 51), some (.int (iI v1)), some (.int (iI 0))]) C dX5_note_60 rfl (Nat.le_of_ble_eq_true rfl) rfl ?_
        refine go_iload_n C dX5_note_61 rfl rfl ?_
        refine go_if_eq (tgt := 95) C dX5_note_62 rfl (by decide) (fun hc11 => ?_) (fun hc11 => ?_)
        · cases h
          exact go_vret C E rfl dX5_note_95 (Nat.le_of_ble_eq_true rfl) (Nat.le_of_ble_eq_true rfl) rfl rfl hB
        · exact absurd hc11 (by decide)
      · replace h := ite_f hc10 h
        refine go_iconst C dX5_note_55 ?_
        refine go_goto (tgt := 60) C dX5_note_56 rfl ?_
        refine go_istore_n (ls2 := [some (rf G 51), some (.int (iI v1)), some (.int (iI 1))]) C dX5_note_60 rfl (Nat.le_of_ble_eq_true rfl) rfl ?_
        refine go_iload_n C dX5_note_61 rfl rfl ?_
        refine go_if_eq (tgt := 95) C dX5_note_62 rfl (by decide) (fun hc12 => ?_) (fun hc12 => ?_)
        · exact absurd hc12 (by decide)
        · refine go_aload_n C dX5_note_65 rfl rfl ?_
          refine go_aload_n C dX5_note_66 rfl rfl ?_
          refine go_getI (z := 3) C dX5_note_67 fl_X5_73 sh_51 rfl rfl ?_
          refine go_putI (z := 0) C dX5_note_70 fp_X5_32 sh_51 rfl rfl rfl rfl ?_
          have hB13 := hB.set 51 0 (x := M 51 3) (hB 51 3 (by decide))
          refine go_aload_n C dX5_note_73 rfl rfl ?_
          refine go_aload_n C dX5_note_74 rfl rfl ?_
          refine go_getI (z := 4) C dX5_note_75 fl_X5_76 sh_51 rfl rfl ?_
          refine go_putI (z := 1) C dX5_note_78 fp_X5_95 sh_51 rfl rfl rfl rfl ?_
          have hB14 := hB13.set 51 1 (x := (mset M 51 0 (M 51 3)) 51 4) (hB13 51 4 (by decide))
          refine go_aload_n C dX5_note_81 rfl rfl ?_
          refine go_getR (o := 1) (k2 := 52) C dX5_note_82 fl_X5_9 sh_51 rfl rfl ?_
          refine go_iconst C dX5_note_85 ?_
          refine go_aload_n C dX5_note_86 rfl rfl ?_
          refine go_getR (o := 2) (k2 := 53) C dX5_note_87 fl_X5_15 sh_51 rfl rfl ?_
          refine go_iconst C dX5_note_90 ?_
          refine go_iload_n C dX5_note_91 rfl rfl ?_
          obtain ⟨hc15, h⟩ := chk_some h
          refine go_cpy C dX5_note_92 ⟨gt_852, gt_388, gt_387, gt_88⟩ sh_52 sh_53 (by decide) (by decide) hc15 (Nat.le_of_ble_eq_true rfl) (Nat.le_of_ble_eq_true rfl) ?_
          have hB16 := hB14.cpy 52 (by decide) 0 53 0 v1
          cases h
          exact go_vret C E rfl dX5_note_95 (Nat.le_of_ble_eq_true rfl) (Nat.le_of_ble_eq_true rfl) rfl rfl hB16
set_option maxHeartbeats 4000000 in
theorem ok_X5_note {G : gC} {l : Launch} (hl : l.stackTraces = false) {v1 : Int} {M : Mem} (hB : Bd M) {res : Mem} (h : f_X5_note v1 M = some res) : Ok G l 2 0 0 yX5_note (.code yX5_note cX5_note 3 none) [rf G 51, .int (iI v1)] M (.inr none) res := by
  refine ok_of (ls := [some (rf G 51), some (.int (iI v1)), none]) hl (by decide +kernel) (Nat.le_of_ble_eq_true rfl) ⟨rfl, ⟨rfl, trivial⟩⟩ ?_
  intro X hX C E
  subst hX
  rw [f_X5_note] at h
  refine go_aload_n C dX5_note_0 rfl rfl ?_
  refine go_getI (z := 3) C dX5_note_1 fl_X5_73 sh_51 rfl rfl ?_
  refine go_bipush C dX5_note_4 (by decide +kernel) ?_
  refine go_icmp_gt (tgt := 22) C dX5_note_6 rfl (hB 51 3 (by decide)) (by decide) (fun hc1 => ?_) (fun hc1 => ?_)
  · replace h := ite_t hc1 h
    exact w_X5_note_22 C E v1 M hB h
  · replace h := ite_f hc1 h
    refine go_aload_n C dX5_note_9 rfl rfl ?_
    refine go_getR (o := 3) (k2 := 54) C dX5_note_10 fl_X5_18 sh_51 rfl rfl ?_
    refine go_aload_n C dX5_note_13 rfl rfl ?_
    refine go_getI (z := 3) C dX5_note_14 fl_X5_73 sh_51 rfl rfl ?_
    refine go_dup2 C dX5_note_17 rfl rfl ?_
    obtain ⟨hc17, h⟩ := chk_some h
    refine go_iald C dX5_note_18 sh_54 (by decide) hc17 ?_
    refine go_iconst C dX5_note_19 ?_
    refine go_iadd C dX5_note_20 ?_
    obtain ⟨hc18, h⟩ := chk_some h
    refine go_iast C dX5_note_21 sh_54 (by decide) hc17 ?_
    have hB19 := hB.set 54 (M 51 3) (x := (M 54 (M 51 3)) + 1) hc18
    exact w_X5_note_22 C E v1 (mset M 54 (M 51 3) ((M 54 (M 51 3)) + 1)) hB19 h
-- IntervalRouter$Search.exchange(II)V
set_option maxHeartbeats 4000000 in
theorem ok_X5_exchange {G : gC} {l : Launch} (hl : l.stackTraces = false) {v1 : Int} {v2 : Int} {M : Mem} (hB : Bd M) {res : Mem} (h : f_X5_exchange v1 v2 M = some res) : Ok G l 0 0 0 yX5_exchange (.code yX5_exchange cX5_exchange 4 none) [rf G 51, .int (iI v1), .int (iI v2)] M (.inr none) res := by
  refine ok_of (ls := [some (rf G 51), some (.int (iI v1)), some (.int (iI v2)), none]) hl (by decide +kernel) (Nat.le_of_ble_eq_true rfl) ⟨rfl, ⟨rfl, ⟨rfl, trivial⟩⟩⟩ ?_
  intro X hX C E
  subst hX
  rw [f_X5_exchange] at h
  refine go_aload_n C dX5_exchange_0 rfl rfl ?_
  refine go_getR (o := 1) (k2 := 52) C dX5_exchange_1 fl_X5_9 sh_51 rfl rfl ?_
  refine go_iload_n C dX5_exchange_4 rfl rfl ?_
  obtain ⟨hc1, h⟩ := chk_some h
  refine go_iald C dX5_exchange_5 sh_52 (by decide) hc1 ?_
  refine go_istore_n (ls2 := [some (rf G 51), some (.int (iI v1)), some (.int (iI v2)), some (.int (iI (M 52 v1)))]) C dX5_exchange_6 rfl (Nat.le_of_ble_eq_true rfl) rfl ?_
  refine go_aload_n C dX5_exchange_7 rfl rfl ?_
  refine go_getR (o := 1) (k2 := 52) C dX5_exchange_8 fl_X5_9 sh_51 rfl rfl ?_
  refine go_iload_n C dX5_exchange_11 rfl rfl ?_
  refine go_aload_n C dX5_exchange_12 rfl rfl ?_
  refine go_getR (o := 1) (k2 := 52) C dX5_exchange_13 fl_X5_9 sh_51 rfl rfl ?_
  refine go_iload_n C dX5_exchange_16 rfl rfl ?_
  obtain ⟨hc2, h⟩ := chk_some h
  refine go_iald C dX5_exchange_17 sh_52 (by decide) hc2 ?_
  refine go_iast C dX5_exchange_18 sh_52 (by decide) hc1 ?_
  have hB3 := hB.set 52 v1 (x := M 52 v2) (hB 52 v2 (by decide))
  refine go_aload_n C dX5_exchange_19 rfl rfl ?_
  refine go_getR (o := 1) (k2 := 52) C dX5_exchange_20 fl_X5_9 sh_51 rfl rfl ?_
  refine go_iload_n C dX5_exchange_23 rfl rfl ?_
  refine go_iload_n C dX5_exchange_24 rfl rfl ?_
  refine go_iast C dX5_exchange_25 sh_52 (by decide) hc2 ?_
  have hB4 := hB3.set 52 v2 (x := M 52 v1) (hB 52 v1 (by decide))
  cases h
  exact go_vret C E rfl dX5_exchange_26 (Nat.le_of_ble_eq_true rfl) (Nat.le_of_ble_eq_true rfl) rfl rfl hB4
-- IntervalRouter$Search.nextTrial(I)Z
set_option maxHeartbeats 4000000 in
theorem w_X5_nextTrial_103 {G : gC} {X : gX} {res : Int × Mem} {F : Nat} (C : Cx G X cX5_nextTrial 6 RX5 1 0 0 (some .boolean) []) (E : Fnl G X 0 0 (.inr (some (.int (iI res.1)))) res.2) : ∀ (fu : Nat) (v4 : Int) (v5 : Int) (M : Mem), Bd M → f_X5_nextTrial_103 F fu v4 v5 M = some res → Go G X 6 0 0 103 [some (rf G 51), none, none, none, some (.int (iI v4)), some (.int (iI v5))] [] M := by
  intro fu
  induction fu with
  | zero => intro v4 v5 M hB h; exact nomatch (show (none : Option (Int × Mem)) = some res from h)
  | succ fu ih =>
    intro v4 v5 M hB h
    rw [f_X5_nextTrial_103] at h
    obtain ⟨⟨hp_v4, hp_v5⟩, h⟩ := chk_some h
    refine go_iload C dX5_nextTrial_103 rfl ?_
    refine go_iload C dX5_nextTrial_105 rfl ?_
    refine go_icmp_ge (tgt := 127) C dX5_nextTrial_107 rfl hp_v4 hp_v5 (fun hc5 => ?_) (fun hc5 => ?_)
    · replace h := ite_t hc5 h
      refine go_iconst C dX5_nextTrial_127 ?_
      cases h
      exact go_zret C E rfl dX5_nextTrial_128 (by decide) (Nat.le_of_ble_eq_true rfl) (Nat.le_of_ble_eq_true rfl) rfl rfl hB
    · replace h := ite_f hc5 h
      refine go_aload_n C dX5_nextTrial_110 rfl rfl ?_
      refine go_iload C dX5_nextTrial_111 rfl ?_
      refine go_iload C dX5_nextTrial_113 rfl ?_
      obtain ⟨q6, h6, h⟩ := ob_some h
      refine go_callV_v C dX5_nextTrial_115 (ok_X5_exchange C.hl hB h6) mv_X5_98 sh_51 rfl rfl (Nat.le_of_ble_eq_true rfl) ⟨(Nat.le_of_ble_eq_true rfl), (Nat.le_of_ble_eq_true rfl)⟩ ⟨(Nat.le_of_ble_eq_true rfl), (Nat.le_of_ble_eq_true rfl)⟩ (fun hB6 => ?_)
      refine go_iinc (ls2 := [some (rf G 51), none, none, none, some (.int (iI (v4 + 1))), some (.int (iI v5))]) C dX5_nextTrial_118 rfl (Nat.le_of_ble_eq_true rfl) rfl ?_
      refine go_iinc (ls2 := [some (rf G 51), none, none, none, some (.int (iI (v4 + 1))), some (.int (iI (v5 + (-1))))]) C dX5_nextTrial_121 rfl (Nat.le_of_ble_eq_true rfl) rfl ?_
      refine go_goto (tgt := 103) C dX5_nextTrial_124 rfl ?_
      exact ih (v4 + 1) (v5 + (-1)) q6 hB6 h
set_option maxHeartbeats 4000000 in
theorem w_X5_nextTrial_56 {G : gC} {X : gX} {res : Int × Mem} {F : Nat} (C : Cx G X cX5_nextTrial 6 RX5 1 0 0 (some .boolean) []) (E : Fnl G X 0 0 (.inr (some (.int (iI res.1)))) res.2) : ∀ (fu : Nat) (v1 : Int) (v2 : Int) (v3 : Int) (v4 : Int) (M : Mem), Bd M → f_X5_nextTrial_56 F fu v1 v2 v3 v4 M = some res → Go G X 6 0 0 56 [some (rf G 51), some (.int (iI v1)), some (.int (iI v2)), some (.int (iI v3)), some (.int (iI v4)), none] [] M := by
  intro fu
  induction fu with
  | zero => intro v1 v2 v3 v4 M hB h; exact nomatch (show (none : Option (Int × Mem)) = some res from h)
  | succ fu ih =>
    intro v1 v2 v3 v4 M hB h
    rw [f_X5_nextTrial_56] at h
    obtain ⟨⟨hp_v1, hp_v4⟩, h⟩ := chk_some h
    refine go_iload C dX5_nextTrial_56 rfl ?_
    refine go_iload_n C dX5_nextTrial_58 rfl rfl ?_
    refine go_icmp_ge (tgt := 87) C dX5_nextTrial_59 rfl hp_v4 hp_v1 (fun hc3 => ?_) (fun hc3 => ?_)
    · replace h := ite_t hc3 h
      refine go_aload_n C dX5_nextTrial_87 rfl rfl ?_
      refine go_iload_n C dX5_nextTrial_88 rfl rfl ?_
      refine go_iload_n C dX5_nextTrial_89 rfl rfl ?_
      obtain ⟨q4, h4, h⟩ := ob_some h
      refine go_callV_v C dX5_nextTrial_90 (ok_X5_exchange C.hl hB h4) mv_X5_98 sh_51 rfl rfl (Nat.le_of_ble_eq_true rfl) ⟨(Nat.le_of_ble_eq_true rfl), (Nat.le_of_ble_eq_true rfl)⟩ ⟨(Nat.le_of_ble_eq_true rfl), (Nat.le_of_ble_eq_true rfl)⟩ (fun hB4 => ?_)
      refine go_iload_n C dX5_nextTrial_93 rfl rfl ?_
      refine go_iconst C dX5_nextTrial_94 ?_
      refine go_iadd C dX5_nextTrial_95 ?_
      refine go_istore (ls2 := [some (rf G 51), some (.int (iI v1)), some (.int (iI v2)), some (.int (iI v3)), some (.int (iI (v2 + 1))), none]) C dX5_nextTrial_96 (Nat.le_of_ble_eq_true rfl) rfl ?_
      refine go_iload_n C dX5_nextTrial_98 rfl rfl ?_
      refine go_iconst C dX5_nextTrial_99 ?_
      refine go_isub C dX5_nextTrial_100 ?_
      refine go_istore (ls2 := [some (rf G 51), some (.int (iI v1)), some (.int (iI v2)), some (.int (iI v3)), some (.int (iI (v2 + 1))), some (.int (iI (v1 - 1)))]) C dX5_nextTrial_101 (Nat.le_of_ble_eq_true rfl) rfl ?_
      refine go_weak (ls' := [some (rf G 51), none, none, none, some (.int (iI (v2 + 1))), some (.int (iI (v1 - 1)))]) ⟨rfl, ⟨rfl, ⟨rfl, trivial⟩⟩⟩ ?_
      exact w_X5_nextTrial_103 C E F (v2 + 1) (v1 - 1) q4 hB4 h
    · replace h := ite_f hc3 h
      refine go_aload_n C dX5_nextTrial_62 rfl rfl ?_
      refine go_getR (o := 1) (k2 := 52) C dX5_nextTrial_63 fl_X5_9 sh_51 rfl rfl ?_
      refine go_iload C dX5_nextTrial_66 rfl ?_
      obtain ⟨hc7, h⟩ := chk_some h
      refine go_iald C dX5_nextTrial_68 sh_52 (by decide) hc7 ?_
      refine go_aload_n C dX5_nextTrial_69 rfl rfl ?_
      refine go_getR (o := 1) (k2 := 52) C dX5_nextTrial_70 fl_X5_9 sh_51 rfl rfl ?_
      refine go_iload_n C dX5_nextTrial_73 rfl rfl ?_
      obtain ⟨hc8, h⟩ := chk_some h
      refine go_iald C dX5_nextTrial_74 sh_52 (by decide) hc8 ?_
      refine go_icmp_le (tgt := 81) C dX5_nextTrial_75 rfl (hB 52 v4 (by decide)) (hB 52 v2 (by decide)) (fun hc9 => ?_) (fun hc9 => ?_)
      · replace h := ite_t hc9 h
        refine go_iinc (ls2 := [some (rf G 51), some (.int (iI v1)), some (.int (iI v2)), some (.int (iI v3)), some (.int (iI (v4 + 1))), none]) C dX5_nextTrial_81 rfl (Nat.le_of_ble_eq_true rfl) rfl ?_
        refine go_goto (tgt := 56) C dX5_nextTrial_84 rfl ?_
        exact ih v1 v2 v3 (v4 + 1) M hB h
      · replace h := ite_f hc9 h
        refine go_iload C dX5_nextTrial_78 rfl ?_
        refine go_istore_n (ls2 := [some (rf G 51), some (.int (iI v1)), some (.int (iI v2)), some (.int (iI v4)), some (.int (iI v4)), none]) C dX5_nextTrial_80 rfl (Nat.le_of_ble_eq_true rfl) rfl ?_
        refine go_iinc (ls2 := [some (rf G 51), some (.int (iI v1)), some (.int (iI v2)), some (.int (iI v4)), some (.int (iI (v4 + 1))), none]) C dX5_nextTrial_81 rfl (Nat.le_of_ble_eq_true rfl) rfl ?_
        refine go_goto (tgt := 56) C dX5_nextTrial_84 rfl ?_
        exact ih v1 v2 v4 (v4 + 1) M hB h
set_option maxHeartbeats 4000000 in
theorem w_X5_nextTrial_6 {G : gC} {X : gX} {res : Int × Mem} {F : Nat} (C : Cx G X cX5_nextTrial 6 RX5 1 0 0 (some .boolean) []) (E : Fnl G X 0 0 (.inr (some (.int (iI res.1)))) res.2) : ∀ (fu : Nat) (v1 : Int) (v2 : Int) (v3 : Int) (M : Mem), Bd M → f_X5_nextTrial_6 F fu v1 v2 v3 M = some res → Go G X 6 0 0 6 [some (rf G 51), some (.int (iI v1)), some (.int (iI v2)), some (.int (iI v3)), none, none] [] M := by
  intro fu
  induction fu with
  | zero => intro v1 v2 v3 M hB h; exact nomatch (show (none : Option (Int × Mem)) = some res from h)
  | succ fu ih =>
    intro v1 v2 v3 M hB h
    rw [f_X5_nextTrial_6] at h
    obtain ⟨⟨hp_v1, hp_v2, hp_v3⟩, h⟩ := chk_some h
    refine go_iload_n C dX5_nextTrial_6 rfl rfl ?_
    refine go_iload_n C dX5_nextTrial_7 rfl rfl ?_
    refine go_icmp_ge (tgt := 41) C dX5_nextTrial_8 rfl hp_v3 hp_v1 (fun hc1 => ?_) (fun hc1 => ?_)
    · replace h := ite_t hc1 h
      refine go_iload_n C dX5_nextTrial_41 rfl rfl ?_
      refine go_if_ge (tgt := 47) C dX5_nextTrial_42 rfl hp_v2 (fun hc2 => ?_) (fun hc2 => ?_)
      · replace h := ite_t hc2 h
        refine go_iload_n C dX5_nextTrial_47 rfl rfl ?_
        refine go_iconst C dX5_nextTrial_48 ?_
        refine go_iadd C dX5_nextTrial_49 ?_
        refine go_istore_n (ls2 := [some (rf G 51), some (.int (iI v1)), some (.int (iI v2)), some (.int (iI (v2 + 1))), none, none]) C dX5_nextTrial_50 rfl (Nat.le_of_ble_eq_true rfl) rfl ?_
        refine go_iload_n C dX5_nextTrial_51 rfl rfl ?_
        refine go_iconst C dX5_nextTrial_52 ?_
        refine go_iadd C dX5_nextTrial_53 ?_
        refine go_istore (ls2 := [some (rf G 51), some (.int (iI v1)), some (.int (iI v2)), some (.int (iI (v2 + 1))), some (.int (iI (v2 + 2))), none]) C dX5_nextTrial_54 (Nat.le_of_ble_eq_true rfl) rfl ?_
        exact w_X5_nextTrial_56 C E F v1 v2 (v2 + 1) (v2 + 2) M hB h
      · replace h := ite_f hc2 h
        refine go_iconst C dX5_nextTrial_45 ?_
        cases h
        exact go_zret C E rfl dX5_nextTrial_46 (by decide) (Nat.le_of_ble_eq_true rfl) (Nat.le_of_ble_eq_true rfl) rfl rfl hB
    · replace h := ite_f hc1 h
      refine go_iload_n C dX5_nextTrial_11 rfl rfl ?_
      refine go_if_lt (tgt := 41) C dX5_nextTrial_12 rfl hp_v2 (fun hc10 => ?_) (fun hc10 => ?_)
      · replace h := ite_t hc10 h
        refine go_iload_n C dX5_nextTrial_41 rfl rfl ?_
        refine go_if_ge (tgt := 47) C dX5_nextTrial_42 rfl hp_v2 (fun hc11 => ?_) (fun hc11 => ?_)
        · replace h := ite_t hc11 h
          refine go_iload_n C dX5_nextTrial_47 rfl rfl ?_
          refine go_iconst C dX5_nextTrial_48 ?_
          refine go_iadd C dX5_nextTrial_49 ?_
          refine go_istore_n (ls2 := [some (rf G 51), some (.int (iI v1)), some (.int (iI v2)), some (.int (iI (v2 + 1))), none, none]) C dX5_nextTrial_50 rfl (Nat.le_of_ble_eq_true rfl) rfl ?_
          refine go_iload_n C dX5_nextTrial_51 rfl rfl ?_
          refine go_iconst C dX5_nextTrial_52 ?_
          refine go_iadd C dX5_nextTrial_53 ?_
          refine go_istore (ls2 := [some (rf G 51), some (.int (iI v1)), some (.int (iI v2)), some (.int (iI (v2 + 1))), some (.int (iI (v2 + 2))), none]) C dX5_nextTrial_54 (Nat.le_of_ble_eq_true rfl) rfl ?_
          exact w_X5_nextTrial_56 C E F v1 v2 (v2 + 1) (v2 + 2) M hB h
        · replace h := ite_f hc11 h
          refine go_iconst C dX5_nextTrial_45 ?_
          cases h
          exact go_zret C E rfl dX5_nextTrial_46 (by decide) (Nat.le_of_ble_eq_true rfl) (Nat.le_of_ble_eq_true rfl) rfl rfl hB
      · replace h := ite_f hc10 h
        refine go_aload_n C dX5_nextTrial_15 rfl rfl ?_
        refine go_getR (o := 1) (k2 := 52) C dX5_nextTrial_16 fl_X5_9 sh_51 rfl rfl ?_
        refine go_iload_n C dX5_nextTrial_19 rfl rfl ?_
        obtain ⟨hc12, h⟩ := chk_some h
        refine go_iald C dX5_nextTrial_20 sh_52 (by decide) hc12 ?_
        refine go_aload_n C dX5_nextTrial_21 rfl rfl ?_
        refine go_getR (o := 1) (k2 := 52) C dX5_nextTrial_22 fl_X5_9 sh_51 rfl rfl ?_
        refine go_iload_n C dX5_nextTrial_25 rfl rfl ?_
        refine go_iconst C dX5_nextTrial_26 ?_
        refine go_iadd C dX5_nextTrial_27 ?_
        obtain ⟨hc13, h⟩ := chk_some h
        refine go_iald C dX5_nextTrial_28 sh_52 (by decide) hc13 ?_
        refine go_icmp_le (tgt := 41) C dX5_nextTrial_29 rfl (hB 52 v2 (by decide)) (hB 52 (v2 + 1) (by decide)) (fun hc14 => ?_) (fun hc14 => ?_)
        · replace h := ite_t hc14 h
          refine go_iload_n C dX5_nextTrial_41 rfl rfl ?_
          refine go_if_ge (tgt := 47) C dX5_nextTrial_42 rfl hp_v2 (fun hc15 => ?_) (fun hc15 => ?_)
          · replace h := ite_t hc15 h
            refine go_iload_n C dX5_nextTrial_47 rfl rfl ?_
            refine go_iconst C dX5_nextTrial_48 ?_
            refine go_iadd C dX5_nextTrial_49 ?_
            refine go_istore_n (ls2 := [some (rf G 51), some (.int (iI v1)), some (.int (iI v2)), some (.int (iI (v2 + 1))), none, none]) C dX5_nextTrial_50 rfl (Nat.le_of_ble_eq_true rfl) rfl ?_
            refine go_iload_n C dX5_nextTrial_51 rfl rfl ?_
            refine go_iconst C dX5_nextTrial_52 ?_
            refine go_iadd C dX5_nextTrial_53 ?_
            refine go_istore (ls2 := [some (rf G 51), some (.int (iI v1)), some (.int (iI v2)), some (.int (iI (v2 + 1))), some (.int (iI (v2 + 2))), none]) C dX5_nextTrial_54 (Nat.le_of_ble_eq_true rfl) rfl ?_
            exact w_X5_nextTrial_56 C E F v1 v2 (v2 + 1) (v2 + 2) M hB h
          · replace h := ite_f hc15 h
            refine go_iconst C dX5_nextTrial_45 ?_
            cases h
            exact go_zret C E rfl dX5_nextTrial_46 (by decide) (Nat.le_of_ble_eq_true rfl) (Nat.le_of_ble_eq_true rfl) rfl rfl hB
        · replace h := ite_f hc14 h
          refine go_iinc (ls2 := [some (rf G 51), some (.int (iI v1)), some (.int (iI (v2 + (-1)))), some (.int (iI v3)), none, none]) C dX5_nextTrial_32 rfl (Nat.le_of_ble_eq_true rfl) rfl ?_
          refine go_iinc (ls2 := [some (rf G 51), some (.int (iI v1)), some (.int (iI (v2 + (-1)))), some (.int (iI (v3 + 1))), none, none]) C dX5_nextTrial_35 rfl (Nat.le_of_ble_eq_true rfl) rfl ?_
          refine go_goto (tgt := 6) C dX5_nextTrial_38 rfl ?_
          exact ih v1 (v2 + (-1)) (v3 + 1) M hB h
set_option maxHeartbeats 4000000 in
theorem ok_X5_nextTrial {G : gC} {l : Launch} (hl : l.stackTraces = false) {F : Nat} {v1 : Int} {M : Mem} (hB : Bd M) {res : Int × Mem} (h : f_X5_nextTrial F v1 M = some res) : Ok G l 1 0 0 yX5_nextTrial (.code yX5_nextTrial cX5_nextTrial 6 (some .boolean)) [rf G 51, .int (iI v1)] M (.inr (some (.int (iI res.1)))) res.2 := by
  refine ok_of (ls := [some (rf G 51), some (.int (iI v1)), none, none, none, none]) hl (by decide +kernel) (Nat.le_of_ble_eq_true rfl) ⟨rfl, ⟨rfl, trivial⟩⟩ ?_
  intro X hX C E
  subst hX
  rw [f_X5_nextTrial] at h
  refine go_iload_n C dX5_nextTrial_0 rfl rfl ?_
  refine go_iconst C dX5_nextTrial_1 ?_
  refine go_isub C dX5_nextTrial_2 ?_
  refine go_istore_n (ls2 := [some (rf G 51), some (.int (iI v1)), some (.int (iI (v1 - 2))), none, none, none]) C dX5_nextTrial_3 rfl (Nat.le_of_ble_eq_true rfl) rfl ?_
  refine go_iconst C dX5_nextTrial_4 ?_
  refine go_istore_n (ls2 := [some (rf G 51), some (.int (iI v1)), some (.int (iI (v1 - 2))), some (.int (iI 0)), none, none]) C dX5_nextTrial_5 rfl (Nat.le_of_ble_eq_true rfl) rfl ?_
  exact w_X5_nextTrial_6 C E F v1 (v1 - 2) 0 M hB h
-- IntervalRouter$Search.ensure(LIntervalRouter$Ways;ILIntervalRouter$TableMaker;)V
set_option maxHeartbeats 4000000 in
theorem w_X5_ensure_58 {G : gC} {X : gX} {res : Mem} {F : Nat} (C : Cx G X cX5_ensure 6 RX5 5 0 0 none []) (E : Fnl G X 0 0 (.inr none) res) : ∀ (fu : Nat) (v2 : Int) (v4 : Int) (v5 : Int) (M : Mem), Bd M → f_X5_ensure_58 F fu v2 v4 v5 M = some res → Go G X 6 0 0 58 [some (rf G 51), some (rf G 39), some (.int (iI v2)), some (rf G 46), some (.int (iI v4)), some (.int (iI v5))] [] M := by
  intro fu
  induction fu with
  | zero => intro v2 v4 v5 M hB h; exact nomatch (show (none : Option (Mem)) = some res from h)
  | succ fu ih =>
    intro v2 v4 v5 M hB h
    rw [f_X5_ensure_58] at h
    obtain ⟨⟨hp_v4, hp_v5⟩, h⟩ := chk_some h
    refine go_iload C dX5_ensure_58 rfl ?_
    refine go_sipush C dX5_ensure_60 (by decide +kernel) ?_
    refine go_icmp_ge (tgt := 96) C dX5_ensure_63 rfl hp_v5 (by decide) (fun hc6 => ?_) (fun hc6 => ?_)
    · replace h := ite_t hc6 h
      cases h
      exact go_vret C E rfl dX5_ensure_96 (Nat.le_of_ble_eq_true rfl) (Nat.le_of_ble_eq_true rfl) rfl rfl hB
    · replace h := ite_f hc6 h
      refine go_iload C dX5_ensure_66 rfl ?_
      refine go_if_eq (tgt := 96) C dX5_ensure_68 rfl hp_v4 (fun hc7 => ?_) (fun hc7 => ?_)
      · replace h := ite_t hc7 h
        cases h
        exact go_vret C E rfl dX5_ensure_96 (Nat.le_of_ble_eq_true rfl) (Nat.le_of_ble_eq_true rfl) rfl rfl hB
      · replace h := ite_f hc7 h
        refine go_aload_n C dX5_ensure_71 rfl rfl ?_
        refine go_aload_n C dX5_ensure_72 rfl rfl ?_
        refine go_iload_n C dX5_ensure_73 rfl rfl ?_
        refine go_aload_n C dX5_ensure_74 rfl rfl ?_
        obtain ⟨q8, h8, h⟩ := ob_some h
        refine go_callV_v C dX5_ensure_75 (ok_X5_evaluate C.hl hB h8) mv_X5_42 sh_51 rfl rfl (Nat.le_of_ble_eq_true rfl) ⟨(Nat.le_of_ble_eq_true rfl), (Nat.le_of_ble_eq_true rfl)⟩ ⟨(Nat.le_of_ble_eq_true rfl), (Nat.le_of_ble_eq_true rfl)⟩ (fun hB8 => ?_)
        refine go_aload_n C dX5_ensure_78 rfl rfl ?_
        refine go_iload_n C dX5_ensure_79 rfl rfl ?_
        obtain ⟨q9, h9, h⟩ := ob_some h
        refine go_callV_v C dX5_ensure_80 (ok_X5_note C.hl hB8 h9) mv_X5_46 sh_51 rfl rfl (Nat.le_of_ble_eq_true rfl) ⟨(Nat.le_of_ble_eq_true rfl), (Nat.le_of_ble_eq_true rfl)⟩ ⟨(Nat.le_of_ble_eq_true rfl), (Nat.le_of_ble_eq_true rfl)⟩ (fun hB9 => ?_)
        refine go_aload_n C dX5_ensure_83 rfl rfl ?_
        refine go_iload_n C dX5_ensure_84 rfl rfl ?_
        obtain ⟨q10, h10, h⟩ := ob_some h
        refine go_callV_i C dX5_ensure_85 (ok_X5_nextTrial C.hl hB9 h10) mv_X5_50 sh_51 rfl rfl (Nat.le_of_ble_eq_true rfl) ⟨(Nat.le_of_ble_eq_true rfl), (Nat.le_of_ble_eq_true rfl)⟩ ⟨(Nat.le_of_ble_eq_true rfl), (Nat.le_of_ble_eq_true rfl)⟩ (fun hB10 => ?_)
        refine go_istore (ls2 := [some (rf G 51), some (rf G 39), some (.int (iI v2)), some (rf G 46), some (.int (iI q10.1)), some (.int (iI v5))]) C dX5_ensure_88 (Nat.le_of_ble_eq_true rfl) rfl ?_
        refine go_iinc (ls2 := [some (rf G 51), some (rf G 39), some (.int (iI v2)), some (rf G 46), some (.int (iI q10.1)), some (.int (iI (v5 + 1)))]) C dX5_ensure_90 rfl (Nat.le_of_ble_eq_true rfl) rfl ?_
        refine go_goto (tgt := 58) C dX5_ensure_93 rfl ?_
        exact ih v2 q10.1 (v5 + 1) q10.2 hB10 h
set_option maxHeartbeats 4000000 in
theorem w_X5_ensure_31 {G : gC} {X : gX} {res : Mem} {F : Nat} (C : Cx G X cX5_ensure 6 RX5 5 0 0 none []) (E : Fnl G X 0 0 (.inr none) res) : ∀ (fu : Nat) (v2 : Int) (v4 : Int) (M : Mem), Bd M → f_X5_ensure_31 F fu v2 v4 M = some res → Go G X 6 0 0 31 [some (rf G 51), some (rf G 39), some (.int (iI v2)), some (rf G 46), some (.int (iI v4)), none] [] M := by
  intro fu
  induction fu with
  | zero => intro v2 v4 M hB h; exact nomatch (show (none : Option (Mem)) = some res from h)
  | succ fu ih =>
    intro v2 v4 M hB h
    rw [f_X5_ensure_31] at h
    obtain ⟨⟨hp_v2, hp_v4⟩, h⟩ := chk_some h
    refine go_iload C dX5_ensure_31 rfl ?_
    refine go_iload_n C dX5_ensure_33 rfl rfl ?_
    refine go_icmp_ge (tgt := 52) C dX5_ensure_34 rfl hp_v4 hp_v2 (fun hc5 => ?_) (fun hc5 => ?_)
    · replace h := ite_t hc5 h
      refine go_iconst C dX5_ensure_52 ?_
      refine go_istore (ls2 := [some (rf G 51), some (rf G 39), some (.int (iI v2)), some (rf G 46), some (.int (iI 1)), none]) C dX5_ensure_53 (Nat.le_of_ble_eq_true rfl) rfl ?_
      refine go_iconst C dX5_ensure_55 ?_
      refine go_istore (ls2 := [some (rf G 51), some (rf G 39), some (.int (iI v2)), some (rf G 46), some (.int (iI 1)), some (.int (iI 0))]) C dX5_ensure_56 (Nat.le_of_ble_eq_true rfl) rfl ?_
      exact w_X5_ensure_58 C E F v2 1 0 M hB h
    · replace h := ite_f hc5 h
      refine go_aload_n C dX5_ensure_37 rfl rfl ?_
      refine go_getR (o := 1) (k2 := 52) C dX5_ensure_38 fl_X5_9 sh_51 rfl rfl ?_
      refine go_iload C dX5_ensure_41 rfl ?_
      refine go_iload C dX5_ensure_43 rfl ?_
      obtain ⟨hc11, h⟩ := chk_some h
      refine go_iast C dX5_ensure_45 sh_52 (by decide) hc11 ?_
      have hB12 := hB.set 52 v4 (x := v4) hp_v4
      refine go_iinc (ls2 := [some (rf G 51), some (rf G 39), some (.int (iI v2)), some (rf G 46), some (.int (iI (v4 + 1))), none]) C dX5_ensure_46 rfl (Nat.le_of_ble_eq_true rfl) rfl ?_
      refine go_goto (tgt := 31) C dX5_ensure_49 rfl ?_
      exact ih v2 (v4 + 1) (mset M 52 v4 v4) hB12 h
set_option maxHeartbeats 4000000 in
theorem ok_X5_ensure {G : gC} {l : Launch} (hl : l.stackTraces = false) {F : Nat} {v2 : Int} {M : Mem} (hB : Bd M) {res : Mem} (h : f_X5_ensure F v2 M = some res) : Ok G l 5 0 0 yX5_ensure (.code yX5_ensure cX5_ensure 6 none) [rf G 51, rf G 39, .int (iI v2), rf G 46] M (.inr none) res := by
  refine ok_of (ls := [some (rf G 51), some (rf G 39), some (.int (iI v2)), some (rf G 46), none, none]) hl (by decide +kernel) (Nat.le_of_ble_eq_true rfl) ⟨rfl, ⟨rfl, ⟨rfl, ⟨rfl, trivial⟩⟩⟩⟩ ?_
  intro X hX C E
  subst hX
  rw [f_X5_ensure] at h
  refine go_aload_n C dX5_ensure_0 rfl rfl ?_
  refine go_getI (z := 2) C dX5_ensure_1 fl_X5_28 sh_51 rfl rfl ?_
  refine go_if_eq (tgt := 8) C dX5_ensure_4 rfl (hB 51 2 (by decide)) (fun hc1 => ?_) (fun hc1 => ?_)
  · replace h := ite_t hc1 h
    refine go_aload_n C dX5_ensure_8 rfl rfl ?_
    refine go_iconst C dX5_ensure_9 ?_
    refine go_putI (z := 2) C dX5_ensure_10 fp_X5_28 sh_51 rfl rfl (nar_b (by decide)) (fit_b (by decide)) ?_
    have hB2 := hB.set 51 2 (x := 1) (by decide)
    refine go_aload_n C dX5_ensure_13 rfl rfl ?_
    refine go_sipush C dX5_ensure_14 (by decide +kernel) ?_
    refine go_putI (z := 0) C dX5_ensure_17 fp_X5_32 sh_51 rfl rfl rfl rfl ?_
    have hB3 := hB2.set 51 0 (x := 1000) (by decide)
    refine go_aload_n C dX5_ensure_20 rfl rfl ?_
    refine go_getR (o := 3) (k2 := 54) C dX5_ensure_21 fl_X5_18 sh_51 rfl rfl ?_
    refine go_iconst C dX5_ensure_24 ?_
    obtain ⟨q4, h4, h⟩ := ob_some h
    refine go_callS_v C dX5_ensure_25 (ok_J7_fill_53178 C.hl hB3 (ia_of sh_54) h4) ms_X5_36 rfl rfl (Nat.le_of_ble_eq_true rfl) ⟨(Nat.le_of_ble_eq_true rfl), (Nat.le_of_ble_eq_true rfl)⟩ ⟨(Nat.le_of_ble_eq_true rfl), (Nat.le_of_ble_eq_true rfl)⟩ (fun hB4 => ?_)
    refine go_iconst C dX5_ensure_28 ?_
    refine go_istore (ls2 := [some (rf G 51), some (rf G 39), some (.int (iI v2)), some (rf G 46), some (.int (iI 0)), none]) C dX5_ensure_29 (Nat.le_of_ble_eq_true rfl) rfl ?_
    exact w_X5_ensure_31 C E F v2 0 q4 hB4 h
  · replace h := ite_f hc1 h
    cases h
    exact go_vret C E rfl dX5_ensure_7 (Nat.le_of_ble_eq_true rfl) (Nat.le_of_ble_eq_true rfl) rfl rfl hB
-- IntervalRouter$Search.countUpTo(I)I
set_option maxHeartbeats 4000000 in
theorem w_X5_countUpTo_4 {G : gC} {X : gX} {res : Int} {F : Nat} {M : Mem} (hB : Bd M) (C : Cx G X cX5_countUpTo 4 RX5 0 0 0 (some .int) []) (E : Fnl G X 0 0 (.inr (some (.int (iI res)))) M) : ∀ (fu : Nat) (v1 : Int) (v2 : Int) (v3 : Int), f_X5_countUpTo_4 F fu v1 v2 v3 M = some res → Go G X 4 0 0 4 [some (rf G 51), some (.int (iI v1)), some (.int (iI v2)), some (.int (iI v3))] [] M := by
  intro fu
  induction fu with
  | zero => intro v1 v2 v3 h; exact nomatch (show (none : Option (Int)) = some res from h)
  | succ fu ih =>
    intro v1 v2 v3 h
    rw [f_X5_countUpTo_4] at h
    obtain ⟨⟨hp_v1, hp_v3⟩, h⟩ := chk_some h
    refine go_iload_n C dX5_countUpTo_4 rfl rfl ?_
    refine go_iload_n C dX5_countUpTo_5 rfl rfl ?_
    refine go_icmp_gt (tgt := 24) C dX5_countUpTo_6 rfl hp_v3 hp_v1 (fun hc1 => ?_) (fun hc1 => ?_)
    · replace h := ite_t hc1 h
      refine go_iload_n C dX5_countUpTo_24 rfl rfl ?_
      cases h
      exact go_iret C E rfl dX5_countUpTo_25 (Nat.le_of_ble_eq_true rfl) (Nat.le_of_ble_eq_true rfl) rfl rfl hB
    · replace h := ite_f hc1 h
      refine go_iload_n C dX5_countUpTo_9 rfl rfl ?_
      refine go_aload_n C dX5_countUpTo_10 rfl rfl ?_
      refine go_getR (o := 3) (k2 := 54) C dX5_countUpTo_11 fl_X5_18 sh_51 rfl rfl ?_
      refine go_iload_n C dX5_countUpTo_14 rfl rfl ?_
      obtain ⟨hc2, h⟩ := chk_some h
      refine go_iald C dX5_countUpTo_15 sh_54 (by decide) hc2 ?_
      refine go_iadd C dX5_countUpTo_16 ?_
      refine go_istore_n (ls2 := [some (rf G 51), some (.int (iI v1)), some (.int (iI (v2 + (M 54 v3)))), some (.int (iI v3))]) C dX5_countUpTo_17 rfl (Nat.le_of_ble_eq_true rfl) rfl ?_
      refine go_iinc (ls2 := [some (rf G 51), some (.int (iI v1)), some (.int (iI (v2 + (M 54 v3)))), some (.int (iI (v3 + 1)))]) C dX5_countUpTo_18 rfl (Nat.le_of_ble_eq_true rfl) rfl ?_
      refine go_goto (tgt := 4) C dX5_countUpTo_21 rfl ?_
      exact ih v1 (v2 + (M 54 v3)) (v3 + 1) h
set_option maxHeartbeats 4000000 in
theorem ok_X5_countUpTo {G : gC} {l : Launch} (hl : l.stackTraces = false) {F : Nat} {v1 : Int} {M : Mem} (hB : Bd M) {res : Int} (h : f_X5_countUpTo F v1 M = some res) : Ok G l 0 0 0 yX5_countUpTo (.code yX5_countUpTo cX5_countUpTo 4 (some .int)) [rf G 51, .int (iI v1)] M (.inr (some (.int (iI res)))) M := by
  refine ok_of (ls := [some (rf G 51), some (.int (iI v1)), none, none]) hl (by decide +kernel) (Nat.le_of_ble_eq_true rfl) ⟨rfl, ⟨rfl, trivial⟩⟩ ?_
  intro X hX C E
  subst hX
  rw [f_X5_countUpTo] at h
  refine go_iconst C dX5_countUpTo_0 ?_
  refine go_istore_n (ls2 := [some (rf G 51), some (.int (iI v1)), some (.int (iI 0)), none]) C dX5_countUpTo_1 rfl (Nat.le_of_ble_eq_true rfl) rfl ?_
  refine go_iconst C dX5_countUpTo_2 ?_
  refine go_istore_n (ls2 := [some (rf G 51), some (.int (iI v1)), some (.int (iI 0)), some (.int (iI 0))]) C dX5_countUpTo_3 rfl (Nat.le_of_ble_eq_true rfl) rfl ?_
  exact w_X5_countUpTo_4 hB C E F v1 0 0 h
-- IntervalRouter$Search.copyBest(LIntervalRouter$State;)V
set_option maxHeartbeats 4000000 in
theorem ok_X5_copyBest {G : gC} {l : Launch} (hl : l.stackTraces = false) {M : Mem} (hB : Bd M) {res : Mem} (h : f_X5_copyBest M = some res) : Ok G l 2 0 0 yX5_copyBest (.code yX5_copyBest cX5_copyBest 2 none) [rf G 51, rf G 1] M (.inr none) res := by
  refine ok_of (ls := [some (rf G 51), some (rf G 1)]) hl (by decide +kernel) (Nat.le_of_ble_eq_true rfl) ⟨rfl, ⟨rfl, trivial⟩⟩ ?_
  intro X hX C E
  subst hX
  rw [f_X5_copyBest] at h
  refine go_aload_n C dX5_copyBest_0 rfl rfl ?_
  refine go_getR (o := 2) (k2 := 53) C dX5_copyBest_1 fl_X5_15 sh_51 rfl rfl ?_
  refine go_iconst C dX5_copyBest_4 ?_
  refine go_aload_n C dX5_copyBest_5 rfl rfl ?_
  refine go_getR (o := 4) (k2 := 5) C dX5_copyBest_6 fl_X5_54 sh_1 rfl rfl ?_
  refine go_iconst C dX5_copyBest_9 ?_
  refine go_aload_n C dX5_copyBest_10 rfl rfl ?_
  refine go_getI (z := 0) C dX5_copyBest_11 fl_X5_59 sh_1 rfl rfl ?_
  obtain ⟨hc1, h⟩ := chk_some h
  refine go_cpy C dX5_copyBest_14 ⟨gt_852, gt_388, gt_387, gt_88⟩ sh_53 sh_5 (by decide) (by decide) hc1 (Nat.le_of_ble_eq_true rfl) (Nat.le_of_ble_eq_true rfl) ?_
  have hB2 := hB.cpy 53 (by decide) 0 5 0 (M 1 0)
  cases h
  exact go_vret C E rfl dX5_copyBest_17 (Nat.le_of_ble_eq_true rfl) (Nat.le_of_ble_eq_true rfl) rfl rfl hB2
-- IntervalRouter$State.drop(I)V
set_option maxHeartbeats 4000000 in
theorem w_X6_drop_2 {G : gC} {X : gX} {res : Mem} {F : Nat} {r : Nat} (hr : shT[r]? = some (.inl 6)) (C : Cx G X cX6_drop 3 RX6 0 0 0 none []) (E : Fnl G X 0 0 (.inr none) res) : ∀ (fu : Nat) (v2 : Int) (M : Mem), Bd M → f_X6_drop_2 F r fu v2 M = some res → Go G X 3 0 0 2 [some (rf G r), none, some (.int (iI v2))] [] M := by
  intro fu
  induction fu with
  | zero => intro v2 M hB h; exact nomatch (show (none : Option (Mem)) = some res from h)
  | succ fu ih =>
    intro v2 M hB h
    rw [f_X6_drop_2] at h
    refine go_iload_n C dX6_drop_2 rfl rfl ?_
    refine go_iconst C dX6_drop_3 ?_
    refine go_iadd C dX6_drop_4 ?_
    refine go_aload_n C dX6_drop_5 rfl rfl ?_
    refine go_getI (z := 1) C dX6_drop_6 fl_X6_37 hr rfl rfl ?_
    obtain ⟨hc1, h⟩ := chk_some h
    refine go_icmp_ge (tgt := 60) C dX6_drop_9 rfl hc1 (hB r 1 (Nat.lt_of_lt_of_le (sh_lt hr) (by decide))) (fun hc2 => ?_) (fun hc2 => ?_)
    · replace h := ite_t hc2 h
      refine go_aload_n C dX6_drop_60 rfl rfl ?_
      refine go_dup C dX6_drop_61 rfl ?_
      refine go_getI (z := 1) C dX6_drop_62 fl_X6_37 hr rfl rfl ?_
      refine go_iconst C dX6_drop_65 ?_
      refine go_isub C dX6_drop_66 ?_
      obtain ⟨hc3, h⟩ := chk_some h
      refine go_putI (z := 1) C dX6_drop_67 fp_X6_37 hr rfl rfl rfl rfl ?_
      have hB4 := hB.set r 1 (x := (M r 1) - 1) hc3
      cases h
      exact go_vret C E rfl dX6_drop_70 (Nat.le_of_ble_eq_true rfl) (Nat.le_of_ble_eq_true rfl) rfl rfl hB4
    · replace h := ite_f hc2 h
      refine go_aload_n C dX6_drop_12 rfl rfl ?_
      refine go_getR (o := 1) (k2 := (r + 1)) C dX6_drop_13 fl_X6_9 hr rfl rfl ?_
      refine go_iload_n C dX6_drop_16 rfl rfl ?_
      refine go_aload_n C dX6_drop_17 rfl rfl ?_
      refine go_getR (o := 1) (k2 := (r + 1)) C dX6_drop_18 fl_X6_9 hr rfl rfl ?_
      refine go_iload_n C dX6_drop_21 rfl rfl ?_
      refine go_iconst C dX6_drop_22 ?_
      refine go_iadd C dX6_drop_23 ?_
      obtain ⟨hc5, h⟩ := chk_some h
      refine go_iald C dX6_drop_24 (so_6_2 hr) (by decide) hc5 ?_
      obtain ⟨hc6, h⟩ := chk_some h
      refine go_iast C dX6_drop_25 (so_6_2 hr) (by decide) hc6 ?_
      have hB7 := hB.set (r + 1) v2 (x := M (r + 1) (v2 + 1)) (hB (r + 1) (v2 + 1) (Nat.lt_of_lt_of_le (sh_lt (so_6_2 hr)) (by decide)))
      refine go_aload_n C dX6_drop_26 rfl rfl ?_
      refine go_getR (o := 2) (k2 := (r + 2)) C dX6_drop_27 fl_X6_15 hr rfl rfl ?_
      refine go_iload_n C dX6_drop_30 rfl rfl ?_
      refine go_aload_n C dX6_drop_31 rfl rfl ?_
      refine go_getR (o := 2) (k2 := (r + 2)) C dX6_drop_32 fl_X6_15 hr rfl rfl ?_
      refine go_iload_n C dX6_drop_35 rfl rfl ?_
      refine go_iconst C dX6_drop_36 ?_
      refine go_iadd C dX6_drop_37 ?_
      refine go_iald C dX6_drop_38 (so_6_3 hr) (by decide) hc5 ?_
      refine go_iast C dX6_drop_39 (so_6_3 hr) (by decide) hc6 ?_
      have hB8 := hB7.set (r + 2) v2 (x := (mset M (r + 1) v2 (M (r + 1) (v2 + 1))) (r + 2) (v2 + 1)) (hB7 (r + 2) (v2 + 1) (Nat.lt_of_lt_of_le (sh_lt (so_6_3 hr)) (by decide)))
      refine go_aload_n C dX6_drop_40 rfl rfl ?_
      refine go_getR (o := 3) (k2 := (r + 3)) C dX6_drop_41 fl_X6_18 hr rfl rfl ?_
      refine go_iload_n C dX6_drop_44 rfl rfl ?_
      refine go_aload_n C dX6_drop_45 rfl rfl ?_
      refine go_getR (o := 3) (k2 := (r + 3)) C dX6_drop_46 fl_X6_18 hr rfl rfl ?_
      refine go_iload_n C dX6_drop_49 rfl rfl ?_
      refine go_iconst C dX6_drop_50 ?_
      refine go_iadd C dX6_drop_51 ?_
      refine go_iald C dX6_drop_52 (so_6_4 hr) (by decide) hc5 ?_
      refine go_iast C dX6_drop_53 (so_6_4 hr) (by decide) hc6 ?_
      have hB9 := hB8.set (r + 3) v2 (x := (mset (mset M (r + 1) v2 (M (r + 1) (v2 + 1))) (r + 2) v2 ((mset M (r + 1) v2 (M (r + 1) (v2 + 1))) (r + 2) (v2 + 1))) (r + 3) (v2 + 1)) (hB8 (r + 3) (v2 + 1) (Nat.lt_of_lt_of_le (sh_lt (so_6_4 hr)) (by decide)))
      refine go_iinc (ls2 := [some (rf G r), none, some (.int (iI (v2 + 1)))]) C dX6_drop_54 rfl (Nat.le_of_ble_eq_true rfl) rfl ?_
      refine go_goto (tgt := 2) C dX6_drop_57 rfl ?_
      exact ih (v2 + 1) (mset (mset (mset M (r + 1) v2 (M (r + 1) (v2 + 1))) (r + 2) v2 ((mset M (r + 1) v2 (M (r + 1) (v2 + 1))) (r + 2) (v2 + 1))) (r + 3) v2 ((mset (mset M (r + 1) v2 (M (r + 1) (v2 + 1))) (r + 2) v2 ((mset M (r + 1) v2 (M (r + 1) (v2 + 1))) (r + 2) (v2 + 1))) (r + 3) (v2 + 1))) hB9 h
set_option maxHeartbeats 4000000 in
theorem ok_X6_drop {G : gC} {l : Launch} (hl : l.stackTraces = false) {F : Nat} {v1 : Int} {M : Mem} (hB : Bd M) {r : Nat} (hr : shT[r]? = some (.inl 6)) {res : Mem} (h : f_X6_drop F r v1 M = some res) : Ok G l 0 0 0 yX6_drop (.code yX6_drop cX6_drop 3 none) [rf G r, .int (iI v1)] M (.inr none) res := by
  refine ok_of (ls := [some (rf G r), some (.int (iI v1)), none]) hl (by decide +kernel) (Nat.le_of_ble_eq_true rfl) ⟨rfl, ⟨rfl, trivial⟩⟩ ?_
  intro X hX C E
  subst hX
  rw [f_X6_drop] at h
  refine go_iload_n C dX6_drop_0 rfl rfl ?_
  refine go_istore_n (ls2 := [some (rf G r), some (.int (iI v1)), some (.int (iI v1))]) C dX6_drop_1 rfl (Nat.le_of_ble_eq_true rfl) rfl ?_
  refine go_weak (ls' := [some (rf G r), none, some (.int (iI v1))]) ⟨rfl, ⟨rfl, trivial⟩⟩ ?_
  exact w_X6_drop_2 hr C E F v1 M hB h
-- IntervalRouter$State.linkValue(II)I
set_option maxHeartbeats 4000000 in
theorem ok_X6_linkValue {G : gC} {l : Launch} (hl : l.stackTraces = false) {v1 : Int} {v2 : Int} {M : Mem} (hB : Bd M) {r : Nat} (hr : shT[r]? = some (.inl 6)) {res : Int} (h : f_X6_linkValue r v1 v2 M = some res) : Ok G l 0 0 0 yX6_linkValue (.code yX6_linkValue cX6_linkValue 3 (some .int)) [rf G r, .int (iI v1), .int (iI v2)] M (.inr (some (.int (iI res)))) M := by
  refine ok_of (ls := [some (rf G r), some (.int (iI v1)), some (.int (iI v2))]) hl (by decide +kernel) (Nat.le_of_ble_eq_true rfl) ⟨rfl, ⟨rfl, ⟨rfl, trivial⟩⟩⟩ ?_
  intro X hX C E
  subst hX
  rw [f_X6_linkValue] at h
  obtain ⟨hp_v2, h⟩ := chk_some h
  refine go_iload_n C dX6_linkValue_0 rfl rfl ?_
  refine go_iconst C dX6_linkValue_1 ?_
  refine go_icmp_ne (tgt := 12) C dX6_linkValue_2 rfl hp_v2 (by decide) (fun hc1 => ?_) (fun hc1 => ?_)
  · replace h := ite_f hc1 h
    refine go_iload_n C dX6_linkValue_12 rfl rfl ?_
    refine go_if_ne (tgt := 25) C dX6_linkValue_13 rfl hp_v2 (fun hc2 => ?_) (fun hc2 => ?_)
    · replace h := ite_f hc2 h
      refine go_aload_n C dX6_linkValue_25 rfl rfl ?_
      refine go_getR (o := 2) (k2 := (r + 2)) C dX6_linkValue_26 fl_X6_15 hr rfl rfl ?_
      refine go_iload_n C dX6_linkValue_29 rfl rfl ?_
      obtain ⟨hc3, h⟩ := chk_some h
      refine go_iald C dX6_linkValue_30 (so_6_3 hr) (by decide) hc3 ?_
      cases h
      exact go_iret C E rfl dX6_linkValue_31 (Nat.le_of_ble_eq_true rfl) (Nat.le_of_ble_eq_true rfl) rfl rfl hB
    · replace h := ite_t hc2 h
      refine go_aload_n C dX6_linkValue_16 rfl rfl ?_
      refine go_getR (o := 1) (k2 := (r + 1)) C dX6_linkValue_17 fl_X6_9 hr rfl rfl ?_
      refine go_iload_n C dX6_linkValue_20 rfl rfl ?_
      obtain ⟨hc4, h⟩ := chk_some h
      refine go_iald C dX6_linkValue_21 (so_6_2 hr) (by decide) hc4 ?_
      refine go_goto (tgt := 31) C dX6_linkValue_22 rfl ?_
      cases h
      exact go_iret C E rfl dX6_linkValue_31 (Nat.le_of_ble_eq_true rfl) (Nat.le_of_ble_eq_true rfl) rfl rfl hB
  · replace h := ite_t hc1 h
    refine go_aload_n C dX6_linkValue_5 rfl rfl ?_
    refine go_getR (o := 3) (k2 := (r + 3)) C dX6_linkValue_6 fl_X6_18 hr rfl rfl ?_
    refine go_iload_n C dX6_linkValue_9 rfl rfl ?_
    obtain ⟨hc5, h⟩ := chk_some h
    refine go_iald C dX6_linkValue_10 (so_6_4 hr) (by decide) hc5 ?_
    cases h
    exact go_iret C E rfl dX6_linkValue_11 (Nat.le_of_ble_eq_true rfl) (Nat.le_of_ble_eq_true rfl) rfl rfl hB
-- IntervalRouter$State.degree(I)I
set_option maxHeartbeats 4000000 in
theorem w_X6_degree_4 {G : gC} {X : gX} {res : Int} {F : Nat} {M : Mem} (hB : Bd M) {r : Nat} (hr : shT[r]? = some (.inl 6)) (C : Cx G X cX6_degree 4 RX6 1 0 0 (some .int) []) (E : Fnl G X 0 0 (.inr (some (.int (iI res)))) M) : ∀ (fu : Nat) (v1 : Int) (v2 : Int) (v3 : Int), f_X6_degree_4 F r fu v1 v2 v3 M = some res → Go G X 4 0 0 4 [some (rf G r), some (.int (iI v1)), some (.int (iI v2)), some (.int (iI v3))] [] M := by
  intro fu
  induction fu with
  | zero => intro v1 v2 v3 h; exact nomatch (show (none : Option (Int)) = some res from h)
  | succ fu ih =>
    intro v1 v2 v3 h
    rw [f_X6_degree_4] at h
    obtain ⟨hp_v3, h⟩ := chk_some h
    refine go_iload_n C dX6_degree_4 rfl rfl ?_
    refine go_aload_n C dX6_degree_5 rfl rfl ?_
    refine go_getI (z := 1) C dX6_degree_6 fl_X6_37 hr rfl rfl ?_
    refine go_icmp_ge (tgt := 30) C dX6_degree_9 rfl hp_v3 (hB r 1 (Nat.lt_of_lt_of_le (sh_lt hr) (by decide))) (fun hc1 => ?_) (fun hc1 => ?_)
    · replace h := ite_t hc1 h
      refine go_iload_n C dX6_degree_30 rfl rfl ?_
      cases h
      exact go_iret C E rfl dX6_degree_31 (Nat.le_of_ble_eq_true rfl) (Nat.le_of_ble_eq_true rfl) rfl rfl hB
    · replace h := ite_f hc1 h
      refine go_aload_n C dX6_degree_12 rfl rfl ?_
      refine go_iload_n C dX6_degree_13 rfl rfl ?_
      refine go_iload_n C dX6_degree_14 rfl rfl ?_
      obtain ⟨q2, h2, h⟩ := ob_some h
      refine go_callV_i C dX6_degree_15 (ok_X6_touches C.hl hB hr h2) mv_X6_52 hr rfl rfl (Nat.le_of_ble_eq_true rfl) ⟨(Nat.le_of_ble_eq_true rfl), (Nat.le_of_ble_eq_true rfl)⟩ ⟨(Nat.le_of_ble_eq_true rfl), (Nat.le_of_ble_eq_true rfl)⟩ (fun hB2 => ?_)
      obtain ⟨hc3, h⟩ := chk_some h
      refine go_if_eq (tgt := 24) C dX6_degree_18 rfl hc3 (fun hc4 => ?_) (fun hc4 => ?_)
      · replace h := ite_t hc4 h
        refine go_iinc (ls2 := [some (rf G r), some (.int (iI v1)), some (.int (iI v2)), some (.int (iI (v3 + 1)))]) C dX6_degree_24 rfl (Nat.le_of_ble_eq_true rfl) rfl ?_
        refine go_goto (tgt := 4) C dX6_degree_27 rfl ?_
        exact ih v1 v2 (v3 + 1) h
      · replace h := ite_f hc4 h
        refine go_iinc (ls2 := [some (rf G r), some (.int (iI v1)), some (.int (iI (v2 + 1))), some (.int (iI v3))]) C dX6_degree_21 rfl (Nat.le_of_ble_eq_true rfl) rfl ?_
        refine go_iinc (ls2 := [some (rf G r), some (.int (iI v1)), some (.int (iI (v2 + 1))), some (.int (iI (v3 + 1)))]) C dX6_degree_24 rfl (Nat.le_of_ble_eq_true rfl) rfl ?_
        refine go_goto (tgt := 4) C dX6_degree_27 rfl ?_
        exact ih v1 (v2 + 1) (v3 + 1) h
set_option maxHeartbeats 4000000 in
theorem ok_X6_degree {G : gC} {l : Launch} (hl : l.stackTraces = false) {F : Nat} {v1 : Int} {M : Mem} (hB : Bd M) {r : Nat} (hr : shT[r]? = some (.inl 6)) {res : Int} (h : f_X6_degree F r v1 M = some res) : Ok G l 1 0 0 yX6_degree (.code yX6_degree cX6_degree 4 (some .int)) [rf G r, .int (iI v1)] M (.inr (some (.int (iI res)))) M := by
  refine ok_of (ls := [some (rf G r), some (.int (iI v1)), none, none]) hl (by decide +kernel) (Nat.le_of_ble_eq_true rfl) ⟨rfl, ⟨rfl, trivial⟩⟩ ?_
  intro X hX C E
  subst hX
  rw [f_X6_degree] at h
  refine go_iconst C dX6_degree_0 ?_
  refine go_istore_n (ls2 := [some (rf G r), some (.int (iI v1)), some (.int (iI 0)), none]) C dX6_degree_1 rfl (Nat.le_of_ble_eq_true rfl) rfl ?_
  refine go_iconst C dX6_degree_2 ?_
  refine go_istore_n (ls2 := [some (rf G r), some (.int (iI v1)), some (.int (iI 0)), some (.int (iI 0))]) C dX6_degree_3 rfl (Nat.le_of_ble_eq_true rfl) rfl ?_
  exact w_X6_degree_4 hB hr C E F v1 0 0 h
-- IntervalRouter$State.holder(I)I
set_option maxHeartbeats 4000000 in
theorem w_X6_holder_2 {G : gC} {X : gX} {res : Int} {F : Nat} {M : Mem} (hB : Bd M) {r : Nat} (hr : shT[r]? = some (.inl 6)) (C : Cx G X cX6_holder 3 RX6 0 0 0 (some .int) []) (E : Fnl G X 0 0 (.inr (some (.int (iI res)))) M) : ∀ (fu : Nat) (v1 : Int) (v2 : Int), f_X6_holder_2 F r fu v1 v2 M = some res → Go G X 3 0 0 2 [some (rf G r), some (.int (iI v1)), some (.int (iI v2))] [] M := by
  intro fu
  induction fu with
  | zero => intro v1 v2 h; exact nomatch (show (none : Option (Int)) = some res from h)
  | succ fu ih =>
    intro v1 v2 h
    rw [f_X6_holder_2] at h
    obtain ⟨⟨hp_v1, hp_v2⟩, h⟩ := chk_some h
    refine go_iload_n C dX6_holder_2 rfl rfl ?_
    refine go_aload_n C dX6_holder_3 rfl rfl ?_
    refine go_getI (z := 0) C dX6_holder_4 fl_X6_33 hr rfl rfl ?_
    refine go_icmp_ge (tgt := 28) C dX6_holder_7 rfl hp_v2 (hB r 0 (Nat.lt_of_lt_of_le (sh_lt hr) (by decide))) (fun hc1 => ?_) (fun hc1 => ?_)
    · replace h := ite_t hc1 h
      refine go_iconst C dX6_holder_28 ?_
      cases h
      exact go_iret C E rfl dX6_holder_29 (Nat.le_of_ble_eq_true rfl) (Nat.le_of_ble_eq_true rfl) rfl rfl hB
    · replace h := ite_f hc1 h
      refine go_aload_n C dX6_holder_10 rfl rfl ?_
      refine go_getR (o := 4) (k2 := (r + 4)) C dX6_holder_11 fl_X6_21 hr rfl rfl ?_
      refine go_iload_n C dX6_holder_14 rfl rfl ?_
      obtain ⟨hc2, h⟩ := chk_some h
      refine go_iald C dX6_holder_15 (so_6_5 hr) (by decide) hc2 ?_
      refine go_iload_n C dX6_holder_16 rfl rfl ?_
      refine go_icmp_ne (tgt := 22) C dX6_holder_17 rfl (hB (r + 4) v2 (Nat.lt_of_lt_of_le (sh_lt (so_6_5 hr)) (by decide))) hp_v1 (fun hc3 => ?_) (fun hc3 => ?_)
      · replace h := ite_f hc3 h
        refine go_iinc (ls2 := [some (rf G r), some (.int (iI v1)), some (.int (iI (v2 + 1)))]) C dX6_holder_22 rfl (Nat.le_of_ble_eq_true rfl) rfl ?_
        refine go_goto (tgt := 2) C dX6_holder_25 rfl ?_
        exact ih v1 (v2 + 1) h
      · replace h := ite_t hc3 h
        refine go_iload_n C dX6_holder_20 rfl rfl ?_
        cases h
        exact go_iret C E rfl dX6_holder_21 (Nat.le_of_ble_eq_true rfl) (Nat.le_of_ble_eq_true rfl) rfl rfl hB
set_option maxHeartbeats 4000000 in
theorem ok_X6_holder {G : gC} {l : Launch} (hl : l.stackTraces = false) {F : Nat} {v1 : Int} {M : Mem} (hB : Bd M) {r : Nat} (hr : shT[r]? = some (.inl 6)) {res : Int} (h : f_X6_holder F r v1 M = some res) : Ok G l 0 0 0 yX6_holder (.code yX6_holder cX6_holder 3 (some .int)) [rf G r, .int (iI v1)] M (.inr (some (.int (iI res)))) M := by
  refine ok_of (ls := [some (rf G r), some (.int (iI v1)), none]) hl (by decide +kernel) (Nat.le_of_ble_eq_true rfl) ⟨rfl, ⟨rfl, trivial⟩⟩ ?_
  intro X hX C E
  subst hX
  rw [f_X6_holder] at h
  refine go_iconst C dX6_holder_0 ?_
  refine go_istore_n (ls2 := [some (rf G r), some (.int (iI v1)), some (.int (iI 0))]) C dX6_holder_1 rfl (Nat.le_of_ble_eq_true rfl) rfl ?_
  exact w_X6_holder_2 hB hr C E F v1 0 h
-- IntervalRouter$State.storeTable(ILIntervalRouter$Ring;)V
set_option maxHeartbeats 4000000 in
theorem w_X6_storeTable_2 {G : gC} {X : gX} {res : Mem} {F : Nat} {r : Nat} (hr : shT[r]? = some (.inl 6)) (C : Cx G X cX6_storeTable 4 RX6 1 0 0 none []) (E : Fnl G X 0 0 (.inr none) res) : ∀ (fu : Nat) (v1 : Int) (v3 : Int) (M : Mem), Bd M → f_X6_storeTable_2 F r fu v1 v3 M = some res → Go G X 4 0 0 2 [some (rf G r), some (.int (iI v1)), some (rf G 44), some (.int (iI v3))] [] M := by
  intro fu
  induction fu with
  | zero => intro v1 v3 M hB h; exact nomatch (show (none : Option (Mem)) = some res from h)
  | succ fu ih =>
    intro v1 v3 M hB h
    rw [f_X6_storeTable_2] at h
    obtain ⟨hp_v3, h⟩ := chk_some h
    refine go_iload_n C dX6_storeTable_2 rfl rfl ?_
    refine go_aload_n C dX6_storeTable_3 rfl rfl ?_
    refine go_getI (z := 0) C dX6_storeTable_4 fl_X6_60 sh_44 rfl rfl ?_
    refine go_icmp_ge (tgt := 42) C dX6_storeTable_7 rfl hp_v3 (hB 44 0 (by decide)) (fun hc1 => ?_) (fun hc1 => ?_)
    · replace h := ite_t hc1 h
      cases h
      exact go_vret C E rfl dX6_storeTable_42 (Nat.le_of_ble_eq_true rfl) (Nat.le_of_ble_eq_true rfl) rfl rfl hB
    · replace h := ite_f hc1 h
      refine go_aload_n C dX6_storeTable_10 rfl rfl ?_
      refine go_getR (o := 5) (k2 := (r + 5)) C dX6_storeTable_11 fl_X6_24 hr rfl rfl ?_
      refine go_iload_n C dX6_storeTable_14 rfl rfl ?_
      refine go_bipush C dX6_storeTable_15 (by decide +kernel) ?_
      refine go_imul C dX6_storeTable_17 ?_
      refine go_iload_n C dX6_storeTable_18 rfl rfl ?_
      refine go_aload_n C dX6_storeTable_19 rfl rfl ?_
      refine go_getR (o := 4) (k2 := (r + 4)) C dX6_storeTable_20 fl_X6_21 hr rfl rfl ?_
      refine go_iload_n C dX6_storeTable_23 rfl rfl ?_
      obtain ⟨hc2, h⟩ := chk_some h
      refine go_iald C dX6_storeTable_24 (so_6_5 hr) (by decide) hc2 ?_
      obtain ⟨q3, h3, h⟩ := ob_some h
      refine go_callS_i C dX6_storeTable_25 (ok_X4_labelAt C.hl hB h3) ms_X6_65 rfl rfl (Nat.le_of_ble_eq_true rfl) ⟨(Nat.le_of_ble_eq_true rfl), (Nat.le_of_ble_eq_true rfl)⟩ ⟨(Nat.le_of_ble_eq_true rfl), (Nat.le_of_ble_eq_true rfl)⟩ (fun hB3 => ?_)
      refine go_iadd C dX6_storeTable_28 ?_
      refine go_aload_n C dX6_storeTable_29 rfl rfl ?_
      refine go_getR (o := 1) (k2 := 45) C dX6_storeTable_30 fl_X6_68 sh_44 rfl rfl ?_
      refine go_iload_n C dX6_storeTable_33 rfl rfl ?_
      obtain ⟨hc4, h⟩ := chk_some h
      refine go_iald C dX6_storeTable_34 sh_45 (by decide) hc4 ?_
      obtain ⟨hc5, h⟩ := chk_some h
      refine go_iast C dX6_storeTable_35 (so_6_6 hr) (by decide) hc5 ?_
      have hB6 := hB3.set (r + 5) ((v1 * 9) + q3) (x := M 45 v3) (hB3 45 v3 (by decide))
      refine go_iinc (ls2 := [some (rf G r), some (.int (iI v1)), some (rf G 44), some (.int (iI (v3 + 1)))]) C dX6_storeTable_36 rfl (Nat.le_of_ble_eq_true rfl) rfl ?_
      refine go_goto (tgt := 2) C dX6_storeTable_39 rfl ?_
      exact ih v1 (v3 + 1) (mset M (r + 5) ((v1 * 9) + q3) (M 45 v3)) hB6 h
set_option maxHeartbeats 4000000 in
theorem ok_X6_storeTable {G : gC} {l : Launch} (hl : l.stackTraces = false) {F : Nat} {v1 : Int} {M : Mem} (hB : Bd M) {r : Nat} (hr : shT[r]? = some (.inl 6)) {res : Mem} (h : f_X6_storeTable F r v1 M = some res) : Ok G l 1 0 0 yX6_storeTable (.code yX6_storeTable cX6_storeTable 4 none) [rf G r, .int (iI v1), rf G 44] M (.inr none) res := by
  refine ok_of (ls := [some (rf G r), some (.int (iI v1)), some (rf G 44), none]) hl (by decide +kernel) (Nat.le_of_ble_eq_true rfl) ⟨rfl, ⟨rfl, ⟨rfl, trivial⟩⟩⟩ ?_
  intro X hX C E
  subst hX
  rw [f_X6_storeTable] at h
  refine go_iconst C dX6_storeTable_0 ?_
  refine go_istore_n (ls2 := [some (rf G r), some (.int (iI v1)), some (rf G 44), some (.int (iI 0))]) C dX6_storeTable_1 rfl (Nat.le_of_ble_eq_true rfl) rfl ?_
  exact w_X6_storeTable_2 hr C E F v1 0 M hB h
-- IntervalRouter$State.setInterval(IIII)I
set_option maxHeartbeats 4000000 in
theorem w_X6_setInterval_30 {G : gC} {X : gX} {res : Int × Mem} {F : Nat} {r : Nat} (hr : shT[r]? = some (.inl 6)) (C : Cx G X cX6_setInterval 10 RX6 0 0 0 (some .int) []) (E : Fnl G X 0 0 (.inr (some (.int (iI res.1)))) res.2) : ∀ (fu : Nat) (v1 : Int) (v2 : Int) (v3 : Int) (v5 : Int) (v6 : Int) (v7 : Int) (M : Mem), Bd M → f_X6_setInterval_30 F r fu v1 v2 v3 v5 v6 v7 M = some res → Go G X 10 0 0 30 [some (rf G r), some (.int (iI v1)), some (.int (iI v2)), some (.int (iI v3)), none, some (.int (iI v5)), some (.int (iI v6)), some (.int (iI v7)), none, none] [] M := by
  intro fu
  induction fu with
  | zero => intro v1 v2 v3 v5 v6 v7 M hB h; exact nomatch (show (none : Option (Int × Mem)) = some res from h)
  | succ fu ih =>
    intro v1 v2 v3 v5 v6 v7 M hB h
    rw [f_X6_setInterval_30] at h
    obtain ⟨⟨hp_v2, hp_v5, hp_v7⟩, h⟩ := chk_some h
    refine go_iload C dX6_setInterval_30 rfl ?_
    refine go_iload C dX6_setInterval_32 rfl ?_
    refine go_icmp_gt (tgt := 114) C dX6_setInterval_34 rfl hp_v7 hp_v5 (fun hc2 => ?_) (fun hc2 => ?_)
    · replace h := ite_t hc2 h
      refine go_iload C dX6_setInterval_114 rfl ?_
      cases h
      exact go_iret C E rfl dX6_setInterval_116 (Nat.le_of_ble_eq_true rfl) (Nat.le_of_ble_eq_true rfl) rfl rfl hB
    · replace h := ite_f hc2 h
      refine go_iload_n C dX6_setInterval_37 rfl rfl ?_
      refine go_iload C dX6_setInterval_38 rfl ?_
      refine go_iadd C dX6_setInterval_40 ?_
      refine go_aload_n C dX6_setInterval_41 rfl rfl ?_
      refine go_getI (z := 0) C dX6_setInterval_42 fl_X6_33 hr rfl rfl ?_
      obtain ⟨hc3, h⟩ := chk_some h
      refine go_icmp_ge (tgt := 55) C dX6_setInterval_45 rfl hc3 (hB r 0 (Nat.lt_of_lt_of_le (sh_lt hr) (by decide))) (fun hc4 => ?_) (fun hc4 => ?_)
      · replace h := ite_t hc4 h
        refine go_iload_n C dX6_setInterval_55 rfl rfl ?_
        refine go_iload C dX6_setInterval_56 rfl ?_
        refine go_iadd C dX6_setInterval_58 ?_
        refine go_aload_n C dX6_setInterval_59 rfl rfl ?_
        refine go_getI (z := 0) C dX6_setInterval_60 fl_X6_33 hr rfl rfl ?_
        refine go_isub C dX6_setInterval_63 ?_
        refine go_istore (ls2 := [some (rf G r), some (.int (iI v1)), some (.int (iI v2)), some (.int (iI v3)), none, some (.int (iI v5)), some (.int (iI v6)), some (.int (iI v7)), some (.int (iI ((v3 + v7) - (M r 0)))), none]) C dX6_setInterval_64 (Nat.le_of_ble_eq_true rfl) rfl ?_
        refine go_iload_n C dX6_setInterval_66 rfl rfl ?_
        refine go_bipush C dX6_setInterval_67 (by decide +kernel) ?_
        refine go_imul C dX6_setInterval_69 ?_
        refine go_iload C dX6_setInterval_70 rfl ?_
        refine go_iadd C dX6_setInterval_72 ?_
        refine go_istore (ls2 := [some (rf G r), some (.int (iI v1)), some (.int (iI v2)), some (.int (iI v3)), none, some (.int (iI v5)), some (.int (iI v6)), some (.int (iI v7)), some (.int (iI ((v3 + v7) - (M r 0)))), some (.int (iI ((v1 * 9) + ((v3 + v7) - (M r 0)))))]) C dX6_setInterval_73 (Nat.le_of_ble_eq_true rfl) rfl ?_
        refine go_iload C dX6_setInterval_75 rfl ?_
        refine go_aload_n C dX6_setInterval_77 rfl rfl ?_
        refine go_getR (o := 4) (k2 := (r + 4)) C dX6_setInterval_78 fl_X6_21 hr rfl rfl ?_
        refine go_iload_n C dX6_setInterval_81 rfl rfl ?_
        obtain ⟨hc5, h⟩ := chk_some h
        refine go_iald C dX6_setInterval_82 (so_6_5 hr) (by decide) hc5 ?_
        obtain ⟨hc6, h⟩ := chk_some h
        refine go_icmp_eq (tgt := 108) C dX6_setInterval_83 rfl hc6 (hB (r + 4) v1 (Nat.lt_of_lt_of_le (sh_lt (so_6_5 hr)) (by decide))) (fun hc7 => ?_) (fun hc7 => ?_)
        · replace h := ite_t hc7 h
          refine go_iinc (ls2 := [some (rf G r), some (.int (iI v1)), some (.int (iI v2)), some (.int (iI v3)), none, some (.int (iI v5)), some (.int (iI v6)), some (.int (iI (v7 + 1))), some (.int (iI ((v3 + v7) - (M r 0)))), some (.int (iI ((v1 * 9) + ((v3 + v7) - (M r 0)))))]) C dX6_setInterval_108 rfl (Nat.le_of_ble_eq_true rfl) rfl ?_
          refine go_goto (tgt := 30) C dX6_setInterval_111 rfl ?_
          refine go_weak (ls' := [some (rf G r), some (.int (iI v1)), some (.int (iI v2)), some (.int (iI v3)), none, some (.int (iI v5)), some (.int (iI v6)), some (.int (iI (v7 + 1))), none, none]) ⟨rfl, ⟨rfl, ⟨rfl, ⟨rfl, ⟨rfl, ⟨rfl, ⟨rfl, trivial⟩⟩⟩⟩⟩⟩⟩ ?_
          exact ih v1 v2 v3 v5 v6 (v7 + 1) M hB h
        · replace h := ite_f hc7 h
          refine go_aload_n C dX6_setInterval_86 rfl rfl ?_
          refine go_getR (o := 5) (k2 := (r + 5)) C dX6_setInterval_87 fl_X6_24 hr rfl rfl ?_
          refine go_iload C dX6_setInterval_90 rfl ?_
          obtain ⟨hc8, h⟩ := chk_some h
          refine go_iald C dX6_setInterval_92 (so_6_6 hr) (by decide) hc8 ?_
          refine go_iload_n C dX6_setInterval_93 rfl rfl ?_
          refine go_icmp_eq (tgt := 108) C dX6_setInterval_94 rfl (hB (r + 5) ((v1 * 9) + ((v3 + v7) - (M r 0))) (Nat.lt_of_lt_of_le (sh_lt (so_6_6 hr)) (by decide))) hp_v2 (fun hc9 => ?_) (fun hc9 => ?_)
          · replace h := ite_t hc9 h
            refine go_iinc (ls2 := [some (rf G r), some (.int (iI v1)), some (.int (iI v2)), some (.int (iI v3)), none, some (.int (iI v5)), some (.int (iI v6)), some (.int (iI (v7 + 1))), some (.int (iI ((v3 + v7) - (M r 0)))), some (.int (iI ((v1 * 9) + ((v3 + v7) - (M r 0)))))]) C dX6_setInterval_108 rfl (Nat.le_of_ble_eq_true rfl) rfl ?_
            refine go_goto (tgt := 30) C dX6_setInterval_111 rfl ?_
            refine go_weak (ls' := [some (rf G r), some (.int (iI v1)), some (.int (iI v2)), some (.int (iI v3)), none, some (.int (iI v5)), some (.int (iI v6)), some (.int (iI (v7 + 1))), none, none]) ⟨rfl, ⟨rfl, ⟨rfl, ⟨rfl, ⟨rfl, ⟨rfl, ⟨rfl, trivial⟩⟩⟩⟩⟩⟩⟩ ?_
            exact ih v1 v2 v3 v5 v6 (v7 + 1) M hB h
          · replace h := ite_f hc9 h
            refine go_aload_n C dX6_setInterval_97 rfl rfl ?_
            refine go_getR (o := 5) (k2 := (r + 5)) C dX6_setInterval_98 fl_X6_24 hr rfl rfl ?_
            refine go_iload C dX6_setInterval_101 rfl ?_
            refine go_iload_n C dX6_setInterval_103 rfl rfl ?_
            refine go_iast C dX6_setInterval_104 (so_6_6 hr) (by decide) hc8 ?_
            have hB10 := hB.set (r + 5) ((v1 * 9) + ((v3 + v7) - (M r 0))) (x := v2) hp_v2
            refine go_iinc (ls2 := [some (rf G r), some (.int (iI v1)), some (.int (iI v2)), some (.int (iI v3)), none, some (.int (iI v5)), some (.int (iI (v6 + 1))), some (.int (iI v7)), some (.int (iI ((v3 + v7) - (M r 0)))), some (.int (iI ((v1 * 9) + ((v3 + v7) - (M r 0)))))]) C dX6_setInterval_105 rfl (Nat.le_of_ble_eq_true rfl) rfl ?_
            refine go_iinc (ls2 := [some (rf G r), some (.int (iI v1)), some (.int (iI v2)), some (.int (iI v3)), none, some (.int (iI v5)), some (.int (iI (v6 + 1))), some (.int (iI (v7 + 1))), some (.int (iI ((v3 + v7) - (M r 0)))), some (.int (iI ((v1 * 9) + ((v3 + v7) - (M r 0)))))]) C dX6_setInterval_108 rfl (Nat.le_of_ble_eq_true rfl) rfl ?_
            refine go_goto (tgt := 30) C dX6_setInterval_111 rfl ?_
            refine go_weak (ls' := [some (rf G r), some (.int (iI v1)), some (.int (iI v2)), some (.int (iI v3)), none, some (.int (iI v5)), some (.int (iI (v6 + 1))), some (.int (iI (v7 + 1))), none, none]) ⟨rfl, ⟨rfl, ⟨rfl, ⟨rfl, ⟨rfl, ⟨rfl, ⟨rfl, trivial⟩⟩⟩⟩⟩⟩⟩ ?_
            exact ih v1 v2 v3 v5 (v6 + 1) (v7 + 1) (mset M (r + 5) ((v1 * 9) + ((v3 + v7) - (M r 0))) v2) hB10 h
      · replace h := ite_f hc4 h
        refine go_iload_n C dX6_setInterval_48 rfl rfl ?_
        refine go_iload C dX6_setInterval_49 rfl ?_
        refine go_iadd C dX6_setInterval_51 ?_
        refine go_goto (tgt := 64) C dX6_setInterval_52 rfl ?_
        refine go_istore (ls2 := [some (rf G r), some (.int (iI v1)), some (.int (iI v2)), some (.int (iI v3)), none, some (.int (iI v5)), some (.int (iI v6)), some (.int (iI v7)), some (.int (iI (v3 + v7))), none]) C dX6_setInterval_64 (Nat.le_of_ble_eq_true rfl) rfl ?_
        refine go_iload_n C dX6_setInterval_66 rfl rfl ?_
        refine go_bipush C dX6_setInterval_67 (by decide +kernel) ?_
        refine go_imul C dX6_setInterval_69 ?_
        refine go_iload C dX6_setInterval_70 rfl ?_
        refine go_iadd C dX6_setInterval_72 ?_
        refine go_istore (ls2 := [some (rf G r), some (.int (iI v1)), some (.int (iI v2)), some (.int (iI v3)), none, some (.int (iI v5)), some (.int (iI v6)), some (.int (iI v7)), some (.int (iI (v3 + v7))), some (.int (iI ((v1 * 9) + (v3 + v7))))]) C dX6_setInterval_73 (Nat.le_of_ble_eq_true rfl) rfl ?_
        refine go_iload C dX6_setInterval_75 rfl ?_
        refine go_aload_n C dX6_setInterval_77 rfl rfl ?_
        refine go_getR (o := 4) (k2 := (r + 4)) C dX6_setInterval_78 fl_X6_21 hr rfl rfl ?_
        refine go_iload_n C dX6_setInterval_81 rfl rfl ?_
        obtain ⟨hc11, h⟩ := chk_some h
        refine go_iald C dX6_setInterval_82 (so_6_5 hr) (by decide) hc11 ?_
        refine go_icmp_eq (tgt := 108) C dX6_setInterval_83 rfl hc3 (hB (r + 4) v1 (Nat.lt_of_lt_of_le (sh_lt (so_6_5 hr)) (by decide))) (fun hc12 => ?_) (fun hc12 => ?_)
        · replace h := ite_t hc12 h
          refine go_iinc (ls2 := [some (rf G r), some (.int (iI v1)), some (.int (iI v2)), some (.int (iI v3)), none, some (.int (iI v5)), some (.int (iI v6)), some (.int (iI (v7 + 1))), some (.int (iI (v3 + v7))), some (.int (iI ((v1 * 9) + (v3 + v7))))]) C dX6_setInterval_108 rfl (Nat.le_of_ble_eq_true rfl) rfl ?_
          refine go_goto (tgt := 30) C dX6_setInterval_111 rfl ?_
          refine go_weak (ls' := [some (rf G r), some (.int (iI v1)), some (.int (iI v2)), some (.int (iI v3)), none, some (.int (iI v5)), some (.int (iI v6)), some (.int (iI (v7 + 1))), none, none]) ⟨rfl, ⟨rfl, ⟨rfl, ⟨rfl, ⟨rfl, ⟨rfl, ⟨rfl, trivial⟩⟩⟩⟩⟩⟩⟩ ?_
          exact ih v1 v2 v3 v5 v6 (v7 + 1) M hB h
        · replace h := ite_f hc12 h
          refine go_aload_n C dX6_setInterval_86 rfl rfl ?_
          refine go_getR (o := 5) (k2 := (r + 5)) C dX6_setInterval_87 fl_X6_24 hr rfl rfl ?_
          refine go_iload C dX6_setInterval_90 rfl ?_
          obtain ⟨hc13, h⟩ := chk_some h
          refine go_iald C dX6_setInterval_92 (so_6_6 hr) (by decide) hc13 ?_
          refine go_iload_n C dX6_setInterval_93 rfl rfl ?_
          refine go_icmp_eq (tgt := 108) C dX6_setInterval_94 rfl (hB (r + 5) ((v1 * 9) + (v3 + v7)) (Nat.lt_of_lt_of_le (sh_lt (so_6_6 hr)) (by decide))) hp_v2 (fun hc14 => ?_) (fun hc14 => ?_)
          · replace h := ite_t hc14 h
            refine go_iinc (ls2 := [some (rf G r), some (.int (iI v1)), some (.int (iI v2)), some (.int (iI v3)), none, some (.int (iI v5)), some (.int (iI v6)), some (.int (iI (v7 + 1))), some (.int (iI (v3 + v7))), some (.int (iI ((v1 * 9) + (v3 + v7))))]) C dX6_setInterval_108 rfl (Nat.le_of_ble_eq_true rfl) rfl ?_
            refine go_goto (tgt := 30) C dX6_setInterval_111 rfl ?_
            refine go_weak (ls' := [some (rf G r), some (.int (iI v1)), some (.int (iI v2)), some (.int (iI v3)), none, some (.int (iI v5)), some (.int (iI v6)), some (.int (iI (v7 + 1))), none, none]) ⟨rfl, ⟨rfl, ⟨rfl, ⟨rfl, ⟨rfl, ⟨rfl, ⟨rfl, trivial⟩⟩⟩⟩⟩⟩⟩ ?_
            exact ih v1 v2 v3 v5 v6 (v7 + 1) M hB h
          · replace h := ite_f hc14 h
            refine go_aload_n C dX6_setInterval_97 rfl rfl ?_
            refine go_getR (o := 5) (k2 := (r + 5)) C dX6_setInterval_98 fl_X6_24 hr rfl rfl ?_
            refine go_iload C dX6_setInterval_101 rfl ?_
            refine go_iload_n C dX6_setInterval_103 rfl rfl ?_
            refine go_iast C dX6_setInterval_104 (so_6_6 hr) (by decide) hc13 ?_
            have hB15 := hB.set (r + 5) ((v1 * 9) + (v3 + v7)) (x := v2) hp_v2
            refine go_iinc (ls2 := [some (rf G r), some (.int (iI v1)), some (.int (iI v2)), some (.int (iI v3)), none, some (.int (iI v5)), some (.int (iI (v6 + 1))), some (.int (iI v7)), some (.int (iI (v3 + v7))), some (.int (iI ((v1 * 9) + (v3 + v7))))]) C dX6_setInterval_105 rfl (Nat.le_of_ble_eq_true rfl) rfl ?_
            refine go_iinc (ls2 := [some (rf G r), some (.int (iI v1)), some (.int (iI v2)), some (.int (iI v3)), none, some (.int (iI v5)), some (.int (iI (v6 + 1))), some (.int (iI (v7 + 1))), some (.int (iI (v3 + v7))), some (.int (iI ((v1 * 9) + (v3 + v7))))]) C dX6_setInterval_108 rfl (Nat.le_of_ble_eq_true rfl) rfl ?_
            refine go_goto (tgt := 30) C dX6_setInterval_111 rfl ?_
            refine go_weak (ls' := [some (rf G r), some (.int (iI v1)), some (.int (iI v2)), some (.int (iI v3)), none, some (.int (iI v5)), some (.int (iI (v6 + 1))), some (.int (iI (v7 + 1))), none, none]) ⟨rfl, ⟨rfl, ⟨rfl, ⟨rfl, ⟨rfl, ⟨rfl, ⟨rfl, trivial⟩⟩⟩⟩⟩⟩⟩ ?_
            exact ih v1 v2 v3 v5 (v6 + 1) (v7 + 1) (mset M (r + 5) ((v1 * 9) + (v3 + v7)) v2) hB15 h
set_option maxHeartbeats 4000000 in
theorem ok_X6_setInterval {G : gC} {l : Launch} (hl : l.stackTraces = false) {F : Nat} {v1 : Int} {v2 : Int} {v3 : Int} {v4 : Int} {M : Mem} (hB : Bd M) {r : Nat} (hr : shT[r]? = some (.inl 6)) {res : Int × Mem} (h : f_X6_setInterval F r v1 v2 v3 v4 M = some res) : Ok G l 0 0 0 yX6_setInterval (.code yX6_setInterval cX6_setInterval 10 (some .int)) [rf G r, .int (iI v1), .int (iI v2), .int (iI v3), .int (iI v4)] M (.inr (some (.int (iI res.1)))) res.2 := by
  refine ok_of (ls := [some (rf G r), some (.int (iI v1)), some (.int (iI v2)), some (.int (iI v3)), some (.int (iI v4)), none, none, none, none, none]) hl (by decide +kernel) (Nat.le_of_ble_eq_true rfl) ⟨rfl, ⟨rfl, ⟨rfl, ⟨rfl, ⟨rfl, trivial⟩⟩⟩⟩⟩ ?_
  intro X hX C E
  subst hX
  rw [f_X6_setInterval] at h
  obtain ⟨⟨hp_v3, hp_v4⟩, h⟩ := chk_some h
  refine go_iload C dX6_setInterval_0 rfl ?_
  refine go_iload_n C dX6_setInterval_2 rfl rfl ?_
  refine go_icmp_lt (tgt := 13) C dX6_setInterval_3 rfl hp_v4 hp_v3 (fun hc1 => ?_) (fun hc1 => ?_)
  · replace h := ite_t hc1 h
    refine go_iload C dX6_setInterval_13 rfl ?_
    refine go_iload_n C dX6_setInterval_15 rfl rfl ?_
    refine go_isub C dX6_setInterval_16 ?_
    refine go_aload_n C dX6_setInterval_17 rfl rfl ?_
    refine go_getI (z := 0) C dX6_setInterval_18 fl_X6_33 hr rfl rfl ?_
    refine go_iadd C dX6_setInterval_21 ?_
    refine go_istore (ls2 := [some (rf G r), some (.int (iI v1)), some (.int (iI v2)), some (.int (iI v3)), some (.int (iI v4)), some (.int (iI ((v4 - v3) + (M r 0)))), none, none, none, none]) C dX6_setInterval_22 (Nat.le_of_ble_eq_true rfl) rfl ?_
    refine go_iconst C dX6_setInterval_24 ?_
    refine go_istore (ls2 := [some (rf G r), some (.int (iI v1)), some (.int (iI v2)), some (.int (iI v3)), some (.int (iI v4)), some (.int (iI ((v4 - v3) + (M r 0)))), some (.int (iI 0)), none, none, none]) C dX6_setInterval_25 (Nat.le_of_ble_eq_true rfl) rfl ?_
    refine go_iconst C dX6_setInterval_27 ?_
    refine go_istore (ls2 := [some (rf G r), some (.int (iI v1)), some (.int (iI v2)), some (.int (iI v3)), some (.int (iI v4)), some (.int (iI ((v4 - v3) + (M r 0)))), some (.int (iI 0)), some (.int (iI 0)), none, none]) C dX6_setInterval_28 (Nat.le_of_ble_eq_true rfl) rfl ?_
    refine go_weak (ls' := [some (rf G r), some (.int (iI v1)), some (.int (iI v2)), some (.int (iI v3)), none, some (.int (iI ((v4 - v3) + (M r 0)))), some (.int (iI 0)), some (.int (iI 0)), none, none]) ⟨rfl, ⟨rfl, ⟨rfl, ⟨rfl, ⟨rfl, ⟨rfl, ⟨rfl, trivial⟩⟩⟩⟩⟩⟩⟩ ?_
    exact w_X6_setInterval_30 hr C E F v1 v2 v3 ((v4 - v3) + (M r 0)) 0 0 M hB h
  · replace h := ite_f hc1 h
    refine go_iload C dX6_setInterval_6 rfl ?_
    refine go_iload_n C dX6_setInterval_8 rfl rfl ?_
    refine go_isub C dX6_setInterval_9 ?_
    refine go_goto (tgt := 22) C dX6_setInterval_10 rfl ?_
    refine go_istore (ls2 := [some (rf G r), some (.int (iI v1)), some (.int (iI v2)), some (.int (iI v3)), some (.int (iI v4)), some (.int (iI (v4 - v3))), none, none, none, none]) C dX6_setInterval_22 (Nat.le_of_ble_eq_true rfl) rfl ?_
    refine go_iconst C dX6_setInterval_24 ?_
    refine go_istore (ls2 := [some (rf G r), some (.int (iI v1)), some (.int (iI v2)), some (.int (iI v3)), some (.int (iI v4)), some (.int (iI (v4 - v3))), some (.int (iI 0)), none, none, none]) C dX6_setInterval_25 (Nat.le_of_ble_eq_true rfl) rfl ?_
    refine go_iconst C dX6_setInterval_27 ?_
    refine go_istore (ls2 := [some (rf G r), some (.int (iI v1)), some (.int (iI v2)), some (.int (iI v3)), some (.int (iI v4)), some (.int (iI (v4 - v3))), some (.int (iI 0)), some (.int (iI 0)), none, none]) C dX6_setInterval_28 (Nat.le_of_ble_eq_true rfl) rfl ?_
    refine go_weak (ls' := [some (rf G r), some (.int (iI v1)), some (.int (iI v2)), some (.int (iI v3)), none, some (.int (iI (v4 - v3))), some (.int (iI 0)), some (.int (iI 0)), none, none]) ⟨rfl, ⟨rfl, ⟨rfl, ⟨rfl, ⟨rfl, ⟨rfl, ⟨rfl, trivial⟩⟩⟩⟩⟩⟩⟩ ?_
    exact w_X6_setInterval_30 hr C E F v1 v2 v3 (v4 - v3) 0 0 M hB h
-- IntervalRouter$State.mixInto(J)J
set_option maxHeartbeats 4000000 in
theorem w_X6_mixInto_121 {G : gC} {X : gX} {res : Int} {F : Nat} {M : Mem} (hB : Bd M) {r : Nat} (hr : shT[r]? = some (.inl 6)) (C : Cx G X cX6_mixInto 7 RX6 1 0 0 (some .long) []) (E : Fnl G X 0 0 (.inr (some (.long (lI res)))) M) {k109 : Int → Int → Mem → Option (Int)} (hk109 : ∀ (v3 : Int) (v5 : Int), k109 v3 v5 M = some res → Go G X 7 0 0 109 [some (rf G r), none, none, some (.long (lI v3)), none, some (.int (iI v5)), none] [] M) : ∀ (fu : Nat) (v3 : Int) (v5 : Int) (v6 : Int), f_X6_mixInto_121 F r k109 fu v3 v5 v6 M = some res → Go G X 7 0 0 121 [some (rf G r), none, none, some (.long (lI v3)), none, some (.int (iI v5)), some (.int (iI v6))] [] M := by
  intro fu
  induction fu with
  | zero => intro v3 v5 v6 h; exact nomatch (show (none : Option (Int)) = some res from h)
  | succ fu ih =>
    intro v3 v5 v6 h
    rw [f_X6_mixInto_121] at h
    obtain ⟨hp_v6, h⟩ := chk_some h
    refine go_iload C dX6_mixInto_121 rfl ?_
    refine go_aload_n C dX6_mixInto_123 rfl rfl ?_
    refine go_getI (z := 0) C dX6_mixInto_124 fl_X6_33 hr rfl rfl ?_
    refine go_icmp_ge (tgt := 152) C dX6_mixInto_127 rfl hp_v6 (hB r 0 (Nat.lt_of_lt_of_le (sh_lt hr) (by decide))) (fun hc4 => ?_) (fun hc4 => ?_)
    · replace h := ite_t hc4 h
      refine go_iinc (ls2 := [some (rf G r), none, none, some (.long (lI v3)), none, some (.int (iI (v5 + 1))), some (.int (iI v6))]) C dX6_mixInto_152 rfl (Nat.le_of_ble_eq_true rfl) rfl ?_
      refine go_goto (tgt := 109) C dX6_mixInto_155 rfl ?_
      refine go_weak (ls' := [some (rf G r), none, none, some (.long (lI v3)), none, some (.int (iI (v5 + 1))), none]) ⟨rfl, ⟨rfl, ⟨rfl, trivial⟩⟩⟩ ?_
      exact hk109 v3 (v5 + 1) h
    · replace h := ite_f hc4 h
      refine go_ldc2 (v := 31) C dX6_mixInto_130 gt_582 ?_
      refine go_lload_n C dX6_mixInto_133 rfl rfl ?_
      refine go_lmul C dX6_mixInto_134 ?_
      refine go_aload_n C dX6_mixInto_135 rfl rfl ?_
      refine go_iload C dX6_mixInto_136 rfl ?_
      refine go_iload C dX6_mixInto_138 rfl ?_
      obtain ⟨q5, h5, h⟩ := ob_some h
      refine go_callV_i C dX6_mixInto_140 (ok_X6_entryAt C.hl hB hr h5) mv_X6_74 hr rfl rfl (Nat.le_of_ble_eq_true rfl) ⟨(Nat.le_of_ble_eq_true rfl), (Nat.le_of_ble_eq_true rfl)⟩ ⟨(Nat.le_of_ble_eq_true rfl), (Nat.le_of_ble_eq_true rfl)⟩ (fun hB5 => ?_)
      obtain ⟨hc6, h⟩ := chk_some h
      refine go_i2l C dX6_mixInto_143 hc6 ?_
      refine go_ladd C dX6_mixInto_144 ?_
      refine go_lstore_n (ls2 := [some (rf G r), none, none, some (.long (lI ((31 * v3) + q5))), none, some (.int (iI v5)), some (.int (iI v6))]) C dX6_mixInto_145 rfl (Nat.le_of_ble_eq_true rfl) rfl ?_
      refine go_iinc (ls2 := [some (rf G r), none, none, some (.long (lI ((31 * v3) + q5))), none, some (.int (iI v5)), some (.int (iI (v6 + 1)))]) C dX6_mixInto_146 rfl (Nat.le_of_ble_eq_true rfl) rfl ?_
      refine go_goto (tgt := 121) C dX6_mixInto_149 rfl ?_
      exact ih ((31 * v3) + q5) v5 (v6 + 1) h
set_option maxHeartbeats 4000000 in
theorem w_X6_mixInto_109 {G : gC} {X : gX} {res : Int} {F : Nat} {M : Mem} (hB : Bd M) {r : Nat} (hr : shT[r]? = some (.inl 6)) (C : Cx G X cX6_mixInto 7 RX6 1 0 0 (some .long) []) (E : Fnl G X 0 0 (.inr (some (.long (lI res)))) M) : ∀ (fu : Nat) (v3 : Int) (v5 : Int), f_X6_mixInto_109 F r fu v3 v5 M = some res → Go G X 7 0 0 109 [some (rf G r), none, none, some (.long (lI v3)), none, some (.int (iI v5)), none] [] M := by
  intro fu
  induction fu with
  | zero => intro v3 v5 h; exact nomatch (show (none : Option (Int)) = some res from h)
  | succ fu ih =>
    intro v3 v5 h
    rw [f_X6_mixInto_109] at h
    obtain ⟨hp_v5, h⟩ := chk_some h
    refine go_iload C dX6_mixInto_109 rfl ?_
    refine go_aload_n C dX6_mixInto_111 rfl rfl ?_
    refine go_getI (z := 0) C dX6_mixInto_112 fl_X6_33 hr rfl rfl ?_
    refine go_icmp_ge (tgt := 158) C dX6_mixInto_115 rfl hp_v5 (hB r 0 (Nat.lt_of_lt_of_le (sh_lt hr) (by decide))) (fun hc3 => ?_) (fun hc3 => ?_)
    · replace h := ite_t hc3 h
      refine go_lload_n C dX6_mixInto_158 rfl rfl ?_
      cases h
      exact go_lret C E rfl dX6_mixInto_159 (Nat.le_of_ble_eq_true rfl) (Nat.le_of_ble_eq_true rfl) rfl rfl hB
    · replace h := ite_f hc3 h
      refine go_iconst C dX6_mixInto_118 ?_
      refine go_istore (ls2 := [some (rf G r), none, none, some (.long (lI v3)), none, some (.int (iI v5)), some (.int (iI 0))]) C dX6_mixInto_119 (Nat.le_of_ble_eq_true rfl) rfl ?_
      exact w_X6_mixInto_121 hB hr C E ih F v3 v5 0 h
set_option maxHeartbeats 4000000 in
theorem w_X6_mixInto_76 {G : gC} {X : gX} {res : Int} {F : Nat} {M : Mem} (hB : Bd M) {r : Nat} (hr : shT[r]? = some (.inl 6)) (C : Cx G X cX6_mixInto 7 RX6 1 0 0 (some .long) []) (E : Fnl G X 0 0 (.inr (some (.long (lI res)))) M) : ∀ (fu : Nat) (v3 : Int) (v5 : Int), f_X6_mixInto_76 F r fu v3 v5 M = some res → Go G X 7 0 0 76 [some (rf G r), none, none, some (.long (lI v3)), none, some (.int (iI v5)), none] [] M := by
  intro fu
  induction fu with
  | zero => intro v3 v5 h; exact nomatch (show (none : Option (Int)) = some res from h)
  | succ fu ih =>
    intro v3 v5 h
    rw [f_X6_mixInto_76] at h
    obtain ⟨hp_v5, h⟩ := chk_some h
    refine go_iload C dX6_mixInto_76 rfl ?_
    refine go_aload_n C dX6_mixInto_78 rfl rfl ?_
    refine go_getI (z := 0) C dX6_mixInto_79 fl_X6_33 hr rfl rfl ?_
    refine go_icmp_ge (tgt := 106) C dX6_mixInto_82 rfl hp_v5 (hB r 0 (Nat.lt_of_lt_of_le (sh_lt hr) (by decide))) (fun hc2 => ?_) (fun hc2 => ?_)
    · replace h := ite_t hc2 h
      refine go_iconst C dX6_mixInto_106 ?_
      refine go_istore (ls2 := [some (rf G r), none, none, some (.long (lI v3)), none, some (.int (iI 0)), none]) C dX6_mixInto_107 (Nat.le_of_ble_eq_true rfl) rfl ?_
      exact w_X6_mixInto_109 hB hr C E F v3 0 h
    · replace h := ite_f hc2 h
      refine go_ldc2 (v := 31) C dX6_mixInto_85 gt_582 ?_
      refine go_lload_n C dX6_mixInto_88 rfl rfl ?_
      refine go_lmul C dX6_mixInto_89 ?_
      refine go_aload_n C dX6_mixInto_90 rfl rfl ?_
      refine go_getR (o := 4) (k2 := (r + 4)) C dX6_mixInto_91 fl_X6_21 hr rfl rfl ?_
      refine go_iload C dX6_mixInto_94 rfl ?_
      obtain ⟨hc7, h⟩ := chk_some h
      refine go_iald C dX6_mixInto_96 (so_6_5 hr) (by decide) hc7 ?_
      refine go_i2l C dX6_mixInto_97 (hB (r + 4) v5 (Nat.lt_of_lt_of_le (sh_lt (so_6_5 hr)) (by decide))) ?_
      refine go_ladd C dX6_mixInto_98 ?_
      refine go_lstore_n (ls2 := [some (rf G r), none, none, some (.long (lI ((31 * v3) + (M (r + 4) v5)))), none, some (.int (iI v5)), none]) C dX6_mixInto_99 rfl (Nat.le_of_ble_eq_true rfl) rfl ?_
      refine go_iinc (ls2 := [some (rf G r), none, none, some (.long (lI ((31 * v3) + (M (r + 4) v5)))), none, some (.int (iI (v5 + 1))), none]) C dX6_mixInto_100 rfl (Nat.le_of_ble_eq_true rfl) rfl ?_
      refine go_goto (tgt := 76) C dX6_mixInto_103 rfl ?_
      exact ih ((31 * v3) + (M (r + 4) v5)) (v5 + 1) h
set_option maxHeartbeats 4000000 in
theorem w_X6_mixInto_39 {G : gC} {X : gX} {res : Int} {F : Nat} {M : Mem} (hB : Bd M) {r : Nat} (hr : shT[r]? = some (.inl 6)) (C : Cx G X cX6_mixInto 7 RX6 1 0 0 (some .long) []) (E : Fnl G X 0 0 (.inr (some (.long (lI res)))) M) {k27 : Int → Int → Mem → Option (Int)} (hk27 : ∀ (v3 : Int) (v5 : Int), k27 v3 v5 M = some res → Go G X 7 0 0 27 [some (rf G r), none, none, some (.long (lI v3)), none, some (.int (iI v5)), none] [] M) : ∀ (fu : Nat) (v3 : Int) (v5 : Int) (v6 : Int), f_X6_mixInto_39 F r k27 fu v3 v5 v6 M = some res → Go G X 7 0 0 39 [some (rf G r), none, none, some (.long (lI v3)), none, some (.int (iI v5)), some (.int (iI v6))] [] M := by
  intro fu
  induction fu with
  | zero => intro v3 v5 v6 h; exact nomatch (show (none : Option (Int)) = some res from h)
  | succ fu ih =>
    intro v3 v5 v6 h
    rw [f_X6_mixInto_39] at h
    obtain ⟨hp_v6, h⟩ := chk_some h
    refine go_iload C dX6_mixInto_39 rfl ?_
    refine go_iconst C dX6_mixInto_41 ?_
    refine go_icmp_gt (tgt := 67) C dX6_mixInto_42 rfl hp_v6 (by decide) (fun hc8 => ?_) (fun hc8 => ?_)
    · replace h := ite_t hc8 h
      refine go_iinc (ls2 := [some (rf G r), none, none, some (.long (lI v3)), none, some (.int (iI (v5 + 1))), some (.int (iI v6))]) C dX6_mixInto_67 rfl (Nat.le_of_ble_eq_true rfl) rfl ?_
      refine go_goto (tgt := 27) C dX6_mixInto_70 rfl ?_
      refine go_weak (ls' := [some (rf G r), none, none, some (.long (lI v3)), none, some (.int (iI (v5 + 1))), none]) ⟨rfl, ⟨rfl, ⟨rfl, trivial⟩⟩⟩ ?_
      exact hk27 v3 (v5 + 1) h
    · replace h := ite_f hc8 h
      refine go_ldc2 (v := 31) C dX6_mixInto_45 gt_582 ?_
      refine go_lload_n C dX6_mixInto_48 rfl rfl ?_
      refine go_lmul C dX6_mixInto_49 ?_
      refine go_aload_n C dX6_mixInto_50 rfl rfl ?_
      refine go_iload C dX6_mixInto_51 rfl ?_
      refine go_iload C dX6_mixInto_53 rfl ?_
      obtain ⟨q9, h9, h⟩ := ob_some h
      refine go_callV_i C dX6_mixInto_55 (ok_X6_linkValue C.hl hB hr h9) mv_X6_71 hr rfl rfl (Nat.le_of_ble_eq_true rfl) ⟨(Nat.le_of_ble_eq_true rfl), (Nat.le_of_ble_eq_true rfl)⟩ ⟨(Nat.le_of_ble_eq_true rfl), (Nat.le_of_ble_eq_true rfl)⟩ (fun hB9 => ?_)
      obtain ⟨hc10, h⟩ := chk_some h
      refine go_i2l C dX6_mixInto_58 hc10 ?_
      refine go_ladd C dX6_mixInto_59 ?_
      refine go_lstore_n (ls2 := [some (rf G r), none, none, some (.long (lI ((31 * v3) + q9))), none, some (.int (iI v5)), some (.int (iI v6))]) C dX6_mixInto_60 rfl (Nat.le_of_ble_eq_true rfl) rfl ?_
      refine go_iinc (ls2 := [some (rf G r), none, none, some (.long (lI ((31 * v3) + q9))), none, some (.int (iI v5)), some (.int (iI (v6 + 1)))]) C dX6_mixInto_61 rfl (Nat.le_of_ble_eq_true rfl) rfl ?_
      refine go_goto (tgt := 39) C dX6_mixInto_64 rfl ?_
      exact ih ((31 * v3) + q9) v5 (v6 + 1) h
set_option maxHeartbeats 4000000 in
theorem w_X6_mixInto_27 {G : gC} {X : gX} {res : Int} {F : Nat} {M : Mem} (hB : Bd M) {r : Nat} (hr : shT[r]? = some (.inl 6)) (C : Cx G X cX6_mixInto 7 RX6 1 0 0 (some .long) []) (E : Fnl G X 0 0 (.inr (some (.long (lI res)))) M) : ∀ (fu : Nat) (v3 : Int) (v5 : Int), f_X6_mixInto_27 F r fu v3 v5 M = some res → Go G X 7 0 0 27 [some (rf G r), none, none, some (.long (lI v3)), none, some (.int (iI v5)), none] [] M := by
  intro fu
  induction fu with
  | zero => intro v3 v5 h; exact nomatch (show (none : Option (Int)) = some res from h)
  | succ fu ih =>
    intro v3 v5 h
    rw [f_X6_mixInto_27] at h
    obtain ⟨hp_v5, h⟩ := chk_some h
    refine go_iload C dX6_mixInto_27 rfl ?_
    refine go_aload_n C dX6_mixInto_29 rfl rfl ?_
    refine go_getI (z := 1) C dX6_mixInto_30 fl_X6_37 hr rfl rfl ?_
    refine go_icmp_ge (tgt := 73) C dX6_mixInto_33 rfl hp_v5 (hB r 1 (Nat.lt_of_lt_of_le (sh_lt hr) (by decide))) (fun hc1 => ?_) (fun hc1 => ?_)
    · replace h := ite_t hc1 h
      refine go_iconst C dX6_mixInto_73 ?_
      refine go_istore (ls2 := [some (rf G r), none, none, some (.long (lI v3)), none, some (.int (iI 0)), none]) C dX6_mixInto_74 (Nat.le_of_ble_eq_true rfl) rfl ?_
      exact w_X6_mixInto_76 hB hr C E F v3 0 h
    · replace h := ite_f hc1 h
      refine go_iconst C dX6_mixInto_36 ?_
      refine go_istore (ls2 := [some (rf G r), none, none, some (.long (lI v3)), none, some (.int (iI v5)), some (.int (iI 0))]) C dX6_mixInto_37 (Nat.le_of_ble_eq_true rfl) rfl ?_
      exact w_X6_mixInto_39 hB hr C E ih F v3 v5 0 h
set_option maxHeartbeats 4000000 in
theorem ok_X6_mixInto {G : gC} {l : Launch} (hl : l.stackTraces = false) {F : Nat} {v1 : Int} {M : Mem} (hB : Bd M) {r : Nat} (hr : shT[r]? = some (.inl 6)) {res : Int} (h : f_X6_mixInto F r v1 M = some res) : Ok G l 1 0 0 yX6_mixInto (.code yX6_mixInto cX6_mixInto 7 (some .long)) [rf G r, .long (lI v1)] M (.inr (some (.long (lI res)))) M := by
  refine ok_of (ls := [some (rf G r), some (.long (lI v1)), none, none, none, none, none]) hl (by decide +kernel) (Nat.le_of_ble_eq_true rfl) ⟨rfl, ⟨rfl, trivial⟩⟩ ?_
  intro X hX C E
  subst hX
  rw [f_X6_mixInto] at h
  refine go_ldc2 (v := 31) C dX6_mixInto_0 gt_582 ?_
  refine go_lload_n C dX6_mixInto_3 rfl rfl ?_
  refine go_lmul C dX6_mixInto_4 ?_
  refine go_aload_n C dX6_mixInto_5 rfl rfl ?_
  refine go_getI (z := 0) C dX6_mixInto_6 fl_X6_33 hr rfl rfl ?_
  refine go_i2l C dX6_mixInto_9 (hB r 0 (Nat.lt_of_lt_of_le (sh_lt hr) (by decide))) ?_
  refine go_ladd C dX6_mixInto_10 ?_
  refine go_lstore_n (ls2 := [some (rf G r), some (.long (lI v1)), none, some (.long (lI ((31 * v1) + (M r 0)))), none, none, none]) C dX6_mixInto_11 rfl (Nat.le_of_ble_eq_true rfl) rfl ?_
  refine go_ldc2 (v := 31) C dX6_mixInto_12 gt_582 ?_
  refine go_lload_n C dX6_mixInto_15 rfl rfl ?_
  refine go_lmul C dX6_mixInto_16 ?_
  refine go_aload_n C dX6_mixInto_17 rfl rfl ?_
  refine go_getI (z := 1) C dX6_mixInto_18 fl_X6_37 hr rfl rfl ?_
  refine go_i2l C dX6_mixInto_21 (hB r 1 (Nat.lt_of_lt_of_le (sh_lt hr) (by decide))) ?_
  refine go_ladd C dX6_mixInto_22 ?_
  refine go_lstore_n (ls2 := [some (rf G r), some (.long (lI v1)), none, some (.long (lI ((31 * ((31 * v1) + (M r 0))) + (M r 1)))), none, none, none]) C dX6_mixInto_23 rfl (Nat.le_of_ble_eq_true rfl) rfl ?_
  refine go_iconst C dX6_mixInto_24 ?_
  refine go_istore (ls2 := [some (rf G r), some (.long (lI v1)), none, some (.long (lI ((31 * ((31 * v1) + (M r 0))) + (M r 1)))), none, some (.int (iI 0)), none]) C dX6_mixInto_25 (Nat.le_of_ble_eq_true rfl) rfl ?_
  refine go_weak (ls' := [some (rf G r), none, none, some (.long (lI ((31 * ((31 * v1) + (M r 0))) + (M r 1)))), none, some (.int (iI 0)), none]) ⟨rfl, ⟨rfl, ⟨rfl, trivial⟩⟩⟩ ?_
  exact w_X6_mixInto_27 hB hr C E F ((31 * ((31 * v1) + (M r 0))) + (M r 1)) 0 h
-- IntervalRouter$Ways.shortenOver(II)V
set_option maxHeartbeats 4000000 in
theorem w_X8_shortenOver_10 {G : gC} {X : gX} {res : Mem} {F : Nat} (C : Cx G X cX8_shortenOver 6 RX8 1 0 0 none []) (E : Fnl G X 0 0 (.inr none) res) {k2 : Int → Int → Int → Mem → Option (Mem)} (hk2 : ∀ (v1 : Int) (v2 : Int) (v3 : Int) (M : Mem), Bd M → k2 v1 v2 v3 M = some res → Go G X 6 0 0 2 [some (rf G 39), some (.int (iI v1)), some (.int (iI v2)), some (.int (iI v3)), none, none] [] M) : ∀ (fu : Nat) (v1 : Int) (v2 : Int) (v3 : Int) (v4 : Int) (M : Mem), Bd M → f_X8_shortenOver_10 F k2 fu v1 v2 v3 v4 M = some res → Go G X 6 0 0 10 [some (rf G 39), some (.int (iI v1)), some (.int (iI v2)), some (.int (iI v3)), some (.int (iI v4)), none] [] M := by
  intro fu
  induction fu with
  | zero => intro v1 v2 v3 v4 M hB h; exact nomatch (show (none : Option (Mem)) = some res from h)
  | succ fu ih =>
    intro v1 v2 v3 v4 M hB h
    rw [f_X8_shortenOver_10] at h
    obtain ⟨⟨hp_v2, hp_v4⟩, h⟩ := chk_some h
    refine go_iload C dX8_shortenOver_10 rfl ?_
    refine go_iload_n C dX8_shortenOver_12 rfl rfl ?_
    refine go_icmp_ge (tgt := 64) C dX8_shortenOver_13 rfl hp_v4 hp_v2 (fun hc2 => ?_) (fun hc2 => ?_)
    · replace h := ite_t hc2 h
      refine go_iinc (ls2 := [some (rf G 39), some (.int (iI v1)), some (.int (iI v2)), some (.int (iI (v3 + 1))), some (.int (iI v4)), none]) C dX8_shortenOver_64 rfl (Nat.le_of_ble_eq_true rfl) rfl ?_
      refine go_goto (tgt := 2) C dX8_shortenOver_67 rfl ?_
      refine go_weak (ls' := [some (rf G 39), some (.int (iI v1)), some (.int (iI v2)), some (.int (iI (v3 + 1))), none, none]) ⟨rfl, ⟨rfl, ⟨rfl, ⟨rfl, trivial⟩⟩⟩⟩ ?_
      exact hk2 v1 v2 (v3 + 1) M hB h
    · replace h := ite_f hc2 h
      refine go_aload_n C dX8_shortenOver_16 rfl rfl ?_
      refine go_iload_n C dX8_shortenOver_17 rfl rfl ?_
      refine go_iload_n C dX8_shortenOver_18 rfl rfl ?_
      obtain ⟨q3, h3, h⟩ := ob_some h
      refine go_callV_i C dX8_shortenOver_19 (ok_X8_between C.hl hB h3) mv_X8_60 sh_39 rfl rfl (Nat.le_of_ble_eq_true rfl) ⟨(Nat.le_of_ble_eq_true rfl), (Nat.le_of_ble_eq_true rfl)⟩ ⟨(Nat.le_of_ble_eq_true rfl), (Nat.le_of_ble_eq_true rfl)⟩ (fun hB3 => ?_)
      refine go_aload_n C dX8_shortenOver_22 rfl rfl ?_
      refine go_iload_n C dX8_shortenOver_23 rfl rfl ?_
      refine go_iload C dX8_shortenOver_24 rfl ?_
      obtain ⟨q4, h4, h⟩ := ob_some h
      refine go_callV_i C dX8_shortenOver_26 (ok_X8_between C.hl hB3 h4) mv_X8_60 sh_39 rfl rfl (Nat.le_of_ble_eq_true rfl) ⟨(Nat.le_of_ble_eq_true rfl), (Nat.le_of_ble_eq_true rfl)⟩ ⟨(Nat.le_of_ble_eq_true rfl), (Nat.le_of_ble_eq_true rfl)⟩ (fun hB4 => ?_)
      refine go_iadd C dX8_shortenOver_29 ?_
      refine go_istore (ls2 := [some (rf G 39), some (.int (iI v1)), some (.int (iI v2)), some (.int (iI v3)), some (.int (iI v4)), some (.int (iI (q3 + q4)))]) C dX8_shortenOver_30 (Nat.le_of_ble_eq_true rfl) rfl ?_
      refine go_iload C dX8_shortenOver_32 rfl ?_
      refine go_aload_n C dX8_shortenOver_34 rfl rfl ?_
      refine go_iload_n C dX8_shortenOver_35 rfl rfl ?_
      refine go_iload C dX8_shortenOver_36 rfl ?_
      obtain ⟨q5, h5, h⟩ := ob_some h
      refine go_callV_i C dX8_shortenOver_38 (ok_X8_between C.hl hB4 h5) mv_X8_60 sh_39 rfl rfl (Nat.le_of_ble_eq_true rfl) ⟨(Nat.le_of_ble_eq_true rfl), (Nat.le_of_ble_eq_true rfl)⟩ ⟨(Nat.le_of_ble_eq_true rfl), (Nat.le_of_ble_eq_true rfl)⟩ (fun hB5 => ?_)
      obtain ⟨hc6, h⟩ := chk_some h
      obtain ⟨hc7, h⟩ := chk_some h
      refine go_icmp_ge (tgt := 58) C dX8_shortenOver_41 rfl hc6 hc7 (fun hc8 => ?_) (fun hc8 => ?_)
      · replace h := ite_t hc8 h
        refine go_iinc (ls2 := [some (rf G 39), some (.int (iI v1)), some (.int (iI v2)), some (.int (iI v3)), some (.int (iI (v4 + 1))), some (.int (iI (q3 + q4)))]) C dX8_shortenOver_58 rfl (Nat.le_of_ble_eq_true rfl) rfl ?_
        refine go_goto (tgt := 10) C dX8_shortenOver_61 rfl ?_
        refine go_weak (ls' := [some (rf G 39), some (.int (iI v1)), some (.int (iI v2)), some (.int (iI v3)), some (.int (iI (v4 + 1))), none]) ⟨rfl, ⟨rfl, ⟨rfl, ⟨rfl, ⟨rfl, trivial⟩⟩⟩⟩⟩ ?_
        exact ih v1 v2 v3 (v4 + 1) M hB5 h
      · replace h := ite_f hc8 h
        refine go_aload_n C dX8_shortenOver_44 rfl rfl ?_
        refine go_getR (o := 1) (k2 := 40) C dX8_shortenOver_45 fl_X8_9 sh_39 rfl rfl ?_
        refine go_iload_n C dX8_shortenOver_48 rfl rfl ?_
        refine go_bipush C dX8_shortenOver_49 (by decide +kernel) ?_
        refine go_imul C dX8_shortenOver_51 ?_
        refine go_iload C dX8_shortenOver_52 rfl ?_
        refine go_iadd C dX8_shortenOver_54 ?_
        refine go_iload C dX8_shortenOver_55 rfl ?_
        obtain ⟨hc9, h⟩ := chk_some h
        refine go_iast C dX8_shortenOver_57 sh_40 (by decide) hc9 ?_
        have hB10 := hB5.set 40 ((v3 * 9) + v4) (x := q3 + q4) hc6
        refine go_iinc (ls2 := [some (rf G 39), some (.int (iI v1)), some (.int (iI v2)), some (.int (iI v3)), some (.int (iI (v4 + 1))), some (.int (iI (q3 + q4)))]) C dX8_shortenOver_58 rfl (Nat.le_of_ble_eq_true rfl) rfl ?_
        refine go_goto (tgt := 10) C dX8_shortenOver_61 rfl ?_
        refine go_weak (ls' := [some (rf G 39), some (.int (iI v1)), some (.int (iI v2)), some (.int (iI v3)), some (.int (iI (v4 + 1))), none]) ⟨rfl, ⟨rfl, ⟨rfl, ⟨rfl, ⟨rfl, trivial⟩⟩⟩⟩⟩ ?_
        exact ih v1 v2 v3 (v4 + 1) (mset M 40 ((v3 * 9) + v4) (q3 + q4)) hB10 h
set_option maxHeartbeats 4000000 in
theorem w_X8_shortenOver_2 {G : gC} {X : gX} {res : Mem} {F : Nat} (C : Cx G X cX8_shortenOver 6 RX8 1 0 0 none []) (E : Fnl G X 0 0 (.inr none) res) : ∀ (fu : Nat) (v1 : Int) (v2 : Int) (v3 : Int) (M : Mem), Bd M → f_X8_shortenOver_2 F fu v1 v2 v3 M = some res → Go G X 6 0 0 2 [some (rf G 39), some (.int (iI v1)), some (.int (iI v2)), some (.int (iI v3)), none, none] [] M := by
  intro fu
  induction fu with
  | zero => intro v1 v2 v3 M hB h; exact nomatch (show (none : Option (Mem)) = some res from h)
  | succ fu ih =>
    intro v1 v2 v3 M hB h
    rw [f_X8_shortenOver_2] at h
    obtain ⟨⟨hp_v2, hp_v3⟩, h⟩ := chk_some h
    refine go_iload_n C dX8_shortenOver_2 rfl rfl ?_
    refine go_iload_n C dX8_shortenOver_3 rfl rfl ?_
    refine go_icmp_ge (tgt := 70) C dX8_shortenOver_4 rfl hp_v3 hp_v2 (fun hc1 => ?_) (fun hc1 => ?_)
    · replace h := ite_t hc1 h
      cases h
      exact go_vret C E rfl dX8_shortenOver_70 (Nat.le_of_ble_eq_true rfl) (Nat.le_of_ble_eq_true rfl) rfl rfl hB
    · replace h := ite_f hc1 h
      refine go_iconst C dX8_shortenOver_7 ?_
      refine go_istore (ls2 := [some (rf G 39), some (.int (iI v1)), some (.int (iI v2)), some (.int (iI v3)), some (.int (iI 0)), none]) C dX8_shortenOver_8 (Nat.le_of_ble_eq_true rfl) rfl ?_
      exact w_X8_shortenOver_10 C E ih F v1 v2 v3 0 M hB h
set_option maxHeartbeats 4000000 in
theorem ok_X8_shortenOver {G : gC} {l : Launch} (hl : l.stackTraces = false) {F : Nat} {v1 : Int} {v2 : Int} {M : Mem} (hB : Bd M) {res : Mem} (h : f_X8_shortenOver F v1 v2 M = some res) : Ok G l 1 0 0 yX8_shortenOver (.code yX8_shortenOver cX8_shortenOver 6 none) [rf G 39, .int (iI v1), .int (iI v2)] M (.inr none) res := by
  refine ok_of (ls := [some (rf G 39), some (.int (iI v1)), some (.int (iI v2)), none, none, none]) hl (by decide +kernel) (Nat.le_of_ble_eq_true rfl) ⟨rfl, ⟨rfl, ⟨rfl, trivial⟩⟩⟩ ?_
  intro X hX C E
  subst hX
  rw [f_X8_shortenOver] at h
  refine go_iconst C dX8_shortenOver_0 ?_
  refine go_istore_n (ls2 := [some (rf G 39), some (.int (iI v1)), some (.int (iI v2)), some (.int (iI 0)), none, none]) C dX8_shortenOver_1 rfl (Nat.le_of_ble_eq_true rfl) rfl ?_
  exact w_X8_shortenOver_2 C E F v1 v2 0 M hB h
-- IntervalRouter$Ways.measureDistances(LIntervalRouter$State;)V
set_option maxHeartbeats 4000000 in
theorem w_X8_measureDistances_107 {G : gC} {X : gX} {res : Mem} {F : Nat} (C : Cx G X cX8_measureDistances 5 RX8 2 0 0 none []) (E : Fnl G X 0 0 (.inr none) res) : ∀ (fu : Nat) (v2 : Int) (M : Mem), Bd M → f_X8_measureDistances_107 F fu v2 M = some res → Go G X 5 0 0 107 [some (rf G 39), some (rf G 1), some (.int (iI v2)), none, none] [] M := by
  intro fu
  induction fu with
  | zero => intro v2 M hB h; exact nomatch (show (none : Option (Mem)) = some res from h)
  | succ fu ih =>
    intro v2 M hB h
    rw [f_X8_measureDistances_107] at h
    obtain ⟨hp_v2, h⟩ := chk_some h
    refine go_iload_n C dX8_measureDistances_107 rfl rfl ?_
    refine go_aload_n C dX8_measureDistances_108 rfl rfl ?_
    refine go_getI (z := 0) C dX8_measureDistances_109 fl_X8_28 sh_1 rfl rfl ?_
    refine go_icmp_ge (tgt := 130) C dX8_measureDistances_112 rfl hp_v2 (hB 1 0 (by decide)) (fun hc4 => ?_) (fun hc4 => ?_)
    · replace h := ite_t hc4 h
      cases h
      exact go_vret C E rfl dX8_measureDistances_130 (Nat.le_of_ble_eq_true rfl) (Nat.le_of_ble_eq_true rfl) rfl rfl hB
    · replace h := ite_f hc4 h
      refine go_aload_n C dX8_measureDistances_115 rfl rfl ?_
      refine go_iload_n C dX8_measureDistances_116 rfl rfl ?_
      refine go_aload_n C dX8_measureDistances_117 rfl rfl ?_
      refine go_getI (z := 0) C dX8_measureDistances_118 fl_X8_28 sh_1 rfl rfl ?_
      obtain ⟨q5, h5, h⟩ := ob_some h
      refine go_callV_v C dX8_measureDistances_121 (ok_X8_shortenOver C.hl hB h5) mv_X8_56 sh_39 rfl rfl (Nat.le_of_ble_eq_true rfl) ⟨(Nat.le_of_ble_eq_true rfl), (Nat.le_of_ble_eq_true rfl)⟩ ⟨(Nat.le_of_ble_eq_true rfl), (Nat.le_of_ble_eq_true rfl)⟩ (fun hB5 => ?_)
      refine go_iinc (ls2 := [some (rf G 39), some (rf G 1), some (.int (iI (v2 + 1))), none, none]) C dX8_measureDistances_124 rfl (Nat.le_of_ble_eq_true rfl) rfl ?_
      refine go_goto (tgt := 107) C dX8_measureDistances_127 rfl ?_
      exact ih (v2 + 1) q5 hB5 h
set_option maxHeartbeats 4000000 in
theorem w_X8_measureDistances_40 {G : gC} {X : gX} {res : Mem} {F : Nat} (C : Cx G X cX8_measureDistances 5 RX8 2 0 0 none []) (E : Fnl G X 0 0 (.inr none) res) : ∀ (fu : Nat) (v2 : Int) (M : Mem), Bd M → f_X8_measureDistances_40 F fu v2 M = some res → Go G X 5 0 0 40 [some (rf G 39), some (rf G 1), some (.int (iI v2)), none, none] [] M := by
  intro fu
  induction fu with
  | zero => intro v2 M hB h; exact nomatch (show (none : Option (Mem)) = some res from h)
  | succ fu ih =>
    intro v2 M hB h
    rw [f_X8_measureDistances_40] at h
    obtain ⟨hp_v2, h⟩ := chk_some h
    refine go_iload_n C dX8_measureDistances_40 rfl rfl ?_
    refine go_aload_n C dX8_measureDistances_41 rfl rfl ?_
    refine go_getI (z := 1) C dX8_measureDistances_42 fl_X8_44 sh_1 rfl rfl ?_
    refine go_icmp_ge (tgt := 105) C dX8_measureDistances_45 rfl hp_v2 (hB 1 1 (by decide)) (fun hc3 => ?_) (fun hc3 => ?_)
    · replace h := ite_t hc3 h
      refine go_iconst C dX8_measureDistances_105 ?_
      refine go_istore_n (ls2 := [some (rf G 39), some (rf G 1), some (.int (iI 0)), none, none]) C dX8_measureDistances_106 rfl (Nat.le_of_ble_eq_true rfl) rfl ?_
      exact w_X8_measureDistances_107 C E F 0 M hB h
    · replace h := ite_f hc3 h
      refine go_aload_n C dX8_measureDistances_48 rfl rfl ?_
      refine go_getR (o := 1) (k2 := 2) C dX8_measureDistances_49 fl_X8_47 sh_1 rfl rfl ?_
      refine go_iload_n C dX8_measureDistances_52 rfl rfl ?_
      obtain ⟨hc6, h⟩ := chk_some h
      refine go_iald C dX8_measureDistances_53 sh_2 (by decide) hc6 ?_
      refine go_istore_n (ls2 := [some (rf G 39), some (rf G 1), some (.int (iI v2)), some (.int (iI (M 2 v2))), none]) C dX8_measureDistances_54 rfl (Nat.le_of_ble_eq_true rfl) rfl ?_
      refine go_aload_n C dX8_measureDistances_55 rfl rfl ?_
      refine go_getR (o := 2) (k2 := 3) C dX8_measureDistances_56 fl_X8_50 sh_1 rfl rfl ?_
      refine go_iload_n C dX8_measureDistances_59 rfl rfl ?_
      refine go_iald C dX8_measureDistances_60 sh_3 (by decide) hc6 ?_
      refine go_istore (ls2 := [some (rf G 39), some (rf G 1), some (.int (iI v2)), some (.int (iI (M 2 v2))), some (.int (iI (M 3 v2)))]) C dX8_measureDistances_61 (Nat.le_of_ble_eq_true rfl) rfl ?_
      refine go_aload_n C dX8_measureDistances_63 rfl rfl ?_
      refine go_getR (o := 1) (k2 := 40) C dX8_measureDistances_64 fl_X8_9 sh_39 rfl rfl ?_
      refine go_iload_n C dX8_measureDistances_67 rfl rfl ?_
      refine go_bipush C dX8_measureDistances_68 (by decide +kernel) ?_
      refine go_imul C dX8_measureDistances_70 ?_
      refine go_iload C dX8_measureDistances_71 rfl ?_
      refine go_iadd C dX8_measureDistances_73 ?_
      refine go_aload_n C dX8_measureDistances_74 rfl rfl ?_
      refine go_getR (o := 3) (k2 := 4) C dX8_measureDistances_75 fl_X8_53 sh_1 rfl rfl ?_
      refine go_iload_n C dX8_measureDistances_78 rfl rfl ?_
      refine go_iald C dX8_measureDistances_79 sh_4 (by decide) hc6 ?_
      obtain ⟨hc7, h⟩ := chk_some h
      refine go_iast C dX8_measureDistances_80 sh_40 (by decide) hc7 ?_
      have hB8 := hB.set 40 (((M 2 v2) * 9) + (M 3 v2)) (x := M 4 v2) (hB 4 v2 (by decide))
      refine go_aload_n C dX8_measureDistances_81 rfl rfl ?_
      refine go_getR (o := 1) (k2 := 40) C dX8_measureDistances_82 fl_X8_9 sh_39 rfl rfl ?_
      refine go_iload C dX8_measureDistances_85 rfl ?_
      refine go_bipush C dX8_measureDistances_87 (by decide +kernel) ?_
      refine go_imul C dX8_measureDistances_89 ?_
      refine go_iload_n C dX8_measureDistances_90 rfl rfl ?_
      refine go_iadd C dX8_measureDistances_91 ?_
      refine go_aload_n C dX8_measureDistances_92 rfl rfl ?_
      refine go_getR (o := 3) (k2 := 4) C dX8_measureDistances_93 fl_X8_53 sh_1 rfl rfl ?_
      refine go_iload_n C dX8_measureDistances_96 rfl rfl ?_
      refine go_iald C dX8_measureDistances_97 sh_4 (by decide) hc6 ?_
      obtain ⟨hc9, h⟩ := chk_some h
      refine go_iast C dX8_measureDistances_98 sh_40 (by decide) hc9 ?_
      have hB10 := hB8.set 40 (((M 3 v2) * 9) + (M 2 v2)) (x := (mset M 40 (((M 2 v2) * 9) + (M 3 v2)) (M 4 v2)) 4 v2) (hB8 4 v2 (by decide))
      refine go_iinc (ls2 := [some (rf G 39), some (rf G 1), some (.int (iI (v2 + 1))), some (.int (iI (M 2 v2))), some (.int (iI (M 3 v2)))]) C dX8_measureDistances_99 rfl (Nat.le_of_ble_eq_true rfl) rfl ?_
      refine go_goto (tgt := 40) C dX8_measureDistances_102 rfl ?_
      refine go_weak (ls' := [some (rf G 39), some (rf G 1), some (.int (iI (v2 + 1))), none, none]) ⟨rfl, ⟨rfl, ⟨rfl, trivial⟩⟩⟩ ?_
      exact ih (v2 + 1) (mset (mset M 40 (((M 2 v2) * 9) + (M 3 v2)) (M 4 v2)) 40 (((M 3 v2) * 9) + (M 2 v2)) ((mset M 40 (((M 2 v2) * 9) + (M 3 v2)) (M 4 v2)) 4 v2)) hB10 h
set_option maxHeartbeats 4000000 in
theorem w_X8_measureDistances_12 {G : gC} {X : gX} {res : Mem} {F : Nat} (C : Cx G X cX8_measureDistances 5 RX8 2 0 0 none []) (E : Fnl G X 0 0 (.inr none) res) : ∀ (fu : Nat) (v2 : Int) (M : Mem), Bd M → f_X8_measureDistances_12 F fu v2 M = some res → Go G X 5 0 0 12 [some (rf G 39), some (rf G 1), some (.int (iI v2)), none, none] [] M := by
  intro fu
  induction fu with
  | zero => intro v2 M hB h; exact nomatch (show (none : Option (Mem)) = some res from h)
  | succ fu ih =>
    intro v2 M hB h
    rw [f_X8_measureDistances_12] at h
    obtain ⟨hp_v2, h⟩ := chk_some h
    refine go_iload_n C dX8_measureDistances_12 rfl rfl ?_
    refine go_aload_n C dX8_measureDistances_13 rfl rfl ?_
    refine go_getI (z := 0) C dX8_measureDistances_14 fl_X8_28 sh_1 rfl rfl ?_
    refine go_icmp_ge (tgt := 38) C dX8_measureDistances_17 rfl hp_v2 (hB 1 0 (by decide)) (fun hc2 => ?_) (fun hc2 => ?_)
    · replace h := ite_t hc2 h
      refine go_iconst C dX8_measureDistances_38 ?_
      refine go_istore_n (ls2 := [some (rf G 39), some (rf G 1), some (.int (iI 0)), none, none]) C dX8_measureDistances_39 rfl (Nat.le_of_ble_eq_true rfl) rfl ?_
      exact w_X8_measureDistances_40 C E F 0 M hB h
    · replace h := ite_f hc2 h
      refine go_aload_n C dX8_measureDistances_20 rfl rfl ?_
      refine go_getR (o := 1) (k2 := 40) C dX8_measureDistances_21 fl_X8_9 sh_39 rfl rfl ?_
      refine go_iload_n C dX8_measureDistances_24 rfl rfl ?_
      refine go_bipush C dX8_measureDistances_25 (by decide +kernel) ?_
      refine go_imul C dX8_measureDistances_27 ?_
      refine go_iload_n C dX8_measureDistances_28 rfl rfl ?_
      refine go_iadd C dX8_measureDistances_29 ?_
      refine go_iconst C dX8_measureDistances_30 ?_
      obtain ⟨hc11, h⟩ := chk_some h
      refine go_iast C dX8_measureDistances_31 sh_40 (by decide) hc11 ?_
      have hB12 := hB.set 40 ((v2 * 9) + v2) (x := 0) (by decide)
      refine go_iinc (ls2 := [some (rf G 39), some (rf G 1), some (.int (iI (v2 + 1))), none, none]) C dX8_measureDistances_32 rfl (Nat.le_of_ble_eq_true rfl) rfl ?_
      refine go_goto (tgt := 12) C dX8_measureDistances_35 rfl ?_
      exact ih (v2 + 1) (mset M 40 ((v2 * 9) + v2) 0) hB12 h
set_option maxHeartbeats 4000000 in
theorem ok_X8_measureDistances {G : gC} {l : Launch} (hl : l.stackTraces = false) {F : Nat} {M : Mem} (hB : Bd M) {res : Mem} (h : f_X8_measureDistances F M = some res) : Ok G l 2 0 0 yX8_measureDistances (.code yX8_measureDistances cX8_measureDistances 5 none) [rf G 39, rf G 1] M (.inr none) res := by
  refine ok_of (ls := [some (rf G 39), some (rf G 1), none, none, none]) hl (by decide +kernel) (Nat.le_of_ble_eq_true rfl) ⟨rfl, ⟨rfl, trivial⟩⟩ ?_
  intro X hX C E
  subst hX
  rw [f_X8_measureDistances] at h
  refine go_aload_n C dX8_measureDistances_0 rfl rfl ?_
  refine go_getR (o := 1) (k2 := 40) C dX8_measureDistances_1 fl_X8_9 sh_39 rfl rfl ?_
  refine go_sipush C dX8_measureDistances_4 (by decide +kernel) ?_
  obtain ⟨q1, h1, h⟩ := ob_some h
  refine go_callS_v C dX8_measureDistances_7 (ok_J7_fill_53178 C.hl hB (ia_of sh_40) h1) ms_X8_38 rfl rfl (Nat.le_of_ble_eq_true rfl) ⟨(Nat.le_of_ble_eq_true rfl), (Nat.le_of_ble_eq_true rfl)⟩ ⟨(Nat.le_of_ble_eq_true rfl), (Nat.le_of_ble_eq_true rfl)⟩ (fun hB1 => ?_)
  refine go_iconst C dX8_measureDistances_10 ?_
  refine go_istore_n (ls2 := [some (rf G 39), some (rf G 1), some (.int (iI 0)), none, none]) C dX8_measureDistances_11 rfl (Nat.le_of_ble_eq_true rfl) rfl ?_
  exact w_X8_measureDistances_12 C E F 0 q1 hB1 h
-- IntervalRouter$Ways.begins(LIntervalRouter$State;III)Z
set_option maxHeartbeats 4000000 in
theorem ok_X8_begins {G : gC} {l : Launch} (hl : l.stackTraces = false) {v2 : Int} {v3 : Int} {v4 : Int} {M : Mem} (hB : Bd M) {res : Int} (h : f_X8_begins v2 v3 v4 M = some res) : Ok G l 1 0 0 yX8_begins (.code yX8_begins cX8_begins 5 (some .boolean)) [rf G 39, rf G 1, .int (iI v2), .int (iI v3), .int (iI v4)] M (.inr (some (.int (iI res)))) M := by
  refine ok_of (ls := [some (rf G 39), some (rf G 1), some (.int (iI v2)), some (.int (iI v3)), some (.int (iI v4))]) hl (by decide +kernel) (Nat.le_of_ble_eq_true rfl) ⟨rfl, ⟨rfl, ⟨rfl, ⟨rfl, ⟨rfl, trivial⟩⟩⟩⟩⟩ ?_
  intro X hX C E
  subst hX
  rw [f_X8_begins] at h
  refine go_aload_n C dX8_begins_0 rfl rfl ?_
  refine go_iload_n C dX8_begins_1 rfl rfl ?_
  refine go_iload_n C dX8_begins_2 rfl rfl ?_
  obtain ⟨q1, h1, h⟩ := ob_some h
  refine go_callV_i C dX8_begins_3 (ok_X6_touches C.hl hB sh_1 h1) mv_X8_68 sh_1 rfl rfl (Nat.le_of_ble_eq_true rfl) ⟨(Nat.le_of_ble_eq_true rfl), (Nat.le_of_ble_eq_true rfl)⟩ ⟨(Nat.le_of_ble_eq_true rfl), (Nat.le_of_ble_eq_true rfl)⟩ (fun hB1 => ?_)
  obtain ⟨hc2, h⟩ := chk_some h
  refine go_if_eq (tgt := 42) C dX8_begins_6 rfl hc2 (fun hc3 => ?_) (fun hc3 => ?_)
  · replace h := ite_t hc3 h
    refine go_iconst C dX8_begins_42 ?_
    cases h
    exact go_zret C E rfl dX8_begins_43 (by decide) (Nat.le_of_ble_eq_true rfl) (Nat.le_of_ble_eq_true rfl) rfl rfl hB1
  · replace h := ite_f hc3 h
    refine go_aload_n C dX8_begins_9 rfl rfl ?_
    refine go_getR (o := 3) (k2 := 4) C dX8_begins_10 fl_X8_53 sh_1 rfl rfl ?_
    refine go_iload_n C dX8_begins_13 rfl rfl ?_
    obtain ⟨hc4, h⟩ := chk_some h
    refine go_iald C dX8_begins_14 sh_4 (by decide) hc4 ?_
    refine go_aload_n C dX8_begins_15 rfl rfl ?_
    refine go_aload_n C dX8_begins_16 rfl rfl ?_
    refine go_iload_n C dX8_begins_17 rfl rfl ?_
    refine go_iload_n C dX8_begins_18 rfl rfl ?_
    obtain ⟨q5, h5, h⟩ := ob_some h
    refine go_callV_i C dX8_begins_19 (ok_X6_otherEnd C.hl hB1 sh_1 h5) mv_X8_72 sh_1 rfl rfl (Nat.le_of_ble_eq_true rfl) ⟨(Nat.le_of_ble_eq_true rfl), (Nat.le_of_ble_eq_true rfl)⟩ ⟨(Nat.le_of_ble_eq_true rfl), (Nat.le_of_ble_eq_true rfl)⟩ (fun hB5 => ?_)
    refine go_iload C dX8_begins_22 rfl ?_
    obtain ⟨q6, h6, h⟩ := ob_some h
    refine go_callV_i C dX8_begins_24 (ok_X8_between C.hl hB5 h6) mv_X8_60 sh_39 rfl rfl (Nat.le_of_ble_eq_true rfl) ⟨(Nat.le_of_ble_eq_true rfl), (Nat.le_of_ble_eq_true rfl)⟩ ⟨(Nat.le_of_ble_eq_true rfl), (Nat.le_of_ble_eq_true rfl)⟩ (fun hB6 => ?_)
    refine go_iadd C dX8_begins_27 ?_
    refine go_aload_n C dX8_begins_28 rfl rfl ?_
    refine go_iload_n C dX8_begins_29 rfl rfl ?_
    refine go_iload C dX8_begins_30 rfl ?_
    obtain ⟨q7, h7, h⟩ := ob_some h
    refine go_callV_i C dX8_begins_32 (ok_X8_between C.hl hB6 h7) mv_X8_60 sh_39 rfl rfl (Nat.le_of_ble_eq_true rfl) ⟨(Nat.le_of_ble_eq_true rfl), (Nat.le_of_ble_eq_true rfl)⟩ ⟨(Nat.le_of_ble_eq_true rfl), (Nat.le_of_ble_eq_true rfl)⟩ (fun hB7 => ?_)
    obtain ⟨hc8, h⟩ := chk_some h
    obtain ⟨hc9, h⟩ := chk_some h
    refine go_icmp_ne (tgt := 42) C dX8_begins_35 rfl hc8 hc9 (fun hc10 => ?_) (fun hc10 => ?_)
    · replace h := ite_f hc10 h
      refine go_iconst C dX8_begins_42 ?_
      cases h
      exact go_zret C E rfl dX8_begins_43 (by decide) (Nat.le_of_ble_eq_true rfl) (Nat.le_of_ble_eq_true rfl) rfl rfl hB7
    · replace h := ite_t hc10 h
      refine go_iconst C dX8_begins_38 ?_
      refine go_goto (tgt := 43) C dX8_begins_39 rfl ?_
      cases h
      exact go_zret C E rfl dX8_begins_43 (by decide) (Nat.le_of_ble_eq_true rfl) (Nat.le_of_ble_eq_true rfl) rfl rfl hB7
-- IntervalRouter$Ways.findGoodLinks(LIntervalRouter$State;II)V
set_option maxHeartbeats 4000000 in
theorem w_X8_findGoodLinks_17 {G : gC} {X : gX} {res : Mem} {F : Nat} (C : Cx G X cX8_findGoodLinks 8 RX8 2 0 0 none []) (E : Fnl G X 0 0 (.inr none) res) : ∀ (fu : Nat) (v2 : Int) (v3 : Int) (v4 : Int) (v5 : Int) (v6 : Int) (v7 : Int) (M : Mem), Bd M → f_X8_findGoodLinks_17 F fu v2 v3 v4 v5 v6 v7 M = some res → Go G X 8 0 0 17 [some (rf G 39), some (rf G 1), some (.int (iI v2)), some (.int (iI v3)), some (.int (iI v4)), some (.int (iI v5)), some (.int (iI v6)), some (.int (iI v7))] [] M := by
  intro fu
  induction fu with
  | zero => intro v2 v3 v4 v5 v6 v7 M hB h; exact nomatch (show (none : Option (Mem)) = some res from h)
  | succ fu ih =>
    intro v2 v3 v4 v5 v6 v7 M hB h
    rw [f_X8_findGoodLinks_17] at h
    obtain ⟨⟨hp_v5, hp_v6, hp_v7⟩, h⟩ := chk_some h
    refine go_iload C dX8_findGoodLinks_17 rfl ?_
    refine go_aload_n C dX8_findGoodLinks_19 rfl rfl ?_
    refine go_getI (z := 1) C dX8_findGoodLinks_20 fl_X8_44 sh_1 rfl rfl ?_
    refine go_icmp_ge (tgt := 78) C dX8_findGoodLinks_23 rfl hp_v7 (hB 1 1 (by decide)) (fun hc1 => ?_) (fun hc1 => ?_)
    · replace h := ite_t hc1 h
      refine go_iload C dX8_findGoodLinks_78 rfl ?_
      refine go_if_ne (tgt := 97) C dX8_findGoodLinks_80 rfl hp_v6 (fun hc2 => ?_) (fun hc2 => ?_)
      · replace h := ite_f hc2 h
        refine go_aload_n C dX8_findGoodLinks_97 rfl rfl ?_
        refine go_getR (o := 2) (k2 := 41) C dX8_findGoodLinks_98 fl_X8_15 sh_39 rfl rfl ?_
        refine go_iload C dX8_findGoodLinks_101 rfl ?_
        refine go_iload C dX8_findGoodLinks_103 rfl ?_
        obtain ⟨hc3, h⟩ := chk_some h
        refine go_iast C dX8_findGoodLinks_105 sh_41 (by decide) hc3 ?_
        have hB4 := hB.set 41 v4 (x := v5) hp_v5
        refine go_aload_n C dX8_findGoodLinks_106 rfl rfl ?_
        refine go_getR (o := 4) (k2 := 43) C dX8_findGoodLinks_107 fl_X8_21 sh_39 rfl rfl ?_
        refine go_iload C dX8_findGoodLinks_110 rfl ?_
        refine go_iload C dX8_findGoodLinks_112 rfl ?_
        refine go_iast C dX8_findGoodLinks_114 sh_43 (by decide) hc3 ?_
        have hB5 := hB4.set 43 v4 (x := v6) hp_v6
        cases h
        exact go_vret C E rfl dX8_findGoodLinks_115 (Nat.le_of_ble_eq_true rfl) (Nat.le_of_ble_eq_true rfl) rfl rfl hB5
      · replace h := ite_t hc2 h
        refine go_aload_n C dX8_findGoodLinks_83 rfl rfl ?_
        refine go_getR (o := 3) (k2 := 42) C dX8_findGoodLinks_84 fl_X8_18 sh_39 rfl rfl ?_
        refine go_iload C dX8_findGoodLinks_87 rfl ?_
        refine go_bipush C dX8_findGoodLinks_89 (by decide +kernel) ?_
        refine go_imul C dX8_findGoodLinks_91 ?_
        refine go_iconst C dX8_findGoodLinks_92 ?_
        obtain ⟨hc6, h⟩ := chk_some h
        refine go_iast C dX8_findGoodLinks_93 sh_42 (by decide) hc6 ?_
        have hB7 := hB.set 42 (v4 * 8) (x := (-1)) (by decide)
        refine go_iconst C dX8_findGoodLinks_94 ?_
        refine go_istore (ls2 := [some (rf G 39), some (rf G 1), some (.int (iI v2)), some (.int (iI v3)), some (.int (iI v4)), some (.int (iI v5)), some (.int (iI 1)), some (.int (iI v7))]) C dX8_findGoodLinks_95 (Nat.le_of_ble_eq_true rfl) rfl ?_
        refine go_aload_n C dX8_findGoodLinks_97 rfl rfl ?_
        refine go_getR (o := 2) (k2 := 41) C dX8_findGoodLinks_98 fl_X8_15 sh_39 rfl rfl ?_
        refine go_iload C dX8_findGoodLinks_101 rfl ?_
        refine go_iload C dX8_findGoodLinks_103 rfl ?_
        obtain ⟨hc8, h⟩ := chk_some h
        refine go_iast C dX8_findGoodLinks_105 sh_41 (by decide) hc8 ?_
        have hB9 := hB7.set 41 v4 (x := v5) hp_v5
        refine go_aload_n C dX8_findGoodLinks_106 rfl rfl ?_
        refine go_getR (o := 4) (k2 := 43) C dX8_findGoodLinks_107 fl_X8_21 sh_39 rfl rfl ?_
        refine go_iload C dX8_findGoodLinks_110 rfl ?_
        refine go_iload C dX8_findGoodLinks_112 rfl ?_
        refine go_iast C dX8_findGoodLinks_114 sh_43 (by decide) hc8 ?_
        have hB10 := hB9.set 43 v4 (x := 1) (by decide)
        cases h
        exact go_vret C E rfl dX8_findGoodLinks_115 (Nat.le_of_ble_eq_true rfl) (Nat.le_of_ble_eq_true rfl) rfl rfl hB10
    · replace h := ite_f hc1 h
      refine go_iload C dX8_findGoodLinks_26 rfl ?_
      refine go_bipush C dX8_findGoodLinks_28 (by decide +kernel) ?_
      refine go_icmp_ge (tgt := 78) C dX8_findGoodLinks_30 rfl hp_v6 (by decide) (fun hc11 => ?_) (fun hc11 => ?_)
      · replace h := ite_t hc11 h
        refine go_iload C dX8_findGoodLinks_78 rfl ?_
        refine go_if_ne (tgt := 97) C dX8_findGoodLinks_80 rfl hp_v6 (fun hc12 => ?_) (fun hc12 => ?_)
        · replace h := ite_f hc12 h
          refine go_aload_n C dX8_findGoodLinks_97 rfl rfl ?_
          refine go_getR (o := 2) (k2 := 41) C dX8_findGoodLinks_98 fl_X8_15 sh_39 rfl rfl ?_
          refine go_iload C dX8_findGoodLinks_101 rfl ?_
          refine go_iload C dX8_findGoodLinks_103 rfl ?_
          obtain ⟨hc13, h⟩ := chk_some h
          refine go_iast C dX8_findGoodLinks_105 sh_41 (by decide) hc13 ?_
          have hB14 := hB.set 41 v4 (x := v5) hp_v5
          refine go_aload_n C dX8_findGoodLinks_106 rfl rfl ?_
          refine go_getR (o := 4) (k2 := 43) C dX8_findGoodLinks_107 fl_X8_21 sh_39 rfl rfl ?_
          refine go_iload C dX8_findGoodLinks_110 rfl ?_
          refine go_iload C dX8_findGoodLinks_112 rfl ?_
          refine go_iast C dX8_findGoodLinks_114 sh_43 (by decide) hc13 ?_
          have hB15 := hB14.set 43 v4 (x := v6) hp_v6
          cases h
          exact go_vret C E rfl dX8_findGoodLinks_115 (Nat.le_of_ble_eq_true rfl) (Nat.le_of_ble_eq_true rfl) rfl rfl hB15
        · replace h := ite_t hc12 h
          refine go_aload_n C dX8_findGoodLinks_83 rfl rfl ?_
          refine go_getR (o := 3) (k2 := 42) C dX8_findGoodLinks_84 fl_X8_18 sh_39 rfl rfl ?_
          refine go_iload C dX8_findGoodLinks_87 rfl ?_
          refine go_bipush C dX8_findGoodLinks_89 (by decide +kernel) ?_
          refine go_imul C dX8_findGoodLinks_91 ?_
          refine go_iconst C dX8_findGoodLinks_92 ?_
          obtain ⟨hc16, h⟩ := chk_some h
          refine go_iast C dX8_findGoodLinks_93 sh_42 (by decide) hc16 ?_
          have hB17 := hB.set 42 (v4 * 8) (x := (-1)) (by decide)
          refine go_iconst C dX8_findGoodLinks_94 ?_
          refine go_istore (ls2 := [some (rf G 39), some (rf G 1), some (.int (iI v2)), some (.int (iI v3)), some (.int (iI v4)), some (.int (iI v5)), some (.int (iI 1)), some (.int (iI v7))]) C dX8_findGoodLinks_95 (Nat.le_of_ble_eq_true rfl) rfl ?_
          refine go_aload_n C dX8_findGoodLinks_97 rfl rfl ?_
          refine go_getR (o := 2) (k2 := 41) C dX8_findGoodLinks_98 fl_X8_15 sh_39 rfl rfl ?_
          refine go_iload C dX8_findGoodLinks_101 rfl ?_
          refine go_iload C dX8_findGoodLinks_103 rfl ?_
          obtain ⟨hc18, h⟩ := chk_some h
          refine go_iast C dX8_findGoodLinks_105 sh_41 (by decide) hc18 ?_
          have hB19 := hB17.set 41 v4 (x := v5) hp_v5
          refine go_aload_n C dX8_findGoodLinks_106 rfl rfl ?_
          refine go_getR (o := 4) (k2 := 43) C dX8_findGoodLinks_107 fl_X8_21 sh_39 rfl rfl ?_
          refine go_iload C dX8_findGoodLinks_110 rfl ?_
          refine go_iload C dX8_findGoodLinks_112 rfl ?_
          refine go_iast C dX8_findGoodLinks_114 sh_43 (by decide) hc18 ?_
          have hB20 := hB19.set 43 v4 (x := 1) (by decide)
          cases h
          exact go_vret C E rfl dX8_findGoodLinks_115 (Nat.le_of_ble_eq_true rfl) (Nat.le_of_ble_eq_true rfl) rfl rfl hB20
      · replace h := ite_f hc11 h
        refine go_aload_n C dX8_findGoodLinks_33 rfl rfl ?_
        refine go_aload_n C dX8_findGoodLinks_34 rfl rfl ?_
        refine go_iload C dX8_findGoodLinks_35 rfl ?_
        refine go_iload_n C dX8_findGoodLinks_37 rfl rfl ?_
        refine go_iload_n C dX8_findGoodLinks_38 rfl rfl ?_
        obtain ⟨q21, h21, h⟩ := ob_some h
        refine go_callV_i C dX8_findGoodLinks_39 (ok_X8_begins C.hl hB h21) mv_X8_64 sh_39 rfl rfl (Nat.le_of_ble_eq_true rfl) ⟨(Nat.le_of_ble_eq_true rfl), (Nat.le_of_ble_eq_true rfl)⟩ ⟨(Nat.le_of_ble_eq_true rfl), (Nat.le_of_ble_eq_true rfl)⟩ (fun hB21 => ?_)
        obtain ⟨hc22, h⟩ := chk_some h
        refine go_if_eq (tgt := 72) C dX8_findGoodLinks_42 rfl hc22 (fun hc23 => ?_) (fun hc23 => ?_)
        · replace h := ite_t hc23 h
          refine go_iinc (ls2 := [some (rf G 39), some (rf G 1), some (.int (iI v2)), some (.int (iI v3)), some (.int (iI v4)), some (.int (iI v5)), some (.int (iI v6)), some (.int (iI (v7 + 1)))]) C dX8_findGoodLinks_72 rfl (Nat.le_of_ble_eq_true rfl) rfl ?_
          refine go_goto (tgt := 17) C dX8_findGoodLinks_75 rfl ?_
          exact ih v2 v3 v4 v5 v6 (v7 + 1) M hB21 h
        · replace h := ite_f hc23 h
          refine go_iload C dX8_findGoodLinks_45 rfl ?_
          refine go_iconst C dX8_findGoodLinks_47 ?_
          refine go_iload C dX8_findGoodLinks_48 rfl ?_
          refine go_ishl C dX8_findGoodLinks_50 ?_
          refine go_ior C dX8_findGoodLinks_51 ?_
          refine go_istore (ls2 := [some (rf G 39), some (rf G 1), some (.int (iI v2)), some (.int (iI v3)), some (.int (iI v4)), some (.int (iI (bor v5 (bshl 1 v7)))), some (.int (iI v6)), some (.int (iI v7))]) C dX8_findGoodLinks_52 (Nat.le_of_ble_eq_true rfl) rfl ?_
          refine go_aload_n C dX8_findGoodLinks_54 rfl rfl ?_
          refine go_getR (o := 3) (k2 := 42) C dX8_findGoodLinks_55 fl_X8_18 sh_39 rfl rfl ?_
          refine go_iload C dX8_findGoodLinks_58 rfl ?_
          refine go_bipush C dX8_findGoodLinks_60 (by decide +kernel) ?_
          refine go_imul C dX8_findGoodLinks_62 ?_
          refine go_iload C dX8_findGoodLinks_63 rfl ?_
          refine go_iadd C dX8_findGoodLinks_65 ?_
          refine go_iload C dX8_findGoodLinks_66 rfl ?_
          obtain ⟨hc24, h⟩ := chk_some h
          refine go_iast C dX8_findGoodLinks_68 sh_42 (by decide) hc24 ?_
          have hB25 := hB21.set 42 ((v4 * 8) + v6) (x := v7) hp_v7
          refine go_iinc (ls2 := [some (rf G 39), some (rf G 1), some (.int (iI v2)), some (.int (iI v3)), some (.int (iI v4)), some (.int (iI (bor v5 (bshl 1 v7)))), some (.int (iI (v6 + 1))), some (.int (iI v7))]) C dX8_findGoodLinks_69 rfl (Nat.le_of_ble_eq_true rfl) rfl ?_
          refine go_iinc (ls2 := [some (rf G 39), some (rf G 1), some (.int (iI v2)), some (.int (iI v3)), some (.int (iI v4)), some (.int (iI (bor v5 (bshl 1 v7)))), some (.int (iI (v6 + 1))), some (.int (iI (v7 + 1)))]) C dX8_findGoodLinks_72 rfl (Nat.le_of_ble_eq_true rfl) rfl ?_
          refine go_goto (tgt := 17) C dX8_findGoodLinks_75 rfl ?_
          exact ih v2 v3 v4 (bor v5 (bshl 1 v7)) (v6 + 1) (v7 + 1) (mset M 42 ((v4 * 8) + v6) v7) hB25 h
set_option maxHeartbeats 4000000 in
theorem ok_X8_findGoodLinks {G : gC} {l : Launch} (hl : l.stackTraces = false) {F : Nat} {v2 : Int} {v3 : Int} {M : Mem} (hB : Bd M) {res : Mem} (h : f_X8_findGoodLinks F v2 v3 M = some res) : Ok G l 2 0 0 yX8_findGoodLinks (.code yX8_findGoodLinks cX8_findGoodLinks 8 none) [rf G 39, rf G 1, .int (iI v2), .int (iI v3)] M (.inr none) res := by
  refine ok_of (ls := [some (rf G 39), some (rf G 1), some (.int (iI v2)), some (.int (iI v3)), none, none, none, none]) hl (by decide +kernel) (Nat.le_of_ble_eq_true rfl) ⟨rfl, ⟨rfl, ⟨rfl, ⟨rfl, trivial⟩⟩⟩⟩ ?_
  intro X hX C E
  subst hX
  rw [f_X8_findGoodLinks] at h
  refine go_iload_n C dX8_findGoodLinks_0 rfl rfl ?_
  refine go_bipush C dX8_findGoodLinks_1 (by decide +kernel) ?_
  refine go_imul C dX8_findGoodLinks_3 ?_
  refine go_iload_n C dX8_findGoodLinks_4 rfl rfl ?_
  refine go_iadd C dX8_findGoodLinks_5 ?_
  refine go_istore (ls2 := [some (rf G 39), some (rf G 1), some (.int (iI v2)), some (.int (iI v3)), some (.int (iI ((v2 * 9) + v3))), none, none, none]) C dX8_findGoodLinks_6 (Nat.le_of_ble_eq_true rfl) rfl ?_
  refine go_iconst C dX8_findGoodLinks_8 ?_
  refine go_istore (ls2 := [some (rf G 39), some (rf G 1), some (.int (iI v2)), some (.int (iI v3)), some (.int (iI ((v2 * 9) + v3))), some (.int (iI 0)), none, none]) C dX8_findGoodLinks_9 (Nat.le_of_ble_eq_true rfl) rfl ?_
  refine go_iconst C dX8_findGoodLinks_11 ?_
  refine go_istore (ls2 := [some (rf G 39), some (rf G 1), some (.int (iI v2)), some (.int (iI v3)), some (.int (iI ((v2 * 9) + v3))), some (.int (iI 0)), some (.int (iI 0)), none]) C dX8_findGoodLinks_12 (Nat.le_of_ble_eq_true rfl) rfl ?_
  refine go_iconst C dX8_findGoodLinks_14 ?_
  refine go_istore (ls2 := [some (rf G 39), some (rf G 1), some (.int (iI v2)), some (.int (iI v3)), some (.int (iI ((v2 * 9) + v3))), some (.int (iI 0)), some (.int (iI 0)), some (.int (iI 0))]) C dX8_findGoodLinks_15 (Nat.le_of_ble_eq_true rfl) rfl ?_
  exact w_X8_findGoodLinks_17 C E F v2 v3 ((v2 * 9) + v3) 0 0 0 M hB h
-- IntervalRouter$Ways.measure(LIntervalRouter$State;)V
set_option maxHeartbeats 4000000 in
theorem w_X8_measure_17 {G : gC} {X : gX} {res : Mem} {F : Nat} (C : Cx G X cX8_measure 4 RX8 3 0 0 none []) (E : Fnl G X 0 0 (.inr none) res) {k7 : Int → Mem → Option (Mem)} (hk7 : ∀ (v2 : Int) (M : Mem), Bd M → k7 v2 M = some res → Go G X 4 0 0 7 [some (rf G 39), some (rf G 1), some (.int (iI v2)), none] [] M) : ∀ (fu : Nat) (v2 : Int) (v3 : Int) (M : Mem), Bd M → f_X8_measure_17 F k7 fu v2 v3 M = some res → Go G X 4 0 0 17 [some (rf G 39), some (rf G 1), some (.int (iI v2)), some (.int (iI v3))] [] M := by
  intro fu
  induction fu with
  | zero => intro v2 v3 M hB h; exact nomatch (show (none : Option (Mem)) = some res from h)
  | succ fu ih =>
    intro v2 v3 M hB h
    rw [f_X8_measure_17] at h
    obtain ⟨hp_v3, h⟩ := chk_some h
    refine go_iload_n C dX8_measure_17 rfl rfl ?_
    refine go_aload_n C dX8_measure_18 rfl rfl ?_
    refine go_getI (z := 0) C dX8_measure_19 fl_X8_28 sh_1 rfl rfl ?_
    refine go_icmp_ge (tgt := 38) C dX8_measure_22 rfl hp_v3 (hB 1 0 (by decide)) (fun hc3 => ?_) (fun hc3 => ?_)
    · replace h := ite_t hc3 h
      refine go_iinc (ls2 := [some (rf G 39), some (rf G 1), some (.int (iI (v2 + 1))), some (.int (iI v3))]) C dX8_measure_38 rfl (Nat.le_of_ble_eq_true rfl) rfl ?_
      refine go_goto (tgt := 7) C dX8_measure_41 rfl ?_
      refine go_weak (ls' := [some (rf G 39), some (rf G 1), some (.int (iI (v2 + 1))), none]) ⟨rfl, ⟨rfl, ⟨rfl, trivial⟩⟩⟩ ?_
      exact hk7 (v2 + 1) M hB h
    · replace h := ite_f hc3 h
      refine go_aload_n C dX8_measure_25 rfl rfl ?_
      refine go_aload_n C dX8_measure_26 rfl rfl ?_
      refine go_iload_n C dX8_measure_27 rfl rfl ?_
      refine go_iload_n C dX8_measure_28 rfl rfl ?_
      obtain ⟨q4, h4, h⟩ := ob_some h
      refine go_callV_v C dX8_measure_29 (ok_X8_findGoodLinks C.hl hB h4) mv_X8_34 sh_39 rfl rfl (Nat.le_of_ble_eq_true rfl) ⟨(Nat.le_of_ble_eq_true rfl), (Nat.le_of_ble_eq_true rfl)⟩ ⟨(Nat.le_of_ble_eq_true rfl), (Nat.le_of_ble_eq_true rfl)⟩ (fun hB4 => ?_)
      refine go_iinc (ls2 := [some (rf G 39), some (rf G 1), some (.int (iI v2)), some (.int (iI (v3 + 1)))]) C dX8_measure_32 rfl (Nat.le_of_ble_eq_true rfl) rfl ?_
      refine go_goto (tgt := 17) C dX8_measure_35 rfl ?_
      exact ih v2 (v3 + 1) q4 hB4 h
set_option maxHeartbeats 4000000 in
theorem w_X8_measure_7 {G : gC} {X : gX} {res : Mem} {F : Nat} (C : Cx G X cX8_measure 4 RX8 3 0 0 none []) (E : Fnl G X 0 0 (.inr none) res) : ∀ (fu : Nat) (v2 : Int) (M : Mem), Bd M → f_X8_measure_7 F fu v2 M = some res → Go G X 4 0 0 7 [some (rf G 39), some (rf G 1), some (.int (iI v2)), none] [] M := by
  intro fu
  induction fu with
  | zero => intro v2 M hB h; exact nomatch (show (none : Option (Mem)) = some res from h)
  | succ fu ih =>
    intro v2 M hB h
    rw [f_X8_measure_7] at h
    obtain ⟨hp_v2, h⟩ := chk_some h
    refine go_iload_n C dX8_measure_7 rfl rfl ?_
    refine go_aload_n C dX8_measure_8 rfl rfl ?_
    refine go_getI (z := 0) C dX8_measure_9 fl_X8_28 sh_1 rfl rfl ?_
    refine go_icmp_ge (tgt := 44) C dX8_measure_12 rfl hp_v2 (hB 1 0 (by decide)) (fun hc2 => ?_) (fun hc2 => ?_)
    · replace h := ite_t hc2 h
      cases h
      exact go_vret C E rfl dX8_measure_44 (Nat.le_of_ble_eq_true rfl) (Nat.le_of_ble_eq_true rfl) rfl rfl hB
    · replace h := ite_f hc2 h
      refine go_iconst C dX8_measure_15 ?_
      refine go_istore_n (ls2 := [some (rf G 39), some (rf G 1), some (.int (iI v2)), some (.int (iI 0))]) C dX8_measure_16 rfl (Nat.le_of_ble_eq_true rfl) rfl ?_
      exact w_X8_measure_17 C E ih F v2 0 M hB h
set_option maxHeartbeats 4000000 in
theorem ok_X8_measure {G : gC} {l : Launch} (hl : l.stackTraces = false) {F : Nat} {M : Mem} (hB : Bd M) {res : Mem} (h : f_X8_measure F M = some res) : Ok G l 3 0 0 yX8_measure (.code yX8_measure cX8_measure 4 none) [rf G 39, rf G 1] M (.inr none) res := by
  refine ok_of (ls := [some (rf G 39), some (rf G 1), none, none]) hl (by decide +kernel) (Nat.le_of_ble_eq_true rfl) ⟨rfl, ⟨rfl, trivial⟩⟩ ?_
  intro X hX C E
  subst hX
  rw [f_X8_measure] at h
  refine go_aload_n C dX8_measure_0 rfl rfl ?_
  refine go_aload_n C dX8_measure_1 rfl rfl ?_
  obtain ⟨q1, h1, h⟩ := ob_some h
  refine go_callV_v C dX8_measure_2 (ok_X8_measureDistances C.hl hB h1) mv_X8_24 sh_39 rfl rfl (Nat.le_of_ble_eq_true rfl) ⟨(Nat.le_of_ble_eq_true rfl), (Nat.le_of_ble_eq_true rfl)⟩ ⟨(Nat.le_of_ble_eq_true rfl), (Nat.le_of_ble_eq_true rfl)⟩ (fun hB1 => ?_)
  refine go_iconst C dX8_measure_5 ?_
  refine go_istore_n (ls2 := [some (rf G 39), some (rf G 1), some (.int (iI 0)), none]) C dX8_measure_6 rfl (Nat.le_of_ble_eq_true rfl) rfl ?_
  exact w_X8_measure_7 C E F 0 q1 hB1 h
-- IntervalRouter$Ways.good(II)I
set_option maxHeartbeats 4000000 in
theorem ok_X8_good {G : gC} {l : Launch} (hl : l.stackTraces = false) {v1 : Int} {v2 : Int} {M : Mem} (hB : Bd M) {res : Int} (h : f_X8_good v1 v2 M = some res) : Ok G l 0 0 0 yX8_good (.code yX8_good cX8_good 3 (some .int)) [rf G 39, .int (iI v1), .int (iI v2)] M (.inr (some (.int (iI res)))) M := by
  refine ok_of (ls := [some (rf G 39), some (.int (iI v1)), some (.int (iI v2))]) hl (by decide +kernel) (Nat.le_of_ble_eq_true rfl) ⟨rfl, ⟨rfl, ⟨rfl, trivial⟩⟩⟩ ?_
  intro X hX C E
  subst hX
  rw [f_X8_good] at h
  refine go_aload_n C dX8_good_0 rfl rfl ?_
  refine go_getR (o := 2) (k2 := 41) C dX8_good_1 fl_X8_15 sh_39 rfl rfl ?_
  refine go_iload_n C dX8_good_4 rfl rfl ?_
  refine go_bipush C dX8_good_5 (by decide +kernel) ?_
  refine go_imul C dX8_good_7 ?_
  refine go_iload_n C dX8_good_8 rfl rfl ?_
  refine go_iadd C dX8_good_9 ?_
  obtain ⟨hc1, h⟩ := chk_some h
  refine go_iald C dX8_good_10 sh_41 (by decide) hc1 ?_
  cases h
  exact go_iret C E rfl dX8_good_11 (Nat.le_of_ble_eq_true rfl) (Nat.le_of_ble_eq_true rfl) rfl rfl hB
-- IntervalRouter$Ways.connected(I)Z
set_option maxHeartbeats 4000000 in
theorem w_X8_connected_2 {G : gC} {X : gX} {res : Int} {F : Nat} {M : Mem} (hB : Bd M) (C : Cx G X cX8_connected 3 RX8 0 0 0 (some .boolean) []) (E : Fnl G X 0 0 (.inr (some (.int (iI res)))) M) : ∀ (fu : Nat) (v1 : Int) (v2 : Int), f_X8_connected_2 F fu v1 v2 M = some res → Go G X 3 0 0 2 [some (rf G 39), some (.int (iI v1)), some (.int (iI v2))] [] M := by
  intro fu
  induction fu with
  | zero => intro v1 v2 h; exact nomatch (show (none : Option (Int)) = some res from h)
  | succ fu ih =>
    intro v1 v2 h
    rw [f_X8_connected_2] at h
    obtain ⟨⟨hp_v1, hp_v2⟩, h⟩ := chk_some h
    refine go_iload_n C dX8_connected_2 rfl rfl ?_
    refine go_iload_n C dX8_connected_3 rfl rfl ?_
    refine go_icmp_ge (tgt := 27) C dX8_connected_4 rfl hp_v2 hp_v1 (fun hc1 => ?_) (fun hc1 => ?_)
    · replace h := ite_t hc1 h
      refine go_iconst C dX8_connected_27 ?_
      cases h
      exact go_zret C E rfl dX8_connected_28 (by decide) (Nat.le_of_ble_eq_true rfl) (Nat.le_of_ble_eq_true rfl) rfl rfl hB
    · replace h := ite_f hc1 h
      refine go_aload_n C dX8_connected_7 rfl rfl ?_
      refine go_getR (o := 1) (k2 := 40) C dX8_connected_8 fl_X8_9 sh_39 rfl rfl ?_
      refine go_iload_n C dX8_connected_11 rfl rfl ?_
      obtain ⟨hc2, h⟩ := chk_some h
      refine go_iald C dX8_connected_12 sh_40 (by decide) hc2 ?_
      refine go_sipush C dX8_connected_13 (by decide +kernel) ?_
      refine go_icmp_ne (tgt := 21) C dX8_connected_16 rfl (hB 40 v2 (by decide)) (by decide) (fun hc3 => ?_) (fun hc3 => ?_)
      · replace h := ite_f hc3 h
        refine go_iinc (ls2 := [some (rf G 39), some (.int (iI v1)), some (.int (iI (v2 + 1)))]) C dX8_connected_21 rfl (Nat.le_of_ble_eq_true rfl) rfl ?_
        refine go_goto (tgt := 2) C dX8_connected_24 rfl ?_
        exact ih v1 (v2 + 1) h
      · replace h := ite_t hc3 h
        refine go_iconst C dX8_connected_19 ?_
        cases h
        exact go_zret C E rfl dX8_connected_20 (by decide) (Nat.le_of_ble_eq_true rfl) (Nat.le_of_ble_eq_true rfl) rfl rfl hB
set_option maxHeartbeats 4000000 in
theorem ok_X8_connected {G : gC} {l : Launch} (hl : l.stackTraces = false) {F : Nat} {v1 : Int} {M : Mem} (hB : Bd M) {res : Int} (h : f_X8_connected F v1 M = some res) : Ok G l 0 0 0 yX8_connected (.code yX8_connected cX8_connected 3 (some .boolean)) [rf G 39, .int (iI v1)] M (.inr (some (.int (iI res)))) M := by
  refine ok_of (ls := [some (rf G 39), some (.int (iI v1)), none]) hl (by decide +kernel) (Nat.le_of_ble_eq_true rfl) ⟨rfl, ⟨rfl, trivial⟩⟩ ?_
  intro X hX C E
  subst hX
  rw [f_X8_connected] at h
  refine go_iconst C dX8_connected_0 ?_
  refine go_istore_n (ls2 := [some (rf G 39), some (.int (iI v1)), some (.int (iI 0))]) C dX8_connected_1 rfl (Nat.le_of_ble_eq_true rfl) rfl ?_
  exact w_X8_connected_2 hB C E F v1 0 h
-- IntervalRouter.needRange(III)V
set_option maxHeartbeats 4000000 in
theorem ok_X9_needRange {G : gC} {l : Launch} (hl : l.stackTraces = false) {v1 : Int} {v2 : Int} {v3 : Int} {M : Mem} (hB : Bd M) {res : Nat ⊕ Unit} (h : f_X9_needRange v1 v2 v3 M = some res) : Ok G l 6 1 6 yX9_needRange (.code yX9_needRange cX9_needRange 4 none) [rf G 0, .int (iI v1), .int (iI v2), .int (iI v3)] M (oxV res) M := by
  refine ok_of (ls := [some (rf G 0), some (.int (iI v1)), some (.int (iI v2)), some (.int (iI v3))]) hl (by decide +kernel) (Nat.le_of_ble_eq_true rfl) ⟨rfl, ⟨rfl, ⟨rfl, ⟨rfl, trivial⟩⟩⟩⟩ ?_
  intro X hX C E
  subst hX
  rw [f_X9_needRange] at h
  obtain ⟨⟨hp_v1, hp_v2, hp_v3⟩, h⟩ := chk_some h
  refine go_iload_n C dX9_needRange_0 rfl rfl ?_
  refine go_iload_n C dX9_needRange_1 rfl rfl ?_
  refine go_icmp_lt (tgt := 10) C dX9_needRange_2 rfl hp_v1 hp_v2 (fun hc1 => ?_) (fun hc1 => ?_)
  · replace h := ite_t hc1 h
    cases h
    exact go_throwW C E TH_0 (show (328, "a value is out of range") ∈ stT by decide +kernel) dX9_needRange_10 dX9_needRange_13 dX9_needRange_14 dX9_needRange_17 dX9_needRange_20 (Nat.le_of_ble_eq_true rfl) (Nat.le_of_ble_eq_true rfl) (Nat.le_of_ble_eq_true rfl) (Nat.le_of_ble_eq_true rfl) rfl rfl hB
  · replace h := ite_f hc1 h
    refine go_iload_n C dX9_needRange_5 rfl rfl ?_
    refine go_iload_n C dX9_needRange_6 rfl rfl ?_
    refine go_icmp_le (tgt := 21) C dX9_needRange_7 rfl hp_v1 hp_v3 (fun hc2 => ?_) (fun hc2 => ?_)
    · replace h := ite_t hc2 h
      cases h
      exact go_vret C E rfl dX9_needRange_21 (Nat.le_of_ble_eq_true rfl) (Nat.le_of_ble_eq_true rfl) rfl rfl hB
    · replace h := ite_f hc2 h
      cases h
      exact go_throwW C E TH_0 (show (328, "a value is out of range") ∈ stT by decide +kernel) dX9_needRange_10 dX9_needRange_13 dX9_needRange_14 dX9_needRange_17 dX9_needRange_20 (Nat.le_of_ble_eq_true rfl) (Nat.le_of_ble_eq_true rfl) (Nat.le_of_ble_eq_true rfl) (Nat.le_of_ble_eq_true rfl) rfl rfl hB
-- IntervalRouter.measureNetwork()V
set_option maxHeartbeats 4000000 in
theorem ok_X9_measureNetwork {G : gC} {l : Launch} (hl : l.stackTraces = false) {F : Nat} {M : Mem} (hB : Bd M) {res : Mem} (h : f_X9_measureNetwork F M = some res) : Ok G l 4 0 0 yX9_measureNetwork (.code yX9_measureNetwork cX9_measureNetwork 1 none) [rf G 0] M (.inr none) res := by
  refine ok_of (ls := [some (rf G 0)]) hl (by decide +kernel) (Nat.le_of_ble_eq_true rfl) ⟨rfl, trivial⟩ ?_
  intro X hX C E
  subst hX
  rw [f_X9_measureNetwork] at h
  refine go_aload_n C dX9_measureNetwork_0 rfl rfl ?_
  refine go_getR (o := 39) (k2 := 39) C dX9_measureNetwork_1 fl_X9_29 sh_0 rfl rfl ?_
  refine go_aload_n C dX9_measureNetwork_4 rfl rfl ?_
  refine go_getR (o := 1) (k2 := 1) C dX9_measureNetwork_5 fl_X9_12 sh_0 rfl rfl ?_
  obtain ⟨q1, h1, h⟩ := ob_some h
  refine go_callV_v C dX9_measureNetwork_8 (ok_X8_measure C.hl hB h1) mv_X9_338 sh_39 rfl rfl (Nat.le_of_ble_eq_true rfl) ⟨(Nat.le_of_ble_eq_true rfl), (Nat.le_of_ble_eq_true rfl)⟩ ⟨(Nat.le_of_ble_eq_true rfl), (Nat.le_of_ble_eq_true rfl)⟩ (fun hB1 => ?_)
  refine go_aload_n C dX9_measureNetwork_11 rfl rfl ?_
  refine go_getR (o := 51) (k2 := 51) C dX9_measureNetwork_12 fl_X9_50 sh_0 rfl rfl ?_
  obtain ⟨q2, h2, h⟩ := ob_some h
  refine go_callV_v C dX9_measureNetwork_15 (ok_X5_forget C.hl hB1 h2) mv_X9_341 sh_51 rfl rfl (Nat.le_of_ble_eq_true rfl) ⟨(Nat.le_of_ble_eq_true rfl), (Nat.le_of_ble_eq_true rfl)⟩ ⟨(Nat.le_of_ble_eq_true rfl), (Nat.le_of_ble_eq_true rfl)⟩ (fun hB2 => ?_)
  cases h
  exact go_vret C E rfl dX9_measureNetwork_18 (Nat.le_of_ble_eq_true rfl) (Nat.le_of_ble_eq_true rfl) rfl rfl hB2
-- IntervalRouter.networkChanged()V
set_option maxHeartbeats 4000000 in
theorem ok_X9_networkChanged {G : gC} {l : Launch} (hl : l.stackTraces = false) {F : Nat} {M : Mem} (hB : Bd M) {res : Mem} (h : f_X9_networkChanged F M = some res) : Ok G l 5 0 0 yX9_networkChanged (.code yX9_networkChanged cX9_networkChanged 1 none) [rf G 0] M (.inr none) res := by
  refine ok_of (ls := [some (rf G 0)]) hl (by decide +kernel) (Nat.le_of_ble_eq_true rfl) ⟨rfl, trivial⟩ ?_
  intro X hX C E
  subst hX
  rw [f_X9_networkChanged] at h
  refine go_aload_n C dX9_networkChanged_0 rfl rfl ?_
  refine go_getR (o := 1) (k2 := 1) C dX9_networkChanged_1 fl_X9_12 sh_0 rfl rfl ?_
  obtain ⟨q1, h1, h⟩ := ob_some h
  refine go_callV_v C dX9_networkChanged_4 (ok_X6_clearEntries C.hl hB sh_1 h1) mv_X9_178 sh_1 rfl rfl (Nat.le_of_ble_eq_true rfl) ⟨(Nat.le_of_ble_eq_true rfl), (Nat.le_of_ble_eq_true rfl)⟩ ⟨(Nat.le_of_ble_eq_true rfl), (Nat.le_of_ble_eq_true rfl)⟩ (fun hB1 => ?_)
  refine go_aload_n C dX9_networkChanged_7 rfl rfl ?_
  obtain ⟨q2, h2, h⟩ := ob_some h
  refine go_callV_v C dX9_networkChanged_8 (ok_X9_measureNetwork C.hl hB1 h2) mv_X9_311 sh_0 rfl rfl (Nat.le_of_ble_eq_true rfl) ⟨(Nat.le_of_ble_eq_true rfl), (Nat.le_of_ble_eq_true rfl)⟩ ⟨(Nat.le_of_ble_eq_true rfl), (Nat.le_of_ble_eq_true rfl)⟩ (fun hB2 => ?_)
  cases h
  exact go_vret C E rfl dX9_networkChanged_11 (Nat.le_of_ble_eq_true rfl) (Nat.le_of_ble_eq_true rfl) rfl rfl hB2
-- IntervalRouter.begin(I)I
set_option maxHeartbeats 4000000 in
theorem ok_X9_begin {G : gC} {l : Launch} (hl : l.stackTraces = false) {F : Nat} {v1 : Int} {M : Mem} (hB : Bd M) {res : (Nat ⊕ Int) × Mem} (h : f_X9_begin F v1 M = some res) : Ok G l 7 1 6 yX9_begin (.code yX9_begin cX9_begin 3 (some .int)) [rf G 0, .int (iI v1)] M (oxI res.1) res.2 := by
  refine ok_of (ls := [some (rf G 0), some (.int (iI v1)), none]) hl (by decide +kernel) (Nat.le_of_ble_eq_true rfl) ⟨rfl, ⟨rfl, trivial⟩⟩ ?_
  intro X hX C E
  subst hX
  rw [f_X9_begin] at h
  refine go_aload_n C dX9_begin_0 rfl rfl ?_
  refine go_iload_n C dX9_begin_1 rfl rfl ?_
  refine go_iconst C dX9_begin_2 ?_
  refine go_bipush C dX9_begin_3 (by decide +kernel) ?_
  obtain ⟨q1, h1, h⟩ := ob_some h
  refine go_callV_xv C dX9_begin_5 (ok_X9_needRange C.hl hB h1) mv_X9_75 sh_0 rfl rfl (Nat.le_of_ble_eq_true rfl) ⟨(Nat.le_of_ble_eq_true rfl), (Nat.le_of_ble_eq_true rfl)⟩ ⟨(Nat.le_of_ble_eq_true rfl), (Nat.le_of_ble_eq_true rfl)⟩ (fun e1 he1 hB1 => ?_) (fun r1 hr1 hB1 => ?_)
  · replace h := ox_l he1 h
    cases h
    exact go_out C E (Nat.le_of_ble_eq_true rfl) (Nat.le_of_ble_eq_true rfl) rfl rfl hB1
  · replace h := ox_r hr1 h
    refine go_aload_n C dX9_begin_8 rfl rfl ?_
    refine go_getR (o := 1) (k2 := 1) C dX9_begin_9 fl_X9_12 sh_0 rfl rfl ?_
    refine go_getI (z := 1) C dX9_begin_12 fl_X9_79 sh_1 rfl rfl ?_
    refine go_istore_n (ls2 := [some (rf G 0), some (.int (iI v1)), some (.int (iI (M 1 1)))]) C dX9_begin_15 rfl (Nat.le_of_ble_eq_true rfl) rfl ?_
    refine go_aload_n C dX9_begin_16 rfl rfl ?_
    refine go_getR (o := 13) (k2 := 13) C dX9_begin_17 fl_X9_22 sh_0 rfl rfl ?_
    refine go_aload_n C dX9_begin_20 rfl rfl ?_
    refine go_getR (o := 1) (k2 := 1) C dX9_begin_21 fl_X9_12 sh_0 rfl rfl ?_
    obtain ⟨q2, h2, h⟩ := ob_some h
    refine go_callV_v C dX9_begin_24 (ok_X0_save C.hl hB1 h2) mv_X9_83 sh_13 rfl rfl (Nat.le_of_ble_eq_true rfl) ⟨(Nat.le_of_ble_eq_true rfl), (Nat.le_of_ble_eq_true rfl)⟩ ⟨(Nat.le_of_ble_eq_true rfl), (Nat.le_of_ble_eq_true rfl)⟩ (fun hB2 => ?_)
    refine go_aload_n C dX9_begin_27 rfl rfl ?_
    refine go_getR (o := 1) (k2 := 1) C dX9_begin_28 fl_X9_12 sh_0 rfl rfl ?_
    refine go_iload_n C dX9_begin_31 rfl rfl ?_
    obtain ⟨q3, h3, h⟩ := ob_some h
    refine go_callV_v C dX9_begin_32 (ok_X6_start C.hl hB2 sh_1 h3) mv_X9_87 sh_1 rfl rfl (Nat.le_of_ble_eq_true rfl) ⟨(Nat.le_of_ble_eq_true rfl), (Nat.le_of_ble_eq_true rfl)⟩ ⟨(Nat.le_of_ble_eq_true rfl), (Nat.le_of_ble_eq_true rfl)⟩ (fun hB3 => ?_)
    refine go_aload_n C dX9_begin_35 rfl rfl ?_
    obtain ⟨q4, h4, h⟩ := ob_some h
    refine go_callV_v C dX9_begin_36 (ok_X9_networkChanged C.hl hB3 h4) mv_X9_91 sh_0 rfl rfl (Nat.le_of_ble_eq_true rfl) ⟨(Nat.le_of_ble_eq_true rfl), (Nat.le_of_ble_eq_true rfl)⟩ ⟨(Nat.le_of_ble_eq_true rfl), (Nat.le_of_ble_eq_true rfl)⟩ (fun hB4 => ?_)
    refine go_iload_n C dX9_begin_39 rfl rfl ?_
    cases h
    exact go_iret C E rfl dX9_begin_40 (Nat.le_of_ble_eq_true rfl) (Nat.le_of_ble_eq_true rfl) rfl rfl hB4
-- IntervalRouter.needNode(I)V
set_option maxHeartbeats 4000000 in
theorem ok_X9_needNode {G : gC} {l : Launch} (hl : l.stackTraces = false) {v1 : Int} {M : Mem} (hB : Bd M) {res : Nat ⊕ Unit} (h : f_X9_needNode v1 M = some res) : Ok G l 6 1 6 yX9_needNode (.code yX9_needNode cX9_needNode 2 none) [rf G 0, .int (iI v1)] M (oxV res) M := by
  refine ok_of (ls := [some (rf G 0), some (.int (iI v1))]) hl (by decide +kernel) (Nat.le_of_ble_eq_true rfl) ⟨rfl, ⟨rfl, trivial⟩⟩ ?_
  intro X hX C E
  subst hX
  rw [f_X9_needNode] at h
  obtain ⟨hp_v1, h⟩ := chk_some h
  refine go_iload_n C dX9_needNode_0 rfl rfl ?_
  refine go_if_lt (tgt := 15) C dX9_needNode_1 rfl hp_v1 (fun hc1 => ?_) (fun hc1 => ?_)
  · replace h := ite_t hc1 h
    cases h
    exact go_throwW C E TH_1 (show (330, "there is no such node") ∈ stT by decide +kernel) dX9_needNode_15 dX9_needNode_18 dX9_needNode_19 dX9_needNode_22 dX9_needNode_25 (Nat.le_of_ble_eq_true rfl) (Nat.le_of_ble_eq_true rfl) (Nat.le_of_ble_eq_true rfl) (Nat.le_of_ble_eq_true rfl) rfl rfl hB
  · replace h := ite_f hc1 h
    refine go_iload_n C dX9_needNode_4 rfl rfl ?_
    refine go_aload_n C dX9_needNode_5 rfl rfl ?_
    refine go_getR (o := 1) (k2 := 1) C dX9_needNode_6 fl_X9_12 sh_0 rfl rfl ?_
    refine go_getI (z := 0) C dX9_needNode_9 fl_X9_126 sh_1 rfl rfl ?_
    refine go_icmp_lt (tgt := 26) C dX9_needNode_12 rfl hp_v1 (hB 1 0 (by decide)) (fun hc2 => ?_) (fun hc2 => ?_)
    · replace h := ite_t hc2 h
      cases h
      exact go_vret C E rfl dX9_needNode_26 (Nat.le_of_ble_eq_true rfl) (Nat.le_of_ble_eq_true rfl) rfl rfl hB
    · replace h := ite_f hc2 h
      cases h
      exact go_throwW C E TH_1 (show (330, "there is no such node") ∈ stT by decide +kernel) dX9_needNode_15 dX9_needNode_18 dX9_needNode_19 dX9_needNode_22 dX9_needNode_25 (Nat.le_of_ble_eq_true rfl) (Nat.le_of_ble_eq_true rfl) (Nat.le_of_ble_eq_true rfl) (Nat.le_of_ble_eq_true rfl) rfl rfl hB
-- IntervalRouter.addLink(III)I
set_option maxHeartbeats 4000000 in
theorem ok_X9_addLink {G : gC} {l : Launch} (hl : l.stackTraces = false) {F : Nat} {v1 : Int} {v2 : Int} {v3 : Int} {M : Mem} (hB : Bd M) {res : (Nat ⊕ Int) × Mem} (h : f_X9_addLink F v1 v2 v3 M = some res) : Ok G l 7 4 24 yX9_addLink (.code yX9_addLink cX9_addLink 4 (some .int)) [rf G 0, .int (iI v1), .int (iI v2), .int (iI v3)] M (oxI res.1) res.2 := by
  refine ok_of (ls := [some (rf G 0), some (.int (iI v1)), some (.int (iI v2)), some (.int (iI v3))]) hl (by decide +kernel) (Nat.le_of_ble_eq_true rfl) ⟨rfl, ⟨rfl, ⟨rfl, ⟨rfl, trivial⟩⟩⟩⟩ ?_
  intro X hX C E
  subst hX
  rw [f_X9_addLink] at h
  obtain ⟨⟨hp_v1, hp_v2⟩, h⟩ := chk_some h
  refine go_aload_n C dX9_addLink_0 rfl rfl ?_
  refine go_iload_n C dX9_addLink_1 rfl rfl ?_
  obtain ⟨q1, h1, h⟩ := ob_some h
  refine go_callV_xv C dX9_addLink_2 (ok_X9_needNode C.hl hB h1) mv_X9_94 sh_0 rfl rfl (Nat.le_of_ble_eq_true rfl) ⟨(Nat.le_of_ble_eq_true rfl), (Nat.le_of_ble_eq_true rfl)⟩ ⟨(Nat.le_of_ble_eq_true rfl), (Nat.le_of_ble_eq_true rfl)⟩ (fun e1 he1 hB1 => ?_) (fun r1 hr1 hB1 => ?_)
  · replace h := ox_l he1 h
    cases h
    exact go_out C E (Nat.le_of_ble_eq_true rfl) (Nat.le_of_ble_eq_true rfl) rfl rfl hB1
  · replace h := ox_r hr1 h
    refine go_aload_n C dX9_addLink_5 rfl rfl ?_
    refine go_iload_n C dX9_addLink_6 rfl rfl ?_
    obtain ⟨q2, h2, h⟩ := ob_some h
    refine go_callV_xv C dX9_addLink_7 (ok_X9_needNode C.hl hB1 h2) mv_X9_94 sh_0 rfl rfl (Nat.le_of_ble_eq_true rfl) ⟨(Nat.le_of_ble_eq_true rfl), (Nat.le_of_ble_eq_true rfl)⟩ ⟨(Nat.le_of_ble_eq_true rfl), (Nat.le_of_ble_eq_true rfl)⟩ (fun e2 he2 hB2 => ?_) (fun r2 hr2 hB2 => ?_)
    · replace h := ox_l he2 h
      cases h
      exact go_out C E (Nat.le_of_ble_eq_true rfl) (Nat.le_of_ble_eq_true rfl) rfl rfl hB2
    · replace h := ox_r hr2 h
      refine go_aload_n C dX9_addLink_10 rfl rfl ?_
      refine go_iload_n C dX9_addLink_11 rfl rfl ?_
      refine go_iconst C dX9_addLink_12 ?_
      refine go_bipush C dX9_addLink_13 (by decide +kernel) ?_
      obtain ⟨q3, h3, h⟩ := ob_some h
      refine go_callV_xv C dX9_addLink_15 (ok_X9_needRange C.hl hB2 h3) mv_X9_75 sh_0 rfl rfl (Nat.le_of_ble_eq_true rfl) ⟨(Nat.le_of_ble_eq_true rfl), (Nat.le_of_ble_eq_true rfl)⟩ ⟨(Nat.le_of_ble_eq_true rfl), (Nat.le_of_ble_eq_true rfl)⟩ (fun e3 he3 hB3 => ?_) (fun r3 hr3 hB3 => ?_)
      · replace h := ox_l he3 h
        cases h
        exact go_out C E (Nat.le_of_ble_eq_true rfl) (Nat.le_of_ble_eq_true rfl) rfl rfl hB3
      · replace h := ox_r hr3 h
        refine go_iload_n C dX9_addLink_18 rfl rfl ?_
        refine go_iload_n C dX9_addLink_19 rfl rfl ?_
        refine go_icmp_eq (tgt := 35) C dX9_addLink_20 rfl hp_v1 hp_v2 (fun hc4 => ?_) (fun hc4 => ?_)
        · replace h := ite_t hc4 h
          cases h
          exact go_throw C E TH_0 (show (103, "these nodes cannot be joined") ∈ stT by decide +kernel) dX9_addLink_35 dX9_addLink_38 dX9_addLink_39 dX9_addLink_41 dX9_addLink_44 (Nat.le_of_ble_eq_true rfl) (Nat.le_of_ble_eq_true rfl) (Nat.le_of_ble_eq_true rfl) (Nat.le_of_ble_eq_true rfl) rfl rfl hB3
        · replace h := ite_f hc4 h
          refine go_aload_n C dX9_addLink_23 rfl rfl ?_
          refine go_getR (o := 1) (k2 := 1) C dX9_addLink_24 fl_X9_12 sh_0 rfl rfl ?_
          refine go_iload_n C dX9_addLink_27 rfl rfl ?_
          refine go_iload_n C dX9_addLink_28 rfl rfl ?_
          obtain ⟨q5, h5, h⟩ := ob_some h
          refine go_callV_i C dX9_addLink_29 (ok_X6_joined C.hl hB3 sh_1 h5) mv_X9_97 sh_1 rfl rfl (Nat.le_of_ble_eq_true rfl) ⟨(Nat.le_of_ble_eq_true rfl), (Nat.le_of_ble_eq_true rfl)⟩ ⟨(Nat.le_of_ble_eq_true rfl), (Nat.le_of_ble_eq_true rfl)⟩ (fun hB5 => ?_)
          obtain ⟨hc6, h⟩ := chk_some h
          refine go_if_eq (tgt := 45) C dX9_addLink_32 rfl hc6 (fun hc7 => ?_) (fun hc7 => ?_)
          · replace h := ite_t hc7 h
            refine go_aload_n C dX9_addLink_45 rfl rfl ?_
            refine go_getR (o := 1) (k2 := 1) C dX9_addLink_46 fl_X9_12 sh_0 rfl rfl ?_
            refine go_getI (z := 1) C dX9_addLink_49 fl_X9_79 sh_1 rfl rfl ?_
            refine go_bipush C dX9_addLink_52 (by decide +kernel) ?_
            refine go_icmp_lt (tgt := 67) C dX9_addLink_54 rfl (hB5 1 1 (by decide)) (by decide) (fun hc8 => ?_) (fun hc8 => ?_)
            · replace h := ite_t hc8 h
              refine go_aload_n C dX9_addLink_67 rfl rfl ?_
              refine go_getR (o := 13) (k2 := 13) C dX9_addLink_68 fl_X9_22 sh_0 rfl rfl ?_
              refine go_aload_n C dX9_addLink_71 rfl rfl ?_
              refine go_getR (o := 1) (k2 := 1) C dX9_addLink_72 fl_X9_12 sh_0 rfl rfl ?_
              obtain ⟨q9, h9, h⟩ := ob_some h
              refine go_callV_v C dX9_addLink_75 (ok_X0_save C.hl hB5 h9) mv_X9_83 sh_13 rfl rfl (Nat.le_of_ble_eq_true rfl) ⟨(Nat.le_of_ble_eq_true rfl), (Nat.le_of_ble_eq_true rfl)⟩ ⟨(Nat.le_of_ble_eq_true rfl), (Nat.le_of_ble_eq_true rfl)⟩ (fun hB9 => ?_)
              refine go_aload_n C dX9_addLink_78 rfl rfl ?_
              refine go_getR (o := 1) (k2 := 1) C dX9_addLink_79 fl_X9_12 sh_0 rfl rfl ?_
              refine go_iload_n C dX9_addLink_82 rfl rfl ?_
              refine go_iload_n C dX9_addLink_83 rfl rfl ?_
              refine go_iload_n C dX9_addLink_84 rfl rfl ?_
              obtain ⟨q10, h10, h⟩ := ob_some h
              refine go_callV_v C dX9_addLink_85 (ok_X6_join C.hl hB9 sh_1 h10) mv_X9_113 sh_1 rfl rfl (Nat.le_of_ble_eq_true rfl) ⟨(Nat.le_of_ble_eq_true rfl), (Nat.le_of_ble_eq_true rfl)⟩ ⟨(Nat.le_of_ble_eq_true rfl), (Nat.le_of_ble_eq_true rfl)⟩ (fun hB10 => ?_)
              refine go_aload_n C dX9_addLink_88 rfl rfl ?_
              obtain ⟨q11, h11, h⟩ := ob_some h
              refine go_callV_v C dX9_addLink_89 (ok_X9_networkChanged C.hl hB10 h11) mv_X9_91 sh_0 rfl rfl (Nat.le_of_ble_eq_true rfl) ⟨(Nat.le_of_ble_eq_true rfl), (Nat.le_of_ble_eq_true rfl)⟩ ⟨(Nat.le_of_ble_eq_true rfl), (Nat.le_of_ble_eq_true rfl)⟩ (fun hB11 => ?_)
              refine go_aload_n C dX9_addLink_92 rfl rfl ?_
              refine go_getR (o := 1) (k2 := 1) C dX9_addLink_93 fl_X9_12 sh_0 rfl rfl ?_
              refine go_getI (z := 1) C dX9_addLink_96 fl_X9_79 sh_1 rfl rfl ?_
              refine go_iconst C dX9_addLink_99 ?_
              refine go_isub C dX9_addLink_100 ?_
              cases h
              exact go_iret C E rfl dX9_addLink_101 (Nat.le_of_ble_eq_true rfl) (Nat.le_of_ble_eq_true rfl) rfl rfl hB11
            · replace h := ite_f hc8 h
              cases h
              exact go_throw C E TH_2 (show (110, "there are 16 links") ∈ stT by decide +kernel) dX9_addLink_57 dX9_addLink_60 dX9_addLink_61 dX9_addLink_63 dX9_addLink_66 (Nat.le_of_ble_eq_true rfl) (Nat.le_of_ble_eq_true rfl) (Nat.le_of_ble_eq_true rfl) (Nat.le_of_ble_eq_true rfl) rfl rfl hB5
          · replace h := ite_f hc7 h
            cases h
            exact go_throw C E TH_0 (show (103, "these nodes cannot be joined") ∈ stT by decide +kernel) dX9_addLink_35 dX9_addLink_38 dX9_addLink_39 dX9_addLink_41 dX9_addLink_44 (Nat.le_of_ble_eq_true rfl) (Nat.le_of_ble_eq_true rfl) (Nat.le_of_ble_eq_true rfl) (Nat.le_of_ble_eq_true rfl) rfl rfl hB5
-- IntervalRouter.needLink(I)V
set_option maxHeartbeats 4000000 in
theorem ok_X9_needLink {G : gC} {l : Launch} (hl : l.stackTraces = false) {v1 : Int} {M : Mem} (hB : Bd M) {res : Nat ⊕ Unit} (h : f_X9_needLink v1 M = some res) : Ok G l 6 1 6 yX9_needLink (.code yX9_needLink cX9_needLink 2 none) [rf G 0, .int (iI v1)] M (oxV res) M := by
  refine ok_of (ls := [some (rf G 0), some (.int (iI v1))]) hl (by decide +kernel) (Nat.le_of_ble_eq_true rfl) ⟨rfl, ⟨rfl, trivial⟩⟩ ?_
  intro X hX C E
  subst hX
  rw [f_X9_needLink] at h
  obtain ⟨hp_v1, h⟩ := chk_some h
  refine go_iload_n C dX9_needLink_0 rfl rfl ?_
  refine go_if_lt (tgt := 15) C dX9_needLink_1 rfl hp_v1 (fun hc1 => ?_) (fun hc1 => ?_)
  · replace h := ite_t hc1 h
    cases h
    exact go_throwW C E TH_1 (show (334, "there is no such link") ∈ stT by decide +kernel) dX9_needLink_15 dX9_needLink_18 dX9_needLink_19 dX9_needLink_22 dX9_needLink_25 (Nat.le_of_ble_eq_true rfl) (Nat.le_of_ble_eq_true rfl) (Nat.le_of_ble_eq_true rfl) (Nat.le_of_ble_eq_true rfl) rfl rfl hB
  · replace h := ite_f hc1 h
    refine go_iload_n C dX9_needLink_4 rfl rfl ?_
    refine go_aload_n C dX9_needLink_5 rfl rfl ?_
    refine go_getR (o := 1) (k2 := 1) C dX9_needLink_6 fl_X9_12 sh_0 rfl rfl ?_
    refine go_getI (z := 1) C dX9_needLink_9 fl_X9_79 sh_1 rfl rfl ?_
    refine go_icmp_lt (tgt := 26) C dX9_needLink_12 rfl hp_v1 (hB 1 1 (by decide)) (fun hc2 => ?_) (fun hc2 => ?_)
    · replace h := ite_t hc2 h
      cases h
      exact go_vret C E rfl dX9_needLink_26 (Nat.le_of_ble_eq_true rfl) (Nat.le_of_ble_eq_true rfl) rfl rfl hB
    · replace h := ite_f hc2 h
      cases h
      exact go_throwW C E TH_1 (show (334, "there is no such link") ∈ stT by decide +kernel) dX9_needLink_15 dX9_needLink_18 dX9_needLink_19 dX9_needLink_22 dX9_needLink_25 (Nat.le_of_ble_eq_true rfl) (Nat.le_of_ble_eq_true rfl) (Nat.le_of_ble_eq_true rfl) (Nat.le_of_ble_eq_true rfl) rfl rfl hB
-- IntervalRouter.removeLink(I)I
set_option maxHeartbeats 4000000 in
theorem ok_X9_removeLink {G : gC} {l : Launch} (hl : l.stackTraces = false) {F : Nat} {v1 : Int} {M : Mem} (hB : Bd M) {res : (Nat ⊕ Int) × Mem} (h : f_X9_removeLink F v1 M = some res) : Ok G l 7 1 6 yX9_removeLink (.code yX9_removeLink cX9_removeLink 2 (some .int)) [rf G 0, .int (iI v1)] M (oxI res.1) res.2 := by
  refine ok_of (ls := [some (rf G 0), some (.int (iI v1))]) hl (by decide +kernel) (Nat.le_of_ble_eq_true rfl) ⟨rfl, ⟨rfl, trivial⟩⟩ ?_
  intro X hX C E
  subst hX
  rw [f_X9_removeLink] at h
  refine go_aload_n C dX9_removeLink_0 rfl rfl ?_
  refine go_iload_n C dX9_removeLink_1 rfl rfl ?_
  obtain ⟨q1, h1, h⟩ := ob_some h
  refine go_callV_xv C dX9_removeLink_2 (ok_X9_needLink C.hl hB h1) mv_X9_116 sh_0 rfl rfl (Nat.le_of_ble_eq_true rfl) ⟨(Nat.le_of_ble_eq_true rfl), (Nat.le_of_ble_eq_true rfl)⟩ ⟨(Nat.le_of_ble_eq_true rfl), (Nat.le_of_ble_eq_true rfl)⟩ (fun e1 he1 hB1 => ?_) (fun r1 hr1 hB1 => ?_)
  · replace h := ox_l he1 h
    cases h
    exact go_out C E (Nat.le_of_ble_eq_true rfl) (Nat.le_of_ble_eq_true rfl) rfl rfl hB1
  · replace h := ox_r hr1 h
    refine go_aload_n C dX9_removeLink_5 rfl rfl ?_
    refine go_getR (o := 13) (k2 := 13) C dX9_removeLink_6 fl_X9_22 sh_0 rfl rfl ?_
    refine go_aload_n C dX9_removeLink_9 rfl rfl ?_
    refine go_getR (o := 1) (k2 := 1) C dX9_removeLink_10 fl_X9_12 sh_0 rfl rfl ?_
    obtain ⟨q2, h2, h⟩ := ob_some h
    refine go_callV_v C dX9_removeLink_13 (ok_X0_save C.hl hB1 h2) mv_X9_83 sh_13 rfl rfl (Nat.le_of_ble_eq_true rfl) ⟨(Nat.le_of_ble_eq_true rfl), (Nat.le_of_ble_eq_true rfl)⟩ ⟨(Nat.le_of_ble_eq_true rfl), (Nat.le_of_ble_eq_true rfl)⟩ (fun hB2 => ?_)
    refine go_aload_n C dX9_removeLink_16 rfl rfl ?_
    refine go_getR (o := 1) (k2 := 1) C dX9_removeLink_17 fl_X9_12 sh_0 rfl rfl ?_
    refine go_iload_n C dX9_removeLink_20 rfl rfl ?_
    obtain ⟨q3, h3, h⟩ := ob_some h
    refine go_callV_v C dX9_removeLink_21 (ok_X6_drop C.hl hB2 sh_1 h3) mv_X9_119 sh_1 rfl rfl (Nat.le_of_ble_eq_true rfl) ⟨(Nat.le_of_ble_eq_true rfl), (Nat.le_of_ble_eq_true rfl)⟩ ⟨(Nat.le_of_ble_eq_true rfl), (Nat.le_of_ble_eq_true rfl)⟩ (fun hB3 => ?_)
    refine go_aload_n C dX9_removeLink_24 rfl rfl ?_
    obtain ⟨q4, h4, h⟩ := ob_some h
    refine go_callV_v C dX9_removeLink_25 (ok_X9_networkChanged C.hl hB3 h4) mv_X9_91 sh_0 rfl rfl (Nat.le_of_ble_eq_true rfl) ⟨(Nat.le_of_ble_eq_true rfl), (Nat.le_of_ble_eq_true rfl)⟩ ⟨(Nat.le_of_ble_eq_true rfl), (Nat.le_of_ble_eq_true rfl)⟩ (fun hB4 => ?_)
    refine go_aload_n C dX9_removeLink_28 rfl rfl ?_
    refine go_getR (o := 1) (k2 := 1) C dX9_removeLink_29 fl_X9_12 sh_0 rfl rfl ?_
    refine go_getI (z := 1) C dX9_removeLink_32 fl_X9_79 sh_1 rfl rfl ?_
    cases h
    exact go_iret C E rfl dX9_removeLink_35 (Nat.le_of_ble_eq_true rfl) (Nat.le_of_ble_eq_true rfl) rfl rfl hB4
-- IntervalRouter.setLength(II)I
set_option maxHeartbeats 4000000 in
theorem ok_X9_setLength {G : gC} {l : Launch} (hl : l.stackTraces = false) {F : Nat} {v1 : Int} {v2 : Int} {M : Mem} (hB : Bd M) {res : (Nat ⊕ Int) × Mem} (h : f_X9_setLength F v1 v2 M = some res) : Ok G l 7 2 12 yX9_setLength (.code yX9_setLength cX9_setLength 4 (some .int)) [rf G 0, .int (iI v1), .int (iI v2)] M (oxI res.1) res.2 := by
  refine ok_of (ls := [some (rf G 0), some (.int (iI v1)), some (.int (iI v2)), none]) hl (by decide +kernel) (Nat.le_of_ble_eq_true rfl) ⟨rfl, ⟨rfl, ⟨rfl, trivial⟩⟩⟩ ?_
  intro X hX C E
  subst hX
  rw [f_X9_setLength] at h
  obtain ⟨hp_v2, h⟩ := chk_some h
  refine go_aload_n C dX9_setLength_0 rfl rfl ?_
  refine go_iload_n C dX9_setLength_1 rfl rfl ?_
  obtain ⟨q1, h1, h⟩ := ob_some h
  refine go_callV_xv C dX9_setLength_2 (ok_X9_needLink C.hl hB h1) mv_X9_116 sh_0 rfl rfl (Nat.le_of_ble_eq_true rfl) ⟨(Nat.le_of_ble_eq_true rfl), (Nat.le_of_ble_eq_true rfl)⟩ ⟨(Nat.le_of_ble_eq_true rfl), (Nat.le_of_ble_eq_true rfl)⟩ (fun e1 he1 hB1 => ?_) (fun r1 hr1 hB1 => ?_)
  · replace h := ox_l he1 h
    cases h
    exact go_out C E (Nat.le_of_ble_eq_true rfl) (Nat.le_of_ble_eq_true rfl) rfl rfl hB1
  · replace h := ox_r hr1 h
    refine go_aload_n C dX9_setLength_5 rfl rfl ?_
    refine go_iload_n C dX9_setLength_6 rfl rfl ?_
    refine go_iconst C dX9_setLength_7 ?_
    refine go_bipush C dX9_setLength_8 (by decide +kernel) ?_
    obtain ⟨q2, h2, h⟩ := ob_some h
    refine go_callV_xv C dX9_setLength_10 (ok_X9_needRange C.hl hB1 h2) mv_X9_75 sh_0 rfl rfl (Nat.le_of_ble_eq_true rfl) ⟨(Nat.le_of_ble_eq_true rfl), (Nat.le_of_ble_eq_true rfl)⟩ ⟨(Nat.le_of_ble_eq_true rfl), (Nat.le_of_ble_eq_true rfl)⟩ (fun e2 he2 hB2 => ?_) (fun r2 hr2 hB2 => ?_)
    · replace h := ox_l he2 h
      cases h
      exact go_out C E (Nat.le_of_ble_eq_true rfl) (Nat.le_of_ble_eq_true rfl) rfl rfl hB2
    · replace h := ox_r hr2 h
      refine go_aload_n C dX9_setLength_13 rfl rfl ?_
      refine go_getR (o := 1) (k2 := 1) C dX9_setLength_14 fl_X9_12 sh_0 rfl rfl ?_
      refine go_getR (o := 3) (k2 := 4) C dX9_setLength_17 fl_X9_122 sh_1 rfl rfl ?_
      refine go_iload_n C dX9_setLength_20 rfl rfl ?_
      obtain ⟨hc3, h⟩ := chk_some h
      refine go_iald C dX9_setLength_21 sh_4 (by decide) hc3 ?_
      refine go_istore_n (ls2 := [some (rf G 0), some (.int (iI v1)), some (.int (iI v2)), some (.int (iI (M 4 v1)))]) C dX9_setLength_22 rfl (Nat.le_of_ble_eq_true rfl) rfl ?_
      refine go_aload_n C dX9_setLength_23 rfl rfl ?_
      refine go_getR (o := 13) (k2 := 13) C dX9_setLength_24 fl_X9_22 sh_0 rfl rfl ?_
      refine go_aload_n C dX9_setLength_27 rfl rfl ?_
      refine go_getR (o := 1) (k2 := 1) C dX9_setLength_28 fl_X9_12 sh_0 rfl rfl ?_
      obtain ⟨q4, h4, h⟩ := ob_some h
      refine go_callV_v C dX9_setLength_31 (ok_X0_save C.hl hB2 h4) mv_X9_83 sh_13 rfl rfl (Nat.le_of_ble_eq_true rfl) ⟨(Nat.le_of_ble_eq_true rfl), (Nat.le_of_ble_eq_true rfl)⟩ ⟨(Nat.le_of_ble_eq_true rfl), (Nat.le_of_ble_eq_true rfl)⟩ (fun hB4 => ?_)
      refine go_aload_n C dX9_setLength_34 rfl rfl ?_
      refine go_getR (o := 1) (k2 := 1) C dX9_setLength_35 fl_X9_12 sh_0 rfl rfl ?_
      refine go_getR (o := 3) (k2 := 4) C dX9_setLength_38 fl_X9_122 sh_1 rfl rfl ?_
      refine go_iload_n C dX9_setLength_41 rfl rfl ?_
      refine go_iload_n C dX9_setLength_42 rfl rfl ?_
      refine go_iast C dX9_setLength_43 sh_4 (by decide) hc3 ?_
      have hB5 := hB4.set 4 v1 (x := v2) hp_v2
      refine go_aload_n C dX9_setLength_44 rfl rfl ?_
      obtain ⟨q6, h6, h⟩ := ob_some h
      refine go_callV_v C dX9_setLength_45 (ok_X9_networkChanged C.hl hB5 h6) mv_X9_91 sh_0 rfl rfl (Nat.le_of_ble_eq_true rfl) ⟨(Nat.le_of_ble_eq_true rfl), (Nat.le_of_ble_eq_true rfl)⟩ ⟨(Nat.le_of_ble_eq_true rfl), (Nat.le_of_ble_eq_true rfl)⟩ (fun hB6 => ?_)
      refine go_iload_n C dX9_setLength_48 rfl rfl ?_
      cases h
      exact go_iret C E rfl dX9_setLength_49 (Nat.le_of_ble_eq_true rfl) (Nat.le_of_ble_eq_true rfl) rfl rfl hB6
-- IntervalRouter.size(Z)I
set_option maxHeartbeats 4000000 in
theorem ok_X9_size {G : gC} {l : Launch} (hl : l.stackTraces = false) {v1 : Int} {M : Mem} (hB : Bd M) {res : Int} (h : f_X9_size v1 M = some res) : Ok G l 0 0 0 yX9_size (.code yX9_size cX9_size 2 (some .int)) [rf G 0, .int (iI v1)] M (.inr (some (.int (iI res)))) M := by
  refine ok_of (ls := [some (rf G 0), some (.int (iI v1))]) hl (by decide +kernel) (Nat.le_of_ble_eq_true rfl) ⟨rfl, ⟨rfl, trivial⟩⟩ ?_
  intro X hX C E
  subst hX
  rw [f_X9_size] at h
  obtain ⟨hp_v1, h⟩ := chk_some h
  refine go_iload_n C dX9_size_0 rfl rfl ?_
  refine go_if_eq (tgt := 14) C dX9_size_1 rfl hp_v1 (fun hc1 => ?_) (fun hc1 => ?_)
  · replace h := ite_t hc1 h
    refine go_aload_n C dX9_size_14 rfl rfl ?_
    refine go_getR (o := 1) (k2 := 1) C dX9_size_15 fl_X9_12 sh_0 rfl rfl ?_
    refine go_getI (z := 0) C dX9_size_18 fl_X9_126 sh_1 rfl rfl ?_
    cases h
    exact go_iret C E rfl dX9_size_21 (Nat.le_of_ble_eq_true rfl) (Nat.le_of_ble_eq_true rfl) rfl rfl hB
  · replace h := ite_f hc1 h
    refine go_aload_n C dX9_size_4 rfl rfl ?_
    refine go_getR (o := 1) (k2 := 1) C dX9_size_5 fl_X9_12 sh_0 rfl rfl ?_
    refine go_getI (z := 1) C dX9_size_8 fl_X9_79 sh_1 rfl rfl ?_
    refine go_goto (tgt := 21) C dX9_size_11 rfl ?_
    cases h
    exact go_iret C E rfl dX9_size_21 (Nat.le_of_ble_eq_true rfl) (Nat.le_of_ble_eq_true rfl) rfl rfl hB
-- IntervalRouter.link(II)I
set_option maxHeartbeats 4000000 in
theorem ok_X9_link {G : gC} {l : Launch} (hl : l.stackTraces = false) {v1 : Int} {v2 : Int} {M : Mem} (hB : Bd M) {res : Nat ⊕ Int} (h : f_X9_link v1 v2 M = some res) : Ok G l 7 2 12 yX9_link (.code yX9_link cX9_link 3 (some .int)) [rf G 0, .int (iI v1), .int (iI v2)] M (oxI res) M := by
  refine ok_of (ls := [some (rf G 0), some (.int (iI v1)), some (.int (iI v2))]) hl (by decide +kernel) (Nat.le_of_ble_eq_true rfl) ⟨rfl, ⟨rfl, ⟨rfl, trivial⟩⟩⟩ ?_
  intro X hX C E
  subst hX
  rw [f_X9_link] at h
  refine go_aload_n C dX9_link_0 rfl rfl ?_
  refine go_iload_n C dX9_link_1 rfl rfl ?_
  obtain ⟨q1, h1, h⟩ := ob_some h
  refine go_callV_xv C dX9_link_2 (ok_X9_needLink C.hl hB h1) mv_X9_116 sh_0 rfl rfl (Nat.le_of_ble_eq_true rfl) ⟨(Nat.le_of_ble_eq_true rfl), (Nat.le_of_ble_eq_true rfl)⟩ ⟨(Nat.le_of_ble_eq_true rfl), (Nat.le_of_ble_eq_true rfl)⟩ (fun e1 he1 hB1 => ?_) (fun r1 hr1 hB1 => ?_)
  · replace h := ox_l he1 h
    cases h
    exact go_out C E (Nat.le_of_ble_eq_true rfl) (Nat.le_of_ble_eq_true rfl) rfl rfl hB1
  · replace h := ox_r hr1 h
    refine go_aload_n C dX9_link_5 rfl rfl ?_
    refine go_iload_n C dX9_link_6 rfl rfl ?_
    refine go_iconst C dX9_link_7 ?_
    refine go_iconst C dX9_link_8 ?_
    obtain ⟨q2, h2, h⟩ := ob_some h
    refine go_callV_xv C dX9_link_9 (ok_X9_needRange C.hl hB1 h2) mv_X9_75 sh_0 rfl rfl (Nat.le_of_ble_eq_true rfl) ⟨(Nat.le_of_ble_eq_true rfl), (Nat.le_of_ble_eq_true rfl)⟩ ⟨(Nat.le_of_ble_eq_true rfl), (Nat.le_of_ble_eq_true rfl)⟩ (fun e2 he2 hB2 => ?_) (fun r2 hr2 hB2 => ?_)
    · replace h := ox_l he2 h
      cases h
      exact go_out C E (Nat.le_of_ble_eq_true rfl) (Nat.le_of_ble_eq_true rfl) rfl rfl hB2
    · replace h := ox_r hr2 h
      refine go_aload_n C dX9_link_12 rfl rfl ?_
      refine go_getR (o := 1) (k2 := 1) C dX9_link_13 fl_X9_12 sh_0 rfl rfl ?_
      refine go_iload_n C dX9_link_16 rfl rfl ?_
      refine go_iload_n C dX9_link_17 rfl rfl ?_
      obtain ⟨q3, h3, h⟩ := ob_some h
      refine go_callV_i C dX9_link_18 (ok_X6_linkValue C.hl hB2 sh_1 h3) mv_X9_129 sh_1 rfl rfl (Nat.le_of_ble_eq_true rfl) ⟨(Nat.le_of_ble_eq_true rfl), (Nat.le_of_ble_eq_true rfl)⟩ ⟨(Nat.le_of_ble_eq_true rfl), (Nat.le_of_ble_eq_true rfl)⟩ (fun hB3 => ?_)
      cases h
      exact go_iret C E rfl dX9_link_21 (Nat.le_of_ble_eq_true rfl) (Nat.le_of_ble_eq_true rfl) rfl rfl hB3
-- IntervalRouter.distance(II)I
set_option maxHeartbeats 4000000 in
theorem ok_X9_distance {G : gC} {l : Launch} (hl : l.stackTraces = false) {v1 : Int} {v2 : Int} {M : Mem} (hB : Bd M) {res : Nat ⊕ Int} (h : f_X9_distance v1 v2 M = some res) : Ok G l 7 2 12 yX9_distance (.code yX9_distance cX9_distance 4 (some .int)) [rf G 0, .int (iI v1), .int (iI v2)] M (oxI res) M := by
  refine ok_of (ls := [some (rf G 0), some (.int (iI v1)), some (.int (iI v2)), none]) hl (by decide +kernel) (Nat.le_of_ble_eq_true rfl) ⟨rfl, ⟨rfl, ⟨rfl, trivial⟩⟩⟩ ?_
  intro X hX C E
  subst hX
  rw [f_X9_distance] at h
  refine go_aload_n C dX9_distance_0 rfl rfl ?_
  refine go_iload_n C dX9_distance_1 rfl rfl ?_
  obtain ⟨q1, h1, h⟩ := ob_some h
  refine go_callV_xv C dX9_distance_2 (ok_X9_needNode C.hl hB h1) mv_X9_94 sh_0 rfl rfl (Nat.le_of_ble_eq_true rfl) ⟨(Nat.le_of_ble_eq_true rfl), (Nat.le_of_ble_eq_true rfl)⟩ ⟨(Nat.le_of_ble_eq_true rfl), (Nat.le_of_ble_eq_true rfl)⟩ (fun e1 he1 hB1 => ?_) (fun r1 hr1 hB1 => ?_)
  · replace h := ox_l he1 h
    cases h
    exact go_out C E (Nat.le_of_ble_eq_true rfl) (Nat.le_of_ble_eq_true rfl) rfl rfl hB1
  · replace h := ox_r hr1 h
    refine go_aload_n C dX9_distance_5 rfl rfl ?_
    refine go_iload_n C dX9_distance_6 rfl rfl ?_
    obtain ⟨q2, h2, h⟩ := ob_some h
    refine go_callV_xv C dX9_distance_7 (ok_X9_needNode C.hl hB1 h2) mv_X9_94 sh_0 rfl rfl (Nat.le_of_ble_eq_true rfl) ⟨(Nat.le_of_ble_eq_true rfl), (Nat.le_of_ble_eq_true rfl)⟩ ⟨(Nat.le_of_ble_eq_true rfl), (Nat.le_of_ble_eq_true rfl)⟩ (fun e2 he2 hB2 => ?_) (fun r2 hr2 hB2 => ?_)
    · replace h := ox_l he2 h
      cases h
      exact go_out C E (Nat.le_of_ble_eq_true rfl) (Nat.le_of_ble_eq_true rfl) rfl rfl hB2
    · replace h := ox_r hr2 h
      refine go_aload_n C dX9_distance_10 rfl rfl ?_
      refine go_getR (o := 39) (k2 := 39) C dX9_distance_11 fl_X9_29 sh_0 rfl rfl ?_
      refine go_iload_n C dX9_distance_14 rfl rfl ?_
      refine go_iload_n C dX9_distance_15 rfl rfl ?_
      obtain ⟨q3, h3, h⟩ := ob_some h
      refine go_callV_i C dX9_distance_16 (ok_X8_between C.hl hB2 h3) mv_X9_133 sh_39 rfl rfl (Nat.le_of_ble_eq_true rfl) ⟨(Nat.le_of_ble_eq_true rfl), (Nat.le_of_ble_eq_true rfl)⟩ ⟨(Nat.le_of_ble_eq_true rfl), (Nat.le_of_ble_eq_true rfl)⟩ (fun hB3 => ?_)
      refine go_istore_n (ls2 := [some (rf G 0), some (.int (iI v1)), some (.int (iI v2)), some (.int (iI q3))]) C dX9_distance_19 rfl (Nat.le_of_ble_eq_true rfl) rfl ?_
      refine go_iload_n C dX9_distance_20 rfl rfl ?_
      refine go_sipush C dX9_distance_21 (by decide +kernel) ?_
      obtain ⟨hc4, h⟩ := chk_some h
      refine go_icmp_ne (tgt := 31) C dX9_distance_24 rfl hc4 (by decide) (fun hc5 => ?_) (fun hc5 => ?_)
      · replace h := ite_f hc5 h
        refine go_iload_n C dX9_distance_31 rfl rfl ?_
        cases h
        exact go_iret C E rfl dX9_distance_32 (Nat.le_of_ble_eq_true rfl) (Nat.le_of_ble_eq_true rfl) rfl rfl hB3
      · replace h := ite_t hc5 h
        refine go_iconst C dX9_distance_27 ?_
        refine go_goto (tgt := 32) C dX9_distance_28 rfl ?_
        cases h
        exact go_iret C E rfl dX9_distance_32 (Nat.le_of_ble_eq_true rfl) (Nat.le_of_ble_eq_true rfl) rfl rfl hB3
-- IntervalRouter.goodLinks(II)I
set_option maxHeartbeats 4000000 in
theorem ok_X9_goodLinks {G : gC} {l : Launch} (hl : l.stackTraces = false) {v1 : Int} {v2 : Int} {M : Mem} (hB : Bd M) {res : Nat ⊕ Int} (h : f_X9_goodLinks v1 v2 M = some res) : Ok G l 7 2 12 yX9_goodLinks (.code yX9_goodLinks cX9_goodLinks 3 (some .int)) [rf G 0, .int (iI v1), .int (iI v2)] M (oxI res) M := by
  refine ok_of (ls := [some (rf G 0), some (.int (iI v1)), some (.int (iI v2))]) hl (by decide +kernel) (Nat.le_of_ble_eq_true rfl) ⟨rfl, ⟨rfl, ⟨rfl, trivial⟩⟩⟩ ?_
  intro X hX C E
  subst hX
  rw [f_X9_goodLinks] at h
  refine go_aload_n C dX9_goodLinks_0 rfl rfl ?_
  refine go_iload_n C dX9_goodLinks_1 rfl rfl ?_
  obtain ⟨q1, h1, h⟩ := ob_some h
  refine go_callV_xv C dX9_goodLinks_2 (ok_X9_needNode C.hl hB h1) mv_X9_94 sh_0 rfl rfl (Nat.le_of_ble_eq_true rfl) ⟨(Nat.le_of_ble_eq_true rfl), (Nat.le_of_ble_eq_true rfl)⟩ ⟨(Nat.le_of_ble_eq_true rfl), (Nat.le_of_ble_eq_true rfl)⟩ (fun e1 he1 hB1 => ?_) (fun r1 hr1 hB1 => ?_)
  · replace h := ox_l he1 h
    cases h
    exact go_out C E (Nat.le_of_ble_eq_true rfl) (Nat.le_of_ble_eq_true rfl) rfl rfl hB1
  · replace h := ox_r hr1 h
    refine go_aload_n C dX9_goodLinks_5 rfl rfl ?_
    refine go_iload_n C dX9_goodLinks_6 rfl rfl ?_
    obtain ⟨q2, h2, h⟩ := ob_some h
    refine go_callV_xv C dX9_goodLinks_7 (ok_X9_needNode C.hl hB1 h2) mv_X9_94 sh_0 rfl rfl (Nat.le_of_ble_eq_true rfl) ⟨(Nat.le_of_ble_eq_true rfl), (Nat.le_of_ble_eq_true rfl)⟩ ⟨(Nat.le_of_ble_eq_true rfl), (Nat.le_of_ble_eq_true rfl)⟩ (fun e2 he2 hB2 => ?_) (fun r2 hr2 hB2 => ?_)
    · replace h := ox_l he2 h
      cases h
      exact go_out C E (Nat.le_of_ble_eq_true rfl) (Nat.le_of_ble_eq_true rfl) rfl rfl hB2
    · replace h := ox_r hr2 h
      refine go_aload_n C dX9_goodLinks_10 rfl rfl ?_
      refine go_getR (o := 39) (k2 := 39) C dX9_goodLinks_11 fl_X9_29 sh_0 rfl rfl ?_
      refine go_iload_n C dX9_goodLinks_14 rfl rfl ?_
      refine go_iload_n C dX9_goodLinks_15 rfl rfl ?_
      obtain ⟨q3, h3, h⟩ := ob_some h
      refine go_callV_i C dX9_goodLinks_16 (ok_X8_good C.hl hB2 h3) mv_X9_136 sh_39 rfl rfl (Nat.le_of_ble_eq_true rfl) ⟨(Nat.le_of_ble_eq_true rfl), (Nat.le_of_ble_eq_true rfl)⟩ ⟨(Nat.le_of_ble_eq_true rfl), (Nat.le_of_ble_eq_true rfl)⟩ (fun hB3 => ?_)
      cases h
      exact go_iret C E rfl dX9_goodLinks_19 (Nat.le_of_ble_eq_true rfl) (Nat.le_of_ble_eq_true rfl) rfl rfl hB3
-- IntervalRouter.isRing()Z
set_option maxHeartbeats 4000000 in
theorem w_X9_isRing_15 {G : gC} {X : gX} {res : Int} {F : Nat} {M : Mem} (hB : Bd M) (C : Cx G X cX9_isRing 2 RX9 2 0 0 (some .boolean) []) (E : Fnl G X 0 0 (.inr (some (.int (iI res)))) M) : ∀ (fu : Nat) (v1 : Int), f_X9_isRing_15 F fu v1 M = some res → Go G X 2 0 0 15 [some (rf G 0), some (.int (iI v1))] [] M := by
  intro fu
  induction fu with
  | zero => intro v1 h; exact nomatch (show (none : Option (Int)) = some res from h)
  | succ fu ih =>
    intro v1 h
    rw [f_X9_isRing_15] at h
    obtain ⟨hp_v1, h⟩ := chk_some h
    refine go_iload_n C dX9_isRing_15 rfl rfl ?_
    refine go_aload_n C dX9_isRing_16 rfl rfl ?_
    refine go_getR (o := 1) (k2 := 1) C dX9_isRing_17 fl_X9_12 sh_0 rfl rfl ?_
    refine go_getI (z := 0) C dX9_isRing_20 fl_X9_126 sh_1 rfl rfl ?_
    refine go_icmp_ge (tgt := 46) C dX9_isRing_23 rfl hp_v1 (hB 1 0 (by decide)) (fun hc2 => ?_) (fun hc2 => ?_)
    · replace h := ite_t hc2 h
      refine go_iconst C dX9_isRing_46 ?_
      cases h
      exact go_zret C E rfl dX9_isRing_47 (by decide) (Nat.le_of_ble_eq_true rfl) (Nat.le_of_ble_eq_true rfl) rfl rfl hB
    · replace h := ite_f hc2 h
      refine go_aload_n C dX9_isRing_26 rfl rfl ?_
      refine go_getR (o := 1) (k2 := 1) C dX9_isRing_27 fl_X9_12 sh_0 rfl rfl ?_
      refine go_iload_n C dX9_isRing_30 rfl rfl ?_
      obtain ⟨q3, h3, h⟩ := ob_some h
      refine go_callV_i C dX9_isRing_31 (ok_X6_degree C.hl hB sh_1 h3) mv_X9_344 sh_1 rfl rfl (Nat.le_of_ble_eq_true rfl) ⟨(Nat.le_of_ble_eq_true rfl), (Nat.le_of_ble_eq_true rfl)⟩ ⟨(Nat.le_of_ble_eq_true rfl), (Nat.le_of_ble_eq_true rfl)⟩ (fun hB3 => ?_)
      refine go_iconst C dX9_isRing_34 ?_
      obtain ⟨hc4, h⟩ := chk_some h
      refine go_icmp_eq (tgt := 40) C dX9_isRing_35 rfl hc4 (by decide) (fun hc5 => ?_) (fun hc5 => ?_)
      · replace h := ite_t hc5 h
        refine go_iinc (ls2 := [some (rf G 0), some (.int (iI (v1 + 1)))]) C dX9_isRing_40 rfl (Nat.le_of_ble_eq_true rfl) rfl ?_
        refine go_goto (tgt := 15) C dX9_isRing_43 rfl ?_
        exact ih (v1 + 1) h
      · replace h := ite_f hc5 h
        refine go_iconst C dX9_isRing_38 ?_
        cases h
        exact go_zret C E rfl dX9_isRing_39 (by decide) (Nat.le_of_ble_eq_true rfl) (Nat.le_of_ble_eq_true rfl) rfl rfl hB3
set_option maxHeartbeats 4000000 in
theorem ok_X9_isRing {G : gC} {l : Launch} (hl : l.stackTraces = false) {F : Nat} {M : Mem} (hB : Bd M) {res : Int} (h : f_X9_isRing F M = some res) : Ok G l 2 0 0 yX9_isRing (.code yX9_isRing cX9_isRing 2 (some .boolean)) [rf G 0] M (.inr (some (.int (iI res)))) M := by
  refine ok_of (ls := [some (rf G 0), none]) hl (by decide +kernel) (Nat.le_of_ble_eq_true rfl) ⟨rfl, trivial⟩ ?_
  intro X hX C E
  subst hX
  rw [f_X9_isRing] at h
  refine go_aload_n C dX9_isRing_0 rfl rfl ?_
  refine go_getR (o := 1) (k2 := 1) C dX9_isRing_1 fl_X9_12 sh_0 rfl rfl ?_
  refine go_getI (z := 0) C dX9_isRing_4 fl_X9_126 sh_1 rfl rfl ?_
  refine go_iconst C dX9_isRing_7 ?_
  refine go_icmp_ge (tgt := 13) C dX9_isRing_8 rfl (hB 1 0 (by decide)) (by decide) (fun hc1 => ?_) (fun hc1 => ?_)
  · replace h := ite_t hc1 h
    refine go_iconst C dX9_isRing_13 ?_
    refine go_istore_n (ls2 := [some (rf G 0), some (.int (iI 0))]) C dX9_isRing_14 rfl (Nat.le_of_ble_eq_true rfl) rfl ?_
    exact w_X9_isRing_15 hB C E F 0 h
  · replace h := ite_f hc1 h
    refine go_iconst C dX9_isRing_11 ?_
    cases h
    exact go_zret C E rfl dX9_isRing_12 (by decide) (Nat.le_of_ble_eq_true rfl) (Nat.le_of_ble_eq_true rfl) rfl rfl hB
-- IntervalRouter.kind()I
set_option maxHeartbeats 4000000 in
theorem ok_X9_kind {G : gC} {l : Launch} (hl : l.stackTraces = false) {F : Nat} {M : Mem} (hB : Bd M) {res : Int} (h : f_X9_kind F M = some res) : Ok G l 3 0 0 yX9_kind (.code yX9_kind cX9_kind 1 (some .int)) [rf G 0] M (.inr (some (.int (iI res)))) M := by
  refine ok_of (ls := [some (rf G 0)]) hl (by decide +kernel) (Nat.le_of_ble_eq_true rfl) ⟨rfl, trivial⟩ ?_
  intro X hX C E
  subst hX
  rw [f_X9_kind] at h
  refine go_aload_n C dX9_kind_0 rfl rfl ?_
  refine go_getR (o := 1) (k2 := 1) C dX9_kind_1 fl_X9_12 sh_0 rfl rfl ?_
  refine go_getI (z := 0) C dX9_kind_4 fl_X9_126 sh_1 rfl rfl ?_
  refine go_if_eq (tgt := 27) C dX9_kind_7 rfl (hB 1 0 (by decide)) (fun hc1 => ?_) (fun hc1 => ?_)
  · replace h := ite_t hc1 h
    refine go_iconst C dX9_kind_27 ?_
    cases h
    exact go_iret C E rfl dX9_kind_28 (Nat.le_of_ble_eq_true rfl) (Nat.le_of_ble_eq_true rfl) rfl rfl hB
  · replace h := ite_f hc1 h
    refine go_aload_n C dX9_kind_10 rfl rfl ?_
    refine go_getR (o := 39) (k2 := 39) C dX9_kind_11 fl_X9_29 sh_0 rfl rfl ?_
    refine go_aload_n C dX9_kind_14 rfl rfl ?_
    refine go_getR (o := 1) (k2 := 1) C dX9_kind_15 fl_X9_12 sh_0 rfl rfl ?_
    refine go_getI (z := 0) C dX9_kind_18 fl_X9_126 sh_1 rfl rfl ?_
    obtain ⟨q2, h2, h⟩ := ob_some h
    refine go_callV_i C dX9_kind_21 (ok_X8_connected C.hl hB h2) mv_X9_139 sh_39 rfl rfl (Nat.le_of_ble_eq_true rfl) ⟨(Nat.le_of_ble_eq_true rfl), (Nat.le_of_ble_eq_true rfl)⟩ ⟨(Nat.le_of_ble_eq_true rfl), (Nat.le_of_ble_eq_true rfl)⟩ (fun hB2 => ?_)
    obtain ⟨hc3, h⟩ := chk_some h
    refine go_if_ne (tgt := 29) C dX9_kind_24 rfl hc3 (fun hc4 => ?_) (fun hc4 => ?_)
    · replace h := ite_f hc4 h
      refine go_aload_n C dX9_kind_29 rfl rfl ?_
      refine go_getR (o := 1) (k2 := 1) C dX9_kind_30 fl_X9_12 sh_0 rfl rfl ?_
      refine go_getI (z := 1) C dX9_kind_33 fl_X9_79 sh_1 rfl rfl ?_
      refine go_aload_n C dX9_kind_36 rfl rfl ?_
      refine go_getR (o := 1) (k2 := 1) C dX9_kind_37 fl_X9_12 sh_0 rfl rfl ?_
      refine go_getI (z := 0) C dX9_kind_40 fl_X9_126 sh_1 rfl rfl ?_
      refine go_iconst C dX9_kind_43 ?_
      refine go_isub C dX9_kind_44 ?_
      obtain ⟨hc5, h⟩ := chk_some h
      refine go_icmp_ne (tgt := 50) C dX9_kind_45 rfl (hB2 1 1 (by decide)) hc5 (fun hc6 => ?_) (fun hc6 => ?_)
      · replace h := ite_f hc6 h
        refine go_aload_n C dX9_kind_50 rfl rfl ?_
        obtain ⟨q7, h7, h⟩ := ob_some h
        refine go_callV_i C dX9_kind_51 (ok_X9_isRing C.hl hB2 h7) mv_X9_143 sh_0 rfl rfl (Nat.le_of_ble_eq_true rfl) ⟨(Nat.le_of_ble_eq_true rfl), (Nat.le_of_ble_eq_true rfl)⟩ ⟨(Nat.le_of_ble_eq_true rfl), (Nat.le_of_ble_eq_true rfl)⟩ (fun hB7 => ?_)
        obtain ⟨hc8, h⟩ := chk_some h
        refine go_if_eq (tgt := 61) C dX9_kind_54 rfl hc8 (fun hc9 => ?_) (fun hc9 => ?_)
        · replace h := ite_t hc9 h
          refine go_iconst C dX9_kind_61 ?_
          cases h
          exact go_iret C E rfl dX9_kind_62 (Nat.le_of_ble_eq_true rfl) (Nat.le_of_ble_eq_true rfl) rfl rfl hB7
        · replace h := ite_f hc9 h
          refine go_iconst C dX9_kind_57 ?_
          refine go_goto (tgt := 62) C dX9_kind_58 rfl ?_
          cases h
          exact go_iret C E rfl dX9_kind_62 (Nat.le_of_ble_eq_true rfl) (Nat.le_of_ble_eq_true rfl) rfl rfl hB7
      · replace h := ite_t hc6 h
        refine go_iconst C dX9_kind_48 ?_
        cases h
        exact go_iret C E rfl dX9_kind_49 (Nat.le_of_ble_eq_true rfl) (Nat.le_of_ble_eq_true rfl) rfl rfl hB2
    · replace h := ite_t hc4 h
      refine go_iconst C dX9_kind_27 ?_
      cases h
      exact go_iret C E rfl dX9_kind_28 (Nat.le_of_ble_eq_true rfl) (Nat.le_of_ble_eq_true rfl) rfl rfl hB2
-- IntervalRouter.label(I)I
set_option maxHeartbeats 4000000 in
theorem ok_X9_label {G : gC} {l : Launch} (hl : l.stackTraces = false) {v1 : Int} {M : Mem} (hB : Bd M) {res : Nat ⊕ Int} (h : f_X9_label v1 M = some res) : Ok G l 7 1 6 yX9_label (.code yX9_label cX9_label 2 (some .int)) [rf G 0, .int (iI v1)] M (oxI res) M := by
  refine ok_of (ls := [some (rf G 0), some (.int (iI v1))]) hl (by decide +kernel) (Nat.le_of_ble_eq_true rfl) ⟨rfl, ⟨rfl, trivial⟩⟩ ?_
  intro X hX C E
  subst hX
  rw [f_X9_label] at h
  refine go_aload_n C dX9_label_0 rfl rfl ?_
  refine go_iload_n C dX9_label_1 rfl rfl ?_
  obtain ⟨q1, h1, h⟩ := ob_some h
  refine go_callV_xv C dX9_label_2 (ok_X9_needNode C.hl hB h1) mv_X9_94 sh_0 rfl rfl (Nat.le_of_ble_eq_true rfl) ⟨(Nat.le_of_ble_eq_true rfl), (Nat.le_of_ble_eq_true rfl)⟩ ⟨(Nat.le_of_ble_eq_true rfl), (Nat.le_of_ble_eq_true rfl)⟩ (fun e1 he1 hB1 => ?_) (fun r1 hr1 hB1 => ?_)
  · replace h := ox_l he1 h
    cases h
    exact go_out C E (Nat.le_of_ble_eq_true rfl) (Nat.le_of_ble_eq_true rfl) rfl rfl hB1
  · replace h := ox_r hr1 h
    refine go_aload_n C dX9_label_5 rfl rfl ?_
    refine go_getR (o := 1) (k2 := 1) C dX9_label_6 fl_X9_12 sh_0 rfl rfl ?_
    refine go_getR (o := 4) (k2 := 5) C dX9_label_9 fl_X9_147 sh_1 rfl rfl ?_
    refine go_iload_n C dX9_label_12 rfl rfl ?_
    obtain ⟨hc2, h⟩ := chk_some h
    refine go_iald C dX9_label_13 sh_5 (by decide) hc2 ?_
    cases h
    exact go_iret C E rfl dX9_label_14 (Nat.le_of_ble_eq_true rfl) (Nat.le_of_ble_eq_true rfl) rfl rfl hB1
-- IntervalRouter.needLabel(I)V
set_option maxHeartbeats 4000000 in
theorem ok_X9_needLabel {G : gC} {l : Launch} (hl : l.stackTraces = false) {v1 : Int} {M : Mem} (hB : Bd M) {res : Nat ⊕ Unit} (h : f_X9_needLabel v1 M = some res) : Ok G l 6 1 6 yX9_needLabel (.code yX9_needLabel cX9_needLabel 2 none) [rf G 0, .int (iI v1)] M (oxV res) M := by
  refine ok_of (ls := [some (rf G 0), some (.int (iI v1))]) hl (by decide +kernel) (Nat.le_of_ble_eq_true rfl) ⟨rfl, ⟨rfl, trivial⟩⟩ ?_
  intro X hX C E
  subst hX
  rw [f_X9_needLabel] at h
  obtain ⟨hp_v1, h⟩ := chk_some h
  refine go_iload_n C dX9_needLabel_0 rfl rfl ?_
  refine go_if_lt (tgt := 15) C dX9_needLabel_1 rfl hp_v1 (fun hc1 => ?_) (fun hc1 => ?_)
  · replace h := ite_t hc1 h
    cases h
    exact go_throwW C E TH_1 (show (332, "there is no such label") ∈ stT by decide +kernel) dX9_needLabel_15 dX9_needLabel_18 dX9_needLabel_19 dX9_needLabel_22 dX9_needLabel_25 (Nat.le_of_ble_eq_true rfl) (Nat.le_of_ble_eq_true rfl) (Nat.le_of_ble_eq_true rfl) (Nat.le_of_ble_eq_true rfl) rfl rfl hB
  · replace h := ite_f hc1 h
    refine go_iload_n C dX9_needLabel_4 rfl rfl ?_
    refine go_aload_n C dX9_needLabel_5 rfl rfl ?_
    refine go_getR (o := 1) (k2 := 1) C dX9_needLabel_6 fl_X9_12 sh_0 rfl rfl ?_
    refine go_getI (z := 0) C dX9_needLabel_9 fl_X9_126 sh_1 rfl rfl ?_
    refine go_icmp_lt (tgt := 26) C dX9_needLabel_12 rfl hp_v1 (hB 1 0 (by decide)) (fun hc2 => ?_) (fun hc2 => ?_)
    · replace h := ite_t hc2 h
      cases h
      exact go_vret C E rfl dX9_needLabel_26 (Nat.le_of_ble_eq_true rfl) (Nat.le_of_ble_eq_true rfl) rfl rfl hB
    · replace h := ite_f hc2 h
      cases h
      exact go_throwW C E TH_1 (show (332, "there is no such label") ∈ stT by decide +kernel) dX9_needLabel_15 dX9_needLabel_18 dX9_needLabel_19 dX9_needLabel_22 dX9_needLabel_25 (Nat.le_of_ble_eq_true rfl) (Nat.le_of_ble_eq_true rfl) (Nat.le_of_ble_eq_true rfl) (Nat.le_of_ble_eq_true rfl) rfl rfl hB
-- IntervalRouter.nodeWith(I)I
set_option maxHeartbeats 4000000 in
theorem ok_X9_nodeWith {G : gC} {l : Launch} (hl : l.stackTraces = false) {F : Nat} {v1 : Int} {M : Mem} (hB : Bd M) {res : Nat ⊕ Int} (h : f_X9_nodeWith F v1 M = some res) : Ok G l 7 1 6 yX9_nodeWith (.code yX9_nodeWith cX9_nodeWith 2 (some .int)) [rf G 0, .int (iI v1)] M (oxI res) M := by
  refine ok_of (ls := [some (rf G 0), some (.int (iI v1))]) hl (by decide +kernel) (Nat.le_of_ble_eq_true rfl) ⟨rfl, ⟨rfl, trivial⟩⟩ ?_
  intro X hX C E
  subst hX
  rw [f_X9_nodeWith] at h
  refine go_aload_n C dX9_nodeWith_0 rfl rfl ?_
  refine go_iload_n C dX9_nodeWith_1 rfl rfl ?_
  obtain ⟨q1, h1, h⟩ := ob_some h
  refine go_callV_xv C dX9_nodeWith_2 (ok_X9_needLabel C.hl hB h1) mv_X9_150 sh_0 rfl rfl (Nat.le_of_ble_eq_true rfl) ⟨(Nat.le_of_ble_eq_true rfl), (Nat.le_of_ble_eq_true rfl)⟩ ⟨(Nat.le_of_ble_eq_true rfl), (Nat.le_of_ble_eq_true rfl)⟩ (fun e1 he1 hB1 => ?_) (fun r1 hr1 hB1 => ?_)
  · replace h := ox_l he1 h
    cases h
    exact go_out C E (Nat.le_of_ble_eq_true rfl) (Nat.le_of_ble_eq_true rfl) rfl rfl hB1
  · replace h := ox_r hr1 h
    refine go_aload_n C dX9_nodeWith_5 rfl rfl ?_
    refine go_getR (o := 1) (k2 := 1) C dX9_nodeWith_6 fl_X9_12 sh_0 rfl rfl ?_
    refine go_iload_n C dX9_nodeWith_9 rfl rfl ?_
    obtain ⟨q2, h2, h⟩ := ob_some h
    refine go_callV_i C dX9_nodeWith_10 (ok_X6_holder C.hl hB1 sh_1 h2) mv_X9_153 sh_1 rfl rfl (Nat.le_of_ble_eq_true rfl) ⟨(Nat.le_of_ble_eq_true rfl), (Nat.le_of_ble_eq_true rfl)⟩ ⟨(Nat.le_of_ble_eq_true rfl), (Nat.le_of_ble_eq_true rfl)⟩ (fun hB2 => ?_)
    cases h
    exact go_iret C E rfl dX9_nodeWith_13 (Nat.le_of_ble_eq_true rfl) (Nat.le_of_ble_eq_true rfl) rfl rfl hB2
-- IntervalRouter.needSearchable()V
set_option maxHeartbeats 4000000 in
theorem ok_X9_needSearchable {G : gC} {l : Launch} (hl : l.stackTraces = false) {M : Mem} (hB : Bd M) {res : Nat ⊕ Unit} (h : f_X9_needSearchable M = some res) : Ok G l 6 1 6 yX9_needSearchable (.code yX9_needSearchable cX9_needSearchable 1 none) [rf G 0] M (oxV res) M := by
  refine ok_of (ls := [some (rf G 0)]) hl (by decide +kernel) (Nat.le_of_ble_eq_true rfl) ⟨rfl, trivial⟩ ?_
  intro X hX C E
  subst hX
  rw [f_X9_needSearchable] at h
  refine go_aload_n C dX9_needSearchable_0 rfl rfl ?_
  refine go_getR (o := 1) (k2 := 1) C dX9_needSearchable_1 fl_X9_12 sh_0 rfl rfl ?_
  refine go_getI (z := 0) C dX9_needSearchable_4 fl_X9_126 sh_1 rfl rfl ?_
  refine go_bipush C dX9_needSearchable_7 (by decide +kernel) ?_
  refine go_icmp_le (tgt := 23) C dX9_needSearchable_9 rfl (hB 1 0 (by decide)) (by decide) (fun hc1 => ?_) (fun hc1 => ?_)
  · replace h := ite_t hc1 h
    cases h
    exact go_vret C E rfl dX9_needSearchable_23 (Nat.le_of_ble_eq_true rfl) (Nat.le_of_ble_eq_true rfl) rfl rfl hB
  · replace h := ite_f hc1 h
    cases h
    exact go_throwW C E TH_2 (show (336, "there are more than 6 nodes") ∈ stT by decide +kernel) dX9_needSearchable_12 dX9_needSearchable_15 dX9_needSearchable_16 dX9_needSearchable_19 dX9_needSearchable_22 (Nat.le_of_ble_eq_true rfl) (Nat.le_of_ble_eq_true rfl) (Nat.le_of_ble_eq_true rfl) (Nat.le_of_ble_eq_true rfl) rfl rfl hB
-- IntervalRouter.setLabels(II)I
set_option maxHeartbeats 4000000 in
theorem w_X9_setLabels_123 {G : gC} {X : gX} {res : (Nat ⊕ Int) × Mem} {F : Nat} (C : Cx G X cX9_setLabels 3 RX9 7 3 18 (some .int) []) (E : Fnl G X 3 18 (oxI res.1) res.2) : ∀ (M : Mem), Bd M → f_X9_setLabels_123 F M = some res → Go G X 3 3 18 123 [some (rf G 0), none, none] [] M := by
  intro M hB h
  rw [f_X9_setLabels_123] at h
  refine go_aload_n C dX9_setLabels_123 rfl rfl ?_
  refine go_getR (o := 1) (k2 := 1) C dX9_setLabels_124 fl_X9_12 sh_0 rfl rfl ?_
  obtain ⟨q10, h10, h⟩ := ob_some h
  refine go_callV_v C dX9_setLabels_127 (ok_X6_clearEntries C.hl hB sh_1 h10) mv_X9_178 sh_1 rfl rfl (Nat.le_of_ble_eq_true rfl) ⟨(Nat.le_of_ble_eq_true rfl), (Nat.le_of_ble_eq_true rfl)⟩ ⟨(Nat.le_of_ble_eq_true rfl), (Nat.le_of_ble_eq_true rfl)⟩ (fun hB10 => ?_)
  refine go_aload_n C dX9_setLabels_130 rfl rfl ?_
  refine go_getR (o := 1) (k2 := 1) C dX9_setLabels_131 fl_X9_12 sh_0 rfl rfl ?_
  refine go_getR (o := 4) (k2 := 5) C dX9_setLabels_134 fl_X9_147 sh_1 rfl rfl ?_
  refine go_aload_n C dX9_setLabels_137 rfl rfl ?_
  refine go_getR (o := 1) (k2 := 1) C dX9_setLabels_138 fl_X9_12 sh_0 rfl rfl ?_
  refine go_getI (z := 0) C dX9_setLabels_141 fl_X9_126 sh_1 rfl rfl ?_
  refine go_iconst C dX9_setLabels_144 ?_
  refine go_isub C dX9_setLabels_145 ?_
  obtain ⟨hc11, h⟩ := chk_some h
  refine go_iald C dX9_setLabels_146 sh_5 (by decide) hc11 ?_
  cases h
  exact go_iret C E rfl dX9_setLabels_147 (Nat.le_of_ble_eq_true rfl) (Nat.le_of_ble_eq_true rfl) rfl rfl hB10
set_option maxHeartbeats 4000000 in
theorem w_X9_setLabels_21 {G : gC} {X : gX} {res : (Nat ⊕ Int) × Mem} {F : Nat} (C : Cx G X cX9_setLabels 3 RX9 7 3 18 (some .int) []) (E : Fnl G X 3 18 (oxI res.1) res.2) : ∀ (v1 : Int) (v2 : Int) (M : Mem), Bd M → f_X9_setLabels_21 F v1 v2 M = some res → Go G X 3 3 18 21 [some (rf G 0), some (.int (iI v1)), some (.int (iI v2))] [] M := by
  intro v1 v2 M hB h
  rw [f_X9_setLabels_21] at h
  obtain ⟨hp_v1, h⟩ := chk_some h
  refine go_aload_n C dX9_setLabels_21 rfl rfl ?_
  refine go_getR (o := 13) (k2 := 13) C dX9_setLabels_22 fl_X9_22 sh_0 rfl rfl ?_
  refine go_aload_n C dX9_setLabels_25 rfl rfl ?_
  refine go_getR (o := 1) (k2 := 1) C dX9_setLabels_26 fl_X9_12 sh_0 rfl rfl ?_
  obtain ⟨q4, h4, h⟩ := ob_some h
  refine go_callV_v C dX9_setLabels_29 (ok_X0_save C.hl hB h4) mv_X9_83 sh_13 rfl rfl (Nat.le_of_ble_eq_true rfl) ⟨(Nat.le_of_ble_eq_true rfl), (Nat.le_of_ble_eq_true rfl)⟩ ⟨(Nat.le_of_ble_eq_true rfl), (Nat.le_of_ble_eq_true rfl)⟩ (fun hB4 => ?_)
  refine go_iload_n C dX9_setLabels_32 rfl rfl ?_
  refine go_if_ne (tgt := 46) C dX9_setLabels_33 rfl hp_v1 (fun hc5 => ?_) (fun hc5 => ?_)
  · replace h := ite_f hc5 h
    refine go_iload_n C dX9_setLabels_46 rfl rfl ?_
    refine go_iconst C dX9_setLabels_47 ?_
    refine go_icmp_ne (tgt := 66) C dX9_setLabels_48 rfl hp_v1 (by decide) (fun hc6 => ?_) (fun hc6 => ?_)
    · replace h := ite_f hc6 h
      refine go_iload_n C dX9_setLabels_66 rfl rfl ?_
      refine go_iconst C dX9_setLabels_67 ?_
      refine go_icmp_ne (tgt := 90) C dX9_setLabels_68 rfl hp_v1 (by decide) (fun hc7 => ?_) (fun hc7 => ?_)
      · replace h := ite_f hc7 h
        refine go_aload_n C dX9_setLabels_90 rfl rfl ?_
        refine go_getR (o := 51) (k2 := 51) C dX9_setLabels_91 fl_X9_50 sh_0 rfl rfl ?_
        refine go_aload_n C dX9_setLabels_94 rfl rfl ?_
        refine go_getR (o := 39) (k2 := 39) C dX9_setLabels_95 fl_X9_29 sh_0 rfl rfl ?_
        refine go_aload_n C dX9_setLabels_98 rfl rfl ?_
        refine go_getR (o := 1) (k2 := 1) C dX9_setLabels_99 fl_X9_12 sh_0 rfl rfl ?_
        refine go_getI (z := 0) C dX9_setLabels_102 fl_X9_126 sh_1 rfl rfl ?_
        refine go_aload_n C dX9_setLabels_105 rfl rfl ?_
        refine go_getR (o := 46) (k2 := 46) C dX9_setLabels_106 fl_X9_43 sh_0 rfl rfl ?_
        obtain ⟨q8, h8, h⟩ := ob_some h
        refine go_callV_v C dX9_setLabels_109 (ok_X5_ensure C.hl hB4 h8) mv_X9_171 sh_51 rfl rfl (Nat.le_of_ble_eq_true rfl) ⟨(Nat.le_of_ble_eq_true rfl), (Nat.le_of_ble_eq_true rfl)⟩ ⟨(Nat.le_of_ble_eq_true rfl), (Nat.le_of_ble_eq_true rfl)⟩ (fun hB8 => ?_)
        refine go_aload_n C dX9_setLabels_112 rfl rfl ?_
        refine go_getR (o := 51) (k2 := 51) C dX9_setLabels_113 fl_X9_50 sh_0 rfl rfl ?_
        refine go_aload_n C dX9_setLabels_116 rfl rfl ?_
        refine go_getR (o := 1) (k2 := 1) C dX9_setLabels_117 fl_X9_12 sh_0 rfl rfl ?_
        obtain ⟨q9, h9, h⟩ := ob_some h
        refine go_callV_v C dX9_setLabels_120 (ok_X5_copyBest C.hl hB8 h9) mv_X9_175 sh_51 rfl rfl (Nat.le_of_ble_eq_true rfl) ⟨(Nat.le_of_ble_eq_true rfl), (Nat.le_of_ble_eq_true rfl)⟩ ⟨(Nat.le_of_ble_eq_true rfl), (Nat.le_of_ble_eq_true rfl)⟩ (fun hB9 => ?_)
        refine go_weak (ls' := [some (rf G 0), none, none]) ⟨rfl, trivial⟩ ?_
        exact w_X9_setLabels_123 C E q9 hB9 h
      · replace h := ite_t hc7 h
        refine go_aload_n C dX9_setLabels_71 rfl rfl ?_
        refine go_getR (o := 60) (k2 := 60) C dX9_setLabels_72 fl_X9_64 sh_0 rfl rfl ?_
        refine go_aload_n C dX9_setLabels_75 rfl rfl ?_
        refine go_getR (o := 1) (k2 := 1) C dX9_setLabels_76 fl_X9_12 sh_0 rfl rfl ?_
        refine go_aload_n C dX9_setLabels_79 rfl rfl ?_
        refine go_getR (o := 39) (k2 := 39) C dX9_setLabels_80 fl_X9_29 sh_0 rfl rfl ?_
        refine go_iload_n C dX9_setLabels_83 rfl rfl ?_
        obtain ⟨q12, h12, h⟩ := ob_some h
        refine go_callV_v C dX9_setLabels_84 (ok_X1_byRank C.hl hB4 h12) mv_X9_167 sh_60 rfl rfl (Nat.le_of_ble_eq_true rfl) ⟨(Nat.le_of_ble_eq_true rfl), (Nat.le_of_ble_eq_true rfl)⟩ ⟨(Nat.le_of_ble_eq_true rfl), (Nat.le_of_ble_eq_true rfl)⟩ (fun hB12 => ?_)
        refine go_goto (tgt := 123) C dX9_setLabels_87 rfl ?_
        refine go_weak (ls' := [some (rf G 0), none, none]) ⟨rfl, trivial⟩ ?_
        exact w_X9_setLabels_123 C E q12 hB12 h
    · replace h := ite_t hc6 h
      refine go_aload_n C dX9_setLabels_51 rfl rfl ?_
      refine go_getR (o := 60) (k2 := 60) C dX9_setLabels_52 fl_X9_64 sh_0 rfl rfl ?_
      refine go_aload_n C dX9_setLabels_55 rfl rfl ?_
      refine go_getR (o := 1) (k2 := 1) C dX9_setLabels_56 fl_X9_12 sh_0 rfl rfl ?_
      refine go_iload_n C dX9_setLabels_59 rfl rfl ?_
      obtain ⟨q13, h13, h⟩ := ob_some h
      refine go_callV_v C dX9_setLabels_60 (ok_X1_depthFirst C.hl hB4 h13) mv_X9_163 sh_60 rfl rfl (Nat.le_of_ble_eq_true rfl) ⟨(Nat.le_of_ble_eq_true rfl), (Nat.le_of_ble_eq_true rfl)⟩ ⟨(Nat.le_of_ble_eq_true rfl), (Nat.le_of_ble_eq_true rfl)⟩ (fun hB13 => ?_)
      refine go_goto (tgt := 123) C dX9_setLabels_63 rfl ?_
      refine go_weak (ls' := [some (rf G 0), none, none]) ⟨rfl, trivial⟩ ?_
      exact w_X9_setLabels_123 C E q13 hB13 h
  · replace h := ite_t hc5 h
    refine go_aload_n C dX9_setLabels_36 rfl rfl ?_
    refine go_getR (o := 1) (k2 := 1) C dX9_setLabels_37 fl_X9_12 sh_0 rfl rfl ?_
    obtain ⟨q14, h14, h⟩ := ob_some h
    refine go_callV_v C dX9_setLabels_40 (ok_X6_resetLabels C.hl hB4 sh_1 h14) mv_X9_160 sh_1 rfl rfl (Nat.le_of_ble_eq_true rfl) ⟨(Nat.le_of_ble_eq_true rfl), (Nat.le_of_ble_eq_true rfl)⟩ ⟨(Nat.le_of_ble_eq_true rfl), (Nat.le_of_ble_eq_true rfl)⟩ (fun hB14 => ?_)
    refine go_goto (tgt := 123) C dX9_setLabels_43 rfl ?_
    refine go_weak (ls' := [some (rf G 0), none, none]) ⟨rfl, trivial⟩ ?_
    exact w_X9_setLabels_123 C E q14 hB14 h
