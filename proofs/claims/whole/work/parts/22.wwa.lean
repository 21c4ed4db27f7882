-- IntervalRouterLaw.begin(LIntervalRouter;I[J)I
set_option maxHeartbeats 4000000 in
theorem ok_L_begin {G : gC} {l : Launch} (hl : l.stackTraces = false) {F : Nat} {v1 : Int} {M : Mem} (hB : Bd M) {res : Int × Mem} (h : f_L_begin F v1 M = some res) : Ok G l 8 1 6 yL_begin (.codeWith yL_begin cL_begin 4 (some .int) [(0, 9, 12, 13)]) [rf G 0, .int (iI v1), rf G 79] M (.inr (some (.int (iI res.1)))) res.2 := by
  refine ok_ofH (ls := [some (rf G 0), some (.int (iI v1)), some (rf G 79), none]) hl (by decide +kernel) (Nat.le_of_ble_eq_true rfl) ⟨rfl, ⟨rfl, ⟨rfl, trivial⟩⟩⟩ ?_
  intro X hX C E
  subst hX
  rw [f_L_begin] at h
  refine go_aload_n C dL_begin_0 rfl rfl ?_
  refine go_iconst C dL_begin_1 ?_
  refine go_aload_n C dL_begin_2 rfl rfl ?_
  refine go_iload_n C dL_begin_3 rfl rfl ?_
  obtain ⟨q1, h1, h⟩ := ob_some h
  refine go_callV_xi C dL_begin_4 (ok_X9_begin C.hl hB h1) mv_L_7 sh_0 rfl rfl (Nat.le_of_ble_eq_true rfl) ⟨(Nat.le_of_ble_eq_true rfl), (Nat.le_of_ble_eq_true rfl)⟩ ⟨(Nat.le_of_ble_eq_true rfl), (Nat.le_of_ble_eq_true rfl)⟩ (fun e1 he1 hB1 => ?_) (fun r1 hr1 hB1 => ?_)
  · replace h := ox_l he1 h
    by_cases hc2 : e1 = 0
    · replace h := ite_t hc2 h
      subst hc2
      refine go_catch [] ⟨0, 9, 12, 13⟩ [] C rfl (fun w hw => nomatch hw) rfl (by decide) gt_610 (by decide +kernel) (fun q9 => ?_)
      refine go_astore_n (ls2 := [some (rf G 0), some (.int (iI v1)), some (rf G 79), some (.ref q9)]) C dL_begin_12 rfl (Nat.le_of_ble_eq_true rfl) rfl ?_
      refine go_iconst C dL_begin_13 ?_
      cases h
      exact go_iret C E rfl dL_begin_14 (Nat.le_of_ble_eq_true rfl) (Nat.le_of_ble_eq_true rfl) rfl rfl hB1
    · replace h := ite_f hc2 h
      cases h
  · replace h := ox_r hr1 h
    obtain ⟨hc3, h⟩ := chk_some h
    refine go_i2l C dL_begin_7 hc3 ?_
    refine go_last (k2 := 1079) C dL_begin_8 sh_79 (by decide) ⟨by decide, by decide⟩ rfl ?_
    have hB4 := hB1.setL 79 0 r1
    refine go_goto (tgt := 15) C dL_begin_9 rfl ?_
    refine go_iconst C dL_begin_15 ?_
    cases h
    exact go_iret C E rfl dL_begin_16 (Nat.le_of_ble_eq_true rfl) (Nat.le_of_ble_eq_true rfl) rfl rfl hB4
-- IntervalRouterLaw.addLink(LIntervalRouter;III[J)I
set_option maxHeartbeats 4000000 in
theorem ok_L_addLink {G : gC} {l : Launch} (hl : l.stackTraces = false) {F : Nat} {v1 : Int} {v2 : Int} {v3 : Int} {M : Mem} (hB : Bd M) {res : Int × Mem} (h : f_L_addLink F v1 v2 v3 M = some res) : Ok G l 8 4 24 yL_addLink (.codeWith yL_addLink cL_addLink 6 (some .int) [(0, 12, 15, 19), (0, 12, 19, 13), (0, 12, 23, 21)]) [rf G 0, .int (iI v1), .int (iI v2), .int (iI v3), rf G 79] M (.inr (some (.int (iI res.1)))) res.2 := by
  refine ok_ofH (ls := [some (rf G 0), some (.int (iI v1)), some (.int (iI v2)), some (.int (iI v3)), some (rf G 79), none]) hl (by decide +kernel) (Nat.le_of_ble_eq_true rfl) ⟨rfl, ⟨rfl, ⟨rfl, ⟨rfl, ⟨rfl, trivial⟩⟩⟩⟩⟩ ?_
  intro X hX C E
  subst hX
  rw [f_L_addLink] at h
  refine go_aload C dL_addLink_0 rfl ?_
  refine go_iconst C dL_addLink_2 ?_
  refine go_aload_n C dL_addLink_3 rfl rfl ?_
  refine go_iload_n C dL_addLink_4 rfl rfl ?_
  refine go_iload_n C dL_addLink_5 rfl rfl ?_
  refine go_iload_n C dL_addLink_6 rfl rfl ?_
  obtain ⟨q1, h1, h⟩ := ob_some h
  refine go_callV_xi C dL_addLink_7 (ok_X9_addLink C.hl hB h1) mv_L_15 sh_0 rfl rfl (Nat.le_of_ble_eq_true rfl) ⟨(Nat.le_of_ble_eq_true rfl), (Nat.le_of_ble_eq_true rfl)⟩ ⟨(Nat.le_of_ble_eq_true rfl), (Nat.le_of_ble_eq_true rfl)⟩ (fun e1 he1 hB1 => ?_) (fun r1 hr1 hB1 => ?_)
  · replace h := ox_l he1 h
    by_cases hc4 : e1 = 1
    · replace h := ite_t hc4 h
      subst hc4
      refine go_catch [] ⟨0, 12, 15, 19⟩ [⟨0, 12, 19, 13⟩, ⟨0, 12, 23, 21⟩] C rfl (fun w hw => nomatch hw) rfl (by decide) gt_691 (by decide +kernel) (fun q9 => ?_)
      refine go_astore (ls2 := [some (rf G 0), some (.int (iI v1)), some (.int (iI v2)), some (.int (iI v3)), some (rf G 79), some (.ref q9)]) C dL_addLink_15 (Nat.le_of_ble_eq_true rfl) rfl ?_
      refine go_iconst C dL_addLink_17 ?_
      cases h
      exact go_iret C E rfl dL_addLink_18 (Nat.le_of_ble_eq_true rfl) (Nat.le_of_ble_eq_true rfl) rfl rfl hB1
    · replace h := ite_f hc4 h
      by_cases hc3 : e1 = 0
      · replace h := ite_t hc3 h
        subst hc3
        refine go_catch [⟨0, 12, 15, 19⟩] ⟨0, 12, 19, 13⟩ [⟨0, 12, 23, 21⟩] C rfl (List.forall_mem_cons.mpr ⟨Or.inr ⟨by decide, _, gt_691, by decide +kernel⟩, (fun w hw => nomatch hw)⟩) rfl (by decide) gt_610 (by decide +kernel) (fun q9 => ?_)
        refine go_astore (ls2 := [some (rf G 0), some (.int (iI v1)), some (.int (iI v2)), some (.int (iI v3)), some (rf G 79), some (.ref q9)]) C dL_addLink_19 (Nat.le_of_ble_eq_true rfl) rfl ?_
        refine go_iconst C dL_addLink_21 ?_
        cases h
        exact go_iret C E rfl dL_addLink_22 (Nat.le_of_ble_eq_true rfl) (Nat.le_of_ble_eq_true rfl) rfl rfl hB1
      · replace h := ite_f hc3 h
        by_cases hc2 : e1 = 2
        · replace h := ite_t hc2 h
          subst hc2
          refine go_catch [⟨0, 12, 15, 19⟩, ⟨0, 12, 19, 13⟩] ⟨0, 12, 23, 21⟩ [] C rfl (List.forall_mem_cons.mpr ⟨Or.inr ⟨by decide, _, gt_691, by decide +kernel⟩, (List.forall_mem_cons.mpr ⟨Or.inr ⟨by decide, _, gt_610, by decide +kernel⟩, (fun w hw => nomatch hw)⟩)⟩) rfl (by decide) gt_692 (by decide +kernel) (fun q9 => ?_)
          refine go_astore (ls2 := [some (rf G 0), some (.int (iI v1)), some (.int (iI v2)), some (.int (iI v3)), some (rf G 79), some (.ref q9)]) C dL_addLink_23 (Nat.le_of_ble_eq_true rfl) rfl ?_
          refine go_iconst C dL_addLink_25 ?_
          cases h
          exact go_iret C E rfl dL_addLink_26 (Nat.le_of_ble_eq_true rfl) (Nat.le_of_ble_eq_true rfl) rfl rfl hB1
        · replace h := ite_f hc2 h
          cases h
  · replace h := ox_r hr1 h
    obtain ⟨hc5, h⟩ := chk_some h
    refine go_i2l C dL_addLink_10 hc5 ?_
    refine go_last (k2 := 1079) C dL_addLink_11 sh_79 (by decide) ⟨by decide, by decide⟩ rfl ?_
    have hB6 := hB1.setL 79 0 r1
    refine go_goto (tgt := 27) C dL_addLink_12 rfl ?_
    refine go_iconst C dL_addLink_27 ?_
    cases h
    exact go_iret C E rfl dL_addLink_28 (Nat.le_of_ble_eq_true rfl) (Nat.le_of_ble_eq_true rfl) rfl rfl hB6
-- IntervalRouterLaw.removeLink(LIntervalRouter;I[J)I
set_option maxHeartbeats 4000000 in
theorem ok_L_removeLink {G : gC} {l : Launch} (hl : l.stackTraces = false) {F : Nat} {v1 : Int} {M : Mem} (hB : Bd M) {res : Int × Mem} (h : f_L_removeLink F v1 M = some res) : Ok G l 8 1 6 yL_removeLink (.codeWith yL_removeLink cL_removeLink 4 (some .int) [(0, 9, 12, 19)]) [rf G 0, .int (iI v1), rf G 79] M (.inr (some (.int (iI res.1)))) res.2 := by
  refine ok_ofH (ls := [some (rf G 0), some (.int (iI v1)), some (rf G 79), none]) hl (by decide +kernel) (Nat.le_of_ble_eq_true rfl) ⟨rfl, ⟨rfl, ⟨rfl, trivial⟩⟩⟩ ?_
  intro X hX C E
  subst hX
  rw [f_L_removeLink] at h
  refine go_aload_n C dL_removeLink_0 rfl rfl ?_
  refine go_iconst C dL_removeLink_1 ?_
  refine go_aload_n C dL_removeLink_2 rfl rfl ?_
  refine go_iload_n C dL_removeLink_3 rfl rfl ?_
  obtain ⟨q1, h1, h⟩ := ob_some h
  refine go_callV_xi C dL_removeLink_4 (ok_X9_removeLink C.hl hB h1) mv_L_23 sh_0 rfl rfl (Nat.le_of_ble_eq_true rfl) ⟨(Nat.le_of_ble_eq_true rfl), (Nat.le_of_ble_eq_true rfl)⟩ ⟨(Nat.le_of_ble_eq_true rfl), (Nat.le_of_ble_eq_true rfl)⟩ (fun e1 he1 hB1 => ?_) (fun r1 hr1 hB1 => ?_)
  · replace h := ox_l he1 h
    by_cases hc2 : e1 = 1
    · replace h := ite_t hc2 h
      subst hc2
      refine go_catch [] ⟨0, 9, 12, 19⟩ [] C rfl (fun w hw => nomatch hw) rfl (by decide) gt_691 (by decide +kernel) (fun q9 => ?_)
      refine go_astore_n (ls2 := [some (rf G 0), some (.int (iI v1)), some (rf G 79), some (.ref q9)]) C dL_removeLink_12 rfl (Nat.le_of_ble_eq_true rfl) rfl ?_
      refine go_iconst C dL_removeLink_13 ?_
      cases h
      exact go_iret C E rfl dL_removeLink_14 (Nat.le_of_ble_eq_true rfl) (Nat.le_of_ble_eq_true rfl) rfl rfl hB1
    · replace h := ite_f hc2 h
      cases h
  · replace h := ox_r hr1 h
    obtain ⟨hc3, h⟩ := chk_some h
    refine go_i2l C dL_removeLink_7 hc3 ?_
    refine go_last (k2 := 1079) C dL_removeLink_8 sh_79 (by decide) ⟨by decide, by decide⟩ rfl ?_
    have hB4 := hB1.setL 79 0 r1
    refine go_goto (tgt := 15) C dL_removeLink_9 rfl ?_
    refine go_iconst C dL_removeLink_15 ?_
    cases h
    exact go_iret C E rfl dL_removeLink_16 (Nat.le_of_ble_eq_true rfl) (Nat.le_of_ble_eq_true rfl) rfl rfl hB4
-- IntervalRouterLaw.setLength(LIntervalRouter;II[J)I
set_option maxHeartbeats 4000000 in
theorem ok_L_setLength {G : gC} {l : Launch} (hl : l.stackTraces = false) {F : Nat} {v1 : Int} {v2 : Int} {M : Mem} (hB : Bd M) {res : Int × Mem} (h : f_L_setLength F v1 v2 M = some res) : Ok G l 8 2 12 yL_setLength (.codeWith yL_setLength cL_setLength 5 (some .int) [(0, 10, 13, 19), (0, 10, 17, 13)]) [rf G 0, .int (iI v1), .int (iI v2), rf G 79] M (.inr (some (.int (iI res.1)))) res.2 := by
  refine ok_ofH (ls := [some (rf G 0), some (.int (iI v1)), some (.int (iI v2)), some (rf G 79), none]) hl (by decide +kernel) (Nat.le_of_ble_eq_true rfl) ⟨rfl, ⟨rfl, ⟨rfl, ⟨rfl, trivial⟩⟩⟩⟩ ?_
  intro X hX C E
  subst hX
  rw [f_L_setLength] at h
  refine go_aload_n C dL_setLength_0 rfl rfl ?_
  refine go_iconst C dL_setLength_1 ?_
  refine go_aload_n C dL_setLength_2 rfl rfl ?_
  refine go_iload_n C dL_setLength_3 rfl rfl ?_
  refine go_iload_n C dL_setLength_4 rfl rfl ?_
  obtain ⟨q1, h1, h⟩ := ob_some h
  refine go_callV_xi C dL_setLength_5 (ok_X9_setLength C.hl hB h1) mv_L_26 sh_0 rfl rfl (Nat.le_of_ble_eq_true rfl) ⟨(Nat.le_of_ble_eq_true rfl), (Nat.le_of_ble_eq_true rfl)⟩ ⟨(Nat.le_of_ble_eq_true rfl), (Nat.le_of_ble_eq_true rfl)⟩ (fun e1 he1 hB1 => ?_) (fun r1 hr1 hB1 => ?_)
  · replace h := ox_l he1 h
    by_cases hc3 : e1 = 1
    · replace h := ite_t hc3 h
      subst hc3
      refine go_catch [] ⟨0, 10, 13, 19⟩ [⟨0, 10, 17, 13⟩] C rfl (fun w hw => nomatch hw) rfl (by decide) gt_691 (by decide +kernel) (fun q9 => ?_)
      refine go_astore (ls2 := [some (rf G 0), some (.int (iI v1)), some (.int (iI v2)), some (rf G 79), some (.ref q9)]) C dL_setLength_13 (Nat.le_of_ble_eq_true rfl) rfl ?_
      refine go_iconst C dL_setLength_15 ?_
      cases h
      exact go_iret C E rfl dL_setLength_16 (Nat.le_of_ble_eq_true rfl) (Nat.le_of_ble_eq_true rfl) rfl rfl hB1
    · replace h := ite_f hc3 h
      by_cases hc2 : e1 = 0
      · replace h := ite_t hc2 h
        subst hc2
        refine go_catch [⟨0, 10, 13, 19⟩] ⟨0, 10, 17, 13⟩ [] C rfl (List.forall_mem_cons.mpr ⟨Or.inr ⟨by decide, _, gt_691, by decide +kernel⟩, (fun w hw => nomatch hw)⟩) rfl (by decide) gt_610 (by decide +kernel) (fun q9 => ?_)
        refine go_astore (ls2 := [some (rf G 0), some (.int (iI v1)), some (.int (iI v2)), some (rf G 79), some (.ref q9)]) C dL_setLength_17 (Nat.le_of_ble_eq_true rfl) rfl ?_
        refine go_iconst C dL_setLength_19 ?_
        cases h
        exact go_iret C E rfl dL_setLength_20 (Nat.le_of_ble_eq_true rfl) (Nat.le_of_ble_eq_true rfl) rfl rfl hB1
      · replace h := ite_f hc2 h
        cases h
  · replace h := ox_r hr1 h
    obtain ⟨hc4, h⟩ := chk_some h
    refine go_i2l C dL_setLength_8 hc4 ?_
    refine go_last (k2 := 1079) C dL_setLength_9 sh_79 (by decide) ⟨by decide, by decide⟩ rfl ?_
    have hB5 := hB1.setL 79 0 r1
    refine go_goto (tgt := 21) C dL_setLength_10 rfl ?_
    refine go_iconst C dL_setLength_21 ?_
    cases h
    exact go_iret C E rfl dL_setLength_22 (Nat.le_of_ble_eq_true rfl) (Nat.le_of_ble_eq_true rfl) rfl rfl hB5
-- IntervalRouterLaw.link(LIntervalRouter;II[J)I
set_option maxHeartbeats 4000000 in
theorem ok_L_link {G : gC} {l : Launch} (hl : l.stackTraces = false) {v1 : Int} {v2 : Int} {M : Mem} (hB : Bd M) {res : Int × Mem} (h : f_L_link v1 v2 M = some res) : Ok G l 8 2 12 yL_link (.codeWith yL_link cL_link 5 (some .int) [(0, 10, 13, 19), (0, 10, 17, 13)]) [rf G 0, .int (iI v1), .int (iI v2), rf G 79] M (.inr (some (.int (iI res.1)))) res.2 := by
  refine ok_ofH (ls := [some (rf G 0), some (.int (iI v1)), some (.int (iI v2)), some (rf G 79), none]) hl (by decide +kernel) (Nat.le_of_ble_eq_true rfl) ⟨rfl, ⟨rfl, ⟨rfl, ⟨rfl, trivial⟩⟩⟩⟩ ?_
  intro X hX C E
  subst hX
  rw [f_L_link] at h
  refine go_aload_n C dL_link_0 rfl rfl ?_
  refine go_iconst C dL_link_1 ?_
  refine go_aload_n C dL_link_2 rfl rfl ?_
  refine go_iload_n C dL_link_3 rfl rfl ?_
  refine go_iload_n C dL_link_4 rfl rfl ?_
  obtain ⟨q1, h1, h⟩ := ob_some h
  refine go_callV_xi C dL_link_5 (ok_X9_link C.hl hB h1) mv_L_30 sh_0 rfl rfl (Nat.le_of_ble_eq_true rfl) ⟨(Nat.le_of_ble_eq_true rfl), (Nat.le_of_ble_eq_true rfl)⟩ ⟨(Nat.le_of_ble_eq_true rfl), (Nat.le_of_ble_eq_true rfl)⟩ (fun e1 he1 hB1 => ?_) (fun r1 hr1 hB1 => ?_)
  · replace h := ox_l he1 h
    by_cases hc3 : e1 = 1
    · replace h := ite_t hc3 h
      subst hc3
      refine go_catch [] ⟨0, 10, 13, 19⟩ [⟨0, 10, 17, 13⟩] C rfl (fun w hw => nomatch hw) rfl (by decide) gt_691 (by decide +kernel) (fun q9 => ?_)
      refine go_astore (ls2 := [some (rf G 0), some (.int (iI v1)), some (.int (iI v2)), some (rf G 79), some (.ref q9)]) C dL_link_13 (Nat.le_of_ble_eq_true rfl) rfl ?_
      refine go_iconst C dL_link_15 ?_
      cases h
      exact go_iret C E rfl dL_link_16 (Nat.le_of_ble_eq_true rfl) (Nat.le_of_ble_eq_true rfl) rfl rfl hB1
    · replace h := ite_f hc3 h
      by_cases hc2 : e1 = 0
      · replace h := ite_t hc2 h
        subst hc2
        refine go_catch [⟨0, 10, 13, 19⟩] ⟨0, 10, 17, 13⟩ [] C rfl (List.forall_mem_cons.mpr ⟨Or.inr ⟨by decide, _, gt_691, by decide +kernel⟩, (fun w hw => nomatch hw)⟩) rfl (by decide) gt_610 (by decide +kernel) (fun q9 => ?_)
        refine go_astore (ls2 := [some (rf G 0), some (.int (iI v1)), some (.int (iI v2)), some (rf G 79), some (.ref q9)]) C dL_link_17 (Nat.le_of_ble_eq_true rfl) rfl ?_
        refine go_iconst C dL_link_19 ?_
        cases h
        exact go_iret C E rfl dL_link_20 (Nat.le_of_ble_eq_true rfl) (Nat.le_of_ble_eq_true rfl) rfl rfl hB1
      · replace h := ite_f hc2 h
        cases h
  · replace h := ox_r hr1 h
    obtain ⟨hc4, h⟩ := chk_some h
    refine go_i2l C dL_link_8 hc4 ?_
    refine go_last (k2 := 1079) C dL_link_9 sh_79 (by decide) ⟨by decide, by decide⟩ rfl ?_
    have hB5 := hB1.setL 79 0 r1
    refine go_goto (tgt := 21) C dL_link_10 rfl ?_
    refine go_iconst C dL_link_21 ?_
    cases h
    exact go_iret C E rfl dL_link_22 (Nat.le_of_ble_eq_true rfl) (Nat.le_of_ble_eq_true rfl) rfl rfl hB5
-- IntervalRouterLaw.distance(LIntervalRouter;II[J)I
set_option maxHeartbeats 4000000 in
theorem ok_L_distance {G : gC} {l : Launch} (hl : l.stackTraces = false) {v1 : Int} {v2 : Int} {M : Mem} (hB : Bd M) {res : Int × Mem} (h : f_L_distance v1 v2 M = some res) : Ok G l 8 2 12 yL_distance (.codeWith yL_distance cL_distance 5 (some .int) [(0, 10, 13, 19)]) [rf G 0, .int (iI v1), .int (iI v2), rf G 79] M (.inr (some (.int (iI res.1)))) res.2 := by
  refine ok_ofH (ls := [some (rf G 0), some (.int (iI v1)), some (.int (iI v2)), some (rf G 79), none]) hl (by decide +kernel) (Nat.le_of_ble_eq_true rfl) ⟨rfl, ⟨rfl, ⟨rfl, ⟨rfl, trivial⟩⟩⟩⟩ ?_
  intro X hX C E
  subst hX
  rw [f_L_distance] at h
  refine go_aload_n C dL_distance_0 rfl rfl ?_
  refine go_iconst C dL_distance_1 ?_
  refine go_aload_n C dL_distance_2 rfl rfl ?_
  refine go_iload_n C dL_distance_3 rfl rfl ?_
  refine go_iload_n C dL_distance_4 rfl rfl ?_
  obtain ⟨q1, h1, h⟩ := ob_some h
  refine go_callV_xi C dL_distance_5 (ok_X9_distance C.hl hB h1) mv_L_33 sh_0 rfl rfl (Nat.le_of_ble_eq_true rfl) ⟨(Nat.le_of_ble_eq_true rfl), (Nat.le_of_ble_eq_true rfl)⟩ ⟨(Nat.le_of_ble_eq_true rfl), (Nat.le_of_ble_eq_true rfl)⟩ (fun e1 he1 hB1 => ?_) (fun r1 hr1 hB1 => ?_)
  · replace h := ox_l he1 h
    by_cases hc2 : e1 = 1
    · replace h := ite_t hc2 h
      subst hc2
      refine go_catch [] ⟨0, 10, 13, 19⟩ [] C rfl (fun w hw => nomatch hw) rfl (by decide) gt_691 (by decide +kernel) (fun q9 => ?_)
      refine go_astore (ls2 := [some (rf G 0), some (.int (iI v1)), some (.int (iI v2)), some (rf G 79), some (.ref q9)]) C dL_distance_13 (Nat.le_of_ble_eq_true rfl) rfl ?_
      refine go_iconst C dL_distance_15 ?_
      cases h
      exact go_iret C E rfl dL_distance_16 (Nat.le_of_ble_eq_true rfl) (Nat.le_of_ble_eq_true rfl) rfl rfl hB1
    · replace h := ite_f hc2 h
      cases h
  · replace h := ox_r hr1 h
    obtain ⟨hc3, h⟩ := chk_some h
    refine go_i2l C dL_distance_8 hc3 ?_
    refine go_last (k2 := 1079) C dL_distance_9 sh_79 (by decide) ⟨by decide, by decide⟩ rfl ?_
    have hB4 := hB1.setL 79 0 r1
    refine go_goto (tgt := 17) C dL_distance_10 rfl ?_
    refine go_iconst C dL_distance_17 ?_
    cases h
    exact go_iret C E rfl dL_distance_18 (Nat.le_of_ble_eq_true rfl) (Nat.le_of_ble_eq_true rfl) rfl rfl hB4
-- IntervalRouterLaw.goodLinks(LIntervalRouter;II[J)I
set_option maxHeartbeats 4000000 in
theorem ok_L_goodLinks {G : gC} {l : Launch} (hl : l.stackTraces = false) {v1 : Int} {v2 : Int} {M : Mem} (hB : Bd M) {res : Int × Mem} (h : f_L_goodLinks v1 v2 M = some res) : Ok G l 8 2 12 yL_goodLinks (.codeWith yL_goodLinks cL_goodLinks 5 (some .int) [(0, 10, 13, 19)]) [rf G 0, .int (iI v1), .int (iI v2), rf G 79] M (.inr (some (.int (iI res.1)))) res.2 := by
  refine ok_ofH (ls := [some (rf G 0), some (.int (iI v1)), some (.int (iI v2)), some (rf G 79), none]) hl (by decide +kernel) (Nat.le_of_ble_eq_true rfl) ⟨rfl, ⟨rfl, ⟨rfl, ⟨rfl, trivial⟩⟩⟩⟩ ?_
  intro X hX C E
  subst hX
  rw [f_L_goodLinks] at h
  refine go_aload_n C dL_goodLinks_0 rfl rfl ?_
  refine go_iconst C dL_goodLinks_1 ?_
  refine go_aload_n C dL_goodLinks_2 rfl rfl ?_
  refine go_iload_n C dL_goodLinks_3 rfl rfl ?_
  refine go_iload_n C dL_goodLinks_4 rfl rfl ?_
  obtain ⟨q1, h1, h⟩ := ob_some h
  refine go_callV_xi C dL_goodLinks_5 (ok_X9_goodLinks C.hl hB h1) mv_L_36 sh_0 rfl rfl (Nat.le_of_ble_eq_true rfl) ⟨(Nat.le_of_ble_eq_true rfl), (Nat.le_of_ble_eq_true rfl)⟩ ⟨(Nat.le_of_ble_eq_true rfl), (Nat.le_of_ble_eq_true rfl)⟩ (fun e1 he1 hB1 => ?_) (fun r1 hr1 hB1 => ?_)
  · replace h := ox_l he1 h
    by_cases hc2 : e1 = 1
    · replace h := ite_t hc2 h
      subst hc2
      refine go_catch [] ⟨0, 10, 13, 19⟩ [] C rfl (fun w hw => nomatch hw) rfl (by decide) gt_691 (by decide +kernel) (fun q9 => ?_)
      refine go_astore (ls2 := [some (rf G 0), some (.int (iI v1)), some (.int (iI v2)), some (rf G 79), some (.ref q9)]) C dL_goodLinks_13 (Nat.le_of_ble_eq_true rfl) rfl ?_
      refine go_iconst C dL_goodLinks_15 ?_
      cases h
      exact go_iret C E rfl dL_goodLinks_16 (Nat.le_of_ble_eq_true rfl) (Nat.le_of_ble_eq_true rfl) rfl rfl hB1
    · replace h := ite_f hc2 h
      cases h
  · replace h := ox_r hr1 h
    obtain ⟨hc3, h⟩ := chk_some h
    refine go_i2l C dL_goodLinks_8 hc3 ?_
    refine go_last (k2 := 1079) C dL_goodLinks_9 sh_79 (by decide) ⟨by decide, by decide⟩ rfl ?_
    have hB4 := hB1.setL 79 0 r1
    refine go_goto (tgt := 17) C dL_goodLinks_10 rfl ?_
    refine go_iconst C dL_goodLinks_17 ?_
    cases h
    exact go_iret C E rfl dL_goodLinks_18 (Nat.le_of_ble_eq_true rfl) (Nat.le_of_ble_eq_true rfl) rfl rfl hB4
-- IntervalRouterLaw.label(LIntervalRouter;I[J)I
set_option maxHeartbeats 4000000 in
theorem ok_L_label {G : gC} {l : Launch} (hl : l.stackTraces = false) {v1 : Int} {M : Mem} (hB : Bd M) {res : Int × Mem} (h : f_L_label v1 M = some res) : Ok G l 8 1 6 yL_label (.codeWith yL_label cL_label 4 (some .int) [(0, 9, 12, 19)]) [rf G 0, .int (iI v1), rf G 79] M (.inr (some (.int (iI res.1)))) res.2 := by
  refine ok_ofH (ls := [some (rf G 0), some (.int (iI v1)), some (rf G 79), none]) hl (by decide +kernel) (Nat.le_of_ble_eq_true rfl) ⟨rfl, ⟨rfl, ⟨rfl, trivial⟩⟩⟩ ?_
  intro X hX C E
  subst hX
  rw [f_L_label] at h
  refine go_aload_n C dL_label_0 rfl rfl ?_
  refine go_iconst C dL_label_1 ?_
  refine go_aload_n C dL_label_2 rfl rfl ?_
  refine go_iload_n C dL_label_3 rfl rfl ?_
  obtain ⟨q1, h1, h⟩ := ob_some h
  refine go_callV_xi C dL_label_4 (ok_X9_label C.hl hB h1) mv_L_39 sh_0 rfl rfl (Nat.le_of_ble_eq_true rfl) ⟨(Nat.le_of_ble_eq_true rfl), (Nat.le_of_ble_eq_true rfl)⟩ ⟨(Nat.le_of_ble_eq_true rfl), (Nat.le_of_ble_eq_true rfl)⟩ (fun e1 he1 hB1 => ?_) (fun r1 hr1 hB1 => ?_)
  · replace h := ox_l he1 h
    by_cases hc2 : e1 = 1
    · replace h := ite_t hc2 h
      subst hc2
      refine go_catch [] ⟨0, 9, 12, 19⟩ [] C rfl (fun w hw => nomatch hw) rfl (by decide) gt_691 (by decide +kernel) (fun q9 => ?_)
      refine go_astore_n (ls2 := [some (rf G 0), some (.int (iI v1)), some (rf G 79), some (.ref q9)]) C dL_label_12 rfl (Nat.le_of_ble_eq_true rfl) rfl ?_
      refine go_iconst C dL_label_13 ?_
      cases h
      exact go_iret C E rfl dL_label_14 (Nat.le_of_ble_eq_true rfl) (Nat.le_of_ble_eq_true rfl) rfl rfl hB1
    · replace h := ite_f hc2 h
      cases h
  · replace h := ox_r hr1 h
    obtain ⟨hc3, h⟩ := chk_some h
    refine go_i2l C dL_label_7 hc3 ?_
    refine go_last (k2 := 1079) C dL_label_8 sh_79 (by decide) ⟨by decide, by decide⟩ rfl ?_
    have hB4 := hB1.setL 79 0 r1
    refine go_goto (tgt := 15) C dL_label_9 rfl ?_
    refine go_iconst C dL_label_15 ?_
    cases h
    exact go_iret C E rfl dL_label_16 (Nat.le_of_ble_eq_true rfl) (Nat.le_of_ble_eq_true rfl) rfl rfl hB4
-- IntervalRouterLaw.nodeWith(LIntervalRouter;I[J)I
set_option maxHeartbeats 4000000 in
theorem ok_L_nodeWith {G : gC} {l : Launch} (hl : l.stackTraces = false) {F : Nat} {v1 : Int} {M : Mem} (hB : Bd M) {res : Int × Mem} (h : f_L_nodeWith F v1 M = some res) : Ok G l 8 1 6 yL_nodeWith (.codeWith yL_nodeWith cL_nodeWith 4 (some .int) [(0, 9, 12, 19)]) [rf G 0, .int (iI v1), rf G 79] M (.inr (some (.int (iI res.1)))) res.2 := by
  refine ok_ofH (ls := [some (rf G 0), some (.int (iI v1)), some (rf G 79), none]) hl (by decide +kernel) (Nat.le_of_ble_eq_true rfl) ⟨rfl, ⟨rfl, ⟨rfl, trivial⟩⟩⟩ ?_
  intro X hX C E
  subst hX
  rw [f_L_nodeWith] at h
  refine go_aload_n C dL_nodeWith_0 rfl rfl ?_
  refine go_iconst C dL_nodeWith_1 ?_
  refine go_aload_n C dL_nodeWith_2 rfl rfl ?_
  refine go_iload_n C dL_nodeWith_3 rfl rfl ?_
  obtain ⟨q1, h1, h⟩ := ob_some h
  refine go_callV_xi C dL_nodeWith_4 (ok_X9_nodeWith C.hl hB h1) mv_L_42 sh_0 rfl rfl (Nat.le_of_ble_eq_true rfl) ⟨(Nat.le_of_ble_eq_true rfl), (Nat.le_of_ble_eq_true rfl)⟩ ⟨(Nat.le_of_ble_eq_true rfl), (Nat.le_of_ble_eq_true rfl)⟩ (fun e1 he1 hB1 => ?_) (fun r1 hr1 hB1 => ?_)
  · replace h := ox_l he1 h
    by_cases hc2 : e1 = 1
    · replace h := ite_t hc2 h
      subst hc2
      refine go_catch [] ⟨0, 9, 12, 19⟩ [] C rfl (fun w hw => nomatch hw) rfl (by decide) gt_691 (by decide +kernel) (fun q9 => ?_)
      refine go_astore_n (ls2 := [some (rf G 0), some (.int (iI v1)), some (rf G 79), some (.ref q9)]) C dL_nodeWith_12 rfl (Nat.le_of_ble_eq_true rfl) rfl ?_
      refine go_iconst C dL_nodeWith_13 ?_
      cases h
      exact go_iret C E rfl dL_nodeWith_14 (Nat.le_of_ble_eq_true rfl) (Nat.le_of_ble_eq_true rfl) rfl rfl hB1
    · replace h := ite_f hc2 h
      cases h
  · replace h := ox_r hr1 h
    obtain ⟨hc3, h⟩ := chk_some h
    refine go_i2l C dL_nodeWith_7 hc3 ?_
    refine go_last (k2 := 1079) C dL_nodeWith_8 sh_79 (by decide) ⟨by decide, by decide⟩ rfl ?_
    have hB4 := hB1.setL 79 0 r1
    refine go_goto (tgt := 15) C dL_nodeWith_9 rfl ?_
    refine go_iconst C dL_nodeWith_15 ?_
    cases h
    exact go_iret C E rfl dL_nodeWith_16 (Nat.le_of_ble_eq_true rfl) (Nat.le_of_ble_eq_true rfl) rfl rfl hB4
-- IntervalRouterLaw.setLabels(LIntervalRouter;II[J)I
set_option maxHeartbeats 4000000 in
theorem ok_L_setLabels {G : gC} {l : Launch} (hl : l.stackTraces = false) {F : Nat} {v1 : Int} {v2 : Int} {M : Mem} (hB : Bd M) {res : Int × Mem} (h : f_L_setLabels F v1 v2 M = some res) : Ok G l 8 3 18 yL_setLabels (.codeWith yL_setLabels cL_setLabels 5 (some .int) [(0, 10, 13, 13), (0, 10, 17, 19), (0, 10, 21, 21)]) [rf G 0, .int (iI v1), .int (iI v2), rf G 79] M (.inr (some (.int (iI res.1)))) res.2 := by
  refine ok_ofH (ls := [some (rf G 0), some (.int (iI v1)), some (.int (iI v2)), some (rf G 79), none]) hl (by decide +kernel) (Nat.le_of_ble_eq_true rfl) ⟨rfl, ⟨rfl, ⟨rfl, ⟨rfl, trivial⟩⟩⟩⟩ ?_
  intro X hX C E
  subst hX
  rw [f_L_setLabels] at h
  refine go_aload_n C dL_setLabels_0 rfl rfl ?_
  refine go_iconst C dL_setLabels_1 ?_
  refine go_aload_n C dL_setLabels_2 rfl rfl ?_
  refine go_iload_n C dL_setLabels_3 rfl rfl ?_
  refine go_iload_n C dL_setLabels_4 rfl rfl ?_
  obtain ⟨q1, h1, h⟩ := ob_some h
  refine go_callV_xi C dL_setLabels_5 (ok_X9_setLabels C.hl hB h1) mv_L_45 sh_0 rfl rfl (Nat.le_of_ble_eq_true rfl) ⟨(Nat.le_of_ble_eq_true rfl), (Nat.le_of_ble_eq_true rfl)⟩ ⟨(Nat.le_of_ble_eq_true rfl), (Nat.le_of_ble_eq_true rfl)⟩ (fun e1 he1 hB1 => ?_) (fun r1 hr1 hB1 => ?_)
  · replace h := ox_l he1 h
    by_cases hc4 : e1 = 0
    · replace h := ite_t hc4 h
      subst hc4
      refine go_catch [] ⟨0, 10, 13, 13⟩ [⟨0, 10, 17, 19⟩, ⟨0, 10, 21, 21⟩] C rfl (fun w hw => nomatch hw) rfl (by decide) gt_610 (by decide +kernel) (fun q9 => ?_)
      refine go_astore (ls2 := [some (rf G 0), some (.int (iI v1)), some (.int (iI v2)), some (rf G 79), some (.ref q9)]) C dL_setLabels_13 (Nat.le_of_ble_eq_true rfl) rfl ?_
      refine go_iconst C dL_setLabels_15 ?_
      cases h
      exact go_iret C E rfl dL_setLabels_16 (Nat.le_of_ble_eq_true rfl) (Nat.le_of_ble_eq_true rfl) rfl rfl hB1
    · replace h := ite_f hc4 h
      by_cases hc3 : e1 = 1
      · replace h := ite_t hc3 h
        subst hc3
        refine go_catch [⟨0, 10, 13, 13⟩] ⟨0, 10, 17, 19⟩ [⟨0, 10, 21, 21⟩] C rfl (List.forall_mem_cons.mpr ⟨Or.inr ⟨by decide, _, gt_610, by decide +kernel⟩, (fun w hw => nomatch hw)⟩) rfl (by decide) gt_691 (by decide +kernel) (fun q9 => ?_)
        refine go_astore (ls2 := [some (rf G 0), some (.int (iI v1)), some (.int (iI v2)), some (rf G 79), some (.ref q9)]) C dL_setLabels_17 (Nat.le_of_ble_eq_true rfl) rfl ?_
        refine go_iconst C dL_setLabels_19 ?_
        cases h
        exact go_iret C E rfl dL_setLabels_20 (Nat.le_of_ble_eq_true rfl) (Nat.le_of_ble_eq_true rfl) rfl rfl hB1
      · replace h := ite_f hc3 h
        by_cases hc2 : e1 = 2
        · replace h := ite_t hc2 h
          subst hc2
          refine go_catch [⟨0, 10, 13, 13⟩, ⟨0, 10, 17, 19⟩] ⟨0, 10, 21, 21⟩ [] C rfl (List.forall_mem_cons.mpr ⟨Or.inr ⟨by decide, _, gt_610, by decide +kernel⟩, (List.forall_mem_cons.mpr ⟨Or.inr ⟨by decide, _, gt_691, by decide +kernel⟩, (fun w hw => nomatch hw)⟩)⟩) rfl (by decide) gt_692 (by decide +kernel) (fun q9 => ?_)
          refine go_astore (ls2 := [some (rf G 0), some (.int (iI v1)), some (.int (iI v2)), some (rf G 79), some (.ref q9)]) C dL_setLabels_21 (Nat.le_of_ble_eq_true rfl) rfl ?_
          refine go_iconst C dL_setLabels_23 ?_
          cases h
          exact go_iret C E rfl dL_setLabels_24 (Nat.le_of_ble_eq_true rfl) (Nat.le_of_ble_eq_true rfl) rfl rfl hB1
        · replace h := ite_f hc2 h
          cases h
  · replace h := ox_r hr1 h
    obtain ⟨hc5, h⟩ := chk_some h
    refine go_i2l C dL_setLabels_8 hc5 ?_
    refine go_last (k2 := 1079) C dL_setLabels_9 sh_79 (by decide) ⟨by decide, by decide⟩ rfl ?_
    have hB6 := hB1.setL 79 0 r1
    refine go_goto (tgt := 25) C dL_setLabels_10 rfl ?_
    refine go_iconst C dL_setLabels_25 ?_
    cases h
    exact go_iret C E rfl dL_setLabels_26 (Nat.le_of_ble_eq_true rfl) (Nat.le_of_ble_eq_true rfl) rfl rfl hB6
-- IntervalRouterLaw.swapLabels(LIntervalRouter;II[J)I
set_option maxHeartbeats 4000000 in
theorem ok_L_swapLabels {G : gC} {l : Launch} (hl : l.stackTraces = false) {F : Nat} {v1 : Int} {v2 : Int} {M : Mem} (hB : Bd M) {res : Int × Mem} (h : f_L_swapLabels F v1 v2 M = some res) : Ok G l 8 2 12 yL_swapLabels (.codeWith yL_swapLabels cL_swapLabels 5 (some .int) [(0, 10, 13, 19)]) [rf G 0, .int (iI v1), .int (iI v2), rf G 79] M (.inr (some (.int (iI res.1)))) res.2 := by
  refine ok_ofH (ls := [some (rf G 0), some (.int (iI v1)), some (.int (iI v2)), some (rf G 79), none]) hl (by decide +kernel) (Nat.le_of_ble_eq_true rfl) ⟨rfl, ⟨rfl, ⟨rfl, ⟨rfl, trivial⟩⟩⟩⟩ ?_
  intro X hX C E
  subst hX
  rw [f_L_swapLabels] at h
  refine go_aload_n C dL_swapLabels_0 rfl rfl ?_
  refine go_iconst C dL_swapLabels_1 ?_
  refine go_aload_n C dL_swapLabels_2 rfl rfl ?_
  refine go_iload_n C dL_swapLabels_3 rfl rfl ?_
  refine go_iload_n C dL_swapLabels_4 rfl rfl ?_
  obtain ⟨q1, h1, h⟩ := ob_some h
  refine go_callV_xi C dL_swapLabels_5 (ok_X9_swapLabels C.hl hB h1) mv_L_48 sh_0 rfl rfl (Nat.le_of_ble_eq_true rfl) ⟨(Nat.le_of_ble_eq_true rfl), (Nat.le_of_ble_eq_true rfl)⟩ ⟨(Nat.le_of_ble_eq_true rfl), (Nat.le_of_ble_eq_true rfl)⟩ (fun e1 he1 hB1 => ?_) (fun r1 hr1 hB1 => ?_)
  · replace h := ox_l he1 h
    by_cases hc2 : e1 = 1
    · replace h := ite_t hc2 h
      subst hc2
      refine go_catch [] ⟨0, 10, 13, 19⟩ [] C rfl (fun w hw => nomatch hw) rfl (by decide) gt_691 (by decide +kernel) (fun q9 => ?_)
      refine go_astore (ls2 := [some (rf G 0), some (.int (iI v1)), some (.int (iI v2)), some (rf G 79), some (.ref q9)]) C dL_swapLabels_13 (Nat.le_of_ble_eq_true rfl) rfl ?_
      refine go_iconst C dL_swapLabels_15 ?_
      cases h
      exact go_iret C E rfl dL_swapLabels_16 (Nat.le_of_ble_eq_true rfl) (Nat.le_of_ble_eq_true rfl) rfl rfl hB1
    · replace h := ite_f hc2 h
      cases h
  · replace h := ox_r hr1 h
    obtain ⟨hc3, h⟩ := chk_some h
    refine go_i2l C dL_swapLabels_8 hc3 ?_
    refine go_last (k2 := 1079) C dL_swapLabels_9 sh_79 (by decide) ⟨by decide, by decide⟩ rfl ?_
    have hB4 := hB1.setL 79 0 r1
    refine go_goto (tgt := 17) C dL_swapLabels_10 rfl ?_
    refine go_iconst C dL_swapLabels_17 ?_
    cases h
    exact go_iret C E rfl dL_swapLabels_18 (Nat.le_of_ble_eq_true rfl) (Nat.le_of_ble_eq_true rfl) rfl rfl hB4
-- IntervalRouterLaw.turn(LIntervalRouter;I[J)I
set_option maxHeartbeats 4000000 in
theorem ok_L_turn {G : gC} {l : Launch} (hl : l.stackTraces = false) {F : Nat} {v1 : Int} {M : Mem} (hB : Bd M) {res : Int × Mem} (h : f_L_turn F v1 M = some res) : Ok G l 8 2 12 yL_turn (.codeWith yL_turn cL_turn 4 (some .int) [(0, 9, 12, 13), (0, 9, 15, 21)]) [rf G 0, .int (iI v1), rf G 79] M (.inr (some (.int (iI res.1)))) res.2 := by
  refine ok_ofH (ls := [some (rf G 0), some (.int (iI v1)), some (rf G 79), none]) hl (by decide +kernel) (Nat.le_of_ble_eq_true rfl) ⟨rfl, ⟨rfl, ⟨rfl, trivial⟩⟩⟩ ?_
  intro X hX C E
  subst hX
  rw [f_L_turn] at h
  refine go_aload_n C dL_turn_0 rfl rfl ?_
  refine go_iconst C dL_turn_1 ?_
  refine go_aload_n C dL_turn_2 rfl rfl ?_
  refine go_iload_n C dL_turn_3 rfl rfl ?_
  obtain ⟨q1, h1, h⟩ := ob_some h
  refine go_callV_xi C dL_turn_4 (ok_X9_turn C.hl hB h1) mv_L_51 sh_0 rfl rfl (Nat.le_of_ble_eq_true rfl) ⟨(Nat.le_of_ble_eq_true rfl), (Nat.le_of_ble_eq_true rfl)⟩ ⟨(Nat.le_of_ble_eq_true rfl), (Nat.le_of_ble_eq_true rfl)⟩ (fun e1 he1 hB1 => ?_) (fun r1 hr1 hB1 => ?_)
  · replace h := ox_l he1 h
    by_cases hc3 : e1 = 0
    · replace h := ite_t hc3 h
      subst hc3
      refine go_catch [] ⟨0, 9, 12, 13⟩ [⟨0, 9, 15, 21⟩] C rfl (fun w hw => nomatch hw) rfl (by decide) gt_610 (by decide +kernel) (fun q9 => ?_)
      refine go_astore_n (ls2 := [some (rf G 0), some (.int (iI v1)), some (rf G 79), some (.ref q9)]) C dL_turn_12 rfl (Nat.le_of_ble_eq_true rfl) rfl ?_
      refine go_iconst C dL_turn_13 ?_
      cases h
      exact go_iret C E rfl dL_turn_14 (Nat.le_of_ble_eq_true rfl) (Nat.le_of_ble_eq_true rfl) rfl rfl hB1
    · replace h := ite_f hc3 h
      by_cases hc2 : e1 = 2
      · replace h := ite_t hc2 h
        subst hc2
        refine go_catch [⟨0, 9, 12, 13⟩] ⟨0, 9, 15, 21⟩ [] C rfl (List.forall_mem_cons.mpr ⟨Or.inr ⟨by decide, _, gt_610, by decide +kernel⟩, (fun w hw => nomatch hw)⟩) rfl (by decide) gt_692 (by decide +kernel) (fun q9 => ?_)
        refine go_astore_n (ls2 := [some (rf G 0), some (.int (iI v1)), some (rf G 79), some (.ref q9)]) C dL_turn_15 rfl (Nat.le_of_ble_eq_true rfl) rfl ?_
        refine go_iconst C dL_turn_16 ?_
        cases h
        exact go_iret C E rfl dL_turn_17 (Nat.le_of_ble_eq_true rfl) (Nat.le_of_ble_eq_true rfl) rfl rfl hB1
      · replace h := ite_f hc2 h
        cases h
  · replace h := ox_r hr1 h
    obtain ⟨hc4, h⟩ := chk_some h
    refine go_i2l C dL_turn_7 hc4 ?_
    refine go_last (k2 := 1079) C dL_turn_8 sh_79 (by decide) ⟨by decide, by decide⟩ rfl ?_
    have hB5 := hB1.setL 79 0 r1
    refine go_goto (tgt := 18) C dL_turn_9 rfl ?_
    refine go_iconst C dL_turn_18 ?_
    cases h
    exact go_iret C E rfl dL_turn_19 (Nat.le_of_ble_eq_true rfl) (Nat.le_of_ble_eq_true rfl) rfl rfl hB5
-- IntervalRouterLaw.shuffle(LIntervalRouter;I[J)I
set_option maxHeartbeats 4000000 in
theorem ok_L_shuffle {G : gC} {l : Launch} (hl : l.stackTraces = false) {F : Nat} {v1 : Int} {M : Mem} (hB : Bd M) {res : Int × Mem} (h : f_L_shuffle F v1 M = some res) : Ok G l 8 1 6 yL_shuffle (.codeWith yL_shuffle cL_shuffle 4 (some .int) [(0, 9, 12, 13)]) [rf G 0, .int (iI v1), rf G 79] M (.inr (some (.int (iI res.1)))) res.2 := by
  refine ok_ofH (ls := [some (rf G 0), some (.int (iI v1)), some (rf G 79), none]) hl (by decide +kernel) (Nat.le_of_ble_eq_true rfl) ⟨rfl, ⟨rfl, ⟨rfl, trivial⟩⟩⟩ ?_
  intro X hX C E
  subst hX
  rw [f_L_shuffle] at h
  refine go_aload_n C dL_shuffle_0 rfl rfl ?_
  refine go_iconst C dL_shuffle_1 ?_
  refine go_aload_n C dL_shuffle_2 rfl rfl ?_
  refine go_iload_n C dL_shuffle_3 rfl rfl ?_
  obtain ⟨q1, h1, h⟩ := ob_some h
  refine go_callV_xi C dL_shuffle_4 (ok_X9_shuffle C.hl hB h1) mv_L_54 sh_0 rfl rfl (Nat.le_of_ble_eq_true rfl) ⟨(Nat.le_of_ble_eq_true rfl), (Nat.le_of_ble_eq_true rfl)⟩ ⟨(Nat.le_of_ble_eq_true rfl), (Nat.le_of_ble_eq_true rfl)⟩ (fun e1 he1 hB1 => ?_) (fun r1 hr1 hB1 => ?_)
  · replace h := ox_l he1 h
    by_cases hc2 : e1 = 0
    · replace h := ite_t hc2 h
      subst hc2
      refine go_catch [] ⟨0, 9, 12, 13⟩ [] C rfl (fun w hw => nomatch hw) rfl (by decide) gt_610 (by decide +kernel) (fun q9 => ?_)
      refine go_astore_n (ls2 := [some (rf G 0), some (.int (iI v1)), some (rf G 79), some (.ref q9)]) C dL_shuffle_12 rfl (Nat.le_of_ble_eq_true rfl) rfl ?_
      refine go_iconst C dL_shuffle_13 ?_
      cases h
      exact go_iret C E rfl dL_shuffle_14 (Nat.le_of_ble_eq_true rfl) (Nat.le_of_ble_eq_true rfl) rfl rfl hB1
    · replace h := ite_f hc2 h
      cases h
  · replace h := ox_r hr1 h
    obtain ⟨hc3, h⟩ := chk_some h
    refine go_i2l C dL_shuffle_7 hc3 ?_
    refine go_last (k2 := 1079) C dL_shuffle_8 sh_79 (by decide) ⟨by decide, by decide⟩ rfl ?_
    have hB4 := hB1.setL 79 0 r1
    refine go_goto (tgt := 15) C dL_shuffle_9 rfl ?_
    refine go_iconst C dL_shuffle_15 ?_
    cases h
    exact go_iret C E rfl dL_shuffle_16 (Nat.le_of_ble_eq_true rfl) (Nat.le_of_ble_eq_true rfl) rfl rfl hB4
-- IntervalRouterLaw.setRange(LIntervalRouter;IIII[J)I
set_option maxHeartbeats 4000000 in
theorem ok_L_setRange {G : gC} {l : Launch} (hl : l.stackTraces = false) {F : Nat} {v1 : Int} {v2 : Int} {v3 : Int} {v4 : Int} {M : Mem} (hB : Bd M) {res : Int × Mem} (h : f_L_setRange F v1 v2 v3 v4 M = some res) : Ok G l 8 5 30 yL_setRange (.codeWith yL_setRange cL_setRange 7 (some .int) [(0, 14, 17, 19), (0, 14, 21, 13)]) [rf G 0, .int (iI v1), .int (iI v2), .int (iI v3), .int (iI v4), rf G 79] M (.inr (some (.int (iI res.1)))) res.2 := by
  refine ok_ofH (ls := [some (rf G 0), some (.int (iI v1)), some (.int (iI v2)), some (.int (iI v3)), some (.int (iI v4)), some (rf G 79), none]) hl (by decide +kernel) (Nat.le_of_ble_eq_true rfl) ⟨rfl, ⟨rfl, ⟨rfl, ⟨rfl, ⟨rfl, ⟨rfl, trivial⟩⟩⟩⟩⟩⟩ ?_
  intro X hX C E
  subst hX
  rw [f_L_setRange] at h
  refine go_aload C dL_setRange_0 rfl ?_
  refine go_iconst C dL_setRange_2 ?_
  refine go_aload_n C dL_setRange_3 rfl rfl ?_
  refine go_iload_n C dL_setRange_4 rfl rfl ?_
  refine go_iload_n C dL_setRange_5 rfl rfl ?_
  refine go_iload_n C dL_setRange_6 rfl rfl ?_
  refine go_iload C dL_setRange_7 rfl ?_
  obtain ⟨q1, h1, h⟩ := ob_some h
  refine go_callV_xi C dL_setRange_9 (ok_X9_setRange C.hl hB h1) mv_L_57 sh_0 rfl rfl (Nat.le_of_ble_eq_true rfl) ⟨(Nat.le_of_ble_eq_true rfl), (Nat.le_of_ble_eq_true rfl)⟩ ⟨(Nat.le_of_ble_eq_true rfl), (Nat.le_of_ble_eq_true rfl)⟩ (fun e1 he1 hB1 => ?_) (fun r1 hr1 hB1 => ?_)
  · replace h := ox_l he1 h
    by_cases hc3 : e1 = 1
    · replace h := ite_t hc3 h
      subst hc3
      refine go_catch [] ⟨0, 14, 17, 19⟩ [⟨0, 14, 21, 13⟩] C rfl (fun w hw => nomatch hw) rfl (by decide) gt_691 (by decide +kernel) (fun q9 => ?_)
      refine go_astore (ls2 := [some (rf G 0), some (.int (iI v1)), some (.int (iI v2)), some (.int (iI v3)), some (.int (iI v4)), some (rf G 79), some (.ref q9)]) C dL_setRange_17 (Nat.le_of_ble_eq_true rfl) rfl ?_
      refine go_iconst C dL_setRange_19 ?_
      cases h
      exact go_iret C E rfl dL_setRange_20 (Nat.le_of_ble_eq_true rfl) (Nat.le_of_ble_eq_true rfl) rfl rfl hB1
    · replace h := ite_f hc3 h
      by_cases hc2 : e1 = 0
      · replace h := ite_t hc2 h
        subst hc2
        refine go_catch [⟨0, 14, 17, 19⟩] ⟨0, 14, 21, 13⟩ [] C rfl (List.forall_mem_cons.mpr ⟨Or.inr ⟨by decide, _, gt_691, by decide +kernel⟩, (fun w hw => nomatch hw)⟩) rfl (by decide) gt_610 (by decide +kernel) (fun q9 => ?_)
        refine go_astore (ls2 := [some (rf G 0), some (.int (iI v1)), some (.int (iI v2)), some (.int (iI v3)), some (.int (iI v4)), some (rf G 79), some (.ref q9)]) C dL_setRange_21 (Nat.le_of_ble_eq_true rfl) rfl ?_
        refine go_iconst C dL_setRange_23 ?_
        cases h
        exact go_iret C E rfl dL_setRange_24 (Nat.le_of_ble_eq_true rfl) (Nat.le_of_ble_eq_true rfl) rfl rfl hB1
      · replace h := ite_f hc2 h
        cases h
  · replace h := ox_r hr1 h
    obtain ⟨hc4, h⟩ := chk_some h
    refine go_i2l C dL_setRange_12 hc4 ?_
    refine go_last (k2 := 1079) C dL_setRange_13 sh_79 (by decide) ⟨by decide, by decide⟩ rfl ?_
    have hB5 := hB1.setL 79 0 r1
    refine go_goto (tgt := 25) C dL_setRange_14 rfl ?_
    refine go_iconst C dL_setRange_25 ?_
    cases h
    exact go_iret C E rfl dL_setRange_26 (Nat.le_of_ble_eq_true rfl) (Nat.le_of_ble_eq_true rfl) rfl rfl hB5
-- IntervalRouterLaw.entry(LIntervalRouter;II[J)I
set_option maxHeartbeats 4000000 in
theorem ok_L_entry {G : gC} {l : Launch} (hl : l.stackTraces = false) {v1 : Int} {v2 : Int} {M : Mem} (hB : Bd M) {res : Int × Mem} (h : f_L_entry v1 v2 M = some res) : Ok G l 8 2 12 yL_entry (.codeWith yL_entry cL_entry 5 (some .int) [(0, 10, 13, 19)]) [rf G 0, .int (iI v1), .int (iI v2), rf G 79] M (.inr (some (.int (iI res.1)))) res.2 := by
  refine ok_ofH (ls := [some (rf G 0), some (.int (iI v1)), some (.int (iI v2)), some (rf G 79), none]) hl (by decide +kernel) (Nat.le_of_ble_eq_true rfl) ⟨rfl, ⟨rfl, ⟨rfl, ⟨rfl, trivial⟩⟩⟩⟩ ?_
  intro X hX C E
  subst hX
  rw [f_L_entry] at h
  refine go_aload_n C dL_entry_0 rfl rfl ?_
  refine go_iconst C dL_entry_1 ?_
  refine go_aload_n C dL_entry_2 rfl rfl ?_
  refine go_iload_n C dL_entry_3 rfl rfl ?_
  refine go_iload_n C dL_entry_4 rfl rfl ?_
  obtain ⟨q1, h1, h⟩ := ob_some h
  refine go_callV_xi C dL_entry_5 (ok_X9_entry C.hl hB h1) mv_L_61 sh_0 rfl rfl (Nat.le_of_ble_eq_true rfl) ⟨(Nat.le_of_ble_eq_true rfl), (Nat.le_of_ble_eq_true rfl)⟩ ⟨(Nat.le_of_ble_eq_true rfl), (Nat.le_of_ble_eq_true rfl)⟩ (fun e1 he1 hB1 => ?_) (fun r1 hr1 hB1 => ?_)
  · replace h := ox_l he1 h
    by_cases hc2 : e1 = 1
    · replace h := ite_t hc2 h
      subst hc2
      refine go_catch [] ⟨0, 10, 13, 19⟩ [] C rfl (fun w hw => nomatch hw) rfl (by decide) gt_691 (by decide +kernel) (fun q9 => ?_)
      refine go_astore (ls2 := [some (rf G 0), some (.int (iI v1)), some (.int (iI v2)), some (rf G 79), some (.ref q9)]) C dL_entry_13 (Nat.le_of_ble_eq_true rfl) rfl ?_
      refine go_iconst C dL_entry_15 ?_
      cases h
      exact go_iret C E rfl dL_entry_16 (Nat.le_of_ble_eq_true rfl) (Nat.le_of_ble_eq_true rfl) rfl rfl hB1
    · replace h := ite_f hc2 h
      cases h
  · replace h := ox_r hr1 h
    obtain ⟨hc3, h⟩ := chk_some h
    refine go_i2l C dL_entry_8 hc3 ?_
    refine go_last (k2 := 1079) C dL_entry_9 sh_79 (by decide) ⟨by decide, by decide⟩ rfl ?_
    have hB4 := hB1.setL 79 0 r1
    refine go_goto (tgt := 17) C dL_entry_10 rfl ?_
    refine go_iconst C dL_entry_17 ?_
    cases h
    exact go_iret C E rfl dL_entry_18 (Nat.le_of_ble_eq_true rfl) (Nat.le_of_ble_eq_true rfl) rfl rfl hB4
-- IntervalRouterLaw.runs(LIntervalRouter;II[J)I
set_option maxHeartbeats 4000000 in
theorem ok_L_runs {G : gC} {l : Launch} (hl : l.stackTraces = false) {F : Nat} {v1 : Int} {v2 : Int} {M : Mem} (hB : Bd M) {res : Int × Mem} (h : f_L_runs F v1 v2 M = some res) : Ok G l 8 3 18 yL_runs (.codeWith yL_runs cL_runs 5 (some .int) [(0, 10, 13, 19), (0, 10, 17, 13)]) [rf G 0, .int (iI v1), .int (iI v2), rf G 79] M (.inr (some (.int (iI res.1)))) res.2 := by
  refine ok_ofH (ls := [some (rf G 0), some (.int (iI v1)), some (.int (iI v2)), some (rf G 79), none]) hl (by decide +kernel) (Nat.le_of_ble_eq_true rfl) ⟨rfl, ⟨rfl, ⟨rfl, ⟨rfl, trivial⟩⟩⟩⟩ ?_
  intro X hX C E
  subst hX
  rw [f_L_runs] at h
  refine go_aload_n C dL_runs_0 rfl rfl ?_
  refine go_iconst C dL_runs_1 ?_
  refine go_aload_n C dL_runs_2 rfl rfl ?_
  refine go_iload_n C dL_runs_3 rfl rfl ?_
  refine go_iload_n C dL_runs_4 rfl rfl ?_
  obtain ⟨q1, h1, h⟩ := ob_some h
  refine go_callV_xi C dL_runs_5 (ok_X9_runs C.hl hB h1) mv_L_64 sh_0 rfl rfl (Nat.le_of_ble_eq_true rfl) ⟨(Nat.le_of_ble_eq_true rfl), (Nat.le_of_ble_eq_true rfl)⟩ ⟨(Nat.le_of_ble_eq_true rfl), (Nat.le_of_ble_eq_true rfl)⟩ (fun e1 he1 hB1 => ?_) (fun r1 hr1 hB1 => ?_)
  · replace h := ox_l he1 h
    by_cases hc3 : e1 = 1
    · replace h := ite_t hc3 h
      subst hc3
      refine go_catch [] ⟨0, 10, 13, 19⟩ [⟨0, 10, 17, 13⟩] C rfl (fun w hw => nomatch hw) rfl (by decide) gt_691 (by decide +kernel) (fun q9 => ?_)
      refine go_astore (ls2 := [some (rf G 0), some (.int (iI v1)), some (.int (iI v2)), some (rf G 79), some (.ref q9)]) C dL_runs_13 (Nat.le_of_ble_eq_true rfl) rfl ?_
      refine go_iconst C dL_runs_15 ?_
      cases h
      exact go_iret C E rfl dL_runs_16 (Nat.le_of_ble_eq_true rfl) (Nat.le_of_ble_eq_true rfl) rfl rfl hB1
    · replace h := ite_f hc3 h
      by_cases hc2 : e1 = 0
      · replace h := ite_t hc2 h
        subst hc2
        refine go_catch [⟨0, 10, 13, 19⟩] ⟨0, 10, 17, 13⟩ [] C rfl (List.forall_mem_cons.mpr ⟨Or.inr ⟨by decide, _, gt_691, by decide +kernel⟩, (fun w hw => nomatch hw)⟩) rfl (by decide) gt_610 (by decide +kernel) (fun q9 => ?_)
        refine go_astore (ls2 := [some (rf G 0), some (.int (iI v1)), some (.int (iI v2)), some (rf G 79), some (.ref q9)]) C dL_runs_17 (Nat.le_of_ble_eq_true rfl) rfl ?_
        refine go_iconst C dL_runs_19 ?_
        cases h
        exact go_iret C E rfl dL_runs_20 (Nat.le_of_ble_eq_true rfl) (Nat.le_of_ble_eq_true rfl) rfl rfl hB1
      · replace h := ite_f hc2 h
        cases h
  · replace h := ox_r hr1 h
    obtain ⟨hc4, h⟩ := chk_some h
    refine go_i2l C dL_runs_8 hc4 ?_
    refine go_last (k2 := 1079) C dL_runs_9 sh_79 (by decide) ⟨by decide, by decide⟩ rfl ?_
    have hB5 := hB1.setL 79 0 r1
    refine go_goto (tgt := 21) C dL_runs_10 rfl ?_
    refine go_iconst C dL_runs_21 ?_
    cases h
    exact go_iret C E rfl dL_runs_22 (Nat.le_of_ble_eq_true rfl) (Nat.le_of_ble_eq_true rfl) rfl rfl hB5
-- IntervalRouterLaw.runEnd(LIntervalRouter;IIIZ[J)I
set_option maxHeartbeats 4000000 in
theorem ok_L_runEnd {G : gC} {l : Launch} (hl : l.stackTraces = false) {F : Nat} {v1 : Int} {v2 : Int} {v3 : Int} {v4 : Int} {M : Mem} (hB : Bd M) {res : Int × Mem} (h : f_L_runEnd F v1 v2 v3 v4 M = some res) : Ok G l 8 3 18 yL_runEnd (.codeWith yL_runEnd cL_runEnd 7 (some .int) [(0, 14, 17, 19)]) [rf G 0, .int (iI v1), .int (iI v2), .int (iI v3), .int (iI v4), rf G 79] M (.inr (some (.int (iI res.1)))) res.2 := by
  refine ok_ofH (ls := [some (rf G 0), some (.int (iI v1)), some (.int (iI v2)), some (.int (iI v3)), some (.int (iI v4)), some (rf G 79), none]) hl (by decide +kernel) (Nat.le_of_ble_eq_true rfl) ⟨rfl, ⟨rfl, ⟨rfl, ⟨rfl, ⟨rfl, ⟨rfl, trivial⟩⟩⟩⟩⟩⟩ ?_
  intro X hX C E
  subst hX
  rw [f_L_runEnd] at h
  refine go_aload C dL_runEnd_0 rfl ?_
  refine go_iconst C dL_runEnd_2 ?_
  refine go_aload_n C dL_runEnd_3 rfl rfl ?_
  refine go_iload_n C dL_runEnd_4 rfl rfl ?_
  refine go_iload_n C dL_runEnd_5 rfl rfl ?_
  refine go_iload_n C dL_runEnd_6 rfl rfl ?_
  refine go_iload C dL_runEnd_7 rfl ?_
  obtain ⟨q1, h1, h⟩ := ob_some h
  refine go_callV_xi C dL_runEnd_9 (ok_X9_runEnd C.hl hB h1) mv_L_67 sh_0 rfl rfl (Nat.le_of_ble_eq_true rfl) ⟨(Nat.le_of_ble_eq_true rfl), (Nat.le_of_ble_eq_true rfl)⟩ ⟨(Nat.le_of_ble_eq_true rfl), (Nat.le_of_ble_eq_true rfl)⟩ (fun e1 he1 hB1 => ?_) (fun r1 hr1 hB1 => ?_)
  · replace h := ox_l he1 h
    by_cases hc2 : e1 = 1
    · replace h := ite_t hc2 h
      subst hc2
      refine go_catch [] ⟨0, 14, 17, 19⟩ [] C rfl (fun w hw => nomatch hw) rfl (by decide) gt_691 (by decide +kernel) (fun q9 => ?_)
      refine go_astore (ls2 := [some (rf G 0), some (.int (iI v1)), some (.int (iI v2)), some (.int (iI v3)), some (.int (iI v4)), some (rf G 79), some (.ref q9)]) C dL_runEnd_17 (Nat.le_of_ble_eq_true rfl) rfl ?_
      refine go_iconst C dL_runEnd_19 ?_
      cases h
      exact go_iret C E rfl dL_runEnd_20 (Nat.le_of_ble_eq_true rfl) (Nat.le_of_ble_eq_true rfl) rfl rfl hB1
    · replace h := ite_f hc2 h
      cases h
  · replace h := ox_r hr1 h
    obtain ⟨hc3, h⟩ := chk_some h
    refine go_i2l C dL_runEnd_12 hc3 ?_
    refine go_last (k2 := 1079) C dL_runEnd_13 sh_79 (by decide) ⟨by decide, by decide⟩ rfl ?_
    have hB4 := hB1.setL 79 0 r1
    refine go_goto (tgt := 21) C dL_runEnd_14 rfl ?_
    refine go_iconst C dL_runEnd_21 ?_
    cases h
    exact go_iret C E rfl dL_runEnd_22 (Nat.le_of_ble_eq_true rfl) (Nat.le_of_ble_eq_true rfl) rfl rfl hB4
-- IntervalRouterLaw.tableSize(LIntervalRouter;I[J)I
set_option maxHeartbeats 4000000 in
theorem ok_L_tableSize {G : gC} {l : Launch} (hl : l.stackTraces = false) {F : Nat} {v1 : Int} {M : Mem} (hB : Bd M) {res : Int × Mem} (h : f_L_tableSize F v1 M = some res) : Ok G l 8 1 6 yL_tableSize (.codeWith yL_tableSize cL_tableSize 4 (some .int) [(0, 9, 12, 19)]) [rf G 0, .int (iI v1), rf G 79] M (.inr (some (.int (iI res.1)))) res.2 := by
  refine ok_ofH (ls := [some (rf G 0), some (.int (iI v1)), some (rf G 79), none]) hl (by decide +kernel) (Nat.le_of_ble_eq_true rfl) ⟨rfl, ⟨rfl, ⟨rfl, trivial⟩⟩⟩ ?_
  intro X hX C E
  subst hX
  rw [f_L_tableSize] at h
  refine go_aload_n C dL_tableSize_0 rfl rfl ?_
  refine go_iconst C dL_tableSize_1 ?_
  refine go_aload_n C dL_tableSize_2 rfl rfl ?_
  refine go_iload_n C dL_tableSize_3 rfl rfl ?_
  obtain ⟨q1, h1, h⟩ := ob_some h
  refine go_callV_xi C dL_tableSize_4 (ok_X9_tableSize C.hl hB h1) mv_L_71 sh_0 rfl rfl (Nat.le_of_ble_eq_true rfl) ⟨(Nat.le_of_ble_eq_true rfl), (Nat.le_of_ble_eq_true rfl)⟩ ⟨(Nat.le_of_ble_eq_true rfl), (Nat.le_of_ble_eq_true rfl)⟩ (fun e1 he1 hB1 => ?_) (fun r1 hr1 hB1 => ?_)
  · replace h := ox_l he1 h
    by_cases hc2 : e1 = 1
    · replace h := ite_t hc2 h
      subst hc2
      refine go_catch [] ⟨0, 9, 12, 19⟩ [] C rfl (fun w hw => nomatch hw) rfl (by decide) gt_691 (by decide +kernel) (fun q9 => ?_)
      refine go_astore_n (ls2 := [some (rf G 0), some (.int (iI v1)), some (rf G 79), some (.ref q9)]) C dL_tableSize_12 rfl (Nat.le_of_ble_eq_true rfl) rfl ?_
      refine go_iconst C dL_tableSize_13 ?_
      cases h
      exact go_iret C E rfl dL_tableSize_14 (Nat.le_of_ble_eq_true rfl) (Nat.le_of_ble_eq_true rfl) rfl rfl hB1
    · replace h := ite_f hc2 h
      cases h
  · replace h := ox_r hr1 h
    obtain ⟨hc3, h⟩ := chk_some h
    refine go_i2l C dL_tableSize_7 hc3 ?_
    refine go_last (k2 := 1079) C dL_tableSize_8 sh_79 (by decide) ⟨by decide, by decide⟩ rfl ?_
    have hB4 := hB1.setL 79 0 r1
    refine go_goto (tgt := 15) C dL_tableSize_9 rfl ?_
    refine go_iconst C dL_tableSize_15 ?_
    cases h
    exact go_iret C E rfl dL_tableSize_16 (Nat.le_of_ble_eq_true rfl) (Nat.le_of_ble_eq_true rfl) rfl rfl hB4
-- IntervalRouterLaw.bestSize(LIntervalRouter;I[J)I
set_option maxHeartbeats 4000000 in
theorem ok_L_bestSize {G : gC} {l : Launch} (hl : l.stackTraces = false) {F : Nat} {v1 : Int} {M : Mem} (hB : Bd M) {res : Int × Mem} (h : f_L_bestSize F v1 M = some res) : Ok G l 8 1 6 yL_bestSize (.codeWith yL_bestSize cL_bestSize 4 (some .int) [(0, 9, 12, 19)]) [rf G 0, .int (iI v1), rf G 79] M (.inr (some (.int (iI res.1)))) res.2 := by
  refine ok_ofH (ls := [some (rf G 0), some (.int (iI v1)), some (rf G 79), none]) hl (by decide +kernel) (Nat.le_of_ble_eq_true rfl) ⟨rfl, ⟨rfl, ⟨rfl, trivial⟩⟩⟩ ?_
  intro X hX C E
  subst hX
  rw [f_L_bestSize] at h
  refine go_aload_n C dL_bestSize_0 rfl rfl ?_
  refine go_iconst C dL_bestSize_1 ?_
  refine go_aload_n C dL_bestSize_2 rfl rfl ?_
  refine go_iload_n C dL_bestSize_3 rfl rfl ?_
  obtain ⟨q1, h1, h⟩ := ob_some h
  refine go_callV_xi C dL_bestSize_4 (ok_X9_bestSize C.hl hB h1) mv_L_74 sh_0 rfl rfl (Nat.le_of_ble_eq_true rfl) ⟨(Nat.le_of_ble_eq_true rfl), (Nat.le_of_ble_eq_true rfl)⟩ ⟨(Nat.le_of_ble_eq_true rfl), (Nat.le_of_ble_eq_true rfl)⟩ (fun e1 he1 hB1 => ?_) (fun r1 hr1 hB1 => ?_)
  · replace h := ox_l he1 h
    by_cases hc2 : e1 = 1
    · replace h := ite_t hc2 h
      subst hc2
      refine go_catch [] ⟨0, 9, 12, 19⟩ [] C rfl (fun w hw => nomatch hw) rfl (by decide) gt_691 (by decide +kernel) (fun q9 => ?_)
      refine go_astore_n (ls2 := [some (rf G 0), some (.int (iI v1)), some (rf G 79), some (.ref q9)]) C dL_bestSize_12 rfl (Nat.le_of_ble_eq_true rfl) rfl ?_
      refine go_iconst C dL_bestSize_13 ?_
      cases h
      exact go_iret C E rfl dL_bestSize_14 (Nat.le_of_ble_eq_true rfl) (Nat.le_of_ble_eq_true rfl) rfl rfl hB1
    · replace h := ite_f hc2 h
      cases h
  · replace h := ox_r hr1 h
    obtain ⟨hc3, h⟩ := chk_some h
    refine go_i2l C dL_bestSize_7 hc3 ?_
    refine go_last (k2 := 1079) C dL_bestSize_8 sh_79 (by decide) ⟨by decide, by decide⟩ rfl ?_
    have hB4 := hB1.setL 79 0 r1
    refine go_goto (tgt := 15) C dL_bestSize_9 rfl ?_
    refine go_iconst C dL_bestSize_15 ?_
    cases h
    exact go_iret C E rfl dL_bestSize_16 (Nat.le_of_ble_eq_true rfl) (Nat.le_of_ble_eq_true rfl) rfl rfl hB4
-- IntervalRouterLaw.check(LIntervalRouter;II[J)I
set_option maxHeartbeats 4000000 in
theorem ok_L_check {G : gC} {l : Launch} (hl : l.stackTraces = false) {v1 : Int} {v2 : Int} {M : Mem} (hB : Bd M) {res : Int × Mem} (h : f_L_check v1 v2 M = some res) : Ok G l 8 2 12 yL_check (.codeWith yL_check cL_check 5 (some .int) [(0, 10, 13, 19)]) [rf G 0, .int (iI v1), .int (iI v2), rf G 79] M (.inr (some (.int (iI res.1)))) res.2 := by
  refine ok_ofH (ls := [some (rf G 0), some (.int (iI v1)), some (.int (iI v2)), some (rf G 79), none]) hl (by decide +kernel) (Nat.le_of_ble_eq_true rfl) ⟨rfl, ⟨rfl, ⟨rfl, ⟨rfl, trivial⟩⟩⟩⟩ ?_
  intro X hX C E
  subst hX
  rw [f_L_check] at h
  refine go_aload_n C dL_check_0 rfl rfl ?_
  refine go_iconst C dL_check_1 ?_
  refine go_aload_n C dL_check_2 rfl rfl ?_
  refine go_iload_n C dL_check_3 rfl rfl ?_
  refine go_iload_n C dL_check_4 rfl rfl ?_
  obtain ⟨q1, h1, h⟩ := ob_some h
  refine go_callV_xi C dL_check_5 (ok_X9_check C.hl hB h1) mv_L_77 sh_0 rfl rfl (Nat.le_of_ble_eq_true rfl) ⟨(Nat.le_of_ble_eq_true rfl), (Nat.le_of_ble_eq_true rfl)⟩ ⟨(Nat.le_of_ble_eq_true rfl), (Nat.le_of_ble_eq_true rfl)⟩ (fun e1 he1 hB1 => ?_) (fun r1 hr1 hB1 => ?_)
  · replace h := ox_l he1 h
    by_cases hc2 : e1 = 1
    · replace h := ite_t hc2 h
      subst hc2
      refine go_catch [] ⟨0, 10, 13, 19⟩ [] C rfl (fun w hw => nomatch hw) rfl (by decide) gt_691 (by decide +kernel) (fun q9 => ?_)
      refine go_astore (ls2 := [some (rf G 0), some (.int (iI v1)), some (.int (iI v2)), some (rf G 79), some (.ref q9)]) C dL_check_13 (Nat.le_of_ble_eq_true rfl) rfl ?_
      refine go_iconst C dL_check_15 ?_
      cases h
      exact go_iret C E rfl dL_check_16 (Nat.le_of_ble_eq_true rfl) (Nat.le_of_ble_eq_true rfl) rfl rfl hB1
    · replace h := ite_f hc2 h
      cases h
  · replace h := ox_r hr1 h
    obtain ⟨hc3, h⟩ := chk_some h
    refine go_i2l C dL_check_8 hc3 ?_
    refine go_last (k2 := 1079) C dL_check_9 sh_79 (by decide) ⟨by decide, by decide⟩ rfl ?_
    have hB4 := hB1.setL 79 0 r1
    refine go_goto (tgt := 17) C dL_check_10 rfl ?_
    refine go_iconst C dL_check_17 ?_
    cases h
    exact go_iret C E rfl dL_check_18 (Nat.le_of_ble_eq_true rfl) (Nat.le_of_ble_eq_true rfl) rfl rfl hB4
-- IntervalRouterLaw.checked(LIntervalRouter;I[J)I
set_option maxHeartbeats 4000000 in
theorem ok_L_checked {G : gC} {l : Launch} (hl : l.stackTraces = false) {F : Nat} {v1 : Int} {M : Mem} (hB : Bd M) {res : Int × Mem} (h : f_L_checked F v1 M = some res) : Ok G l 8 1 6 yL_checked (.codeWith yL_checked cL_checked 4 (some .int) [(0, 9, 12, 13)]) [rf G 0, .int (iI v1), rf G 79] M (.inr (some (.int (iI res.1)))) res.2 := by
  refine ok_ofH (ls := [some (rf G 0), some (.int (iI v1)), some (rf G 79), none]) hl (by decide +kernel) (Nat.le_of_ble_eq_true rfl) ⟨rfl, ⟨rfl, ⟨rfl, trivial⟩⟩⟩ ?_
  intro X hX C E
  subst hX
  rw [f_L_checked] at h
  refine go_aload_n C dL_checked_0 rfl rfl ?_
  refine go_iconst C dL_checked_1 ?_
  refine go_aload_n C dL_checked_2 rfl rfl ?_
  refine go_iload_n C dL_checked_3 rfl rfl ?_
  obtain ⟨q1, h1, h⟩ := ob_some h
  refine go_callV_xi C dL_checked_4 (ok_X9_checked C.hl hB h1) mv_L_80 sh_0 rfl rfl (Nat.le_of_ble_eq_true rfl) ⟨(Nat.le_of_ble_eq_true rfl), (Nat.le_of_ble_eq_true rfl)⟩ ⟨(Nat.le_of_ble_eq_true rfl), (Nat.le_of_ble_eq_true rfl)⟩ (fun e1 he1 hB1 => ?_) (fun r1 hr1 hB1 => ?_)
  · replace h := ox_l he1 h
    by_cases hc2 : e1 = 0
    · replace h := ite_t hc2 h
      subst hc2
      refine go_catch [] ⟨0, 9, 12, 13⟩ [] C rfl (fun w hw => nomatch hw) rfl (by decide) gt_610 (by decide +kernel) (fun q9 => ?_)
      refine go_astore_n (ls2 := [some (rf G 0), some (.int (iI v1)), some (rf G 79), some (.ref q9)]) C dL_checked_12 rfl (Nat.le_of_ble_eq_true rfl) rfl ?_
      refine go_iconst C dL_checked_13 ?_
      cases h
      exact go_iret C E rfl dL_checked_14 (Nat.le_of_ble_eq_true rfl) (Nat.le_of_ble_eq_true rfl) rfl rfl hB1
    · replace h := ite_f hc2 h
      cases h
  · replace h := ox_r hr1 h
    obtain ⟨hc3, h⟩ := chk_some h
    refine go_i2l C dL_checked_7 hc3 ?_
    refine go_last (k2 := 1079) C dL_checked_8 sh_79 (by decide) ⟨by decide, by decide⟩ rfl ?_
    have hB4 := hB1.setL 79 0 r1
    refine go_goto (tgt := 15) C dL_checked_9 rfl ?_
    refine go_iconst C dL_checked_15 ?_
    cases h
    exact go_iret C E rfl dL_checked_16 (Nat.le_of_ble_eq_true rfl) (Nat.le_of_ble_eq_true rfl) rfl rfl hB4
-- IntervalRouterLaw.send(LIntervalRouter;II[J)I
set_option maxHeartbeats 4000000 in
theorem ok_L_send {G : gC} {l : Launch} (hl : l.stackTraces = false) {F : Nat} {v1 : Int} {v2 : Int} {M : Mem} (hB : Bd M) {res : Int × Mem} (h : f_L_send F v1 v2 M = some res) : Ok G l 8 2 12 yL_send (.codeWith yL_send cL_send 5 (some .int) [(0, 10, 13, 19)]) [rf G 0, .int (iI v1), .int (iI v2), rf G 79] M (.inr (some (.int (iI res.1)))) res.2 := by
  refine ok_ofH (ls := [some (rf G 0), some (.int (iI v1)), some (.int (iI v2)), some (rf G 79), none]) hl (by decide +kernel) (Nat.le_of_ble_eq_true rfl) ⟨rfl, ⟨rfl, ⟨rfl, ⟨rfl, trivial⟩⟩⟩⟩ ?_
  intro X hX C E
  subst hX
  rw [f_L_send] at h
  refine go_aload_n C dL_send_0 rfl rfl ?_
  refine go_iconst C dL_send_1 ?_
  refine go_aload_n C dL_send_2 rfl rfl ?_
  refine go_iload_n C dL_send_3 rfl rfl ?_
  refine go_iload_n C dL_send_4 rfl rfl ?_
  obtain ⟨q1, h1, h⟩ := ob_some h
  refine go_callV_xi C dL_send_5 (ok_X9_send C.hl hB h1) mv_L_83 sh_0 rfl rfl (Nat.le_of_ble_eq_true rfl) ⟨(Nat.le_of_ble_eq_true rfl), (Nat.le_of_ble_eq_true rfl)⟩ ⟨(Nat.le_of_ble_eq_true rfl), (Nat.le_of_ble_eq_true rfl)⟩ (fun e1 he1 hB1 => ?_) (fun r1 hr1 hB1 => ?_)
  · replace h := ox_l he1 h
    by_cases hc2 : e1 = 1
    · replace h := ite_t hc2 h
      subst hc2
      refine go_catch [] ⟨0, 10, 13, 19⟩ [] C rfl (fun w hw => nomatch hw) rfl (by decide) gt_691 (by decide +kernel) (fun q9 => ?_)
      refine go_astore (ls2 := [some (rf G 0), some (.int (iI v1)), some (.int (iI v2)), some (rf G 79), some (.ref q9)]) C dL_send_13 (Nat.le_of_ble_eq_true rfl) rfl ?_
      refine go_iconst C dL_send_15 ?_
      cases h
      exact go_iret C E rfl dL_send_16 (Nat.le_of_ble_eq_true rfl) (Nat.le_of_ble_eq_true rfl) rfl rfl hB1
    · replace h := ite_f hc2 h
      cases h
  · replace h := ox_r hr1 h
    obtain ⟨hc3, h⟩ := chk_some h
    refine go_i2l C dL_send_8 hc3 ?_
    refine go_last (k2 := 1079) C dL_send_9 sh_79 (by decide) ⟨by decide, by decide⟩ rfl ?_
    have hB4 := hB1.setL 79 0 r1
    refine go_goto (tgt := 17) C dL_send_10 rfl ?_
    refine go_iconst C dL_send_17 ?_
    cases h
    exact go_iret C E rfl dL_send_18 (Nat.le_of_ble_eq_true rfl) (Nat.le_of_ble_eq_true rfl) rfl rfl hB4
-- IntervalRouterLaw.wayNode(LIntervalRouter;III[J)I
set_option maxHeartbeats 4000000 in
theorem ok_L_wayNode {G : gC} {l : Launch} (hl : l.stackTraces = false) {F : Nat} {v1 : Int} {v2 : Int} {v3 : Int} {M : Mem} (hB : Bd M) {res : Int × Mem} (h : f_L_wayNode F v1 v2 v3 M = some res) : Ok G l 8 3 18 yL_wayNode (.codeWith yL_wayNode cL_wayNode 6 (some .int) [(0, 12, 15, 19), (0, 12, 19, 13)]) [rf G 0, .int (iI v1), .int (iI v2), .int (iI v3), rf G 79] M (.inr (some (.int (iI res.1)))) res.2 := by
  refine ok_ofH (ls := [some (rf G 0), some (.int (iI v1)), some (.int (iI v2)), some (.int (iI v3)), some (rf G 79), none]) hl (by decide +kernel) (Nat.le_of_ble_eq_true rfl) ⟨rfl, ⟨rfl, ⟨rfl, ⟨rfl, ⟨rfl, trivial⟩⟩⟩⟩⟩ ?_
  intro X hX C E
  subst hX
  rw [f_L_wayNode] at h
  refine go_aload C dL_wayNode_0 rfl ?_
  refine go_iconst C dL_wayNode_2 ?_
  refine go_aload_n C dL_wayNode_3 rfl rfl ?_
  refine go_iload_n C dL_wayNode_4 rfl rfl ?_
  refine go_iload_n C dL_wayNode_5 rfl rfl ?_
  refine go_iload_n C dL_wayNode_6 rfl rfl ?_
  obtain ⟨q1, h1, h⟩ := ob_some h
  refine go_callV_xi C dL_wayNode_7 (ok_X9_wayNode C.hl hB h1) mv_L_86 sh_0 rfl rfl (Nat.le_of_ble_eq_true rfl) ⟨(Nat.le_of_ble_eq_true rfl), (Nat.le_of_ble_eq_true rfl)⟩ ⟨(Nat.le_of_ble_eq_true rfl), (Nat.le_of_ble_eq_true rfl)⟩ (fun e1 he1 hB1 => ?_) (fun r1 hr1 hB1 => ?_)
  · replace h := ox_l he1 h
    by_cases hc3 : e1 = 1
    · replace h := ite_t hc3 h
      subst hc3
      refine go_catch [] ⟨0, 12, 15, 19⟩ [⟨0, 12, 19, 13⟩] C rfl (fun w hw => nomatch hw) rfl (by decide) gt_691 (by decide +kernel) (fun q9 => ?_)
      refine go_astore (ls2 := [some (rf G 0), some (.int (iI v1)), some (.int (iI v2)), some (.int (iI v3)), some (rf G 79), some (.ref q9)]) C dL_wayNode_15 (Nat.le_of_ble_eq_true rfl) rfl ?_
      refine go_iconst C dL_wayNode_17 ?_
      cases h
      exact go_iret C E rfl dL_wayNode_18 (Nat.le_of_ble_eq_true rfl) (Nat.le_of_ble_eq_true rfl) rfl rfl hB1
    · replace h := ite_f hc3 h
      by_cases hc2 : e1 = 0
      · replace h := ite_t hc2 h
        subst hc2
        refine go_catch [⟨0, 12, 15, 19⟩] ⟨0, 12, 19, 13⟩ [] C rfl (List.forall_mem_cons.mpr ⟨Or.inr ⟨by decide, _, gt_691, by decide +kernel⟩, (fun w hw => nomatch hw)⟩) rfl (by decide) gt_610 (by decide +kernel) (fun q9 => ?_)
        refine go_astore (ls2 := [some (rf G 0), some (.int (iI v1)), some (.int (iI v2)), some (.int (iI v3)), some (rf G 79), some (.ref q9)]) C dL_wayNode_19 (Nat.le_of_ble_eq_true rfl) rfl ?_
        refine go_iconst C dL_wayNode_21 ?_
        cases h
        exact go_iret C E rfl dL_wayNode_22 (Nat.le_of_ble_eq_true rfl) (Nat.le_of_ble_eq_true rfl) rfl rfl hB1
      · replace h := ite_f hc2 h
        cases h
  · replace h := ox_r hr1 h
    obtain ⟨hc4, h⟩ := chk_some h
    refine go_i2l C dL_wayNode_10 hc4 ?_
    refine go_last (k2 := 1079) C dL_wayNode_11 sh_79 (by decide) ⟨by decide, by decide⟩ rfl ?_
    have hB5 := hB1.setL 79 0 r1
    refine go_goto (tgt := 23) C dL_wayNode_12 rfl ?_
    refine go_iconst C dL_wayNode_23 ?_
    cases h
    exact go_iret C E rfl dL_wayNode_24 (Nat.le_of_ble_eq_true rfl) (Nat.le_of_ble_eq_true rfl) rfl rfl hB5
-- IntervalRouterLaw.load(LIntervalRouter;I[J)I
set_option maxHeartbeats 4000000 in
theorem ok_L_load {G : gC} {l : Launch} (hl : l.stackTraces = false) {F : Nat} {v1 : Int} {M : Mem} (hB : Bd M) {res : Int × Mem} (h : f_L_load F v1 M = some res) : Ok G l 8 1 6 yL_load (.codeWith yL_load cL_load 4 (some .int) [(0, 9, 12, 19)]) [rf G 0, .int (iI v1), rf G 79] M (.inr (some (.int (iI res.1)))) res.2 := by
  refine ok_ofH (ls := [some (rf G 0), some (.int (iI v1)), some (rf G 79), none]) hl (by decide +kernel) (Nat.le_of_ble_eq_true rfl) ⟨rfl, ⟨rfl, ⟨rfl, trivial⟩⟩⟩ ?_
  intro X hX C E
  subst hX
  rw [f_L_load] at h
  refine go_aload_n C dL_load_0 rfl rfl ?_
  refine go_iconst C dL_load_1 ?_
  refine go_aload_n C dL_load_2 rfl rfl ?_
  refine go_iload_n C dL_load_3 rfl rfl ?_
  obtain ⟨q1, h1, h⟩ := ob_some h
  refine go_callV_xi C dL_load_4 (ok_X9_load C.hl hB h1) mv_L_89 sh_0 rfl rfl (Nat.le_of_ble_eq_true rfl) ⟨(Nat.le_of_ble_eq_true rfl), (Nat.le_of_ble_eq_true rfl)⟩ ⟨(Nat.le_of_ble_eq_true rfl), (Nat.le_of_ble_eq_true rfl)⟩ (fun e1 he1 hB1 => ?_) (fun r1 hr1 hB1 => ?_)
  · replace h := ox_l he1 h
    by_cases hc2 : e1 = 1
    · replace h := ite_t hc2 h
      subst hc2
      refine go_catch [] ⟨0, 9, 12, 19⟩ [] C rfl (fun w hw => nomatch hw) rfl (by decide) gt_691 (by decide +kernel) (fun q9 => ?_)
      refine go_astore_n (ls2 := [some (rf G 0), some (.int (iI v1)), some (rf G 79), some (.ref q9)]) C dL_load_12 rfl (Nat.le_of_ble_eq_true rfl) rfl ?_
      refine go_iconst C dL_load_13 ?_
      cases h
      exact go_iret C E rfl dL_load_14 (Nat.le_of_ble_eq_true rfl) (Nat.le_of_ble_eq_true rfl) rfl rfl hB1
    · replace h := ite_f hc2 h
      cases h
  · replace h := ox_r hr1 h
    obtain ⟨hc3, h⟩ := chk_some h
    refine go_i2l C dL_load_7 hc3 ?_
    refine go_last (k2 := 1079) C dL_load_8 sh_79 (by decide) ⟨by decide, by decide⟩ rfl ?_
    have hB4 := hB1.setL 79 0 r1
    refine go_goto (tgt := 15) C dL_load_9 rfl ?_
    refine go_iconst C dL_load_15 ?_
    cases h
    exact go_iret C E rfl dL_load_16 (Nat.le_of_ble_eq_true rfl) (Nat.le_of_ble_eq_true rfl) rfl rfl hB4
-- IntervalRouterLaw.lostWithout(LIntervalRouter;I[J)I
set_option maxHeartbeats 4000000 in
theorem ok_L_lostWithout {G : gC} {l : Launch} (hl : l.stackTraces = false) {F : Nat} {v1 : Int} {M : Mem} (hB : Bd M) {res : Int × Mem} (h : f_L_lostWithout F v1 M = some res) : Ok G l 8 1 6 yL_lostWithout (.codeWith yL_lostWithout cL_lostWithout 4 (some .int) [(0, 9, 12, 19)]) [rf G 0, .int (iI v1), rf G 79] M (.inr (some (.int (iI res.1)))) res.2 := by
  refine ok_ofH (ls := [some (rf G 0), some (.int (iI v1)), some (rf G 79), none]) hl (by decide +kernel) (Nat.le_of_ble_eq_true rfl) ⟨rfl, ⟨rfl, ⟨rfl, trivial⟩⟩⟩ ?_
  intro X hX C E
  subst hX
  rw [f_L_lostWithout] at h
  refine go_aload_n C dL_lostWithout_0 rfl rfl ?_
  refine go_iconst C dL_lostWithout_1 ?_
  refine go_aload_n C dL_lostWithout_2 rfl rfl ?_
  refine go_iload_n C dL_lostWithout_3 rfl rfl ?_
  obtain ⟨q1, h1, h⟩ := ob_some h
  refine go_callV_xi C dL_lostWithout_4 (ok_X9_lostWithout C.hl hB h1) mv_L_92 sh_0 rfl rfl (Nat.le_of_ble_eq_true rfl) ⟨(Nat.le_of_ble_eq_true rfl), (Nat.le_of_ble_eq_true rfl)⟩ ⟨(Nat.le_of_ble_eq_true rfl), (Nat.le_of_ble_eq_true rfl)⟩ (fun e1 he1 hB1 => ?_) (fun r1 hr1 hB1 => ?_)
  · replace h := ox_l he1 h
    by_cases hc2 : e1 = 1
    · replace h := ite_t hc2 h
      subst hc2
      refine go_catch [] ⟨0, 9, 12, 19⟩ [] C rfl (fun w hw => nomatch hw) rfl (by decide) gt_691 (by decide +kernel) (fun q9 => ?_)
      refine go_astore_n (ls2 := [some (rf G 0), some (.int (iI v1)), some (rf G 79), some (.ref q9)]) C dL_lostWithout_12 rfl (Nat.le_of_ble_eq_true rfl) rfl ?_
      refine go_iconst C dL_lostWithout_13 ?_
      cases h
      exact go_iret C E rfl dL_lostWithout_14 (Nat.le_of_ble_eq_true rfl) (Nat.le_of_ble_eq_true rfl) rfl rfl hB1
    · replace h := ite_f hc2 h
      cases h
  · replace h := ox_r hr1 h
    obtain ⟨hc3, h⟩ := chk_some h
    refine go_i2l C dL_lostWithout_7 hc3 ?_
    refine go_last (k2 := 1079) C dL_lostWithout_8 sh_79 (by decide) ⟨by decide, by decide⟩ rfl ?_
    have hB4 := hB1.setL 79 0 r1
    refine go_goto (tgt := 15) C dL_lostWithout_9 rfl ?_
    refine go_iconst C dL_lostWithout_15 ?_
    cases h
    exact go_iret C E rfl dL_lostWithout_16 (Nat.le_of_ble_eq_true rfl) (Nat.le_of_ble_eq_true rfl) rfl rfl hB4
-- IntervalRouterLaw.bestCompactness(LIntervalRouter;[J)I
set_option maxHeartbeats 4000000 in
theorem ok_L_bestCompactness {G : gC} {l : Launch} (hl : l.stackTraces = false) {F : Nat} {M : Mem} (hB : Bd M) {res : Int × Mem} (h : f_L_bestCompactness F M = some res) : Ok G l 8 1 6 yL_bestCompactness (.codeWith yL_bestCompactness cL_bestCompactness 3 (some .int) [(0, 8, 11, 21)]) [rf G 0, rf G 79] M (.inr (some (.int (iI res.1)))) res.2 := by
  refine ok_ofH (ls := [some (rf G 0), some (rf G 79), none]) hl (by decide +kernel) (Nat.le_of_ble_eq_true rfl) ⟨rfl, ⟨rfl, trivial⟩⟩ ?_
  intro X hX C E
  subst hX
  rw [f_L_bestCompactness] at h
  refine go_aload_n C dL_bestCompactness_0 rfl rfl ?_
  refine go_iconst C dL_bestCompactness_1 ?_
  refine go_aload_n C dL_bestCompactness_2 rfl rfl ?_
  obtain ⟨q1, h1, h⟩ := ob_some h
  refine go_callV_xi C dL_bestCompactness_3 (ok_X9_bestCompactness C.hl hB h1) mv_L_95 sh_0 rfl rfl (Nat.le_of_ble_eq_true rfl) ⟨(Nat.le_of_ble_eq_true rfl), (Nat.le_of_ble_eq_true rfl)⟩ ⟨(Nat.le_of_ble_eq_true rfl), (Nat.le_of_ble_eq_true rfl)⟩ (fun e1 he1 hB1 => ?_) (fun r1 hr1 hB1 => ?_)
  · replace h := ox_l he1 h
    by_cases hc2 : e1 = 2
    · replace h := ite_t hc2 h
      subst hc2
      refine go_catch [] ⟨0, 8, 11, 21⟩ [] C rfl (fun w hw => nomatch hw) rfl (by decide) gt_692 (by decide +kernel) (fun q9 => ?_)
      refine go_astore_n (ls2 := [some (rf G 0), some (rf G 79), some (.ref q9)]) C dL_bestCompactness_11 rfl (Nat.le_of_ble_eq_true rfl) rfl ?_
      refine go_iconst C dL_bestCompactness_12 ?_
      cases h
      exact go_iret C E rfl dL_bestCompactness_13 (Nat.le_of_ble_eq_true rfl) (Nat.le_of_ble_eq_true rfl) rfl rfl hB1
    · replace h := ite_f hc2 h
      cases h
  · replace h := ox_r hr1 h
    obtain ⟨hc3, h⟩ := chk_some h
    refine go_i2l C dL_bestCompactness_6 hc3 ?_
    refine go_last (k2 := 1079) C dL_bestCompactness_7 sh_79 (by decide) ⟨by decide, by decide⟩ rfl ?_
    have hB4 := hB1.setL 79 0 r1
    refine go_goto (tgt := 14) C dL_bestCompactness_8 rfl ?_
    refine go_iconst C dL_bestCompactness_14 ?_
    cases h
    exact go_iret C E rfl dL_bestCompactness_15 (Nat.le_of_ble_eq_true rfl) (Nat.le_of_ble_eq_true rfl) rfl rfl hB4
-- IntervalRouterLaw.labelings(LIntervalRouter;I[J)I
set_option maxHeartbeats 4000000 in
theorem ok_L_labelings {G : gC} {l : Launch} (hl : l.stackTraces = false) {F : Nat} {v1 : Int} {M : Mem} (hB : Bd M) {res : Int × Mem} (h : f_L_labelings F v1 M = some res) : Ok G l 8 2 12 yL_labelings (.codeWith yL_labelings cL_labelings 4 (some .int) [(0, 9, 12, 13), (0, 9, 15, 21)]) [rf G 0, .int (iI v1), rf G 79] M (.inr (some (.int (iI res.1)))) res.2 := by
  refine ok_ofH (ls := [some (rf G 0), some (.int (iI v1)), some (rf G 79), none]) hl (by decide +kernel) (Nat.le_of_ble_eq_true rfl) ⟨rfl, ⟨rfl, ⟨rfl, trivial⟩⟩⟩ ?_
  intro X hX C E
  subst hX
  rw [f_L_labelings] at h
  refine go_aload_n C dL_labelings_0 rfl rfl ?_
  refine go_iconst C dL_labelings_1 ?_
  refine go_aload_n C dL_labelings_2 rfl rfl ?_
  refine go_iload_n C dL_labelings_3 rfl rfl ?_
  obtain ⟨q1, h1, h⟩ := ob_some h
  refine go_callV_xi C dL_labelings_4 (ok_X9_labelings C.hl hB h1) mv_L_99 sh_0 rfl rfl (Nat.le_of_ble_eq_true rfl) ⟨(Nat.le_of_ble_eq_true rfl), (Nat.le_of_ble_eq_true rfl)⟩ ⟨(Nat.le_of_ble_eq_true rfl), (Nat.le_of_ble_eq_true rfl)⟩ (fun e1 he1 hB1 => ?_) (fun r1 hr1 hB1 => ?_)
  · replace h := ox_l he1 h
    by_cases hc3 : e1 = 0
    · replace h := ite_t hc3 h
      subst hc3
      refine go_catch [] ⟨0, 9, 12, 13⟩ [⟨0, 9, 15, 21⟩] C rfl (fun w hw => nomatch hw) rfl (by decide) gt_610 (by decide +kernel) (fun q9 => ?_)
      refine go_astore_n (ls2 := [some (rf G 0), some (.int (iI v1)), some (rf G 79), some (.ref q9)]) C dL_labelings_12 rfl (Nat.le_of_ble_eq_true rfl) rfl ?_
      refine go_iconst C dL_labelings_13 ?_
      cases h
      exact go_iret C E rfl dL_labelings_14 (Nat.le_of_ble_eq_true rfl) (Nat.le_of_ble_eq_true rfl) rfl rfl hB1
    · replace h := ite_f hc3 h
      by_cases hc2 : e1 = 2
      · replace h := ite_t hc2 h
        subst hc2
        refine go_catch [⟨0, 9, 12, 13⟩] ⟨0, 9, 15, 21⟩ [] C rfl (List.forall_mem_cons.mpr ⟨Or.inr ⟨by decide, _, gt_610, by decide +kernel⟩, (fun w hw => nomatch hw)⟩) rfl (by decide) gt_692 (by decide +kernel) (fun q9 => ?_)
        refine go_astore_n (ls2 := [some (rf G 0), some (.int (iI v1)), some (rf G 79), some (.ref q9)]) C dL_labelings_15 rfl (Nat.le_of_ble_eq_true rfl) rfl ?_
        refine go_iconst C dL_labelings_16 ?_
        cases h
        exact go_iret C E rfl dL_labelings_17 (Nat.le_of_ble_eq_true rfl) (Nat.le_of_ble_eq_true rfl) rfl rfl hB1
      · replace h := ite_f hc2 h
        cases h
  · replace h := ox_r hr1 h
    obtain ⟨hc4, h⟩ := chk_some h
    refine go_i2l C dL_labelings_7 hc4 ?_
    refine go_last (k2 := 1079) C dL_labelings_8 sh_79 (by decide) ⟨by decide, by decide⟩ rfl ?_
    have hB5 := hB1.setL 79 0 r1
    refine go_goto (tgt := 18) C dL_labelings_9 rfl ?_
    refine go_iconst C dL_labelings_18 ?_
    cases h
    exact go_iret C E rfl dL_labelings_19 (Nat.le_of_ble_eq_true rfl) (Nat.le_of_ble_eq_true rfl) rfl rfl hB5
-- IntervalRouterLaw.append(LIntervalRouter;I[J)I
set_option maxHeartbeats 4000000 in
theorem ok_L_append {G : gC} {l : Launch} (hl : l.stackTraces = false) {v1 : Int} {M : Mem} (hB : Bd M) {res : Int × Mem} (h : f_L_append v1 M = some res) : Ok G l 8 2 12 yL_append (.codeWith yL_append cL_append 4 (some .int) [(0, 9, 12, 13), (0, 9, 15, 21)]) [rf G 0, .int (iI v1), rf G 79] M (.inr (some (.int (iI res.1)))) res.2 := by
  refine ok_ofH (ls := [some (rf G 0), some (.int (iI v1)), some (rf G 79), none]) hl (by decide +kernel) (Nat.le_of_ble_eq_true rfl) ⟨rfl, ⟨rfl, ⟨rfl, trivial⟩⟩⟩ ?_
  intro X hX C E
  subst hX
  rw [f_L_append] at h
  refine go_aload_n C dL_append_0 rfl rfl ?_
  refine go_iconst C dL_append_1 ?_
  refine go_aload_n C dL_append_2 rfl rfl ?_
  refine go_iload_n C dL_append_3 rfl rfl ?_
  obtain ⟨q1, h1, h⟩ := ob_some h
  refine go_callV_xi C dL_append_4 (ok_X9_append C.hl hB h1) mv_L_102 sh_0 rfl rfl (Nat.le_of_ble_eq_true rfl) ⟨(Nat.le_of_ble_eq_true rfl), (Nat.le_of_ble_eq_true rfl)⟩ ⟨(Nat.le_of_ble_eq_true rfl), (Nat.le_of_ble_eq_true rfl)⟩ (fun e1 he1 hB1 => ?_) (fun r1 hr1 hB1 => ?_)
  · replace h := ox_l he1 h
    by_cases hc3 : e1 = 0
    · replace h := ite_t hc3 h
      subst hc3
      refine go_catch [] ⟨0, 9, 12, 13⟩ [⟨0, 9, 15, 21⟩] C rfl (fun w hw => nomatch hw) rfl (by decide) gt_610 (by decide +kernel) (fun q9 => ?_)
      refine go_astore_n (ls2 := [some (rf G 0), some (.int (iI v1)), some (rf G 79), some (.ref q9)]) C dL_append_12 rfl (Nat.le_of_ble_eq_true rfl) rfl ?_
      refine go_iconst C dL_append_13 ?_
      cases h
      exact go_iret C E rfl dL_append_14 (Nat.le_of_ble_eq_true rfl) (Nat.le_of_ble_eq_true rfl) rfl rfl hB1
    · replace h := ite_f hc3 h
      by_cases hc2 : e1 = 2
      · replace h := ite_t hc2 h
        subst hc2
        refine go_catch [⟨0, 9, 12, 13⟩] ⟨0, 9, 15, 21⟩ [] C rfl (List.forall_mem_cons.mpr ⟨Or.inr ⟨by decide, _, gt_610, by decide +kernel⟩, (fun w hw => nomatch hw)⟩) rfl (by decide) gt_692 (by decide +kernel) (fun q9 => ?_)
        refine go_astore_n (ls2 := [some (rf G 0), some (.int (iI v1)), some (rf G 79), some (.ref q9)]) C dL_append_15 rfl (Nat.le_of_ble_eq_true rfl) rfl ?_
        refine go_iconst C dL_append_16 ?_
        cases h
        exact go_iret C E rfl dL_append_17 (Nat.le_of_ble_eq_true rfl) (Nat.le_of_ble_eq_true rfl) rfl rfl hB1
      · replace h := ite_f hc2 h
        cases h
  · replace h := ox_r hr1 h
    obtain ⟨hc4, h⟩ := chk_some h
    refine go_i2l C dL_append_7 hc4 ?_
    refine go_last (k2 := 1079) C dL_append_8 sh_79 (by decide) ⟨by decide, by decide⟩ rfl ?_
    have hB5 := hB1.setL 79 0 r1
    refine go_goto (tgt := 18) C dL_append_9 rfl ?_
    refine go_iconst C dL_append_18 ?_
    cases h
    exact go_iret C E rfl dL_append_19 (Nat.le_of_ble_eq_true rfl) (Nat.le_of_ble_eq_true rfl) rfl rfl hB5
-- IntervalRouterLaw.undo(LIntervalRouter;[J)I
set_option maxHeartbeats 4000000 in
theorem ok_L_undo {G : gC} {l : Launch} (hl : l.stackTraces = false) {F : Nat} {M : Mem} (hB : Bd M) {res : Int × Mem} (h : f_L_undo F M = some res) : Ok G l 7 1 6 yL_undo (.codeWith yL_undo cL_undo 3 (some .int) [(0, 8, 11, 21)]) [rf G 0, rf G 79] M (.inr (some (.int (iI res.1)))) res.2 := by
  refine ok_ofH (ls := [some (rf G 0), some (rf G 79), none]) hl (by decide +kernel) (Nat.le_of_ble_eq_true rfl) ⟨rfl, ⟨rfl, trivial⟩⟩ ?_
  intro X hX C E
  subst hX
  rw [f_L_undo] at h
  refine go_aload_n C dL_undo_0 rfl rfl ?_
  refine go_iconst C dL_undo_1 ?_
  refine go_aload_n C dL_undo_2 rfl rfl ?_
  obtain ⟨q1, h1, h⟩ := ob_some h
  refine go_callV_xi C dL_undo_3 (ok_X9_undo C.hl hB h1) mv_L_105 sh_0 rfl rfl (Nat.le_of_ble_eq_true rfl) ⟨(Nat.le_of_ble_eq_true rfl), (Nat.le_of_ble_eq_true rfl)⟩ ⟨(Nat.le_of_ble_eq_true rfl), (Nat.le_of_ble_eq_true rfl)⟩ (fun e1 he1 hB1 => ?_) (fun r1 hr1 hB1 => ?_)
  · replace h := ox_l he1 h
    by_cases hc2 : e1 = 2
    · replace h := ite_t hc2 h
      subst hc2
      refine go_catch [] ⟨0, 8, 11, 21⟩ [] C rfl (fun w hw => nomatch hw) rfl (by decide) gt_692 (by decide +kernel) (fun q9 => ?_)
      refine go_astore_n (ls2 := [some (rf G 0), some (rf G 79), some (.ref q9)]) C dL_undo_11 rfl (Nat.le_of_ble_eq_true rfl) rfl ?_
      refine go_iconst C dL_undo_12 ?_
      cases h
      exact go_iret C E rfl dL_undo_13 (Nat.le_of_ble_eq_true rfl) (Nat.le_of_ble_eq_true rfl) rfl rfl hB1
    · replace h := ite_f hc2 h
      cases h
  · replace h := ox_r hr1 h
    obtain ⟨hc3, h⟩ := chk_some h
    refine go_i2l C dL_undo_6 hc3 ?_
    refine go_last (k2 := 1079) C dL_undo_7 sh_79 (by decide) ⟨by decide, by decide⟩ rfl ?_
    have hB4 := hB1.setL 79 0 r1
    refine go_goto (tgt := 14) C dL_undo_8 rfl ?_
    refine go_iconst C dL_undo_14 ?_
    cases h
    exact go_iret C E rfl dL_undo_15 (Nat.le_of_ble_eq_true rfl) (Nat.le_of_ble_eq_true rfl) rfl rfl hB4
