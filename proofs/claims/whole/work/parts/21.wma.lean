-- IntervalRouterModel.thrown()I
set_option maxHeartbeats 4000000 in
theorem ok_X10_thrown {G : gC} {l : Launch} (hl : l.stackTraces = false) {M : Mem} (hB : Bd M) {res : Int} (h : f_X10_thrown M = some res) : Ok G l 0 0 0 yX10_thrown (.code yX10_thrown cX10_thrown 1 (some .int)) [rf G 64] M (.inr (some (.int (iI res)))) M := by
  refine ok_of (ls := [some (rf G 64)]) hl (by decide +kernel) (Nat.le_of_ble_eq_true rfl) ⟨rfl, trivial⟩ ?_
  intro X hX C E
  subst hX
  rw [f_X10_thrown] at h
  refine go_aload_n C dX10_thrown_0 rfl rfl ?_
  refine go_getI (z := 3) C dX10_thrown_1 fl_X10_52 sh_64 rfl rfl ?_
  cases h
  exact go_iret C E rfl dX10_thrown_4 (Nat.le_of_ble_eq_true rfl) (Nat.le_of_ble_eq_true rfl) rfl rfl hB
-- IntervalRouterModel.refused(I)Z
set_option maxHeartbeats 4000000 in
theorem ok_X10_refused {G : gC} {l : Launch} (hl : l.stackTraces = false) {v1 : Int} {M : Mem} (hB : Bd M) {res : Int × Mem} (h : f_X10_refused v1 M = some res) : Ok G l 0 0 0 yX10_refused (.code yX10_refused cX10_refused 2 (some .boolean)) [rf G 64, .int (iI v1)] M (.inr (some (.int (iI res.1)))) res.2 := by
  refine ok_of (ls := [some (rf G 64), some (.int (iI v1))]) hl (by decide +kernel) (Nat.le_of_ble_eq_true rfl) ⟨rfl, ⟨rfl, trivial⟩⟩ ?_
  intro X hX C E
  subst hX
  rw [f_X10_refused] at h
  obtain ⟨hp_v1, h⟩ := chk_some h
  refine go_aload_n C dX10_refused_0 rfl rfl ?_
  refine go_iload_n C dX10_refused_1 rfl rfl ?_
  refine go_putI (z := 3) C dX10_refused_2 fp_X10_52 sh_64 rfl rfl rfl rfl ?_
  have hB1 := hB.set 64 3 (x := v1) hp_v1
  refine go_iload_n C dX10_refused_5 rfl rfl ?_
  refine go_if_le (tgt := 13) C dX10_refused_6 rfl hp_v1 (fun hc2 => ?_) (fun hc2 => ?_)
  · replace h := ite_t hc2 h
    refine go_iconst C dX10_refused_13 ?_
    cases h
    exact go_zret C E rfl dX10_refused_14 (by decide) (Nat.le_of_ble_eq_true rfl) (Nat.le_of_ble_eq_true rfl) rfl rfl hB1
  · replace h := ite_f hc2 h
    refine go_iconst C dX10_refused_9 ?_
    refine go_goto (tgt := 14) C dX10_refused_10 rfl ?_
    cases h
    exact go_zret C E rfl dX10_refused_14 (by decide) (Nat.le_of_ble_eq_true rfl) (Nat.le_of_ble_eq_true rfl) rfl rfl hB1
-- IntervalRouterModel.within(III)Z
set_option maxHeartbeats 4000000 in
theorem ok_X10_within {G : gC} {l : Launch} (hl : l.stackTraces = false) {v0 : Int} {v1 : Int} {v2 : Int} {M : Mem} (hB : Bd M) {res : Int} (h : f_X10_within v0 v1 v2 M = some res) : Ok G l 0 0 0 yX10_within (.code yX10_within cX10_within 3 (some .boolean)) [.int (iI v0), .int (iI v1), .int (iI v2)] M (.inr (some (.int (iI res)))) M := by
  refine ok_of (ls := [some (.int (iI v0)), some (.int (iI v1)), some (.int (iI v2))]) hl (by decide +kernel) (Nat.le_of_ble_eq_true rfl) ⟨rfl, ⟨rfl, ⟨rfl, trivial⟩⟩⟩ ?_
  intro X hX C E
  subst hX
  rw [f_X10_within] at h
  obtain ⟨⟨hp_v0, hp_v1, hp_v2⟩, h⟩ := chk_some h
  refine go_iload_n C dX10_within_0 rfl rfl ?_
  refine go_iload_n C dX10_within_1 rfl rfl ?_
  refine go_icmp_lt (tgt := 14) C dX10_within_2 rfl hp_v0 hp_v1 (fun hc1 => ?_) (fun hc1 => ?_)
  · replace h := ite_t hc1 h
    refine go_iconst C dX10_within_14 ?_
    cases h
    exact go_zret C E rfl dX10_within_15 (by decide) (Nat.le_of_ble_eq_true rfl) (Nat.le_of_ble_eq_true rfl) rfl rfl hB
  · replace h := ite_f hc1 h
    refine go_iload_n C dX10_within_5 rfl rfl ?_
    refine go_iload_n C dX10_within_6 rfl rfl ?_
    refine go_icmp_gt (tgt := 14) C dX10_within_7 rfl hp_v0 hp_v2 (fun hc2 => ?_) (fun hc2 => ?_)
    · replace h := ite_t hc2 h
      refine go_iconst C dX10_within_14 ?_
      cases h
      exact go_zret C E rfl dX10_within_15 (by decide) (Nat.le_of_ble_eq_true rfl) (Nat.le_of_ble_eq_true rfl) rfl rfl hB
    · replace h := ite_f hc2 h
      refine go_iconst C dX10_within_10 ?_
      refine go_goto (tgt := 15) C dX10_within_11 rfl ?_
      cases h
      exact go_zret C E rfl dX10_within_15 (by decide) (Nat.le_of_ble_eq_true rfl) (Nat.le_of_ble_eq_true rfl) rfl rfl hB
-- IntervalRouterModel.has(II)Z
set_option maxHeartbeats 4000000 in
theorem ok_X10_has {G : gC} {l : Launch} (hl : l.stackTraces = false) {v0 : Int} {v1 : Int} {M : Mem} (hB : Bd M) {res : Int} (h : f_X10_has v0 v1 M = some res) : Ok G l 0 0 0 yX10_has (.code yX10_has cX10_has 2 (some .boolean)) [.int (iI v0), .int (iI v1)] M (.inr (some (.int (iI res)))) M := by
  refine ok_of (ls := [some (.int (iI v0)), some (.int (iI v1))]) hl (by decide +kernel) (Nat.le_of_ble_eq_true rfl) ⟨rfl, ⟨rfl, trivial⟩⟩ ?_
  intro X hX C E
  subst hX
  rw [f_X10_has] at h
  refine go_iload_n C dX10_has_0 rfl rfl ?_
  refine go_iload_n C dX10_has_1 rfl rfl ?_
  refine go_ishr C dX10_has_2 ?_
  refine go_iconst C dX10_has_3 ?_
  refine go_iand C dX10_has_4 ?_
  refine go_iconst C dX10_has_5 ?_
  refine go_icmp_ne (tgt := 13) C dX10_has_6 rfl (band_R _ _) (by decide) (fun hc1 => ?_) (fun hc1 => ?_)
  · replace h := ite_f hc1 h
    refine go_iconst C dX10_has_13 ?_
    cases h
    exact go_zret C E rfl dX10_has_14 (by decide) (Nat.le_of_ble_eq_true rfl) (Nat.le_of_ble_eq_true rfl) rfl rfl hB
  · replace h := ite_t hc1 h
    refine go_iconst C dX10_has_9 ?_
    refine go_goto (tgt := 14) C dX10_has_10 rfl ?_
    cases h
    exact go_zret C E rfl dX10_has_14 (by decide) (Nat.le_of_ble_eq_true rfl) (Nat.le_of_ble_eq_true rfl) rfl rfl hB
-- IntervalRouterModel.isNode(I)Z
set_option maxHeartbeats 4000000 in
theorem ok_X10_isNode {G : gC} {l : Launch} (hl : l.stackTraces = false) {v1 : Int} {M : Mem} (hB : Bd M) {res : Int} (h : f_X10_isNode v1 M = some res) : Ok G l 1 0 0 yX10_isNode (.code yX10_isNode cX10_isNode 2 (some .boolean)) [rf G 64, .int (iI v1)] M (.inr (some (.int (iI res)))) M := by
  refine ok_of (ls := [some (rf G 64), some (.int (iI v1))]) hl (by decide +kernel) (Nat.le_of_ble_eq_true rfl) ⟨rfl, ⟨rfl, trivial⟩⟩ ?_
  intro X hX C E
  subst hX
  rw [f_X10_isNode] at h
  refine go_iload_n C dX10_isNode_0 rfl rfl ?_
  refine go_iconst C dX10_isNode_1 ?_
  refine go_aload_n C dX10_isNode_2 rfl rfl ?_
  refine go_getR (o := 1) (k2 := 65) C dX10_isNode_3 fl_X10_7 sh_64 rfl rfl ?_
  refine go_iconst C dX10_isNode_6 ?_
  refine go_iald C dX10_isNode_7 sh_65 (by decide) ⟨by decide, by decide⟩ ?_
  refine go_iconst C dX10_isNode_8 ?_
  refine go_isub C dX10_isNode_9 ?_
  obtain ⟨q1, h1, h⟩ := ob_some h
  refine go_callS_i C dX10_isNode_10 (ok_X10_within C.hl hB h1) ms_X10_56 rfl rfl (Nat.le_of_ble_eq_true rfl) ⟨(Nat.le_of_ble_eq_true rfl), (Nat.le_of_ble_eq_true rfl)⟩ ⟨(Nat.le_of_ble_eq_true rfl), (Nat.le_of_ble_eq_true rfl)⟩ (fun hB1 => ?_)
  obtain ⟨hc2, h⟩ := chk_some h
  cases h
  exact go_zret C E rfl dX10_isNode_13 hc2 (Nat.le_of_ble_eq_true rfl) (Nat.le_of_ble_eq_true rfl) rfl rfl hB1
-- IntervalRouterModel.isLink(I)Z
set_option maxHeartbeats 4000000 in
theorem ok_X10_isLink {G : gC} {l : Launch} (hl : l.stackTraces = false) {v1 : Int} {M : Mem} (hB : Bd M) {res : Int} (h : f_X10_isLink v1 M = some res) : Ok G l 1 0 0 yX10_isLink (.code yX10_isLink cX10_isLink 2 (some .boolean)) [rf G 64, .int (iI v1)] M (.inr (some (.int (iI res)))) M := by
  refine ok_of (ls := [some (rf G 64), some (.int (iI v1))]) hl (by decide +kernel) (Nat.le_of_ble_eq_true rfl) ⟨rfl, ⟨rfl, trivial⟩⟩ ?_
  intro X hX C E
  subst hX
  rw [f_X10_isLink] at h
  refine go_iload_n C dX10_isLink_0 rfl rfl ?_
  refine go_iconst C dX10_isLink_1 ?_
  refine go_aload_n C dX10_isLink_2 rfl rfl ?_
  refine go_getR (o := 1) (k2 := 65) C dX10_isLink_3 fl_X10_7 sh_64 rfl rfl ?_
  refine go_iconst C dX10_isLink_6 ?_
  refine go_iald C dX10_isLink_7 sh_65 (by decide) ⟨by decide, by decide⟩ ?_
  refine go_iconst C dX10_isLink_8 ?_
  refine go_isub C dX10_isLink_9 ?_
  obtain ⟨q1, h1, h⟩ := ob_some h
  refine go_callS_i C dX10_isLink_10 (ok_X10_within C.hl hB h1) ms_X10_56 rfl rfl (Nat.le_of_ble_eq_true rfl) ⟨(Nat.le_of_ble_eq_true rfl), (Nat.le_of_ble_eq_true rfl)⟩ ⟨(Nat.le_of_ble_eq_true rfl), (Nat.le_of_ble_eq_true rfl)⟩ (fun hB1 => ?_)
  obtain ⟨hc2, h⟩ := chk_some h
  cases h
  exact go_zret C E rfl dX10_isLink_13 hc2 (Nat.le_of_ble_eq_true rfl) (Nat.le_of_ble_eq_true rfl) rfl rfl hB1
-- IntervalRouterModel.part(II)I
set_option maxHeartbeats 4000000 in
theorem ok_X10_part {G : gC} {l : Launch} (hl : l.stackTraces = false) {v1 : Int} {v2 : Int} {M : Mem} (hB : Bd M) {res : Int} (h : f_X10_part v1 v2 M = some res) : Ok G l 0 0 0 yX10_part (.code yX10_part cX10_part 3 (some .int)) [rf G 64, .int (iI v1), .int (iI v2)] M (.inr (some (.int (iI res)))) M := by
  refine ok_of (ls := [some (rf G 64), some (.int (iI v1)), some (.int (iI v2))]) hl (by decide +kernel) (Nat.le_of_ble_eq_true rfl) ⟨rfl, ⟨rfl, ⟨rfl, trivial⟩⟩⟩ ?_
  intro X hX C E
  subst hX
  rw [f_X10_part] at h
  refine go_aload_n C dX10_part_0 rfl rfl ?_
  refine go_getR (o := 1) (k2 := 65) C dX10_part_1 fl_X10_7 sh_64 rfl rfl ?_
  refine go_iconst C dX10_part_4 ?_
  refine go_iconst C dX10_part_5 ?_
  refine go_iload_n C dX10_part_6 rfl rfl ?_
  refine go_imul C dX10_part_7 ?_
  refine go_iadd C dX10_part_8 ?_
  refine go_iload_n C dX10_part_9 rfl rfl ?_
  refine go_iadd C dX10_part_10 ?_
  obtain ⟨hc1, h⟩ := chk_some h
  refine go_iald C dX10_part_11 sh_65 (by decide) hc1 ?_
  cases h
  exact go_iret C E rfl dX10_part_12 (Nat.le_of_ble_eq_true rfl) (Nat.le_of_ble_eq_true rfl) rfl rfl hB
-- IntervalRouterModel.isOf(II)Z
set_option maxHeartbeats 4000000 in
theorem ok_X10_isOf {G : gC} {l : Launch} (hl : l.stackTraces = false) {v1 : Int} {v2 : Int} {M : Mem} (hB : Bd M) {res : Int} (h : f_X10_isOf v1 v2 M = some res) : Ok G l 1 0 0 yX10_isOf (.code yX10_isOf cX10_isOf 3 (some .boolean)) [rf G 64, .int (iI v1), .int (iI v2)] M (.inr (some (.int (iI res)))) M := by
  refine ok_of (ls := [some (rf G 64), some (.int (iI v1)), some (.int (iI v2))]) hl (by decide +kernel) (Nat.le_of_ble_eq_true rfl) ⟨rfl, ⟨rfl, ⟨rfl, trivial⟩⟩⟩ ?_
  intro X hX C E
  subst hX
  rw [f_X10_isOf] at h
  obtain ⟨hp_v2, h⟩ := chk_some h
  refine go_aload_n C dX10_isOf_0 rfl rfl ?_
  refine go_iload_n C dX10_isOf_1 rfl rfl ?_
  refine go_iconst C dX10_isOf_2 ?_
  obtain ⟨q1, h1, h⟩ := ob_some h
  refine go_callV_i C dX10_isOf_3 (ok_X10_part C.hl hB h1) mv_X10_60 sh_64 rfl rfl (Nat.le_of_ble_eq_true rfl) ⟨(Nat.le_of_ble_eq_true rfl), (Nat.le_of_ble_eq_true rfl)⟩ ⟨(Nat.le_of_ble_eq_true rfl), (Nat.le_of_ble_eq_true rfl)⟩ (fun hB1 => ?_)
  refine go_iload_n C dX10_isOf_6 rfl rfl ?_
  obtain ⟨hc2, h⟩ := chk_some h
  refine go_icmp_eq (tgt := 20) C dX10_isOf_7 rfl hc2 hp_v2 (fun hc3 => ?_) (fun hc3 => ?_)
  · replace h := ite_t hc3 h
    refine go_iconst C dX10_isOf_20 ?_
    refine go_goto (tgt := 25) C dX10_isOf_21 rfl ?_
    cases h
    exact go_zret C E rfl dX10_isOf_25 (by decide) (Nat.le_of_ble_eq_true rfl) (Nat.le_of_ble_eq_true rfl) rfl rfl hB1
  · replace h := ite_f hc3 h
    refine go_aload_n C dX10_isOf_10 rfl rfl ?_
    refine go_iload_n C dX10_isOf_11 rfl rfl ?_
    refine go_iconst C dX10_isOf_12 ?_
    obtain ⟨q4, h4, h⟩ := ob_some h
    refine go_callV_i C dX10_isOf_13 (ok_X10_part C.hl hB1 h4) mv_X10_60 sh_64 rfl rfl (Nat.le_of_ble_eq_true rfl) ⟨(Nat.le_of_ble_eq_true rfl), (Nat.le_of_ble_eq_true rfl)⟩ ⟨(Nat.le_of_ble_eq_true rfl), (Nat.le_of_ble_eq_true rfl)⟩ (fun hB4 => ?_)
    refine go_iload_n C dX10_isOf_16 rfl rfl ?_
    obtain ⟨hc5, h⟩ := chk_some h
    refine go_icmp_ne (tgt := 24) C dX10_isOf_17 rfl hc5 hp_v2 (fun hc6 => ?_) (fun hc6 => ?_)
    · replace h := ite_f hc6 h
      refine go_iconst C dX10_isOf_24 ?_
      cases h
      exact go_zret C E rfl dX10_isOf_25 (by decide) (Nat.le_of_ble_eq_true rfl) (Nat.le_of_ble_eq_true rfl) rfl rfl hB4
    · replace h := ite_t hc6 h
      refine go_iconst C dX10_isOf_20 ?_
      refine go_goto (tgt := 25) C dX10_isOf_21 rfl ?_
      cases h
      exact go_zret C E rfl dX10_isOf_25 (by decide) (Nat.le_of_ble_eq_true rfl) (Nat.le_of_ble_eq_true rfl) rfl rfl hB4
-- IntervalRouterModel.otherEnd(II)I
set_option maxHeartbeats 4000000 in
theorem ok_X10_otherEnd {G : gC} {l : Launch} (hl : l.stackTraces = false) {v1 : Int} {v2 : Int} {M : Mem} (hB : Bd M) {res : Int} (h : f_X10_otherEnd v1 v2 M = some res) : Ok G l 1 0 0 yX10_otherEnd (.code yX10_otherEnd cX10_otherEnd 3 (some .int)) [rf G 64, .int (iI v1), .int (iI v2)] M (.inr (some (.int (iI res)))) M := by
  refine ok_of (ls := [some (rf G 64), some (.int (iI v1)), some (.int (iI v2))]) hl (by decide +kernel) (Nat.le_of_ble_eq_true rfl) ⟨rfl, ⟨rfl, ⟨rfl, trivial⟩⟩⟩ ?_
  intro X hX C E
  subst hX
  rw [f_X10_otherEnd] at h
  obtain ⟨hp_v2, h⟩ := chk_some h
  refine go_aload_n C dX10_otherEnd_0 rfl rfl ?_
  refine go_iload_n C dX10_otherEnd_1 rfl rfl ?_
  refine go_iconst C dX10_otherEnd_2 ?_
  obtain ⟨q1, h1, h⟩ := ob_some h
  refine go_callV_i C dX10_otherEnd_3 (ok_X10_part C.hl hB h1) mv_X10_60 sh_64 rfl rfl (Nat.le_of_ble_eq_true rfl) ⟨(Nat.le_of_ble_eq_true rfl), (Nat.le_of_ble_eq_true rfl)⟩ ⟨(Nat.le_of_ble_eq_true rfl), (Nat.le_of_ble_eq_true rfl)⟩ (fun hB1 => ?_)
  refine go_iload_n C dX10_otherEnd_6 rfl rfl ?_
  obtain ⟨hc2, h⟩ := chk_some h
  refine go_icmp_ne (tgt := 19) C dX10_otherEnd_7 rfl hc2 hp_v2 (fun hc3 => ?_) (fun hc3 => ?_)
  · replace h := ite_f hc3 h
    refine go_aload_n C dX10_otherEnd_19 rfl rfl ?_
    refine go_iload_n C dX10_otherEnd_20 rfl rfl ?_
    refine go_iconst C dX10_otherEnd_21 ?_
    obtain ⟨q4, h4, h⟩ := ob_some h
    refine go_callV_i C dX10_otherEnd_22 (ok_X10_part C.hl hB1 h4) mv_X10_60 sh_64 rfl rfl (Nat.le_of_ble_eq_true rfl) ⟨(Nat.le_of_ble_eq_true rfl), (Nat.le_of_ble_eq_true rfl)⟩ ⟨(Nat.le_of_ble_eq_true rfl), (Nat.le_of_ble_eq_true rfl)⟩ (fun hB4 => ?_)
    cases h
    exact go_iret C E rfl dX10_otherEnd_25 (Nat.le_of_ble_eq_true rfl) (Nat.le_of_ble_eq_true rfl) rfl rfl hB4
  · replace h := ite_t hc3 h
    refine go_aload_n C dX10_otherEnd_10 rfl rfl ?_
    refine go_iload_n C dX10_otherEnd_11 rfl rfl ?_
    refine go_iconst C dX10_otherEnd_12 ?_
    obtain ⟨q5, h5, h⟩ := ob_some h
    refine go_callV_i C dX10_otherEnd_13 (ok_X10_part C.hl hB1 h5) mv_X10_60 sh_64 rfl rfl (Nat.le_of_ble_eq_true rfl) ⟨(Nat.le_of_ble_eq_true rfl), (Nat.le_of_ble_eq_true rfl)⟩ ⟨(Nat.le_of_ble_eq_true rfl), (Nat.le_of_ble_eq_true rfl)⟩ (fun hB5 => ?_)
    refine go_goto (tgt := 25) C dX10_otherEnd_16 rfl ?_
    cases h
    exact go_iret C E rfl dX10_otherEnd_25 (Nat.le_of_ble_eq_true rfl) (Nat.le_of_ble_eq_true rfl) rfl rfl hB5
-- IntervalRouterModel.entryAt(II)I
set_option maxHeartbeats 4000000 in
theorem ok_X10_entryAt {G : gC} {l : Launch} (hl : l.stackTraces = false) {v1 : Int} {v2 : Int} {M : Mem} (hB : Bd M) {res : Int} (h : f_X10_entryAt v1 v2 M = some res) : Ok G l 0 0 0 yX10_entryAt (.code yX10_entryAt cX10_entryAt 3 (some .int)) [rf G 64, .int (iI v1), .int (iI v2)] M (.inr (some (.int (iI res)))) M := by
  refine ok_of (ls := [some (rf G 64), some (.int (iI v1)), some (.int (iI v2))]) hl (by decide +kernel) (Nat.le_of_ble_eq_true rfl) ⟨rfl, ⟨rfl, ⟨rfl, trivial⟩⟩⟩ ?_
  intro X hX C E
  subst hX
  rw [f_X10_entryAt] at h
  refine go_aload_n C dX10_entryAt_0 rfl rfl ?_
  refine go_getR (o := 1) (k2 := 65) C dX10_entryAt_1 fl_X10_7 sh_64 rfl rfl ?_
  refine go_bipush C dX10_entryAt_4 (by decide +kernel) ?_
  refine go_bipush C dX10_entryAt_6 (by decide +kernel) ?_
  refine go_iload_n C dX10_entryAt_8 rfl rfl ?_
  refine go_imul C dX10_entryAt_9 ?_
  refine go_iadd C dX10_entryAt_10 ?_
  refine go_iload_n C dX10_entryAt_11 rfl rfl ?_
  refine go_iadd C dX10_entryAt_12 ?_
  obtain ⟨hc1, h⟩ := chk_some h
  refine go_iald C dX10_entryAt_13 sh_65 (by decide) hc1 ?_
  refine go_iconst C dX10_entryAt_14 ?_
  refine go_isub C dX10_entryAt_15 ?_
  cases h
  exact go_iret C E rfl dX10_entryAt_16 (Nat.le_of_ble_eq_true rfl) (Nat.le_of_ble_eq_true rfl) rfl rfl hB
-- IntervalRouterModel.saves()V
set_option maxHeartbeats 4000000 in
theorem w_X10_saves_51 {G : gC} {X : gX} {res : Mem} {F : Nat} (C : Cx G X cX10_saves 2 RX10 0 0 0 none []) (E : Fnl G X 0 0 (.inr none) res) : ∀ (fu : Nat) (v1 : Int) (M : Mem), Bd M → f_X10_saves_51 F fu v1 M = some res → Go G X 2 0 0 51 [some (rf G 64), some (.int (iI v1))] [] M := by
  intro fu
  induction fu with
  | zero => intro v1 M hB h; exact nomatch (show (none : Option (Mem)) = some res from h)
  | succ fu ih =>
    intro v1 M hB h
    rw [f_X10_saves_51] at h
    obtain ⟨hp_v1, h⟩ := chk_some h
    refine go_iload_n C dX10_saves_51 rfl rfl ?_
    refine go_sipush C dX10_saves_52 (by decide +kernel) ?_
    refine go_icmp_ge (tgt := 85) C dX10_saves_55 rfl hp_v1 (by decide) (fun hc2 => ?_) (fun hc2 => ?_)
    · replace h := ite_t hc2 h
      refine go_aload_n C dX10_saves_85 rfl rfl ?_
      refine go_dup C dX10_saves_86 rfl ?_
      refine go_getI (z := 2) C dX10_saves_87 fl_X10_64 sh_64 rfl rfl ?_
      refine go_iconst C dX10_saves_90 ?_
      refine go_iadd C dX10_saves_91 ?_
      obtain ⟨hc3, h⟩ := chk_some h
      refine go_putI (z := 2) C dX10_saves_92 fp_X10_64 sh_64 rfl rfl rfl rfl ?_
      have hB4 := hB.set 64 2 (x := (M 64 2) + 1) hc3
      cases h
      exact go_vret C E rfl dX10_saves_95 (Nat.le_of_ble_eq_true rfl) (Nat.le_of_ble_eq_true rfl) rfl rfl hB4
    · replace h := ite_f hc2 h
      refine go_aload_n C dX10_saves_58 rfl rfl ?_
      refine go_getR (o := 2) (k2 := 66) C dX10_saves_59 fl_X10_13 sh_64 rfl rfl ?_
      refine go_sipush C dX10_saves_62 (by decide +kernel) ?_
      refine go_aload_n C dX10_saves_65 rfl rfl ?_
      refine go_getI (z := 2) C dX10_saves_66 fl_X10_64 sh_64 rfl rfl ?_
      refine go_imul C dX10_saves_69 ?_
      refine go_iload_n C dX10_saves_70 rfl rfl ?_
      refine go_iadd C dX10_saves_71 ?_
      refine go_aload_n C dX10_saves_72 rfl rfl ?_
      refine go_getR (o := 1) (k2 := 65) C dX10_saves_73 fl_X10_7 sh_64 rfl rfl ?_
      refine go_iload_n C dX10_saves_76 rfl rfl ?_
      obtain ⟨hc5, h⟩ := chk_some h
      refine go_iald C dX10_saves_77 sh_65 (by decide) hc5 ?_
      obtain ⟨hc6, h⟩ := chk_some h
      refine go_iast C dX10_saves_78 sh_66 (by decide) hc6 ?_
      have hB7 := hB.set 66 ((140 * (M 64 2)) + v1) (x := M 65 v1) (hB 65 v1 (by decide))
      refine go_iinc (ls2 := [some (rf G 64), some (.int (iI (v1 + 1)))]) C dX10_saves_79 rfl (Nat.le_of_ble_eq_true rfl) rfl ?_
      refine go_goto (tgt := 51) C dX10_saves_82 rfl ?_
      exact ih (v1 + 1) (mset M 66 ((140 * (M 64 2)) + v1) (M 65 v1)) hB7 h
set_option maxHeartbeats 4000000 in
theorem w_X10_saves_10 {G : gC} {X : gX} {res : Mem} {F : Nat} (C : Cx G X cX10_saves 2 RX10 0 0 0 none []) (E : Fnl G X 0 0 (.inr none) res) : ∀ (fu : Nat) (v1 : Int) (M : Mem), Bd M → f_X10_saves_10 F fu v1 M = some res → Go G X 2 0 0 10 [some (rf G 64), some (.int (iI v1))] [] M := by
  intro fu
  induction fu with
  | zero => intro v1 M hB h; exact nomatch (show (none : Option (Mem)) = some res from h)
  | succ fu ih =>
    intro v1 M hB h
    rw [f_X10_saves_10] at h
    obtain ⟨hp_v1, h⟩ := chk_some h
    refine go_iload_n C dX10_saves_10 rfl rfl ?_
    refine go_sipush C dX10_saves_11 (by decide +kernel) ?_
    refine go_icmp_ge (tgt := 39) C dX10_saves_14 rfl hp_v1 (by decide) (fun hc8 => ?_) (fun hc8 => ?_)
    · replace h := ite_t hc8 h
      refine go_aload_n C dX10_saves_39 rfl rfl ?_
      refine go_dup C dX10_saves_40 rfl ?_
      refine go_getI (z := 2) C dX10_saves_41 fl_X10_64 sh_64 rfl rfl ?_
      refine go_iconst C dX10_saves_44 ?_
      refine go_isub C dX10_saves_45 ?_
      obtain ⟨hc9, h⟩ := chk_some h
      refine go_putI (z := 2) C dX10_saves_46 fp_X10_64 sh_64 rfl rfl rfl rfl ?_
      have hB10 := hB.set 64 2 (x := (M 64 2) - 1) hc9
      refine go_iconst C dX10_saves_49 ?_
      refine go_istore_n (ls2 := [some (rf G 64), some (.int (iI 0))]) C dX10_saves_50 rfl (Nat.le_of_ble_eq_true rfl) rfl ?_
      exact w_X10_saves_51 C E F 0 (mset M 64 2 ((M 64 2) - 1)) hB10 h
    · replace h := ite_f hc8 h
      refine go_aload_n C dX10_saves_17 rfl rfl ?_
      refine go_getR (o := 2) (k2 := 66) C dX10_saves_18 fl_X10_13 sh_64 rfl rfl ?_
      refine go_iload_n C dX10_saves_21 rfl rfl ?_
      refine go_aload_n C dX10_saves_22 rfl rfl ?_
      refine go_getR (o := 2) (k2 := 66) C dX10_saves_23 fl_X10_13 sh_64 rfl rfl ?_
      refine go_iload_n C dX10_saves_26 rfl rfl ?_
      refine go_sipush C dX10_saves_27 (by decide +kernel) ?_
      refine go_iadd C dX10_saves_30 ?_
      obtain ⟨hc11, h⟩ := chk_some h
      refine go_iald C dX10_saves_31 sh_66 (by decide) hc11 ?_
      obtain ⟨hc12, h⟩ := chk_some h
      refine go_iast C dX10_saves_32 sh_66 (by decide) hc12 ?_
      have hB13 := hB.set 66 v1 (x := M 66 (v1 + 140)) (hB 66 (v1 + 140) (by decide))
      refine go_iinc (ls2 := [some (rf G 64), some (.int (iI (v1 + 1)))]) C dX10_saves_33 rfl (Nat.le_of_ble_eq_true rfl) rfl ?_
      refine go_goto (tgt := 10) C dX10_saves_36 rfl ?_
      exact ih (v1 + 1) (mset M 66 v1 (M 66 (v1 + 140))) hB13 h
set_option maxHeartbeats 4000000 in
theorem ok_X10_saves {G : gC} {l : Launch} (hl : l.stackTraces = false) {F : Nat} {M : Mem} (hB : Bd M) {res : Mem} (h : f_X10_saves F M = some res) : Ok G l 0 0 0 yX10_saves (.code yX10_saves cX10_saves 2 none) [rf G 64] M (.inr none) res := by
  refine ok_of (ls := [some (rf G 64), none]) hl (by decide +kernel) (Nat.le_of_ble_eq_true rfl) ⟨rfl, trivial⟩ ?_
  intro X hX C E
  subst hX
  rw [f_X10_saves] at h
  refine go_aload_n C dX10_saves_0 rfl rfl ?_
  refine go_getI (z := 2) C dX10_saves_1 fl_X10_64 sh_64 rfl rfl ?_
  refine go_iconst C dX10_saves_4 ?_
  refine go_icmp_ne (tgt := 49) C dX10_saves_5 rfl (hB 64 2 (by decide)) (by decide) (fun hc1 => ?_) (fun hc1 => ?_)
  · replace h := ite_f hc1 h
    refine go_iconst C dX10_saves_49 ?_
    refine go_istore_n (ls2 := [some (rf G 64), some (.int (iI 0))]) C dX10_saves_50 rfl (Nat.le_of_ble_eq_true rfl) rfl ?_
    exact w_X10_saves_51 C E F 0 M hB h
  · replace h := ite_t hc1 h
    refine go_iconst C dX10_saves_8 ?_
    refine go_istore_n (ls2 := [some (rf G 64), some (.int (iI 0))]) C dX10_saves_9 rfl (Nat.le_of_ble_eq_true rfl) rfl ?_
    exact w_X10_saves_10 C E F 0 M hB h
-- IntervalRouterModel.undo()I
set_option maxHeartbeats 4000000 in
theorem w_X10_undo_33 {G : gC} {X : gX} {res : Int × Mem} {F : Nat} (C : Cx G X cX10_undo 2 RX10 1 0 0 (some .int) []) (E : Fnl G X 0 0 (.inr (some (.int (iI res.1)))) res.2) : ∀ (fu : Nat) (v1 : Int) (M : Mem), Bd M → f_X10_undo_33 F fu v1 M = some res → Go G X 2 0 0 33 [some (rf G 64), some (.int (iI v1))] [] M := by
  intro fu
  induction fu with
  | zero => intro v1 M hB h; exact nomatch (show (none : Option (Int × Mem)) = some res from h)
  | succ fu ih =>
    intro v1 M hB h
    rw [f_X10_undo_33] at h
    obtain ⟨hp_v1, h⟩ := chk_some h
    refine go_iload_n C dX10_undo_33 rfl rfl ?_
    refine go_sipush C dX10_undo_34 (by decide +kernel) ?_
    refine go_icmp_ge (tgt := 67) C dX10_undo_37 rfl hp_v1 (by decide) (fun hc7 => ?_) (fun hc7 => ?_)
    · replace h := ite_t hc7 h
      refine go_aload_n C dX10_undo_67 rfl rfl ?_
      refine go_getI (z := 2) C dX10_undo_68 fl_X10_64 sh_64 rfl rfl ?_
      cases h
      exact go_iret C E rfl dX10_undo_71 (Nat.le_of_ble_eq_true rfl) (Nat.le_of_ble_eq_true rfl) rfl rfl hB
    · replace h := ite_f hc7 h
      refine go_aload_n C dX10_undo_40 rfl rfl ?_
      refine go_getR (o := 1) (k2 := 65) C dX10_undo_41 fl_X10_7 sh_64 rfl rfl ?_
      refine go_iload_n C dX10_undo_44 rfl rfl ?_
      refine go_aload_n C dX10_undo_45 rfl rfl ?_
      refine go_getR (o := 2) (k2 := 66) C dX10_undo_46 fl_X10_13 sh_64 rfl rfl ?_
      refine go_sipush C dX10_undo_49 (by decide +kernel) ?_
      refine go_aload_n C dX10_undo_52 rfl rfl ?_
      refine go_getI (z := 2) C dX10_undo_53 fl_X10_64 sh_64 rfl rfl ?_
      refine go_imul C dX10_undo_56 ?_
      refine go_iload_n C dX10_undo_57 rfl rfl ?_
      refine go_iadd C dX10_undo_58 ?_
      obtain ⟨hc8, h⟩ := chk_some h
      refine go_iald C dX10_undo_59 sh_66 (by decide) hc8 ?_
      obtain ⟨hc9, h⟩ := chk_some h
      refine go_iast C dX10_undo_60 sh_65 (by decide) hc9 ?_
      have hB10 := hB.set 65 v1 (x := M 66 ((140 * (M 64 2)) + v1)) (hB 66 ((140 * (M 64 2)) + v1) (by decide))
      refine go_iinc (ls2 := [some (rf G 64), some (.int (iI (v1 + 1)))]) C dX10_undo_61 rfl (Nat.le_of_ble_eq_true rfl) rfl ?_
      refine go_goto (tgt := 33) C dX10_undo_64 rfl ?_
      exact ih (v1 + 1) (mset M 65 v1 (M 66 ((140 * (M 64 2)) + v1))) hB10 h
set_option maxHeartbeats 4000000 in
theorem ok_X10_undo {G : gC} {l : Launch} (hl : l.stackTraces = false) {F : Nat} {M : Mem} (hB : Bd M) {res : Int × Mem} (h : f_X10_undo F M = some res) : Ok G l 1 0 0 yX10_undo (.code yX10_undo cX10_undo 2 (some .int)) [rf G 64] M (.inr (some (.int (iI res.1)))) res.2 := by
  refine ok_of (ls := [some (rf G 64), none]) hl (by decide +kernel) (Nat.le_of_ble_eq_true rfl) ⟨rfl, trivial⟩ ?_
  intro X hX C E
  subst hX
  rw [f_X10_undo] at h
  refine go_aload_n C dX10_undo_0 rfl rfl ?_
  refine go_aload_n C dX10_undo_1 rfl rfl ?_
  refine go_getI (z := 2) C dX10_undo_2 fl_X10_64 sh_64 rfl rfl ?_
  refine go_if_ne (tgt := 12) C dX10_undo_5 rfl (hB 64 2 (by decide)) (fun hc1 => ?_) (fun hc1 => ?_)
  · replace h := ite_f hc1 h
    refine go_iconst C dX10_undo_12 ?_
    obtain ⟨q2, h2, h⟩ := ob_some h
    refine go_callV_i C dX10_undo_13 (ok_X10_refused C.hl hB h2) mv_X10_67 sh_64 rfl rfl (Nat.le_of_ble_eq_true rfl) ⟨(Nat.le_of_ble_eq_true rfl), (Nat.le_of_ble_eq_true rfl)⟩ ⟨(Nat.le_of_ble_eq_true rfl), (Nat.le_of_ble_eq_true rfl)⟩ (fun hB2 => ?_)
    obtain ⟨hc3, h⟩ := chk_some h
    refine go_if_eq (tgt := 21) C dX10_undo_16 rfl hc3 (fun hc4 => ?_) (fun hc4 => ?_)
    · replace h := ite_t hc4 h
      refine go_aload_n C dX10_undo_21 rfl rfl ?_
      refine go_dup C dX10_undo_22 rfl ?_
      refine go_getI (z := 2) C dX10_undo_23 fl_X10_64 sh_64 rfl rfl ?_
      refine go_iconst C dX10_undo_26 ?_
      refine go_isub C dX10_undo_27 ?_
      obtain ⟨hc5, h⟩ := chk_some h
      refine go_putI (z := 2) C dX10_undo_28 fp_X10_64 sh_64 rfl rfl rfl rfl ?_
      have hB6 := hB2.set 64 2 (x := (q2.2 64 2) - 1) hc5
      refine go_iconst C dX10_undo_31 ?_
      refine go_istore_n (ls2 := [some (rf G 64), some (.int (iI 0))]) C dX10_undo_32 rfl (Nat.le_of_ble_eq_true rfl) rfl ?_
      exact w_X10_undo_33 C E F 0 (mset q2.2 64 2 ((q2.2 64 2) - 1)) hB6 h
    · replace h := ite_f hc4 h
      refine go_iconst C dX10_undo_19 ?_
      cases h
      exact go_iret C E rfl dX10_undo_20 (Nat.le_of_ble_eq_true rfl) (Nat.le_of_ble_eq_true rfl) rfl rfl hB2
  · replace h := ite_t hc1 h
    refine go_iconst C dX10_undo_8 ?_
    refine go_goto (tgt := 13) C dX10_undo_9 rfl ?_
    obtain ⟨q11, h11, h⟩ := ob_some h
    refine go_callV_i C dX10_undo_13 (ok_X10_refused C.hl hB h11) mv_X10_67 sh_64 rfl rfl (Nat.le_of_ble_eq_true rfl) ⟨(Nat.le_of_ble_eq_true rfl), (Nat.le_of_ble_eq_true rfl)⟩ ⟨(Nat.le_of_ble_eq_true rfl), (Nat.le_of_ble_eq_true rfl)⟩ (fun hB11 => ?_)
    obtain ⟨hc12, h⟩ := chk_some h
    refine go_if_eq (tgt := 21) C dX10_undo_16 rfl hc12 (fun hc13 => ?_) (fun hc13 => ?_)
    · replace h := ite_t hc13 h
      refine go_aload_n C dX10_undo_21 rfl rfl ?_
      refine go_dup C dX10_undo_22 rfl ?_
      refine go_getI (z := 2) C dX10_undo_23 fl_X10_64 sh_64 rfl rfl ?_
      refine go_iconst C dX10_undo_26 ?_
      refine go_isub C dX10_undo_27 ?_
      obtain ⟨hc14, h⟩ := chk_some h
      refine go_putI (z := 2) C dX10_undo_28 fp_X10_64 sh_64 rfl rfl rfl rfl ?_
      have hB15 := hB11.set 64 2 (x := (q11.2 64 2) - 1) hc14
      refine go_iconst C dX10_undo_31 ?_
      refine go_istore_n (ls2 := [some (rf G 64), some (.int (iI 0))]) C dX10_undo_32 rfl (Nat.le_of_ble_eq_true rfl) rfl ?_
      exact w_X10_undo_33 C E F 0 (mset q11.2 64 2 ((q11.2 64 2) - 1)) hB15 h
    · replace h := ite_f hc13 h
      refine go_iconst C dX10_undo_19 ?_
      cases h
      exact go_iret C E rfl dX10_undo_20 (Nat.le_of_ble_eq_true rfl) (Nat.le_of_ble_eq_true rfl) rfl rfl hB11
-- IntervalRouterModel.empties()V
set_option maxHeartbeats 4000000 in
theorem w_X10_empties_3 {G : gC} {X : gX} {res : Mem} {F : Nat} (C : Cx G X cX10_empties 2 RX10 0 0 0 none []) (E : Fnl G X 0 0 (.inr none) res) : ∀ (fu : Nat) (v1 : Int) (M : Mem), Bd M → f_X10_empties_3 F fu v1 M = some res → Go G X 2 0 0 3 [some (rf G 64), some (.int (iI v1))] [] M := by
  intro fu
  induction fu with
  | zero => intro v1 M hB h; exact nomatch (show (none : Option (Mem)) = some res from h)
  | succ fu ih =>
    intro v1 M hB h
    rw [f_X10_empties_3] at h
    obtain ⟨hp_v1, h⟩ := chk_some h
    refine go_iload_n C dX10_empties_3 rfl rfl ?_
    refine go_sipush C dX10_empties_4 (by decide +kernel) ?_
    refine go_icmp_ge (tgt := 23) C dX10_empties_7 rfl hp_v1 (by decide) (fun hc1 => ?_) (fun hc1 => ?_)
    · replace h := ite_t hc1 h
      cases h
      exact go_vret C E rfl dX10_empties_23 (Nat.le_of_ble_eq_true rfl) (Nat.le_of_ble_eq_true rfl) rfl rfl hB
    · replace h := ite_f hc1 h
      refine go_aload_n C dX10_empties_10 rfl rfl ?_
      refine go_getR (o := 1) (k2 := 65) C dX10_empties_11 fl_X10_7 sh_64 rfl rfl ?_
      refine go_iload_n C dX10_empties_14 rfl rfl ?_
      refine go_iconst C dX10_empties_15 ?_
      obtain ⟨hc2, h⟩ := chk_some h
      refine go_iast C dX10_empties_16 sh_65 (by decide) hc2 ?_
      have hB3 := hB.set 65 v1 (x := 0) (by decide)
      refine go_iinc (ls2 := [some (rf G 64), some (.int (iI (v1 + 1)))]) C dX10_empties_17 rfl (Nat.le_of_ble_eq_true rfl) rfl ?_
      refine go_goto (tgt := 3) C dX10_empties_20 rfl ?_
      exact ih (v1 + 1) (mset M 65 v1 0) hB3 h
set_option maxHeartbeats 4000000 in
theorem ok_X10_empties {G : gC} {l : Launch} (hl : l.stackTraces = false) {F : Nat} {M : Mem} (hB : Bd M) {res : Mem} (h : f_X10_empties F M = some res) : Ok G l 0 0 0 yX10_empties (.code yX10_empties cX10_empties 2 none) [rf G 64] M (.inr none) res := by
  refine ok_of (ls := [some (rf G 64), none]) hl (by decide +kernel) (Nat.le_of_ble_eq_true rfl) ⟨rfl, trivial⟩ ?_
  intro X hX C E
  subst hX
  rw [f_X10_empties] at h
  refine go_bipush C dX10_empties_0 (by decide +kernel) ?_
  refine go_istore_n (ls2 := [some (rf G 64), some (.int (iI 59))]) C dX10_empties_2 rfl (Nat.le_of_ble_eq_true rfl) rfl ?_
  exact w_X10_empties_3 C E F 59 M hB h
-- IntervalRouterModel.begins(I)V
set_option maxHeartbeats 4000000 in
theorem w_X10_begins_16 {G : gC} {X : gX} {res : Mem} {F : Nat} (C : Cx G X cX10_begins 3 RX10 1 0 0 none []) (E : Fnl G X 0 0 (.inr none) res) : ∀ (fu : Nat) (v2 : Int) (M : Mem), Bd M → f_X10_begins_16 F fu v2 M = some res → Go G X 3 0 0 16 [some (rf G 64), none, some (.int (iI v2))] [] M := by
  intro fu
  induction fu with
  | zero => intro v2 M hB h; exact nomatch (show (none : Option (Mem)) = some res from h)
  | succ fu ih =>
    intro v2 M hB h
    rw [f_X10_begins_16] at h
    obtain ⟨hp_v2, h⟩ := chk_some h
    refine go_iload_n C dX10_begins_16 rfl rfl ?_
    refine go_bipush C dX10_begins_17 (by decide +kernel) ?_
    refine go_icmp_ge (tgt := 38) C dX10_begins_19 rfl hp_v2 (by decide) (fun hc3 => ?_) (fun hc3 => ?_)
    · replace h := ite_t hc3 h
      refine go_aload_n C dX10_begins_38 rfl rfl ?_
      obtain ⟨q4, h4, h⟩ := ob_some h
      refine go_callV_v C dX10_begins_39 (ok_X10_empties C.hl hB h4) mv_X10_71 sh_64 rfl rfl (Nat.le_of_ble_eq_true rfl) ⟨(Nat.le_of_ble_eq_true rfl), (Nat.le_of_ble_eq_true rfl)⟩ ⟨(Nat.le_of_ble_eq_true rfl), (Nat.le_of_ble_eq_true rfl)⟩ (fun hB4 => ?_)
      cases h
      exact go_vret C E rfl dX10_begins_42 (Nat.le_of_ble_eq_true rfl) (Nat.le_of_ble_eq_true rfl) rfl rfl hB4
    · replace h := ite_f hc3 h
      refine go_aload_n C dX10_begins_22 rfl rfl ?_
      refine go_getR (o := 1) (k2 := 65) C dX10_begins_23 fl_X10_7 sh_64 rfl rfl ?_
      refine go_bipush C dX10_begins_26 (by decide +kernel) ?_
      refine go_iload_n C dX10_begins_28 rfl rfl ?_
      refine go_iadd C dX10_begins_29 ?_
      refine go_iload_n C dX10_begins_30 rfl rfl ?_
      obtain ⟨hc5, h⟩ := chk_some h
      refine go_iast C dX10_begins_31 sh_65 (by decide) hc5 ?_
      have hB6 := hB.set 65 (50 + v2) (x := v2) hp_v2
      refine go_iinc (ls2 := [some (rf G 64), none, some (.int (iI (v2 + 1)))]) C dX10_begins_32 rfl (Nat.le_of_ble_eq_true rfl) rfl ?_
      refine go_goto (tgt := 16) C dX10_begins_35 rfl ?_
      exact ih (v2 + 1) (mset M 65 (50 + v2) v2) hB6 h
set_option maxHeartbeats 4000000 in
theorem ok_X10_begins {G : gC} {l : Launch} (hl : l.stackTraces = false) {F : Nat} {v1 : Int} {M : Mem} (hB : Bd M) {res : Mem} (h : f_X10_begins F v1 M = some res) : Ok G l 1 0 0 yX10_begins (.code yX10_begins cX10_begins 3 none) [rf G 64, .int (iI v1)] M (.inr none) res := by
  refine ok_of (ls := [some (rf G 64), some (.int (iI v1)), none]) hl (by decide +kernel) (Nat.le_of_ble_eq_true rfl) ⟨rfl, ⟨rfl, trivial⟩⟩ ?_
  intro X hX C E
  subst hX
  rw [f_X10_begins] at h
  obtain ⟨hp_v1, h⟩ := chk_some h
  refine go_aload_n C dX10_begins_0 rfl rfl ?_
  refine go_getR (o := 1) (k2 := 65) C dX10_begins_1 fl_X10_7 sh_64 rfl rfl ?_
  refine go_iconst C dX10_begins_4 ?_
  refine go_iload_n C dX10_begins_5 rfl rfl ?_
  refine go_iast C dX10_begins_6 sh_65 (by decide) ⟨by decide, by decide⟩ ?_
  have hB1 := hB.set 65 0 (x := v1) hp_v1
  refine go_aload_n C dX10_begins_7 rfl rfl ?_
  refine go_getR (o := 1) (k2 := 65) C dX10_begins_8 fl_X10_7 sh_64 rfl rfl ?_
  refine go_iconst C dX10_begins_11 ?_
  refine go_iconst C dX10_begins_12 ?_
  refine go_iast C dX10_begins_13 sh_65 (by decide) ⟨by decide, by decide⟩ ?_
  have hB2 := hB1.set 65 1 (x := 0) (by decide)
  refine go_iconst C dX10_begins_14 ?_
  refine go_istore_n (ls2 := [some (rf G 64), some (.int (iI v1)), some (.int (iI 0))]) C dX10_begins_15 rfl (Nat.le_of_ble_eq_true rfl) rfl ?_
  refine go_weak (ls' := [some (rf G 64), none, some (.int (iI 0))]) ⟨rfl, ⟨rfl, trivial⟩⟩ ?_
  exact w_X10_begins_16 C E F 0 (mset (mset M 65 0 v1) 65 1 0) hB2 h
-- IntervalRouterModel.begin(I)I
set_option maxHeartbeats 4000000 in
theorem ok_X10_begin {G : gC} {l : Launch} (hl : l.stackTraces = false) {F : Nat} {v1 : Int} {M : Mem} (hB : Bd M) {res : Int × Mem} (h : f_X10_begin F v1 M = some res) : Ok G l 2 0 0 yX10_begin (.code yX10_begin cX10_begin 3 (some .int)) [rf G 64, .int (iI v1)] M (.inr (some (.int (iI res.1)))) res.2 := by
  refine ok_of (ls := [some (rf G 64), some (.int (iI v1)), none]) hl (by decide +kernel) (Nat.le_of_ble_eq_true rfl) ⟨rfl, ⟨rfl, trivial⟩⟩ ?_
  intro X hX C E
  subst hX
  rw [f_X10_begin] at h
  refine go_aload_n C dX10_begin_0 rfl rfl ?_
  refine go_iload_n C dX10_begin_1 rfl rfl ?_
  refine go_iconst C dX10_begin_2 ?_
  refine go_bipush C dX10_begin_3 (by decide +kernel) ?_
  obtain ⟨q1, h1, h⟩ := ob_some h
  refine go_callS_i C dX10_begin_5 (ok_X10_within C.hl hB h1) ms_X10_56 rfl rfl (Nat.le_of_ble_eq_true rfl) ⟨(Nat.le_of_ble_eq_true rfl), (Nat.le_of_ble_eq_true rfl)⟩ ⟨(Nat.le_of_ble_eq_true rfl), (Nat.le_of_ble_eq_true rfl)⟩ (fun hB1 => ?_)
  obtain ⟨hc2, h⟩ := chk_some h
  refine go_if_eq (tgt := 15) C dX10_begin_8 rfl hc2 (fun hc3 => ?_) (fun hc3 => ?_)
  · replace h := ite_t hc3 h
    refine go_iconst C dX10_begin_15 ?_
    obtain ⟨q4, h4, h⟩ := ob_some h
    refine go_callV_i C dX10_begin_16 (ok_X10_refused C.hl hB1 h4) mv_X10_67 sh_64 rfl rfl (Nat.le_of_ble_eq_true rfl) ⟨(Nat.le_of_ble_eq_true rfl), (Nat.le_of_ble_eq_true rfl)⟩ ⟨(Nat.le_of_ble_eq_true rfl), (Nat.le_of_ble_eq_true rfl)⟩ (fun hB4 => ?_)
    obtain ⟨hc5, h⟩ := chk_some h
    refine go_if_eq (tgt := 24) C dX10_begin_19 rfl hc5 (fun hc6 => ?_) (fun hc6 => ?_)
    · replace h := ite_t hc6 h
      refine go_aload_n C dX10_begin_24 rfl rfl ?_
      obtain ⟨q7, h7, h⟩ := ob_some h
      refine go_callV_v C dX10_begin_25 (ok_X10_saves C.hl hB4 h7) mv_X10_74 sh_64 rfl rfl (Nat.le_of_ble_eq_true rfl) ⟨(Nat.le_of_ble_eq_true rfl), (Nat.le_of_ble_eq_true rfl)⟩ ⟨(Nat.le_of_ble_eq_true rfl), (Nat.le_of_ble_eq_true rfl)⟩ (fun hB7 => ?_)
      refine go_aload_n C dX10_begin_28 rfl rfl ?_
      refine go_getR (o := 1) (k2 := 65) C dX10_begin_29 fl_X10_7 sh_64 rfl rfl ?_
      refine go_iconst C dX10_begin_32 ?_
      refine go_iald C dX10_begin_33 sh_65 (by decide) ⟨by decide, by decide⟩ ?_
      refine go_istore_n (ls2 := [some (rf G 64), some (.int (iI v1)), some (.int (iI (q7 65 1)))]) C dX10_begin_34 rfl (Nat.le_of_ble_eq_true rfl) rfl ?_
      refine go_aload_n C dX10_begin_35 rfl rfl ?_
      refine go_iload_n C dX10_begin_36 rfl rfl ?_
      obtain ⟨q8, h8, h⟩ := ob_some h
      refine go_callV_v C dX10_begin_37 (ok_X10_begins C.hl hB7 h8) mv_X10_77 sh_64 rfl rfl (Nat.le_of_ble_eq_true rfl) ⟨(Nat.le_of_ble_eq_true rfl), (Nat.le_of_ble_eq_true rfl)⟩ ⟨(Nat.le_of_ble_eq_true rfl), (Nat.le_of_ble_eq_true rfl)⟩ (fun hB8 => ?_)
      refine go_iload_n C dX10_begin_40 rfl rfl ?_
      cases h
      exact go_iret C E rfl dX10_begin_41 (Nat.le_of_ble_eq_true rfl) (Nat.le_of_ble_eq_true rfl) rfl rfl hB8
    · replace h := ite_f hc6 h
      refine go_iconst C dX10_begin_22 ?_
      cases h
      exact go_iret C E rfl dX10_begin_23 (Nat.le_of_ble_eq_true rfl) (Nat.le_of_ble_eq_true rfl) rfl rfl hB4
  · replace h := ite_f hc3 h
    refine go_iconst C dX10_begin_11 ?_
    refine go_goto (tgt := 16) C dX10_begin_12 rfl ?_
    obtain ⟨q9, h9, h⟩ := ob_some h
    refine go_callV_i C dX10_begin_16 (ok_X10_refused C.hl hB1 h9) mv_X10_67 sh_64 rfl rfl (Nat.le_of_ble_eq_true rfl) ⟨(Nat.le_of_ble_eq_true rfl), (Nat.le_of_ble_eq_true rfl)⟩ ⟨(Nat.le_of_ble_eq_true rfl), (Nat.le_of_ble_eq_true rfl)⟩ (fun hB9 => ?_)
    obtain ⟨hc10, h⟩ := chk_some h
    refine go_if_eq (tgt := 24) C dX10_begin_19 rfl hc10 (fun hc11 => ?_) (fun hc11 => ?_)
    · replace h := ite_t hc11 h
      refine go_aload_n C dX10_begin_24 rfl rfl ?_
      obtain ⟨q12, h12, h⟩ := ob_some h
      refine go_callV_v C dX10_begin_25 (ok_X10_saves C.hl hB9 h12) mv_X10_74 sh_64 rfl rfl (Nat.le_of_ble_eq_true rfl) ⟨(Nat.le_of_ble_eq_true rfl), (Nat.le_of_ble_eq_true rfl)⟩ ⟨(Nat.le_of_ble_eq_true rfl), (Nat.le_of_ble_eq_true rfl)⟩ (fun hB12 => ?_)
      refine go_aload_n C dX10_begin_28 rfl rfl ?_
      refine go_getR (o := 1) (k2 := 65) C dX10_begin_29 fl_X10_7 sh_64 rfl rfl ?_
      refine go_iconst C dX10_begin_32 ?_
      refine go_iald C dX10_begin_33 sh_65 (by decide) ⟨by decide, by decide⟩ ?_
      refine go_istore_n (ls2 := [some (rf G 64), some (.int (iI v1)), some (.int (iI (q12 65 1)))]) C dX10_begin_34 rfl (Nat.le_of_ble_eq_true rfl) rfl ?_
      refine go_aload_n C dX10_begin_35 rfl rfl ?_
      refine go_iload_n C dX10_begin_36 rfl rfl ?_
      obtain ⟨q13, h13, h⟩ := ob_some h
      refine go_callV_v C dX10_begin_37 (ok_X10_begins C.hl hB12 h13) mv_X10_77 sh_64 rfl rfl (Nat.le_of_ble_eq_true rfl) ⟨(Nat.le_of_ble_eq_true rfl), (Nat.le_of_ble_eq_true rfl)⟩ ⟨(Nat.le_of_ble_eq_true rfl), (Nat.le_of_ble_eq_true rfl)⟩ (fun hB13 => ?_)
      refine go_iload_n C dX10_begin_40 rfl rfl ?_
      cases h
      exact go_iret C E rfl dX10_begin_41 (Nat.le_of_ble_eq_true rfl) (Nat.le_of_ble_eq_true rfl) rfl rfl hB13
    · replace h := ite_f hc11 h
      refine go_iconst C dX10_begin_22 ?_
      cases h
      exact go_iret C E rfl dX10_begin_23 (Nat.le_of_ble_eq_true rfl) (Nat.le_of_ble_eq_true rfl) rfl rfl hB9
-- IntervalRouterModel.areJoined(II)Z
set_option maxHeartbeats 4000000 in
theorem w_X10_areJoined_5 {G : gC} {X : gX} {res : Int} {F : Nat} {M : Mem} (hB : Bd M) (C : Cx G X cX10_areJoined 5 RX10 2 0 0 (some .boolean) []) (E : Fnl G X 0 0 (.inr (some (.int (iI res)))) M) : ∀ (fu : Nat) (v1 : Int) (v2 : Int) (v3 : Int) (v4 : Int), f_X10_areJoined_5 F fu v1 v2 v3 v4 M = some res → Go G X 5 0 0 5 [some (rf G 64), some (.int (iI v1)), some (.int (iI v2)), some (.int (iI v3)), some (.int (iI v4))] [] M := by
  intro fu
  induction fu with
  | zero => intro v1 v2 v3 v4 h; exact nomatch (show (none : Option (Int)) = some res from h)
  | succ fu ih =>
    intro v1 v2 v3 v4 h
    rw [f_X10_areJoined_5] at h
    obtain ⟨⟨hp_v3, hp_v4⟩, h⟩ := chk_some h
    refine go_iload C dX10_areJoined_5 rfl ?_
    refine go_aload_n C dX10_areJoined_7 rfl rfl ?_
    refine go_getR (o := 1) (k2 := 65) C dX10_areJoined_8 fl_X10_7 sh_64 rfl rfl ?_
    refine go_iconst C dX10_areJoined_11 ?_
    refine go_iald C dX10_areJoined_12 sh_65 (by decide) ⟨by decide, by decide⟩ ?_
    refine go_icmp_ge (tgt := 52) C dX10_areJoined_13 rfl hp_v4 (hB 65 1 (by decide)) (fun hc1 => ?_) (fun hc1 => ?_)
    · replace h := ite_t hc1 h
      refine go_iload_n C dX10_areJoined_52 rfl rfl ?_
      obtain ⟨hc2, h⟩ := chk_some h
      cases h
      exact go_zret C E rfl dX10_areJoined_53 hc2 (Nat.le_of_ble_eq_true rfl) (Nat.le_of_ble_eq_true rfl) rfl rfl hB
    · replace h := ite_f hc1 h
      refine go_iload_n C dX10_areJoined_16 rfl rfl ?_
      refine go_if_ne (tgt := 40) C dX10_areJoined_17 rfl hp_v3 (fun hc3 => ?_) (fun hc3 => ?_)
      · replace h := ite_f hc3 h
        refine go_iconst C dX10_areJoined_40 ?_
        refine go_goto (tgt := 45) C dX10_areJoined_41 rfl ?_
        refine go_istore_n (ls2 := [some (rf G 64), some (.int (iI v1)), some (.int (iI v2)), some (.int (iI 1)), some (.int (iI v4))]) C dX10_areJoined_45 rfl (Nat.le_of_ble_eq_true rfl) rfl ?_
        refine go_iinc (ls2 := [some (rf G 64), some (.int (iI v1)), some (.int (iI v2)), some (.int (iI 1)), some (.int (iI (v4 + 1)))]) C dX10_areJoined_46 rfl (Nat.le_of_ble_eq_true rfl) rfl ?_
        refine go_goto (tgt := 5) C dX10_areJoined_49 rfl ?_
        exact ih v1 v2 1 (v4 + 1) h
      · replace h := ite_t hc3 h
        refine go_aload_n C dX10_areJoined_20 rfl rfl ?_
        refine go_iload C dX10_areJoined_21 rfl ?_
        refine go_iload_n C dX10_areJoined_23 rfl rfl ?_
        obtain ⟨q4, h4, h⟩ := ob_some h
        refine go_callV_i C dX10_areJoined_24 (ok_X10_isOf C.hl hB h4) mv_X10_81 sh_64 rfl rfl (Nat.le_of_ble_eq_true rfl) ⟨(Nat.le_of_ble_eq_true rfl), (Nat.le_of_ble_eq_true rfl)⟩ ⟨(Nat.le_of_ble_eq_true rfl), (Nat.le_of_ble_eq_true rfl)⟩ (fun hB4 => ?_)
        obtain ⟨hc5, h⟩ := chk_some h
        refine go_if_eq (tgt := 44) C dX10_areJoined_27 rfl hc5 (fun hc6 => ?_) (fun hc6 => ?_)
        · replace h := ite_t hc6 h
          refine go_iconst C dX10_areJoined_44 ?_
          refine go_istore_n (ls2 := [some (rf G 64), some (.int (iI v1)), some (.int (iI v2)), some (.int (iI 0)), some (.int (iI v4))]) C dX10_areJoined_45 rfl (Nat.le_of_ble_eq_true rfl) rfl ?_
          refine go_iinc (ls2 := [some (rf G 64), some (.int (iI v1)), some (.int (iI v2)), some (.int (iI 0)), some (.int (iI (v4 + 1)))]) C dX10_areJoined_46 rfl (Nat.le_of_ble_eq_true rfl) rfl ?_
          refine go_goto (tgt := 5) C dX10_areJoined_49 rfl ?_
          exact ih v1 v2 0 (v4 + 1) h
        · replace h := ite_f hc6 h
          refine go_aload_n C dX10_areJoined_30 rfl rfl ?_
          refine go_iload C dX10_areJoined_31 rfl ?_
          refine go_iload_n C dX10_areJoined_33 rfl rfl ?_
          obtain ⟨q7, h7, h⟩ := ob_some h
          refine go_callV_i C dX10_areJoined_34 (ok_X10_isOf C.hl hB4 h7) mv_X10_81 sh_64 rfl rfl (Nat.le_of_ble_eq_true rfl) ⟨(Nat.le_of_ble_eq_true rfl), (Nat.le_of_ble_eq_true rfl)⟩ ⟨(Nat.le_of_ble_eq_true rfl), (Nat.le_of_ble_eq_true rfl)⟩ (fun hB7 => ?_)
          obtain ⟨hc8, h⟩ := chk_some h
          refine go_if_eq (tgt := 44) C dX10_areJoined_37 rfl hc8 (fun hc9 => ?_) (fun hc9 => ?_)
          · replace h := ite_t hc9 h
            refine go_iconst C dX10_areJoined_44 ?_
            refine go_istore_n (ls2 := [some (rf G 64), some (.int (iI v1)), some (.int (iI v2)), some (.int (iI 0)), some (.int (iI v4))]) C dX10_areJoined_45 rfl (Nat.le_of_ble_eq_true rfl) rfl ?_
            refine go_iinc (ls2 := [some (rf G 64), some (.int (iI v1)), some (.int (iI v2)), some (.int (iI 0)), some (.int (iI (v4 + 1)))]) C dX10_areJoined_46 rfl (Nat.le_of_ble_eq_true rfl) rfl ?_
            refine go_goto (tgt := 5) C dX10_areJoined_49 rfl ?_
            exact ih v1 v2 0 (v4 + 1) h
          · replace h := ite_f hc9 h
            refine go_iconst C dX10_areJoined_40 ?_
            refine go_goto (tgt := 45) C dX10_areJoined_41 rfl ?_
            refine go_istore_n (ls2 := [some (rf G 64), some (.int (iI v1)), some (.int (iI v2)), some (.int (iI 1)), some (.int (iI v4))]) C dX10_areJoined_45 rfl (Nat.le_of_ble_eq_true rfl) rfl ?_
            refine go_iinc (ls2 := [some (rf G 64), some (.int (iI v1)), some (.int (iI v2)), some (.int (iI 1)), some (.int (iI (v4 + 1)))]) C dX10_areJoined_46 rfl (Nat.le_of_ble_eq_true rfl) rfl ?_
            refine go_goto (tgt := 5) C dX10_areJoined_49 rfl ?_
            exact ih v1 v2 1 (v4 + 1) h
set_option maxHeartbeats 4000000 in
theorem ok_X10_areJoined {G : gC} {l : Launch} (hl : l.stackTraces = false) {F : Nat} {v1 : Int} {v2 : Int} {M : Mem} (hB : Bd M) {res : Int} (h : f_X10_areJoined F v1 v2 M = some res) : Ok G l 2 0 0 yX10_areJoined (.code yX10_areJoined cX10_areJoined 5 (some .boolean)) [rf G 64, .int (iI v1), .int (iI v2)] M (.inr (some (.int (iI res)))) M := by
  refine ok_of (ls := [some (rf G 64), some (.int (iI v1)), some (.int (iI v2)), none, none]) hl (by decide +kernel) (Nat.le_of_ble_eq_true rfl) ⟨rfl, ⟨rfl, ⟨rfl, trivial⟩⟩⟩ ?_
  intro X hX C E
  subst hX
  rw [f_X10_areJoined] at h
  refine go_iconst C dX10_areJoined_0 ?_
  refine go_istore_n (ls2 := [some (rf G 64), some (.int (iI v1)), some (.int (iI v2)), some (.int (iI 0)), none]) C dX10_areJoined_1 rfl (Nat.le_of_ble_eq_true rfl) rfl ?_
  refine go_iconst C dX10_areJoined_2 ?_
  refine go_istore (ls2 := [some (rf G 64), some (.int (iI v1)), some (.int (iI v2)), some (.int (iI 0)), some (.int (iI 0))]) C dX10_areJoined_3 (Nat.le_of_ble_eq_true rfl) rfl ?_
  exact w_X10_areJoined_5 hB C E F v1 v2 0 0 h
-- IntervalRouterModel.joins(III)V
set_option maxHeartbeats 4000000 in
theorem ok_X10_joins {G : gC} {l : Launch} (hl : l.stackTraces = false) {v1 : Int} {v2 : Int} {v3 : Int} {M : Mem} (hB : Bd M) {res : Mem} (h : f_X10_joins v1 v2 v3 M = some res) : Ok G l 0 0 0 yX10_joins (.code yX10_joins cX10_joins 5 none) [rf G 64, .int (iI v1), .int (iI v2), .int (iI v3)] M (.inr none) res := by
  refine ok_of (ls := [some (rf G 64), some (.int (iI v1)), some (.int (iI v2)), some (.int (iI v3)), none]) hl (by decide +kernel) (Nat.le_of_ble_eq_true rfl) ⟨rfl, ⟨rfl, ⟨rfl, ⟨rfl, trivial⟩⟩⟩⟩ ?_
  intro X hX C E
  subst hX
  rw [f_X10_joins] at h
  obtain ⟨⟨hp_v1, hp_v2, hp_v3⟩, h⟩ := chk_some h
  refine go_iconst C dX10_joins_0 ?_
  refine go_iconst C dX10_joins_1 ?_
  refine go_aload_n C dX10_joins_2 rfl rfl ?_
  refine go_getR (o := 1) (k2 := 65) C dX10_joins_3 fl_X10_7 sh_64 rfl rfl ?_
  refine go_iconst C dX10_joins_6 ?_
  refine go_iald C dX10_joins_7 sh_65 (by decide) ⟨by decide, by decide⟩ ?_
  refine go_imul C dX10_joins_8 ?_
  refine go_iadd C dX10_joins_9 ?_
  refine go_istore (ls2 := [some (rf G 64), some (.int (iI v1)), some (.int (iI v2)), some (.int (iI v3)), some (.int (iI (2 + (3 * (M 65 1)))))]) C dX10_joins_10 (Nat.le_of_ble_eq_true rfl) rfl ?_
  refine go_aload_n C dX10_joins_12 rfl rfl ?_
  refine go_getR (o := 1) (k2 := 65) C dX10_joins_13 fl_X10_7 sh_64 rfl rfl ?_
  refine go_iload C dX10_joins_16 rfl ?_
  refine go_iload_n C dX10_joins_18 rfl rfl ?_
  obtain ⟨hc1, h⟩ := chk_some h
  refine go_iast C dX10_joins_19 sh_65 (by decide) hc1 ?_
  have hB2 := hB.set 65 (2 + (3 * (M 65 1))) (x := v1) hp_v1
  refine go_aload_n C dX10_joins_20 rfl rfl ?_
  refine go_getR (o := 1) (k2 := 65) C dX10_joins_21 fl_X10_7 sh_64 rfl rfl ?_
  refine go_iload C dX10_joins_24 rfl ?_
  refine go_iconst C dX10_joins_26 ?_
  refine go_iadd C dX10_joins_27 ?_
  refine go_iload_n C dX10_joins_28 rfl rfl ?_
  obtain ⟨hc3, h⟩ := chk_some h
  refine go_iast C dX10_joins_29 sh_65 (by decide) hc3 ?_
  have hB4 := hB2.set 65 ((2 + (3 * (M 65 1))) + 1) (x := v2) hp_v2
  refine go_aload_n C dX10_joins_30 rfl rfl ?_
  refine go_getR (o := 1) (k2 := 65) C dX10_joins_31 fl_X10_7 sh_64 rfl rfl ?_
  refine go_iload C dX10_joins_34 rfl ?_
  refine go_iconst C dX10_joins_36 ?_
  refine go_iadd C dX10_joins_37 ?_
  refine go_iload_n C dX10_joins_38 rfl rfl ?_
  obtain ⟨hc5, h⟩ := chk_some h
  refine go_iast C dX10_joins_39 sh_65 (by decide) hc5 ?_
  have hB6 := hB4.set 65 ((2 + (3 * (M 65 1))) + 2) (x := v3) hp_v3
  refine go_aload_n C dX10_joins_40 rfl rfl ?_
  refine go_getR (o := 1) (k2 := 65) C dX10_joins_41 fl_X10_7 sh_64 rfl rfl ?_
  refine go_iconst C dX10_joins_44 ?_
  refine go_dup2 C dX10_joins_45 rfl rfl ?_
  refine go_iald C dX10_joins_46 sh_65 (by decide) ⟨by decide, by decide⟩ ?_
  refine go_iconst C dX10_joins_47 ?_
  refine go_iadd C dX10_joins_48 ?_
  obtain ⟨hc7, h⟩ := chk_some h
  refine go_iast C dX10_joins_49 sh_65 (by decide) ⟨by decide, by decide⟩ ?_
  have hB8 := hB6.set 65 1 (x := ((mset (mset (mset M 65 (2 + (3 * (M 65 1))) v1) 65 ((2 + (3 * (M 65 1))) + 1) v2) 65 ((2 + (3 * (M 65 1))) + 2) v3) 65 1) + 1) hc7
  cases h
  exact go_vret C E rfl dX10_joins_50 (Nat.le_of_ble_eq_true rfl) (Nat.le_of_ble_eq_true rfl) rfl rfl hB8
-- IntervalRouterModel.addLink(III)I
set_option maxHeartbeats 4000000 in
theorem w_X10_addLink_94 {G : gC} {X : gX} {res : Int × Mem} {F : Nat} (C : Cx G X cX10_addLink 6 RX10 3 0 0 (some .int) []) (E : Fnl G X 0 0 (.inr (some (.int (iI res.1)))) res.2) : ∀ (v1 : Int) (v2 : Int) (v3 : Int) (t1 : Int) (M : Mem), Bd M → f_X10_addLink_94 F v1 v2 v3 t1 M = some res → Go G X 6 0 0 94 [some (rf G 64), some (.int (iI v1)), some (.int (iI v2)), some (.int (iI v3)), none, none] [.int (iI t1), rf G 64] M := by
  intro v1 v2 v3 t1 M hB h
  rw [f_X10_addLink_94] at h
  obtain ⟨q7, h7, h⟩ := ob_some h
  refine go_callV_i C dX10_addLink_94 (ok_X10_refused C.hl hB h7) mv_X10_67 sh_64 rfl rfl (Nat.le_of_ble_eq_true rfl) ⟨(Nat.le_of_ble_eq_true rfl), (Nat.le_of_ble_eq_true rfl)⟩ ⟨(Nat.le_of_ble_eq_true rfl), (Nat.le_of_ble_eq_true rfl)⟩ (fun hB7 => ?_)
  obtain ⟨hc8, h⟩ := chk_some h
  refine go_if_eq (tgt := 102) C dX10_addLink_97 rfl hc8 (fun hc9 => ?_) (fun hc9 => ?_)
  · replace h := ite_t hc9 h
    refine go_aload_n C dX10_addLink_102 rfl rfl ?_
    obtain ⟨q10, h10, h⟩ := ob_some h
    refine go_callV_v C dX10_addLink_103 (ok_X10_saves C.hl hB7 h10) mv_X10_74 sh_64 rfl rfl (Nat.le_of_ble_eq_true rfl) ⟨(Nat.le_of_ble_eq_true rfl), (Nat.le_of_ble_eq_true rfl)⟩ ⟨(Nat.le_of_ble_eq_true rfl), (Nat.le_of_ble_eq_true rfl)⟩ (fun hB10 => ?_)
    refine go_aload_n C dX10_addLink_106 rfl rfl ?_
    refine go_iload_n C dX10_addLink_107 rfl rfl ?_
    refine go_iload_n C dX10_addLink_108 rfl rfl ?_
    refine go_iload_n C dX10_addLink_109 rfl rfl ?_
    obtain ⟨q11, h11, h⟩ := ob_some h
    refine go_callV_v C dX10_addLink_110 (ok_X10_joins C.hl hB10 h11) mv_X10_91 sh_64 rfl rfl (Nat.le_of_ble_eq_true rfl) ⟨(Nat.le_of_ble_eq_true rfl), (Nat.le_of_ble_eq_true rfl)⟩ ⟨(Nat.le_of_ble_eq_true rfl), (Nat.le_of_ble_eq_true rfl)⟩ (fun hB11 => ?_)
    refine go_aload_n C dX10_addLink_113 rfl rfl ?_
    obtain ⟨q12, h12, h⟩ := ob_some h
    refine go_callV_v C dX10_addLink_114 (ok_X10_empties C.hl hB11 h12) mv_X10_71 sh_64 rfl rfl (Nat.le_of_ble_eq_true rfl) ⟨(Nat.le_of_ble_eq_true rfl), (Nat.le_of_ble_eq_true rfl)⟩ ⟨(Nat.le_of_ble_eq_true rfl), (Nat.le_of_ble_eq_true rfl)⟩ (fun hB12 => ?_)
    refine go_aload_n C dX10_addLink_117 rfl rfl ?_
    refine go_getR (o := 1) (k2 := 65) C dX10_addLink_118 fl_X10_7 sh_64 rfl rfl ?_
    refine go_iconst C dX10_addLink_121 ?_
    refine go_iald C dX10_addLink_122 sh_65 (by decide) ⟨by decide, by decide⟩ ?_
    refine go_iconst C dX10_addLink_123 ?_
    refine go_isub C dX10_addLink_124 ?_
    cases h
    exact go_iret C E rfl dX10_addLink_125 (Nat.le_of_ble_eq_true rfl) (Nat.le_of_ble_eq_true rfl) rfl rfl hB12
  · replace h := ite_f hc9 h
    refine go_iconst C dX10_addLink_100 ?_
    cases h
    exact go_iret C E rfl dX10_addLink_101 (Nat.le_of_ble_eq_true rfl) (Nat.le_of_ble_eq_true rfl) rfl rfl hB7
set_option maxHeartbeats 4000000 in
theorem w_X10_addLink_56 {G : gC} {X : gX} {res : Int × Mem} {F : Nat} (C : Cx G X cX10_addLink 6 RX10 3 0 0 (some .int) []) (E : Fnl G X 0 0 (.inr (some (.int (iI res.1)))) res.2) : ∀ (v1 : Int) (v2 : Int) (v3 : Int) (v4 : Int) (M : Mem), Bd M → f_X10_addLink_56 F v1 v2 v3 v4 M = some res → Go G X 6 0 0 56 [some (rf G 64), some (.int (iI v1)), some (.int (iI v2)), some (.int (iI v3)), some (.int (iI v4)), none] [] M := by
  intro v1 v2 v3 v4 M hB h
  rw [f_X10_addLink_56] at h
  obtain ⟨hp_v4, h⟩ := chk_some h
  refine go_iconst C dX10_addLink_56 ?_
  refine go_istore (ls2 := [some (rf G 64), some (.int (iI v1)), some (.int (iI v2)), some (.int (iI v3)), some (.int (iI v4)), some (.int (iI 0))]) C dX10_addLink_57 (Nat.le_of_ble_eq_true rfl) rfl ?_
  refine go_aload_n C dX10_addLink_59 rfl rfl ?_
  refine go_iload C dX10_addLink_60 rfl ?_
  refine go_if_ne (tgt := 69) C dX10_addLink_62 rfl hp_v4 (fun hc5 => ?_) (fun hc5 => ?_)
  · replace h := ite_f hc5 h
    refine go_iload C dX10_addLink_69 rfl ?_
    refine go_if_ne (tgt := 78) C dX10_addLink_71 rfl (by decide) (fun hc6 => ?_) (fun hc6 => ?_)
    · exact absurd hc6 (by decide)
    · refine go_iconst C dX10_addLink_74 ?_
      refine go_goto (tgt := 94) C dX10_addLink_75 rfl ?_
      refine go_weak (ls' := [some (rf G 64), some (.int (iI v1)), some (.int (iI v2)), some (.int (iI v3)), none, none]) ⟨rfl, ⟨rfl, ⟨rfl, ⟨rfl, trivial⟩⟩⟩⟩ ?_
      exact w_X10_addLink_94 C E v1 v2 v3 2 M hB h
  · replace h := ite_t hc5 h
    refine go_iconst C dX10_addLink_65 ?_
    refine go_goto (tgt := 94) C dX10_addLink_66 rfl ?_
    refine go_weak (ls' := [some (rf G 64), some (.int (iI v1)), some (.int (iI v2)), some (.int (iI v3)), none, none]) ⟨rfl, ⟨rfl, ⟨rfl, ⟨rfl, trivial⟩⟩⟩⟩ ?_
    exact w_X10_addLink_94 C E v1 v2 v3 1 M hB h
set_option maxHeartbeats 4000000 in
theorem w_X10_addLink_21 {G : gC} {X : gX} {res : Int × Mem} {F : Nat} (C : Cx G X cX10_addLink 6 RX10 3 0 0 (some .int) []) (E : Fnl G X 0 0 (.inr (some (.int (iI res.1)))) res.2) : ∀ (v1 : Int) (v2 : Int) (v3 : Int) (t0 : Int) (M : Mem), Bd M → f_X10_addLink_21 F v1 v2 v3 t0 M = some res → Go G X 6 0 0 21 [some (rf G 64), some (.int (iI v1)), some (.int (iI v2)), some (.int (iI v3)), none, none] [.int (iI t0)] M := by
  intro v1 v2 v3 t0 M hB h
  rw [f_X10_addLink_21] at h
  obtain ⟨⟨hp_v1, hp_v2, hp_t0⟩, h⟩ := chk_some h
  refine go_istore (ls2 := [some (rf G 64), some (.int (iI v1)), some (.int (iI v2)), some (.int (iI v3)), some (.int (iI t0)), none]) C dX10_addLink_21 (Nat.le_of_ble_eq_true rfl) rfl ?_
  refine go_iload C dX10_addLink_23 rfl ?_
  refine go_if_eq (tgt := 56) C dX10_addLink_25 rfl hp_t0 (fun hc4 => ?_) (fun hc4 => ?_)
  · replace h := ite_t hc4 h
    exact w_X10_addLink_56 C E v1 v2 v3 t0 M hB h
  · replace h := ite_f hc4 h
    refine go_iload_n C dX10_addLink_28 rfl rfl ?_
    refine go_iload_n C dX10_addLink_29 rfl rfl ?_
    refine go_icmp_eq (tgt := 56) C dX10_addLink_30 rfl hp_v1 hp_v2 (fun hc13 => ?_) (fun hc13 => ?_)
    · replace h := ite_t hc13 h
      exact w_X10_addLink_56 C E v1 v2 v3 t0 M hB h
    · replace h := ite_f hc13 h
      refine go_iload_n C dX10_addLink_33 rfl rfl ?_
      refine go_iconst C dX10_addLink_34 ?_
      refine go_bipush C dX10_addLink_35 (by decide +kernel) ?_
      obtain ⟨q14, h14, h⟩ := ob_some h
      refine go_callS_i C dX10_addLink_37 (ok_X10_within C.hl hB h14) ms_X10_56 rfl rfl (Nat.le_of_ble_eq_true rfl) ⟨(Nat.le_of_ble_eq_true rfl), (Nat.le_of_ble_eq_true rfl)⟩ ⟨(Nat.le_of_ble_eq_true rfl), (Nat.le_of_ble_eq_true rfl)⟩ (fun hB14 => ?_)
      obtain ⟨hc15, h⟩ := chk_some h
      refine go_if_eq (tgt := 56) C dX10_addLink_40 rfl hc15 (fun hc16 => ?_) (fun hc16 => ?_)
      · replace h := ite_t hc16 h
        exact w_X10_addLink_56 C E v1 v2 v3 t0 M hB14 h
      · replace h := ite_f hc16 h
        refine go_aload_n C dX10_addLink_43 rfl rfl ?_
        refine go_iload_n C dX10_addLink_44 rfl rfl ?_
        refine go_iload_n C dX10_addLink_45 rfl rfl ?_
        obtain ⟨q17, h17, h⟩ := ob_some h
        refine go_callV_i C dX10_addLink_46 (ok_X10_areJoined C.hl hB14 h17) mv_X10_88 sh_64 rfl rfl (Nat.le_of_ble_eq_true rfl) ⟨(Nat.le_of_ble_eq_true rfl), (Nat.le_of_ble_eq_true rfl)⟩ ⟨(Nat.le_of_ble_eq_true rfl), (Nat.le_of_ble_eq_true rfl)⟩ (fun hB17 => ?_)
        obtain ⟨hc18, h⟩ := chk_some h
        refine go_if_ne (tgt := 56) C dX10_addLink_49 rfl hc18 (fun hc19 => ?_) (fun hc19 => ?_)
        · replace h := ite_f hc19 h
          exact w_X10_addLink_56 C E v1 v2 v3 t0 M hB17 h
        · replace h := ite_t hc19 h
          refine go_iconst C dX10_addLink_52 ?_
          refine go_goto (tgt := 57) C dX10_addLink_53 rfl ?_
          refine go_istore (ls2 := [some (rf G 64), some (.int (iI v1)), some (.int (iI v2)), some (.int (iI v3)), some (.int (iI t0)), some (.int (iI 1))]) C dX10_addLink_57 (Nat.le_of_ble_eq_true rfl) rfl ?_
          refine go_aload_n C dX10_addLink_59 rfl rfl ?_
          refine go_iload C dX10_addLink_60 rfl ?_
          refine go_if_ne (tgt := 69) C dX10_addLink_62 rfl hp_t0 (fun hc20 => ?_) (fun hc20 => ?_)
          · replace h := ite_f hc20 h
            refine go_iload C dX10_addLink_69 rfl ?_
            refine go_if_ne (tgt := 78) C dX10_addLink_71 rfl (by decide) (fun hc21 => ?_) (fun hc21 => ?_)
            · refine go_aload_n C dX10_addLink_78 rfl rfl ?_
              refine go_getR (o := 1) (k2 := 65) C dX10_addLink_79 fl_X10_7 sh_64 rfl rfl ?_
              refine go_iconst C dX10_addLink_82 ?_
              refine go_iald C dX10_addLink_83 sh_65 (by decide) ⟨by decide, by decide⟩ ?_
              refine go_bipush C dX10_addLink_84 (by decide +kernel) ?_
              refine go_icmp_ne (tgt := 93) C dX10_addLink_86 rfl (hB17 65 1 (by decide)) (by decide) (fun hc22 => ?_) (fun hc22 => ?_)
              · replace h := ite_f hc22 h
                refine go_iconst C dX10_addLink_93 ?_
                refine go_weak (ls' := [some (rf G 64), some (.int (iI v1)), some (.int (iI v2)), some (.int (iI v3)), none, none]) ⟨rfl, ⟨rfl, ⟨rfl, ⟨rfl, trivial⟩⟩⟩⟩ ?_
                exact w_X10_addLink_94 C E v1 v2 v3 0 M hB17 h
              · replace h := ite_t hc22 h
                refine go_iconst C dX10_addLink_89 ?_
                refine go_goto (tgt := 94) C dX10_addLink_90 rfl ?_
                refine go_weak (ls' := [some (rf G 64), some (.int (iI v1)), some (.int (iI v2)), some (.int (iI v3)), none, none]) ⟨rfl, ⟨rfl, ⟨rfl, ⟨rfl, trivial⟩⟩⟩⟩ ?_
                exact w_X10_addLink_94 C E v1 v2 v3 3 M hB17 h
            · exact absurd hc21 (by decide)
          · replace h := ite_t hc20 h
            refine go_iconst C dX10_addLink_65 ?_
            refine go_goto (tgt := 94) C dX10_addLink_66 rfl ?_
            refine go_weak (ls' := [some (rf G 64), some (.int (iI v1)), some (.int (iI v2)), some (.int (iI v3)), none, none]) ⟨rfl, ⟨rfl, ⟨rfl, ⟨rfl, trivial⟩⟩⟩⟩ ?_
            exact w_X10_addLink_94 C E v1 v2 v3 1 M hB17 h
set_option maxHeartbeats 4000000 in
theorem ok_X10_addLink {G : gC} {l : Launch} (hl : l.stackTraces = false) {F : Nat} {v1 : Int} {v2 : Int} {v3 : Int} {M : Mem} (hB : Bd M) {res : Int × Mem} (h : f_X10_addLink F v1 v2 v3 M = some res) : Ok G l 3 0 0 yX10_addLink (.code yX10_addLink cX10_addLink 6 (some .int)) [rf G 64, .int (iI v1), .int (iI v2), .int (iI v3)] M (.inr (some (.int (iI res.1)))) res.2 := by
  refine ok_of (ls := [some (rf G 64), some (.int (iI v1)), some (.int (iI v2)), some (.int (iI v3)), none, none]) hl (by decide +kernel) (Nat.le_of_ble_eq_true rfl) ⟨rfl, ⟨rfl, ⟨rfl, ⟨rfl, trivial⟩⟩⟩⟩ ?_
  intro X hX C E
  subst hX
  rw [f_X10_addLink] at h
  refine go_aload_n C dX10_addLink_0 rfl rfl ?_
  refine go_iload_n C dX10_addLink_1 rfl rfl ?_
  obtain ⟨q1, h1, h⟩ := ob_some h
  refine go_callV_i C dX10_addLink_2 (ok_X10_isNode C.hl hB h1) mv_X10_85 sh_64 rfl rfl (Nat.le_of_ble_eq_true rfl) ⟨(Nat.le_of_ble_eq_true rfl), (Nat.le_of_ble_eq_true rfl)⟩ ⟨(Nat.le_of_ble_eq_true rfl), (Nat.le_of_ble_eq_true rfl)⟩ (fun hB1 => ?_)
  obtain ⟨hc2, h⟩ := chk_some h
  refine go_if_eq (tgt := 20) C dX10_addLink_5 rfl hc2 (fun hc3 => ?_) (fun hc3 => ?_)
  · replace h := ite_t hc3 h
    refine go_iconst C dX10_addLink_20 ?_
    exact w_X10_addLink_21 C E v1 v2 v3 0 M hB1 h
  · replace h := ite_f hc3 h
    refine go_aload_n C dX10_addLink_8 rfl rfl ?_
    refine go_iload_n C dX10_addLink_9 rfl rfl ?_
    obtain ⟨q23, h23, h⟩ := ob_some h
    refine go_callV_i C dX10_addLink_10 (ok_X10_isNode C.hl hB1 h23) mv_X10_85 sh_64 rfl rfl (Nat.le_of_ble_eq_true rfl) ⟨(Nat.le_of_ble_eq_true rfl), (Nat.le_of_ble_eq_true rfl)⟩ ⟨(Nat.le_of_ble_eq_true rfl), (Nat.le_of_ble_eq_true rfl)⟩ (fun hB23 => ?_)
    obtain ⟨hc24, h⟩ := chk_some h
    refine go_if_eq (tgt := 20) C dX10_addLink_13 rfl hc24 (fun hc25 => ?_) (fun hc25 => ?_)
    · replace h := ite_t hc25 h
      refine go_iconst C dX10_addLink_20 ?_
      exact w_X10_addLink_21 C E v1 v2 v3 0 M hB23 h
    · replace h := ite_f hc25 h
      refine go_iconst C dX10_addLink_16 ?_
      refine go_goto (tgt := 21) C dX10_addLink_17 rfl ?_
      exact w_X10_addLink_21 C E v1 v2 v3 1 M hB23 h
-- IntervalRouterModel.removeLink(I)I
set_option maxHeartbeats 4000000 in
theorem w_X10_removeLink_42 {G : gC} {X : gX} {res : Int × Mem} {F : Nat} (C : Cx G X cX10_removeLink 3 RX10 2 0 0 (some .int) []) (E : Fnl G X 0 0 (.inr (some (.int (iI res.1)))) res.2) : ∀ (fu : Nat) (v2 : Int) (M : Mem), Bd M → f_X10_removeLink_42 F fu v2 M = some res → Go G X 3 0 0 42 [some (rf G 64), none, some (.int (iI v2))] [] M := by
  intro fu
  induction fu with
  | zero => intro v2 M hB h; exact nomatch (show (none : Option (Int × Mem)) = some res from h)
  | succ fu ih =>
    intro v2 M hB h
    rw [f_X10_removeLink_42] at h
    obtain ⟨hp_v2, h⟩ := chk_some h
    refine go_iload_n C dX10_removeLink_42 rfl rfl ?_
    refine go_iconst C dX10_removeLink_43 ?_
    refine go_iconst C dX10_removeLink_44 ?_
    refine go_aload_n C dX10_removeLink_45 rfl rfl ?_
    refine go_getR (o := 1) (k2 := 65) C dX10_removeLink_46 fl_X10_7 sh_64 rfl rfl ?_
    refine go_iconst C dX10_removeLink_49 ?_
    refine go_iald C dX10_removeLink_50 sh_65 (by decide) ⟨by decide, by decide⟩ ?_
    refine go_imul C dX10_removeLink_51 ?_
    refine go_iadd C dX10_removeLink_52 ?_
    obtain ⟨hc10, h⟩ := chk_some h
    refine go_icmp_ge (tgt := 76) C dX10_removeLink_53 rfl hp_v2 hc10 (fun hc11 => ?_) (fun hc11 => ?_)
    · replace h := ite_t hc11 h
      refine go_aload_n C dX10_removeLink_76 rfl rfl ?_
      obtain ⟨q12, h12, h⟩ := ob_some h
      refine go_callV_v C dX10_removeLink_77 (ok_X10_empties C.hl hB h12) mv_X10_71 sh_64 rfl rfl (Nat.le_of_ble_eq_true rfl) ⟨(Nat.le_of_ble_eq_true rfl), (Nat.le_of_ble_eq_true rfl)⟩ ⟨(Nat.le_of_ble_eq_true rfl), (Nat.le_of_ble_eq_true rfl)⟩ (fun hB12 => ?_)
      refine go_aload_n C dX10_removeLink_80 rfl rfl ?_
      refine go_getR (o := 1) (k2 := 65) C dX10_removeLink_81 fl_X10_7 sh_64 rfl rfl ?_
      refine go_iconst C dX10_removeLink_84 ?_
      refine go_iald C dX10_removeLink_85 sh_65 (by decide) ⟨by decide, by decide⟩ ?_
      cases h
      exact go_iret C E rfl dX10_removeLink_86 (Nat.le_of_ble_eq_true rfl) (Nat.le_of_ble_eq_true rfl) rfl rfl hB12
    · replace h := ite_f hc11 h
      refine go_aload_n C dX10_removeLink_56 rfl rfl ?_
      refine go_getR (o := 1) (k2 := 65) C dX10_removeLink_57 fl_X10_7 sh_64 rfl rfl ?_
      refine go_iload_n C dX10_removeLink_60 rfl rfl ?_
      refine go_aload_n C dX10_removeLink_61 rfl rfl ?_
      refine go_getR (o := 1) (k2 := 65) C dX10_removeLink_62 fl_X10_7 sh_64 rfl rfl ?_
      refine go_iload_n C dX10_removeLink_65 rfl rfl ?_
      refine go_iconst C dX10_removeLink_66 ?_
      refine go_iadd C dX10_removeLink_67 ?_
      obtain ⟨hc13, h⟩ := chk_some h
      refine go_iald C dX10_removeLink_68 sh_65 (by decide) hc13 ?_
      obtain ⟨hc14, h⟩ := chk_some h
      refine go_iast C dX10_removeLink_69 sh_65 (by decide) hc14 ?_
      have hB15 := hB.set 65 v2 (x := M 65 (v2 + 3)) (hB 65 (v2 + 3) (by decide))
      refine go_iinc (ls2 := [some (rf G 64), none, some (.int (iI (v2 + 1)))]) C dX10_removeLink_70 rfl (Nat.le_of_ble_eq_true rfl) rfl ?_
      refine go_goto (tgt := 42) C dX10_removeLink_73 rfl ?_
      exact ih (v2 + 1) (mset M 65 v2 (M 65 (v2 + 3))) hB15 h
set_option maxHeartbeats 4000000 in
theorem ok_X10_removeLink {G : gC} {l : Launch} (hl : l.stackTraces = false) {F : Nat} {v1 : Int} {M : Mem} (hB : Bd M) {res : Int × Mem} (h : f_X10_removeLink F v1 M = some res) : Ok G l 2 0 0 yX10_removeLink (.code yX10_removeLink cX10_removeLink 3 (some .int)) [rf G 64, .int (iI v1)] M (.inr (some (.int (iI res.1)))) res.2 := by
  refine ok_of (ls := [some (rf G 64), some (.int (iI v1)), none]) hl (by decide +kernel) (Nat.le_of_ble_eq_true rfl) ⟨rfl, ⟨rfl, trivial⟩⟩ ?_
  intro X hX C E
  subst hX
  rw [f_X10_removeLink] at h
  refine go_aload_n C dX10_removeLink_0 rfl rfl ?_
  refine go_aload_n C dX10_removeLink_1 rfl rfl ?_
  refine go_iload_n C dX10_removeLink_2 rfl rfl ?_
  obtain ⟨q1, h1, h⟩ := ob_some h
  refine go_callV_i C dX10_removeLink_3 (ok_X10_isLink C.hl hB h1) mv_X10_95 sh_64 rfl rfl (Nat.le_of_ble_eq_true rfl) ⟨(Nat.le_of_ble_eq_true rfl), (Nat.le_of_ble_eq_true rfl)⟩ ⟨(Nat.le_of_ble_eq_true rfl), (Nat.le_of_ble_eq_true rfl)⟩ (fun hB1 => ?_)
  obtain ⟨hc2, h⟩ := chk_some h
  refine go_if_eq (tgt := 13) C dX10_removeLink_6 rfl hc2 (fun hc3 => ?_) (fun hc3 => ?_)
  · replace h := ite_t hc3 h
    refine go_iconst C dX10_removeLink_13 ?_
    obtain ⟨q4, h4, h⟩ := ob_some h
    refine go_callV_i C dX10_removeLink_14 (ok_X10_refused C.hl hB1 h4) mv_X10_67 sh_64 rfl rfl (Nat.le_of_ble_eq_true rfl) ⟨(Nat.le_of_ble_eq_true rfl), (Nat.le_of_ble_eq_true rfl)⟩ ⟨(Nat.le_of_ble_eq_true rfl), (Nat.le_of_ble_eq_true rfl)⟩ (fun hB4 => ?_)
    obtain ⟨hc5, h⟩ := chk_some h
    refine go_if_eq (tgt := 22) C dX10_removeLink_17 rfl hc5 (fun hc6 => ?_) (fun hc6 => ?_)
    · replace h := ite_t hc6 h
      refine go_aload_n C dX10_removeLink_22 rfl rfl ?_
      obtain ⟨q7, h7, h⟩ := ob_some h
      refine go_callV_v C dX10_removeLink_23 (ok_X10_saves C.hl hB4 h7) mv_X10_74 sh_64 rfl rfl (Nat.le_of_ble_eq_true rfl) ⟨(Nat.le_of_ble_eq_true rfl), (Nat.le_of_ble_eq_true rfl)⟩ ⟨(Nat.le_of_ble_eq_true rfl), (Nat.le_of_ble_eq_true rfl)⟩ (fun hB7 => ?_)
      refine go_aload_n C dX10_removeLink_26 rfl rfl ?_
      refine go_getR (o := 1) (k2 := 65) C dX10_removeLink_27 fl_X10_7 sh_64 rfl rfl ?_
      refine go_iconst C dX10_removeLink_30 ?_
      refine go_dup2 C dX10_removeLink_31 rfl rfl ?_
      refine go_iald C dX10_removeLink_32 sh_65 (by decide) ⟨by decide, by decide⟩ ?_
      refine go_iconst C dX10_removeLink_33 ?_
      refine go_isub C dX10_removeLink_34 ?_
      obtain ⟨hc8, h⟩ := chk_some h
      refine go_iast C dX10_removeLink_35 sh_65 (by decide) ⟨by decide, by decide⟩ ?_
      have hB9 := hB7.set 65 1 (x := (q7 65 1) - 1) hc8
      refine go_iconst C dX10_removeLink_36 ?_
      refine go_iconst C dX10_removeLink_37 ?_
      refine go_iload_n C dX10_removeLink_38 rfl rfl ?_
      refine go_imul C dX10_removeLink_39 ?_
      refine go_iadd C dX10_removeLink_40 ?_
      refine go_istore_n (ls2 := [some (rf G 64), some (.int (iI v1)), some (.int (iI (2 + (3 * v1))))]) C dX10_removeLink_41 rfl (Nat.le_of_ble_eq_true rfl) rfl ?_
      refine go_weak (ls' := [some (rf G 64), none, some (.int (iI (2 + (3 * v1))))]) ⟨rfl, ⟨rfl, trivial⟩⟩ ?_
      exact w_X10_removeLink_42 C E F (2 + (3 * v1)) (mset q7 65 1 ((q7 65 1) - 1)) hB9 h
    · replace h := ite_f hc6 h
      refine go_iconst C dX10_removeLink_20 ?_
      cases h
      exact go_iret C E rfl dX10_removeLink_21 (Nat.le_of_ble_eq_true rfl) (Nat.le_of_ble_eq_true rfl) rfl rfl hB4
  · replace h := ite_f hc3 h
    refine go_iconst C dX10_removeLink_9 ?_
    refine go_goto (tgt := 14) C dX10_removeLink_10 rfl ?_
    obtain ⟨q16, h16, h⟩ := ob_some h
    refine go_callV_i C dX10_removeLink_14 (ok_X10_refused C.hl hB1 h16) mv_X10_67 sh_64 rfl rfl (Nat.le_of_ble_eq_true rfl) ⟨(Nat.le_of_ble_eq_true rfl), (Nat.le_of_ble_eq_true rfl)⟩ ⟨(Nat.le_of_ble_eq_true rfl), (Nat.le_of_ble_eq_true rfl)⟩ (fun hB16 => ?_)
    obtain ⟨hc17, h⟩ := chk_some h
    refine go_if_eq (tgt := 22) C dX10_removeLink_17 rfl hc17 (fun hc18 => ?_) (fun hc18 => ?_)
    · replace h := ite_t hc18 h
      refine go_aload_n C dX10_removeLink_22 rfl rfl ?_
      obtain ⟨q19, h19, h⟩ := ob_some h
      refine go_callV_v C dX10_removeLink_23 (ok_X10_saves C.hl hB16 h19) mv_X10_74 sh_64 rfl rfl (Nat.le_of_ble_eq_true rfl) ⟨(Nat.le_of_ble_eq_true rfl), (Nat.le_of_ble_eq_true rfl)⟩ ⟨(Nat.le_of_ble_eq_true rfl), (Nat.le_of_ble_eq_true rfl)⟩ (fun hB19 => ?_)
      refine go_aload_n C dX10_removeLink_26 rfl rfl ?_
      refine go_getR (o := 1) (k2 := 65) C dX10_removeLink_27 fl_X10_7 sh_64 rfl rfl ?_
      refine go_iconst C dX10_removeLink_30 ?_
      refine go_dup2 C dX10_removeLink_31 rfl rfl ?_
      refine go_iald C dX10_removeLink_32 sh_65 (by decide) ⟨by decide, by decide⟩ ?_
      refine go_iconst C dX10_removeLink_33 ?_
      refine go_isub C dX10_removeLink_34 ?_
      obtain ⟨hc20, h⟩ := chk_some h
      refine go_iast C dX10_removeLink_35 sh_65 (by decide) ⟨by decide, by decide⟩ ?_
      have hB21 := hB19.set 65 1 (x := (q19 65 1) - 1) hc20
      refine go_iconst C dX10_removeLink_36 ?_
      refine go_iconst C dX10_removeLink_37 ?_
      refine go_iload_n C dX10_removeLink_38 rfl rfl ?_
      refine go_imul C dX10_removeLink_39 ?_
      refine go_iadd C dX10_removeLink_40 ?_
      refine go_istore_n (ls2 := [some (rf G 64), some (.int (iI v1)), some (.int (iI (2 + (3 * v1))))]) C dX10_removeLink_41 rfl (Nat.le_of_ble_eq_true rfl) rfl ?_
      refine go_weak (ls' := [some (rf G 64), none, some (.int (iI (2 + (3 * v1))))]) ⟨rfl, ⟨rfl, trivial⟩⟩ ?_
      exact w_X10_removeLink_42 C E F (2 + (3 * v1)) (mset q19 65 1 ((q19 65 1) - 1)) hB21 h
    · replace h := ite_f hc18 h
      refine go_iconst C dX10_removeLink_20 ?_
      cases h
      exact go_iret C E rfl dX10_removeLink_21 (Nat.le_of_ble_eq_true rfl) (Nat.le_of_ble_eq_true rfl) rfl rfl hB16
-- IntervalRouterModel.setLength(II)I
set_option maxHeartbeats 4000000 in
theorem w_X10_setLength_28 {G : gC} {X : gX} {res : Int × Mem} {F : Nat} (C : Cx G X cX10_setLength 4 RX10 2 0 0 (some .int) []) (E : Fnl G X 0 0 (.inr (some (.int (iI res.1)))) res.2) : ∀ (v1 : Int) (v2 : Int) (t1 : Int) (M : Mem), Bd M → f_X10_setLength_28 F v1 v2 t1 M = some res → Go G X 4 0 0 28 [some (rf G 64), some (.int (iI v1)), some (.int (iI v2)), none] [.int (iI t1), rf G 64] M := by
  intro v1 v2 t1 M hB h
  rw [f_X10_setLength_28] at h
  obtain ⟨hp_v2, h⟩ := chk_some h
  obtain ⟨q7, h7, h⟩ := ob_some h
  refine go_callV_i C dX10_setLength_28 (ok_X10_refused C.hl hB h7) mv_X10_67 sh_64 rfl rfl (Nat.le_of_ble_eq_true rfl) ⟨(Nat.le_of_ble_eq_true rfl), (Nat.le_of_ble_eq_true rfl)⟩ ⟨(Nat.le_of_ble_eq_true rfl), (Nat.le_of_ble_eq_true rfl)⟩ (fun hB7 => ?_)
  obtain ⟨hc8, h⟩ := chk_some h
  refine go_if_eq (tgt := 36) C dX10_setLength_31 rfl hc8 (fun hc9 => ?_) (fun hc9 => ?_)
  · replace h := ite_t hc9 h
    refine go_aload_n C dX10_setLength_36 rfl rfl ?_
    obtain ⟨q10, h10, h⟩ := ob_some h
    refine go_callV_v C dX10_setLength_37 (ok_X10_saves C.hl hB7 h10) mv_X10_74 sh_64 rfl rfl (Nat.le_of_ble_eq_true rfl) ⟨(Nat.le_of_ble_eq_true rfl), (Nat.le_of_ble_eq_true rfl)⟩ ⟨(Nat.le_of_ble_eq_true rfl), (Nat.le_of_ble_eq_true rfl)⟩ (fun hB10 => ?_)
    refine go_aload_n C dX10_setLength_40 rfl rfl ?_
    refine go_iload_n C dX10_setLength_41 rfl rfl ?_
    refine go_iconst C dX10_setLength_42 ?_
    obtain ⟨q11, h11, h⟩ := ob_some h
    refine go_callV_i C dX10_setLength_43 (ok_X10_part C.hl hB10 h11) mv_X10_60 sh_64 rfl rfl (Nat.le_of_ble_eq_true rfl) ⟨(Nat.le_of_ble_eq_true rfl), (Nat.le_of_ble_eq_true rfl)⟩ ⟨(Nat.le_of_ble_eq_true rfl), (Nat.le_of_ble_eq_true rfl)⟩ (fun hB11 => ?_)
    refine go_istore_n (ls2 := [some (rf G 64), some (.int (iI v1)), some (.int (iI v2)), some (.int (iI q11))]) C dX10_setLength_46 rfl (Nat.le_of_ble_eq_true rfl) rfl ?_
    refine go_aload_n C dX10_setLength_47 rfl rfl ?_
    refine go_getR (o := 1) (k2 := 65) C dX10_setLength_48 fl_X10_7 sh_64 rfl rfl ?_
    refine go_iconst C dX10_setLength_51 ?_
    refine go_iconst C dX10_setLength_52 ?_
    refine go_iload_n C dX10_setLength_53 rfl rfl ?_
    refine go_imul C dX10_setLength_54 ?_
    refine go_iadd C dX10_setLength_55 ?_
    refine go_iconst C dX10_setLength_56 ?_
    refine go_iadd C dX10_setLength_57 ?_
    refine go_iload_n C dX10_setLength_58 rfl rfl ?_
    obtain ⟨hc12, h⟩ := chk_some h
    refine go_iast C dX10_setLength_59 sh_65 (by decide) hc12 ?_
    have hB13 := hB11.set 65 ((2 + (3 * v1)) + 2) (x := v2) hp_v2
    refine go_aload_n C dX10_setLength_60 rfl rfl ?_
    obtain ⟨q14, h14, h⟩ := ob_some h
    refine go_callV_v C dX10_setLength_61 (ok_X10_empties C.hl hB13 h14) mv_X10_71 sh_64 rfl rfl (Nat.le_of_ble_eq_true rfl) ⟨(Nat.le_of_ble_eq_true rfl), (Nat.le_of_ble_eq_true rfl)⟩ ⟨(Nat.le_of_ble_eq_true rfl), (Nat.le_of_ble_eq_true rfl)⟩ (fun hB14 => ?_)
    refine go_iload_n C dX10_setLength_64 rfl rfl ?_
    cases h
    exact go_iret C E rfl dX10_setLength_65 (Nat.le_of_ble_eq_true rfl) (Nat.le_of_ble_eq_true rfl) rfl rfl hB14
  · replace h := ite_f hc9 h
    refine go_iconst C dX10_setLength_34 ?_
    cases h
    exact go_iret C E rfl dX10_setLength_35 (Nat.le_of_ble_eq_true rfl) (Nat.le_of_ble_eq_true rfl) rfl rfl hB7
set_option maxHeartbeats 4000000 in
theorem ok_X10_setLength {G : gC} {l : Launch} (hl : l.stackTraces = false) {F : Nat} {v1 : Int} {v2 : Int} {M : Mem} (hB : Bd M) {res : Int × Mem} (h : f_X10_setLength F v1 v2 M = some res) : Ok G l 2 0 0 yX10_setLength (.code yX10_setLength cX10_setLength 4 (some .int)) [rf G 64, .int (iI v1), .int (iI v2)] M (.inr (some (.int (iI res.1)))) res.2 := by
  refine ok_of (ls := [some (rf G 64), some (.int (iI v1)), some (.int (iI v2)), none]) hl (by decide +kernel) (Nat.le_of_ble_eq_true rfl) ⟨rfl, ⟨rfl, ⟨rfl, trivial⟩⟩⟩ ?_
  intro X hX C E
  subst hX
  rw [f_X10_setLength] at h
  refine go_aload_n C dX10_setLength_0 rfl rfl ?_
  refine go_aload_n C dX10_setLength_1 rfl rfl ?_
  refine go_iload_n C dX10_setLength_2 rfl rfl ?_
  obtain ⟨q1, h1, h⟩ := ob_some h
  refine go_callV_i C dX10_setLength_3 (ok_X10_isLink C.hl hB h1) mv_X10_95 sh_64 rfl rfl (Nat.le_of_ble_eq_true rfl) ⟨(Nat.le_of_ble_eq_true rfl), (Nat.le_of_ble_eq_true rfl)⟩ ⟨(Nat.le_of_ble_eq_true rfl), (Nat.le_of_ble_eq_true rfl)⟩ (fun hB1 => ?_)
  obtain ⟨hc2, h⟩ := chk_some h
  refine go_if_ne (tgt := 13) C dX10_setLength_6 rfl hc2 (fun hc3 => ?_) (fun hc3 => ?_)
  · replace h := ite_f hc3 h
    refine go_iload_n C dX10_setLength_13 rfl rfl ?_
    refine go_iconst C dX10_setLength_14 ?_
    refine go_bipush C dX10_setLength_15 (by decide +kernel) ?_
    obtain ⟨q4, h4, h⟩ := ob_some h
    refine go_callS_i C dX10_setLength_17 (ok_X10_within C.hl hB1 h4) ms_X10_56 rfl rfl (Nat.le_of_ble_eq_true rfl) ⟨(Nat.le_of_ble_eq_true rfl), (Nat.le_of_ble_eq_true rfl)⟩ ⟨(Nat.le_of_ble_eq_true rfl), (Nat.le_of_ble_eq_true rfl)⟩ (fun hB4 => ?_)
    obtain ⟨hc5, h⟩ := chk_some h
    refine go_if_eq (tgt := 27) C dX10_setLength_20 rfl hc5 (fun hc6 => ?_) (fun hc6 => ?_)
    · replace h := ite_t hc6 h
      refine go_iconst C dX10_setLength_27 ?_
      exact w_X10_setLength_28 C E v1 v2 2 M hB4 h
    · replace h := ite_f hc6 h
      refine go_iconst C dX10_setLength_23 ?_
      refine go_goto (tgt := 28) C dX10_setLength_24 rfl ?_
      exact w_X10_setLength_28 C E v1 v2 0 M hB4 h
  · replace h := ite_t hc3 h
    refine go_iconst C dX10_setLength_9 ?_
    refine go_goto (tgt := 28) C dX10_setLength_10 rfl ?_
    exact w_X10_setLength_28 C E v1 v2 1 M hB1 h
-- IntervalRouterModel.size(Z)I
set_option maxHeartbeats 4000000 in
theorem ok_X10_size {G : gC} {l : Launch} (hl : l.stackTraces = false) {v1 : Int} {M : Mem} (hB : Bd M) {res : Int × Mem} (h : f_X10_size v1 M = some res) : Ok G l 0 0 0 yX10_size (.code yX10_size cX10_size 2 (some .int)) [rf G 64, .int (iI v1)] M (.inr (some (.int (iI res.1)))) res.2 := by
  refine ok_of (ls := [some (rf G 64), some (.int (iI v1))]) hl (by decide +kernel) (Nat.le_of_ble_eq_true rfl) ⟨rfl, ⟨rfl, trivial⟩⟩ ?_
  intro X hX C E
  subst hX
  rw [f_X10_size] at h
  obtain ⟨hp_v1, h⟩ := chk_some h
  refine go_aload_n C dX10_size_0 rfl rfl ?_
  refine go_iconst C dX10_size_1 ?_
  refine go_putI (z := 3) C dX10_size_2 fp_X10_52 sh_64 rfl rfl rfl rfl ?_
  have hB1 := hB.set 64 3 (x := 0) (by decide)
  refine go_iload_n C dX10_size_5 rfl rfl ?_
  refine go_if_eq (tgt := 18) C dX10_size_6 rfl hp_v1 (fun hc2 => ?_) (fun hc2 => ?_)
  · replace h := ite_t hc2 h
    refine go_aload_n C dX10_size_18 rfl rfl ?_
    refine go_getR (o := 1) (k2 := 65) C dX10_size_19 fl_X10_7 sh_64 rfl rfl ?_
    refine go_iconst C dX10_size_22 ?_
    refine go_iald C dX10_size_23 sh_65 (by decide) ⟨by decide, by decide⟩ ?_
    cases h
    exact go_iret C E rfl dX10_size_24 (Nat.le_of_ble_eq_true rfl) (Nat.le_of_ble_eq_true rfl) rfl rfl hB1
  · replace h := ite_f hc2 h
    refine go_aload_n C dX10_size_9 rfl rfl ?_
    refine go_getR (o := 1) (k2 := 65) C dX10_size_10 fl_X10_7 sh_64 rfl rfl ?_
    refine go_iconst C dX10_size_13 ?_
    refine go_iald C dX10_size_14 sh_65 (by decide) ⟨by decide, by decide⟩ ?_
    refine go_goto (tgt := 24) C dX10_size_15 rfl ?_
    cases h
    exact go_iret C E rfl dX10_size_24 (Nat.le_of_ble_eq_true rfl) (Nat.le_of_ble_eq_true rfl) rfl rfl hB1
-- IntervalRouterModel.link(II)I
set_option maxHeartbeats 4000000 in
theorem ok_X10_link {G : gC} {l : Launch} (hl : l.stackTraces = false) {v1 : Int} {v2 : Int} {M : Mem} (hB : Bd M) {res : Int × Mem} (h : f_X10_link v1 v2 M = some res) : Ok G l 2 0 0 yX10_link (.code yX10_link cX10_link 3 (some .int)) [rf G 64, .int (iI v1), .int (iI v2)] M (.inr (some (.int (iI res.1)))) res.2 := by
  refine ok_of (ls := [some (rf G 64), some (.int (iI v1)), some (.int (iI v2))]) hl (by decide +kernel) (Nat.le_of_ble_eq_true rfl) ⟨rfl, ⟨rfl, ⟨rfl, trivial⟩⟩⟩ ?_
  intro X hX C E
  subst hX
  rw [f_X10_link] at h
  refine go_aload_n C dX10_link_0 rfl rfl ?_
  refine go_aload_n C dX10_link_1 rfl rfl ?_
  refine go_iload_n C dX10_link_2 rfl rfl ?_
  obtain ⟨q1, h1, h⟩ := ob_some h
  refine go_callV_i C dX10_link_3 (ok_X10_isLink C.hl hB h1) mv_X10_95 sh_64 rfl rfl (Nat.le_of_ble_eq_true rfl) ⟨(Nat.le_of_ble_eq_true rfl), (Nat.le_of_ble_eq_true rfl)⟩ ⟨(Nat.le_of_ble_eq_true rfl), (Nat.le_of_ble_eq_true rfl)⟩ (fun hB1 => ?_)
  obtain ⟨hc2, h⟩ := chk_some h
  refine go_if_ne (tgt := 13) C dX10_link_6 rfl hc2 (fun hc3 => ?_) (fun hc3 => ?_)
  · replace h := ite_f hc3 h
    refine go_iload_n C dX10_link_13 rfl rfl ?_
    refine go_iconst C dX10_link_14 ?_
    refine go_iconst C dX10_link_15 ?_
    obtain ⟨q4, h4, h⟩ := ob_some h
    refine go_callS_i C dX10_link_16 (ok_X10_within C.hl hB1 h4) ms_X10_56 rfl rfl (Nat.le_of_ble_eq_true rfl) ⟨(Nat.le_of_ble_eq_true rfl), (Nat.le_of_ble_eq_true rfl)⟩ ⟨(Nat.le_of_ble_eq_true rfl), (Nat.le_of_ble_eq_true rfl)⟩ (fun hB4 => ?_)
    obtain ⟨hc5, h⟩ := chk_some h
    refine go_if_eq (tgt := 26) C dX10_link_19 rfl hc5 (fun hc6 => ?_) (fun hc6 => ?_)
    · replace h := ite_t hc6 h
      refine go_iconst C dX10_link_26 ?_
      obtain ⟨q7, h7, h⟩ := ob_some h
      refine go_callV_i C dX10_link_27 (ok_X10_refused C.hl hB4 h7) mv_X10_67 sh_64 rfl rfl (Nat.le_of_ble_eq_true rfl) ⟨(Nat.le_of_ble_eq_true rfl), (Nat.le_of_ble_eq_true rfl)⟩ ⟨(Nat.le_of_ble_eq_true rfl), (Nat.le_of_ble_eq_true rfl)⟩ (fun hB7 => ?_)
      obtain ⟨hc8, h⟩ := chk_some h
      refine go_if_eq (tgt := 37) C dX10_link_30 rfl hc8 (fun hc9 => ?_) (fun hc9 => ?_)
      · replace h := ite_t hc9 h
        refine go_aload_n C dX10_link_37 rfl rfl ?_
        refine go_iload_n C dX10_link_38 rfl rfl ?_
        refine go_iload_n C dX10_link_39 rfl rfl ?_
        obtain ⟨q10, h10, h⟩ := ob_some h
        refine go_callV_i C dX10_link_40 (ok_X10_part C.hl hB7 h10) mv_X10_60 sh_64 rfl rfl (Nat.le_of_ble_eq_true rfl) ⟨(Nat.le_of_ble_eq_true rfl), (Nat.le_of_ble_eq_true rfl)⟩ ⟨(Nat.le_of_ble_eq_true rfl), (Nat.le_of_ble_eq_true rfl)⟩ (fun hB10 => ?_)
        cases h
        exact go_iret C E rfl dX10_link_43 (Nat.le_of_ble_eq_true rfl) (Nat.le_of_ble_eq_true rfl) rfl rfl hB10
      · replace h := ite_f hc9 h
        refine go_iconst C dX10_link_33 ?_
        refine go_goto (tgt := 43) C dX10_link_34 rfl ?_
        cases h
        exact go_iret C E rfl dX10_link_43 (Nat.le_of_ble_eq_true rfl) (Nat.le_of_ble_eq_true rfl) rfl rfl hB7
    · replace h := ite_f hc6 h
      refine go_iconst C dX10_link_22 ?_
      refine go_goto (tgt := 27) C dX10_link_23 rfl ?_
      obtain ⟨q11, h11, h⟩ := ob_some h
      refine go_callV_i C dX10_link_27 (ok_X10_refused C.hl hB4 h11) mv_X10_67 sh_64 rfl rfl (Nat.le_of_ble_eq_true rfl) ⟨(Nat.le_of_ble_eq_true rfl), (Nat.le_of_ble_eq_true rfl)⟩ ⟨(Nat.le_of_ble_eq_true rfl), (Nat.le_of_ble_eq_true rfl)⟩ (fun hB11 => ?_)
      obtain ⟨hc12, h⟩ := chk_some h
      refine go_if_eq (tgt := 37) C dX10_link_30 rfl hc12 (fun hc13 => ?_) (fun hc13 => ?_)
      · replace h := ite_t hc13 h
        refine go_aload_n C dX10_link_37 rfl rfl ?_
        refine go_iload_n C dX10_link_38 rfl rfl ?_
        refine go_iload_n C dX10_link_39 rfl rfl ?_
        obtain ⟨q14, h14, h⟩ := ob_some h
        refine go_callV_i C dX10_link_40 (ok_X10_part C.hl hB11 h14) mv_X10_60 sh_64 rfl rfl (Nat.le_of_ble_eq_true rfl) ⟨(Nat.le_of_ble_eq_true rfl), (Nat.le_of_ble_eq_true rfl)⟩ ⟨(Nat.le_of_ble_eq_true rfl), (Nat.le_of_ble_eq_true rfl)⟩ (fun hB14 => ?_)
        cases h
        exact go_iret C E rfl dX10_link_43 (Nat.le_of_ble_eq_true rfl) (Nat.le_of_ble_eq_true rfl) rfl rfl hB14
      · replace h := ite_f hc13 h
        refine go_iconst C dX10_link_33 ?_
        refine go_goto (tgt := 43) C dX10_link_34 rfl ?_
        cases h
        exact go_iret C E rfl dX10_link_43 (Nat.le_of_ble_eq_true rfl) (Nat.le_of_ble_eq_true rfl) rfl rfl hB11
  · replace h := ite_t hc3 h
    refine go_iconst C dX10_link_9 ?_
    refine go_goto (tgt := 27) C dX10_link_10 rfl ?_
    obtain ⟨q15, h15, h⟩ := ob_some h
    refine go_callV_i C dX10_link_27 (ok_X10_refused C.hl hB1 h15) mv_X10_67 sh_64 rfl rfl (Nat.le_of_ble_eq_true rfl) ⟨(Nat.le_of_ble_eq_true rfl), (Nat.le_of_ble_eq_true rfl)⟩ ⟨(Nat.le_of_ble_eq_true rfl), (Nat.le_of_ble_eq_true rfl)⟩ (fun hB15 => ?_)
    obtain ⟨hc16, h⟩ := chk_some h
    refine go_if_eq (tgt := 37) C dX10_link_30 rfl hc16 (fun hc17 => ?_) (fun hc17 => ?_)
    · replace h := ite_t hc17 h
      refine go_aload_n C dX10_link_37 rfl rfl ?_
      refine go_iload_n C dX10_link_38 rfl rfl ?_
      refine go_iload_n C dX10_link_39 rfl rfl ?_
      obtain ⟨q18, h18, h⟩ := ob_some h
      refine go_callV_i C dX10_link_40 (ok_X10_part C.hl hB15 h18) mv_X10_60 sh_64 rfl rfl (Nat.le_of_ble_eq_true rfl) ⟨(Nat.le_of_ble_eq_true rfl), (Nat.le_of_ble_eq_true rfl)⟩ ⟨(Nat.le_of_ble_eq_true rfl), (Nat.le_of_ble_eq_true rfl)⟩ (fun hB18 => ?_)
      cases h
      exact go_iret C E rfl dX10_link_43 (Nat.le_of_ble_eq_true rfl) (Nat.le_of_ble_eq_true rfl) rfl rfl hB18
    · replace h := ite_f hc17 h
      refine go_iconst C dX10_link_33 ?_
      refine go_goto (tgt := 43) C dX10_link_34 rfl ?_
      cases h
      exact go_iret C E rfl dX10_link_43 (Nat.le_of_ble_eq_true rfl) (Nat.le_of_ble_eq_true rfl) rfl rfl hB15
-- IntervalRouterModel.eases(III)Z
set_option maxHeartbeats 4000000 in
theorem ok_X10_eases {G : gC} {l : Launch} (hl : l.stackTraces = false) {v1 : Int} {v2 : Int} {v3 : Int} {M : Mem} (hB : Bd M) {res : Int × Mem} (h : f_X10_eases v1 v2 v3 M = some res) : Ok G l 0 0 0 yX10_eases (.code yX10_eases cX10_eases 5 (some .boolean)) [rf G 64, .int (iI v1), .int (iI v2), .int (iI v3)] M (.inr (some (.int (iI res.1)))) res.2 := by
  refine ok_of (ls := [some (rf G 64), some (.int (iI v1)), some (.int (iI v2)), some (.int (iI v3)), none]) hl (by decide +kernel) (Nat.le_of_ble_eq_true rfl) ⟨rfl, ⟨rfl, ⟨rfl, ⟨rfl, trivial⟩⟩⟩⟩ ?_
  intro X hX C E
  subst hX
  rw [f_X10_eases] at h
  refine go_aload_n C dX10_eases_0 rfl rfl ?_
  refine go_getR (o := 4) (k2 := 68) C dX10_eases_1 fl_X10_19 sh_64 rfl rfl ?_
  refine go_iload_n C dX10_eases_4 rfl rfl ?_
  obtain ⟨hc1, h⟩ := chk_some h
  refine go_iald C dX10_eases_5 sh_68 (by decide) hc1 ?_
  refine go_iload_n C dX10_eases_6 rfl rfl ?_
  refine go_iadd C dX10_eases_7 ?_
  refine go_aload_n C dX10_eases_8 rfl rfl ?_
  refine go_getR (o := 4) (k2 := 68) C dX10_eases_9 fl_X10_19 sh_64 rfl rfl ?_
  refine go_iload_n C dX10_eases_12 rfl rfl ?_
  obtain ⟨hc2, h⟩ := chk_some h
  refine go_iald C dX10_eases_13 sh_68 (by decide) hc2 ?_
  obtain ⟨hc3, h⟩ := chk_some h
  refine go_icmp_ge (tgt := 21) C dX10_eases_14 rfl hc3 (hB 68 v2 (by decide)) (fun hc4 => ?_) (fun hc4 => ?_)
  · replace h := ite_t hc4 h
    refine go_iconst C dX10_eases_21 ?_
    refine go_istore (ls2 := [some (rf G 64), some (.int (iI v1)), some (.int (iI v2)), some (.int (iI v3)), some (.int (iI 0))]) C dX10_eases_22 (Nat.le_of_ble_eq_true rfl) rfl ?_
    refine go_aload_n C dX10_eases_24 rfl rfl ?_
    refine go_getR (o := 4) (k2 := 68) C dX10_eases_25 fl_X10_19 sh_64 rfl rfl ?_
    refine go_iload_n C dX10_eases_28 rfl rfl ?_
    refine go_iload C dX10_eases_29 rfl ?_
    refine go_if_eq (tgt := 45) C dX10_eases_31 rfl (by decide) (fun hc5 => ?_) (fun hc5 => ?_)
    · refine go_aload_n C dX10_eases_45 rfl rfl ?_
      refine go_getR (o := 4) (k2 := 68) C dX10_eases_46 fl_X10_19 sh_64 rfl rfl ?_
      refine go_iload_n C dX10_eases_49 rfl rfl ?_
      refine go_iald C dX10_eases_50 sh_68 (by decide) hc2 ?_
      refine go_iast C dX10_eases_51 sh_68 (by decide) hc2 ?_
      have hB6 := hB.set 68 v2 (x := M 68 v2) (hB 68 v2 (by decide))
      refine go_iload C dX10_eases_52 rfl ?_
      cases h
      exact go_zret C E rfl dX10_eases_54 (by decide) (Nat.le_of_ble_eq_true rfl) (Nat.le_of_ble_eq_true rfl) rfl rfl hB6
    · exact absurd hc5 (by decide)
  · replace h := ite_f hc4 h
    refine go_iconst C dX10_eases_17 ?_
    refine go_goto (tgt := 22) C dX10_eases_18 rfl ?_
    refine go_istore (ls2 := [some (rf G 64), some (.int (iI v1)), some (.int (iI v2)), some (.int (iI v3)), some (.int (iI 1))]) C dX10_eases_22 (Nat.le_of_ble_eq_true rfl) rfl ?_
    refine go_aload_n C dX10_eases_24 rfl rfl ?_
    refine go_getR (o := 4) (k2 := 68) C dX10_eases_25 fl_X10_19 sh_64 rfl rfl ?_
    refine go_iload_n C dX10_eases_28 rfl rfl ?_
    refine go_iload C dX10_eases_29 rfl ?_
    refine go_if_eq (tgt := 45) C dX10_eases_31 rfl (by decide) (fun hc7 => ?_) (fun hc7 => ?_)
    · exact absurd hc7 (by decide)
    · refine go_aload_n C dX10_eases_34 rfl rfl ?_
      refine go_getR (o := 4) (k2 := 68) C dX10_eases_35 fl_X10_19 sh_64 rfl rfl ?_
      refine go_iload_n C dX10_eases_38 rfl rfl ?_
      refine go_iald C dX10_eases_39 sh_68 (by decide) hc1 ?_
      refine go_iload_n C dX10_eases_40 rfl rfl ?_
      refine go_iadd C dX10_eases_41 ?_
      refine go_goto (tgt := 51) C dX10_eases_42 rfl ?_
      refine go_iast C dX10_eases_51 sh_68 (by decide) hc2 ?_
      have hB8 := hB.set 68 v2 (x := (M 68 v1) + v3) hc3
      refine go_iload C dX10_eases_52 rfl ?_
      cases h
      exact go_zret C E rfl dX10_eases_54 (by decide) (Nat.le_of_ble_eq_true rfl) (Nat.le_of_ble_eq_true rfl) rfl rfl hB8
-- IntervalRouterModel.laysFar()V
set_option maxHeartbeats 4000000 in
theorem w_X10_laysFar_114 {G : gC} {X : gX} {res : Mem} {F : Nat} (C : Cx G X cX10_laysFar 4 RX10 1 0 0 none []) (E : Fnl G X 0 0 (.inr none) res) {k60 : Int → Int → Int → Mem → Option (Mem)} (hk60 : ∀ (v1 : Int) (v2 : Int) (v3 : Int) (M : Mem), Bd M → k60 v1 v2 v3 M = some res → Go G X 4 0 0 60 [some (rf G 64), some (.int (iI v1)), some (.int (iI v2)), some (.int (iI v3))] [] M) : ∀ (v2 : Int) (v3 : Int) (t0 : Int) (M : Mem), Bd M → f_X10_laysFar_114 F k60 v2 v3 t0 M = some res → Go G X 4 0 0 114 [some (rf G 64), none, some (.int (iI v2)), some (.int (iI v3))] [.int (iI t0)] M := by
  intro v2 v3 t0 M hB h
  rw [f_X10_laysFar_114] at h
  obtain ⟨hp_t0, h⟩ := chk_some h
  refine go_istore_n (ls2 := [some (rf G 64), some (.int (iI t0)), some (.int (iI v2)), some (.int (iI v3))]) C dX10_laysFar_114 rfl (Nat.le_of_ble_eq_true rfl) rfl ?_
  refine go_aload_n C dX10_laysFar_115 rfl rfl ?_
  refine go_bipush C dX10_laysFar_116 (by decide +kernel) ?_
  refine go_iload_n C dX10_laysFar_118 rfl rfl ?_
  refine go_imul C dX10_laysFar_119 ?_
  refine go_aload_n C dX10_laysFar_120 rfl rfl ?_
  refine go_iload_n C dX10_laysFar_121 rfl rfl ?_
  refine go_iconst C dX10_laysFar_122 ?_
  obtain ⟨q11, h11, h⟩ := ob_some h
  refine go_callV_i C dX10_laysFar_123 (ok_X10_part C.hl hB h11) mv_X10_60 sh_64 rfl rfl (Nat.le_of_ble_eq_true rfl) ⟨(Nat.le_of_ble_eq_true rfl), (Nat.le_of_ble_eq_true rfl)⟩ ⟨(Nat.le_of_ble_eq_true rfl), (Nat.le_of_ble_eq_true rfl)⟩ (fun hB11 => ?_)
  refine go_iadd C dX10_laysFar_126 ?_
  refine go_bipush C dX10_laysFar_127 (by decide +kernel) ?_
  refine go_iload_n C dX10_laysFar_129 rfl rfl ?_
  refine go_imul C dX10_laysFar_130 ?_
  refine go_aload_n C dX10_laysFar_131 rfl rfl ?_
  refine go_iload_n C dX10_laysFar_132 rfl rfl ?_
  refine go_iconst C dX10_laysFar_133 ?_
  obtain ⟨q12, h12, h⟩ := ob_some h
  refine go_callV_i C dX10_laysFar_134 (ok_X10_part C.hl hB11 h12) mv_X10_60 sh_64 rfl rfl (Nat.le_of_ble_eq_true rfl) ⟨(Nat.le_of_ble_eq_true rfl), (Nat.le_of_ble_eq_true rfl)⟩ ⟨(Nat.le_of_ble_eq_true rfl), (Nat.le_of_ble_eq_true rfl)⟩ (fun hB12 => ?_)
  refine go_iadd C dX10_laysFar_137 ?_
  refine go_aload_n C dX10_laysFar_138 rfl rfl ?_
  refine go_iload_n C dX10_laysFar_139 rfl rfl ?_
  refine go_iconst C dX10_laysFar_140 ?_
  obtain ⟨q13, h13, h⟩ := ob_some h
  refine go_callV_i C dX10_laysFar_141 (ok_X10_part C.hl hB12 h13) mv_X10_60 sh_64 rfl rfl (Nat.le_of_ble_eq_true rfl) ⟨(Nat.le_of_ble_eq_true rfl), (Nat.le_of_ble_eq_true rfl)⟩ ⟨(Nat.le_of_ble_eq_true rfl), (Nat.le_of_ble_eq_true rfl)⟩ (fun hB13 => ?_)
  obtain ⟨q14, h14, h⟩ := ob_some h
  refine go_callV_i C dX10_laysFar_144 (ok_X10_eases C.hl hB13 h14) mv_X10_98 sh_64 rfl rfl (Nat.le_of_ble_eq_true rfl) ⟨(Nat.le_of_ble_eq_true rfl), (Nat.le_of_ble_eq_true rfl)⟩ ⟨(Nat.le_of_ble_eq_true rfl), (Nat.le_of_ble_eq_true rfl)⟩ (fun hB14 => ?_)
  obtain ⟨hc15, h⟩ := chk_some h
  refine go_if_ne (tgt := 154) C dX10_laysFar_147 rfl hc15 (fun hc16 => ?_) (fun hc16 => ?_)
  · replace h := ite_f hc16 h
    refine go_iconst C dX10_laysFar_154 ?_
    refine go_goto (tgt := 159) C dX10_laysFar_155 rfl ?_
    refine go_istore_n (ls2 := [some (rf G 64), some (.int (iI 1)), some (.int (iI v2)), some (.int (iI v3))]) C dX10_laysFar_159 rfl (Nat.le_of_ble_eq_true rfl) rfl ?_
    refine go_iinc (ls2 := [some (rf G 64), some (.int (iI 1)), some (.int (iI v2)), some (.int (iI (v3 + 1)))]) C dX10_laysFar_160 rfl (Nat.le_of_ble_eq_true rfl) rfl ?_
    refine go_goto (tgt := 60) C dX10_laysFar_163 rfl ?_
    exact hk60 1 v2 (v3 + 1) q14.2 hB14 h
  · replace h := ite_t hc16 h
    refine go_iload_n C dX10_laysFar_150 rfl rfl ?_
    refine go_if_eq (tgt := 158) C dX10_laysFar_151 rfl hp_t0 (fun hc17 => ?_) (fun hc17 => ?_)
    · replace h := ite_t hc17 h
      refine go_iconst C dX10_laysFar_158 ?_
      refine go_istore_n (ls2 := [some (rf G 64), some (.int (iI 0)), some (.int (iI v2)), some (.int (iI v3))]) C dX10_laysFar_159 rfl (Nat.le_of_ble_eq_true rfl) rfl ?_
      refine go_iinc (ls2 := [some (rf G 64), some (.int (iI 0)), some (.int (iI v2)), some (.int (iI (v3 + 1)))]) C dX10_laysFar_160 rfl (Nat.le_of_ble_eq_true rfl) rfl ?_
      refine go_goto (tgt := 60) C dX10_laysFar_163 rfl ?_
      exact hk60 0 v2 (v3 + 1) q14.2 hB14 h
    · replace h := ite_f hc17 h
      refine go_iconst C dX10_laysFar_154 ?_
      refine go_goto (tgt := 159) C dX10_laysFar_155 rfl ?_
      refine go_istore_n (ls2 := [some (rf G 64), some (.int (iI 1)), some (.int (iI v2)), some (.int (iI v3))]) C dX10_laysFar_159 rfl (Nat.le_of_ble_eq_true rfl) rfl ?_
      refine go_iinc (ls2 := [some (rf G 64), some (.int (iI 1)), some (.int (iI v2)), some (.int (iI (v3 + 1)))]) C dX10_laysFar_160 rfl (Nat.le_of_ble_eq_true rfl) rfl ?_
      refine go_goto (tgt := 60) C dX10_laysFar_163 rfl ?_
      exact hk60 1 v2 (v3 + 1) q14.2 hB14 h
set_option maxHeartbeats 4000000 in
theorem w_X10_laysFar_60 {G : gC} {X : gX} {res : Mem} {F : Nat} (C : Cx G X cX10_laysFar 4 RX10 1 0 0 none []) (E : Fnl G X 0 0 (.inr none) res) {k48 : Int → Int → Mem → Option (Mem)} (hk48 : ∀ (v1 : Int) (v2 : Int) (M : Mem), Bd M → k48 v1 v2 M = some res → Go G X 4 0 0 48 [some (rf G 64), some (.int (iI v1)), some (.int (iI v2)), none] [] M) : ∀ (fu : Nat) (v1 : Int) (v2 : Int) (v3 : Int) (M : Mem), Bd M → f_X10_laysFar_60 F k48 fu v1 v2 v3 M = some res → Go G X 4 0 0 60 [some (rf G 64), some (.int (iI v1)), some (.int (iI v2)), some (.int (iI v3))] [] M := by
  intro fu
  induction fu with
  | zero => intro v1 v2 v3 M hB h; exact nomatch (show (none : Option (Mem)) = some res from h)
  | succ fu ih =>
    intro v1 v2 v3 M hB h
    rw [f_X10_laysFar_60] at h
    obtain ⟨⟨hp_v1, hp_v3⟩, h⟩ := chk_some h
    refine go_iload_n C dX10_laysFar_60 rfl rfl ?_
    refine go_aload_n C dX10_laysFar_61 rfl rfl ?_
    refine go_getR (o := 1) (k2 := 65) C dX10_laysFar_62 fl_X10_7 sh_64 rfl rfl ?_
    refine go_iconst C dX10_laysFar_65 ?_
    refine go_iald C dX10_laysFar_66 sh_65 (by decide) ⟨by decide, by decide⟩ ?_
    refine go_icmp_ge (tgt := 166) C dX10_laysFar_67 rfl hp_v3 (hB 65 0 (by decide)) (fun hc4 => ?_) (fun hc4 => ?_)
    · replace h := ite_t hc4 h
      refine go_iinc (ls2 := [some (rf G 64), some (.int (iI v1)), some (.int (iI (v2 + 1))), some (.int (iI v3))]) C dX10_laysFar_166 rfl (Nat.le_of_ble_eq_true rfl) rfl ?_
      refine go_goto (tgt := 48) C dX10_laysFar_169 rfl ?_
      refine go_weak (ls' := [some (rf G 64), some (.int (iI v1)), some (.int (iI (v2 + 1))), none]) ⟨rfl, ⟨rfl, ⟨rfl, trivial⟩⟩⟩ ?_
      exact hk48 v1 (v2 + 1) M hB h
    · replace h := ite_f hc4 h
      refine go_aload_n C dX10_laysFar_70 rfl rfl ?_
      refine go_bipush C dX10_laysFar_71 (by decide +kernel) ?_
      refine go_iload_n C dX10_laysFar_73 rfl rfl ?_
      refine go_imul C dX10_laysFar_74 ?_
      refine go_aload_n C dX10_laysFar_75 rfl rfl ?_
      refine go_iload_n C dX10_laysFar_76 rfl rfl ?_
      refine go_iconst C dX10_laysFar_77 ?_
      obtain ⟨q5, h5, h⟩ := ob_some h
      refine go_callV_i C dX10_laysFar_78 (ok_X10_part C.hl hB h5) mv_X10_60 sh_64 rfl rfl (Nat.le_of_ble_eq_true rfl) ⟨(Nat.le_of_ble_eq_true rfl), (Nat.le_of_ble_eq_true rfl)⟩ ⟨(Nat.le_of_ble_eq_true rfl), (Nat.le_of_ble_eq_true rfl)⟩ (fun hB5 => ?_)
      refine go_iadd C dX10_laysFar_81 ?_
      refine go_bipush C dX10_laysFar_82 (by decide +kernel) ?_
      refine go_iload_n C dX10_laysFar_84 rfl rfl ?_
      refine go_imul C dX10_laysFar_85 ?_
      refine go_aload_n C dX10_laysFar_86 rfl rfl ?_
      refine go_iload_n C dX10_laysFar_87 rfl rfl ?_
      refine go_iconst C dX10_laysFar_88 ?_
      obtain ⟨q6, h6, h⟩ := ob_some h
      refine go_callV_i C dX10_laysFar_89 (ok_X10_part C.hl hB5 h6) mv_X10_60 sh_64 rfl rfl (Nat.le_of_ble_eq_true rfl) ⟨(Nat.le_of_ble_eq_true rfl), (Nat.le_of_ble_eq_true rfl)⟩ ⟨(Nat.le_of_ble_eq_true rfl), (Nat.le_of_ble_eq_true rfl)⟩ (fun hB6 => ?_)
      refine go_iadd C dX10_laysFar_92 ?_
      refine go_aload_n C dX10_laysFar_93 rfl rfl ?_
      refine go_iload_n C dX10_laysFar_94 rfl rfl ?_
      refine go_iconst C dX10_laysFar_95 ?_
      obtain ⟨q7, h7, h⟩ := ob_some h
      refine go_callV_i C dX10_laysFar_96 (ok_X10_part C.hl hB6 h7) mv_X10_60 sh_64 rfl rfl (Nat.le_of_ble_eq_true rfl) ⟨(Nat.le_of_ble_eq_true rfl), (Nat.le_of_ble_eq_true rfl)⟩ ⟨(Nat.le_of_ble_eq_true rfl), (Nat.le_of_ble_eq_true rfl)⟩ (fun hB7 => ?_)
      obtain ⟨q8, h8, h⟩ := ob_some h
      refine go_callV_i C dX10_laysFar_99 (ok_X10_eases C.hl hB7 h8) mv_X10_98 sh_64 rfl rfl (Nat.le_of_ble_eq_true rfl) ⟨(Nat.le_of_ble_eq_true rfl), (Nat.le_of_ble_eq_true rfl)⟩ ⟨(Nat.le_of_ble_eq_true rfl), (Nat.le_of_ble_eq_true rfl)⟩ (fun hB8 => ?_)
      obtain ⟨hc9, h⟩ := chk_some h
      refine go_if_ne (tgt := 109) C dX10_laysFar_102 rfl hc9 (fun hc10 => ?_) (fun hc10 => ?_)
      · replace h := ite_f hc10 h
        refine go_iconst C dX10_laysFar_109 ?_
        refine go_goto (tgt := 114) C dX10_laysFar_110 rfl ?_
        refine go_weak (ls' := [some (rf G 64), none, some (.int (iI v2)), some (.int (iI v3))]) ⟨rfl, ⟨rfl, ⟨rfl, trivial⟩⟩⟩ ?_
        exact w_X10_laysFar_114 C E ih v2 v3 1 q8.2 hB8 h
      · replace h := ite_t hc10 h
        refine go_iload_n C dX10_laysFar_105 rfl rfl ?_
        refine go_if_eq (tgt := 113) C dX10_laysFar_106 rfl hp_v1 (fun hc18 => ?_) (fun hc18 => ?_)
        · replace h := ite_t hc18 h
          refine go_iconst C dX10_laysFar_113 ?_
          refine go_weak (ls' := [some (rf G 64), none, some (.int (iI v2)), some (.int (iI v3))]) ⟨rfl, ⟨rfl, ⟨rfl, trivial⟩⟩⟩ ?_
          exact w_X10_laysFar_114 C E ih v2 v3 0 q8.2 hB8 h
        · replace h := ite_f hc18 h
          refine go_iconst C dX10_laysFar_109 ?_
          refine go_goto (tgt := 114) C dX10_laysFar_110 rfl ?_
          refine go_weak (ls' := [some (rf G 64), none, some (.int (iI v2)), some (.int (iI v3))]) ⟨rfl, ⟨rfl, ⟨rfl, trivial⟩⟩⟩ ?_
          exact w_X10_laysFar_114 C E ih v2 v3 1 q8.2 hB8 h
set_option maxHeartbeats 4000000 in
theorem w_X10_laysFar_48 {G : gC} {X : gX} {res : Mem} {F : Nat} (C : Cx G X cX10_laysFar 4 RX10 1 0 0 none []) (E : Fnl G X 0 0 (.inr none) res) {k40 : Int → Mem → Option (Mem)} (hk40 : ∀ (v1 : Int) (M : Mem), Bd M → k40 v1 M = some res → Go G X 4 0 0 40 [some (rf G 64), some (.int (iI v1)), none, none] [] M) : ∀ (fu : Nat) (v1 : Int) (v2 : Int) (M : Mem), Bd M → f_X10_laysFar_48 F k40 fu v1 v2 M = some res → Go G X 4 0 0 48 [some (rf G 64), some (.int (iI v1)), some (.int (iI v2)), none] [] M := by
  intro fu
  induction fu with
  | zero => intro v1 v2 M hB h; exact nomatch (show (none : Option (Mem)) = some res from h)
  | succ fu ih =>
    intro v1 v2 M hB h
    rw [f_X10_laysFar_48] at h
    obtain ⟨hp_v2, h⟩ := chk_some h
    refine go_iload_n C dX10_laysFar_48 rfl rfl ?_
    refine go_aload_n C dX10_laysFar_49 rfl rfl ?_
    refine go_getR (o := 1) (k2 := 65) C dX10_laysFar_50 fl_X10_7 sh_64 rfl rfl ?_
    refine go_iconst C dX10_laysFar_53 ?_
    refine go_iald C dX10_laysFar_54 sh_65 (by decide) ⟨by decide, by decide⟩ ?_
    refine go_icmp_ge (tgt := 172) C dX10_laysFar_55 rfl hp_v2 (hB 65 1 (by decide)) (fun hc3 => ?_) (fun hc3 => ?_)
    · replace h := ite_t hc3 h
      refine go_goto (tgt := 40) C dX10_laysFar_172 rfl ?_
      refine go_weak (ls' := [some (rf G 64), some (.int (iI v1)), none, none]) ⟨rfl, ⟨rfl, trivial⟩⟩ ?_
      exact hk40 v1 M hB h
    · replace h := ite_f hc3 h
      refine go_iconst C dX10_laysFar_58 ?_
      refine go_istore_n (ls2 := [some (rf G 64), some (.int (iI v1)), some (.int (iI v2)), some (.int (iI 0))]) C dX10_laysFar_59 rfl (Nat.le_of_ble_eq_true rfl) rfl ?_
      exact w_X10_laysFar_60 C E ih F v1 v2 0 M hB h
set_option maxHeartbeats 4000000 in
theorem w_X10_laysFar_40 {G : gC} {X : gX} {res : Mem} {F : Nat} (C : Cx G X cX10_laysFar 4 RX10 1 0 0 none []) (E : Fnl G X 0 0 (.inr none) res) : ∀ (fu : Nat) (v1 : Int) (M : Mem), Bd M → f_X10_laysFar_40 F fu v1 M = some res → Go G X 4 0 0 40 [some (rf G 64), some (.int (iI v1)), none, none] [] M := by
  intro fu
  induction fu with
  | zero => intro v1 M hB h; exact nomatch (show (none : Option (Mem)) = some res from h)
  | succ fu ih =>
    intro v1 M hB h
    rw [f_X10_laysFar_40] at h
    obtain ⟨hp_v1, h⟩ := chk_some h
    refine go_iload_n C dX10_laysFar_40 rfl rfl ?_
    refine go_if_eq (tgt := 175) C dX10_laysFar_41 rfl hp_v1 (fun hc2 => ?_) (fun hc2 => ?_)
    · replace h := ite_t hc2 h
      cases h
      exact go_vret C E rfl dX10_laysFar_175 (Nat.le_of_ble_eq_true rfl) (Nat.le_of_ble_eq_true rfl) rfl rfl hB
    · replace h := ite_f hc2 h
      refine go_iconst C dX10_laysFar_44 ?_
      refine go_istore_n (ls2 := [some (rf G 64), some (.int (iI 0)), none, none]) C dX10_laysFar_45 rfl (Nat.le_of_ble_eq_true rfl) rfl ?_
      refine go_iconst C dX10_laysFar_46 ?_
      refine go_istore_n (ls2 := [some (rf G 64), some (.int (iI 0)), some (.int (iI 0)), none]) C dX10_laysFar_47 rfl (Nat.le_of_ble_eq_true rfl) rfl ?_
      exact w_X10_laysFar_48 C E ih F 0 0 M hB h
set_option maxHeartbeats 4000000 in
theorem w_X10_laysFar_2 {G : gC} {X : gX} {res : Mem} {F : Nat} (C : Cx G X cX10_laysFar 4 RX10 1 0 0 none []) (E : Fnl G X 0 0 (.inr none) res) : ∀ (fu : Nat) (v1 : Int) (M : Mem), Bd M → f_X10_laysFar_2 F fu v1 M = some res → Go G X 4 0 0 2 [some (rf G 64), some (.int (iI v1)), none, none] [] M := by
  intro fu
  induction fu with
  | zero => intro v1 M hB h; exact nomatch (show (none : Option (Mem)) = some res from h)
  | succ fu ih =>
    intro v1 M hB h
    rw [f_X10_laysFar_2] at h
    obtain ⟨hp_v1, h⟩ := chk_some h
    refine go_iload_n C dX10_laysFar_2 rfl rfl ?_
    refine go_bipush C dX10_laysFar_3 (by decide +kernel) ?_
    refine go_icmp_ge (tgt := 38) C dX10_laysFar_5 rfl hp_v1 (by decide) (fun hc1 => ?_) (fun hc1 => ?_)
    · replace h := ite_t hc1 h
      refine go_iconst C dX10_laysFar_38 ?_
      refine go_istore_n (ls2 := [some (rf G 64), some (.int (iI 1)), none, none]) C dX10_laysFar_39 rfl (Nat.le_of_ble_eq_true rfl) rfl ?_
      exact w_X10_laysFar_40 C E F 1 M hB h
    · replace h := ite_f hc1 h
      refine go_aload_n C dX10_laysFar_8 rfl rfl ?_
      refine go_getR (o := 4) (k2 := 68) C dX10_laysFar_9 fl_X10_19 sh_64 rfl rfl ?_
      refine go_iload_n C dX10_laysFar_12 rfl rfl ?_
      refine go_iload_n C dX10_laysFar_13 rfl rfl ?_
      refine go_bipush C dX10_laysFar_14 (by decide +kernel) ?_
      obtain ⟨hc19, h⟩ := chk_some h
      refine go_idiv C dX10_laysFar_16 hc19 ?_
      refine go_iload_n C dX10_laysFar_17 rfl rfl ?_
      refine go_bipush C dX10_laysFar_18 (by decide +kernel) ?_
      refine go_irem C dX10_laysFar_20 hc19 ?_
      obtain ⟨hc20, h⟩ := chk_some h
      obtain ⟨hc21, h⟩ := chk_some h
      refine go_icmp_ne (tgt := 28) C dX10_laysFar_21 rfl hc20 hc21 (fun hc22 => ?_) (fun hc22 => ?_)
      · replace h := ite_f hc22 h
        refine go_sipush C dX10_laysFar_28 (by decide +kernel) ?_
        obtain ⟨hc23, h⟩ := chk_some h
        refine go_iast C dX10_laysFar_31 sh_68 (by decide) hc23 ?_
        have hB24 := hB.set 68 v1 (x := 1000) (by decide)
        refine go_iinc (ls2 := [some (rf G 64), some (.int (iI (v1 + 1))), none, none]) C dX10_laysFar_32 rfl (Nat.le_of_ble_eq_true rfl) rfl ?_
        refine go_goto (tgt := 2) C dX10_laysFar_35 rfl ?_
        exact ih (v1 + 1) (mset M 68 v1 1000) hB24 h
      · replace h := ite_t hc22 h
        refine go_iconst C dX10_laysFar_24 ?_
        refine go_goto (tgt := 31) C dX10_laysFar_25 rfl ?_
        obtain ⟨hc25, h⟩ := chk_some h
        refine go_iast C dX10_laysFar_31 sh_68 (by decide) hc25 ?_
        have hB26 := hB.set 68 v1 (x := 0) (by decide)
        refine go_iinc (ls2 := [some (rf G 64), some (.int (iI (v1 + 1))), none, none]) C dX10_laysFar_32 rfl (Nat.le_of_ble_eq_true rfl) rfl ?_
        refine go_goto (tgt := 2) C dX10_laysFar_35 rfl ?_
        exact ih (v1 + 1) (mset M 68 v1 0) hB26 h
set_option maxHeartbeats 4000000 in
theorem ok_X10_laysFar {G : gC} {l : Launch} (hl : l.stackTraces = false) {F : Nat} {M : Mem} (hB : Bd M) {res : Mem} (h : f_X10_laysFar F M = some res) : Ok G l 1 0 0 yX10_laysFar (.code yX10_laysFar cX10_laysFar 4 none) [rf G 64] M (.inr none) res := by
  refine ok_of (ls := [some (rf G 64), none, none, none]) hl (by decide +kernel) (Nat.le_of_ble_eq_true rfl) ⟨rfl, trivial⟩ ?_
  intro X hX C E
  subst hX
  rw [f_X10_laysFar] at h
  refine go_iconst C dX10_laysFar_0 ?_
  refine go_istore_n (ls2 := [some (rf G 64), some (.int (iI 0)), none, none]) C dX10_laysFar_1 rfl (Nat.le_of_ble_eq_true rfl) rfl ?_
  exact w_X10_laysFar_2 C E F 0 M hB h
-- IntervalRouterModel.farFrom(II)I
set_option maxHeartbeats 4000000 in
theorem ok_X10_farFrom {G : gC} {l : Launch} (hl : l.stackTraces = false) {v1 : Int} {v2 : Int} {M : Mem} (hB : Bd M) {res : Int} (h : f_X10_farFrom v1 v2 M = some res) : Ok G l 0 0 0 yX10_farFrom (.code yX10_farFrom cX10_farFrom 3 (some .int)) [rf G 64, .int (iI v1), .int (iI v2)] M (.inr (some (.int (iI res)))) M := by
  refine ok_of (ls := [some (rf G 64), some (.int (iI v1)), some (.int (iI v2))]) hl (by decide +kernel) (Nat.le_of_ble_eq_true rfl) ⟨rfl, ⟨rfl, ⟨rfl, trivial⟩⟩⟩ ?_
  intro X hX C E
  subst hX
  rw [f_X10_farFrom] at h
  refine go_aload_n C dX10_farFrom_0 rfl rfl ?_
  refine go_getR (o := 4) (k2 := 68) C dX10_farFrom_1 fl_X10_19 sh_64 rfl rfl ?_
  refine go_bipush C dX10_farFrom_4 (by decide +kernel) ?_
  refine go_iload_n C dX10_farFrom_6 rfl rfl ?_
  refine go_imul C dX10_farFrom_7 ?_
  refine go_iload_n C dX10_farFrom_8 rfl rfl ?_
  refine go_iadd C dX10_farFrom_9 ?_
  obtain ⟨hc1, h⟩ := chk_some h
  refine go_iald C dX10_farFrom_10 sh_68 (by decide) hc1 ?_
  cases h
  exact go_iret C E rfl dX10_farFrom_11 (Nat.le_of_ble_eq_true rfl) (Nat.le_of_ble_eq_true rfl) rfl rfl hB
-- IntervalRouterModel.distance(II)I
set_option maxHeartbeats 4000000 in
theorem ok_X10_distance {G : gC} {l : Launch} (hl : l.stackTraces = false) {F : Nat} {v1 : Int} {v2 : Int} {M : Mem} (hB : Bd M) {res : Int × Mem} (h : f_X10_distance F v1 v2 M = some res) : Ok G l 2 0 0 yX10_distance (.code yX10_distance cX10_distance 3 (some .int)) [rf G 64, .int (iI v1), .int (iI v2)] M (.inr (some (.int (iI res.1)))) res.2 := by
  refine ok_of (ls := [some (rf G 64), some (.int (iI v1)), some (.int (iI v2))]) hl (by decide +kernel) (Nat.le_of_ble_eq_true rfl) ⟨rfl, ⟨rfl, ⟨rfl, trivial⟩⟩⟩ ?_
  intro X hX C E
  subst hX
  rw [f_X10_distance] at h
  refine go_aload_n C dX10_distance_0 rfl rfl ?_
  refine go_aload_n C dX10_distance_1 rfl rfl ?_
  refine go_iload_n C dX10_distance_2 rfl rfl ?_
  obtain ⟨q1, h1, h⟩ := ob_some h
  refine go_callV_i C dX10_distance_3 (ok_X10_isNode C.hl hB h1) mv_X10_85 sh_64 rfl rfl (Nat.le_of_ble_eq_true rfl) ⟨(Nat.le_of_ble_eq_true rfl), (Nat.le_of_ble_eq_true rfl)⟩ ⟨(Nat.le_of_ble_eq_true rfl), (Nat.le_of_ble_eq_true rfl)⟩ (fun hB1 => ?_)
  obtain ⟨hc2, h⟩ := chk_some h
  refine go_if_eq (tgt := 21) C dX10_distance_6 rfl hc2 (fun hc3 => ?_) (fun hc3 => ?_)
  · replace h := ite_t hc3 h
    refine go_iconst C dX10_distance_21 ?_
    obtain ⟨q4, h4, h⟩ := ob_some h
    refine go_callV_i C dX10_distance_22 (ok_X10_refused C.hl hB1 h4) mv_X10_67 sh_64 rfl rfl (Nat.le_of_ble_eq_true rfl) ⟨(Nat.le_of_ble_eq_true rfl), (Nat.le_of_ble_eq_true rfl)⟩ ⟨(Nat.le_of_ble_eq_true rfl), (Nat.le_of_ble_eq_true rfl)⟩ (fun hB4 => ?_)
    obtain ⟨hc5, h⟩ := chk_some h
    refine go_if_eq (tgt := 30) C dX10_distance_25 rfl hc5 (fun hc6 => ?_) (fun hc6 => ?_)
    · replace h := ite_t hc6 h
      refine go_aload_n C dX10_distance_30 rfl rfl ?_
      obtain ⟨q7, h7, h⟩ := ob_some h
      refine go_callV_v C dX10_distance_31 (ok_X10_laysFar C.hl hB4 h7) mv_X10_101 sh_64 rfl rfl (Nat.le_of_ble_eq_true rfl) ⟨(Nat.le_of_ble_eq_true rfl), (Nat.le_of_ble_eq_true rfl)⟩ ⟨(Nat.le_of_ble_eq_true rfl), (Nat.le_of_ble_eq_true rfl)⟩ (fun hB7 => ?_)
      refine go_aload_n C dX10_distance_34 rfl rfl ?_
      refine go_iload_n C dX10_distance_35 rfl rfl ?_
      refine go_iload_n C dX10_distance_36 rfl rfl ?_
      obtain ⟨q8, h8, h⟩ := ob_some h
      refine go_callV_i C dX10_distance_37 (ok_X10_farFrom C.hl hB7 h8) mv_X10_104 sh_64 rfl rfl (Nat.le_of_ble_eq_true rfl) ⟨(Nat.le_of_ble_eq_true rfl), (Nat.le_of_ble_eq_true rfl)⟩ ⟨(Nat.le_of_ble_eq_true rfl), (Nat.le_of_ble_eq_true rfl)⟩ (fun hB8 => ?_)
      refine go_sipush C dX10_distance_40 (by decide +kernel) ?_
      obtain ⟨hc9, h⟩ := chk_some h
      refine go_icmp_ne (tgt := 50) C dX10_distance_43 rfl hc9 (by decide) (fun hc10 => ?_) (fun hc10 => ?_)
      · replace h := ite_f hc10 h
        refine go_aload_n C dX10_distance_50 rfl rfl ?_
        refine go_iload_n C dX10_distance_51 rfl rfl ?_
        refine go_iload_n C dX10_distance_52 rfl rfl ?_
        obtain ⟨q11, h11, h⟩ := ob_some h
        refine go_callV_i C dX10_distance_53 (ok_X10_farFrom C.hl hB8 h11) mv_X10_104 sh_64 rfl rfl (Nat.le_of_ble_eq_true rfl) ⟨(Nat.le_of_ble_eq_true rfl), (Nat.le_of_ble_eq_true rfl)⟩ ⟨(Nat.le_of_ble_eq_true rfl), (Nat.le_of_ble_eq_true rfl)⟩ (fun hB11 => ?_)
        cases h
        exact go_iret C E rfl dX10_distance_56 (Nat.le_of_ble_eq_true rfl) (Nat.le_of_ble_eq_true rfl) rfl rfl hB11
      · replace h := ite_t hc10 h
        refine go_iconst C dX10_distance_46 ?_
        refine go_goto (tgt := 56) C dX10_distance_47 rfl ?_
        cases h
        exact go_iret C E rfl dX10_distance_56 (Nat.le_of_ble_eq_true rfl) (Nat.le_of_ble_eq_true rfl) rfl rfl hB8
    · replace h := ite_f hc6 h
      refine go_iconst C dX10_distance_28 ?_
      cases h
      exact go_iret C E rfl dX10_distance_29 (Nat.le_of_ble_eq_true rfl) (Nat.le_of_ble_eq_true rfl) rfl rfl hB4
  · replace h := ite_f hc3 h
    refine go_aload_n C dX10_distance_9 rfl rfl ?_
    refine go_iload_n C dX10_distance_10 rfl rfl ?_
    obtain ⟨q12, h12, h⟩ := ob_some h
    refine go_callV_i C dX10_distance_11 (ok_X10_isNode C.hl hB1 h12) mv_X10_85 sh_64 rfl rfl (Nat.le_of_ble_eq_true rfl) ⟨(Nat.le_of_ble_eq_true rfl), (Nat.le_of_ble_eq_true rfl)⟩ ⟨(Nat.le_of_ble_eq_true rfl), (Nat.le_of_ble_eq_true rfl)⟩ (fun hB12 => ?_)
    obtain ⟨hc13, h⟩ := chk_some h
    refine go_if_eq (tgt := 21) C dX10_distance_14 rfl hc13 (fun hc14 => ?_) (fun hc14 => ?_)
    · replace h := ite_t hc14 h
      refine go_iconst C dX10_distance_21 ?_
      obtain ⟨q15, h15, h⟩ := ob_some h
      refine go_callV_i C dX10_distance_22 (ok_X10_refused C.hl hB12 h15) mv_X10_67 sh_64 rfl rfl (Nat.le_of_ble_eq_true rfl) ⟨(Nat.le_of_ble_eq_true rfl), (Nat.le_of_ble_eq_true rfl)⟩ ⟨(Nat.le_of_ble_eq_true rfl), (Nat.le_of_ble_eq_true rfl)⟩ (fun hB15 => ?_)
      obtain ⟨hc16, h⟩ := chk_some h
      refine go_if_eq (tgt := 30) C dX10_distance_25 rfl hc16 (fun hc17 => ?_) (fun hc17 => ?_)
      · replace h := ite_t hc17 h
        refine go_aload_n C dX10_distance_30 rfl rfl ?_
        obtain ⟨q18, h18, h⟩ := ob_some h
        refine go_callV_v C dX10_distance_31 (ok_X10_laysFar C.hl hB15 h18) mv_X10_101 sh_64 rfl rfl (Nat.le_of_ble_eq_true rfl) ⟨(Nat.le_of_ble_eq_true rfl), (Nat.le_of_ble_eq_true rfl)⟩ ⟨(Nat.le_of_ble_eq_true rfl), (Nat.le_of_ble_eq_true rfl)⟩ (fun hB18 => ?_)
        refine go_aload_n C dX10_distance_34 rfl rfl ?_
        refine go_iload_n C dX10_distance_35 rfl rfl ?_
        refine go_iload_n C dX10_distance_36 rfl rfl ?_
        obtain ⟨q19, h19, h⟩ := ob_some h
        refine go_callV_i C dX10_distance_37 (ok_X10_farFrom C.hl hB18 h19) mv_X10_104 sh_64 rfl rfl (Nat.le_of_ble_eq_true rfl) ⟨(Nat.le_of_ble_eq_true rfl), (Nat.le_of_ble_eq_true rfl)⟩ ⟨(Nat.le_of_ble_eq_true rfl), (Nat.le_of_ble_eq_true rfl)⟩ (fun hB19 => ?_)
        refine go_sipush C dX10_distance_40 (by decide +kernel) ?_
        obtain ⟨hc20, h⟩ := chk_some h
        refine go_icmp_ne (tgt := 50) C dX10_distance_43 rfl hc20 (by decide) (fun hc21 => ?_) (fun hc21 => ?_)
        · replace h := ite_f hc21 h
          refine go_aload_n C dX10_distance_50 rfl rfl ?_
          refine go_iload_n C dX10_distance_51 rfl rfl ?_
          refine go_iload_n C dX10_distance_52 rfl rfl ?_
          obtain ⟨q22, h22, h⟩ := ob_some h
          refine go_callV_i C dX10_distance_53 (ok_X10_farFrom C.hl hB19 h22) mv_X10_104 sh_64 rfl rfl (Nat.le_of_ble_eq_true rfl) ⟨(Nat.le_of_ble_eq_true rfl), (Nat.le_of_ble_eq_true rfl)⟩ ⟨(Nat.le_of_ble_eq_true rfl), (Nat.le_of_ble_eq_true rfl)⟩ (fun hB22 => ?_)
          cases h
          exact go_iret C E rfl dX10_distance_56 (Nat.le_of_ble_eq_true rfl) (Nat.le_of_ble_eq_true rfl) rfl rfl hB22
        · replace h := ite_t hc21 h
          refine go_iconst C dX10_distance_46 ?_
          refine go_goto (tgt := 56) C dX10_distance_47 rfl ?_
          cases h
          exact go_iret C E rfl dX10_distance_56 (Nat.le_of_ble_eq_true rfl) (Nat.le_of_ble_eq_true rfl) rfl rfl hB19
      · replace h := ite_f hc17 h
        refine go_iconst C dX10_distance_28 ?_
        cases h
        exact go_iret C E rfl dX10_distance_29 (Nat.le_of_ble_eq_true rfl) (Nat.le_of_ble_eq_true rfl) rfl rfl hB15
    · replace h := ite_f hc14 h
      refine go_iconst C dX10_distance_17 ?_
      refine go_goto (tgt := 22) C dX10_distance_18 rfl ?_
      obtain ⟨q23, h23, h⟩ := ob_some h
      refine go_callV_i C dX10_distance_22 (ok_X10_refused C.hl hB12 h23) mv_X10_67 sh_64 rfl rfl (Nat.le_of_ble_eq_true rfl) ⟨(Nat.le_of_ble_eq_true rfl), (Nat.le_of_ble_eq_true rfl)⟩ ⟨(Nat.le_of_ble_eq_true rfl), (Nat.le_of_ble_eq_true rfl)⟩ (fun hB23 => ?_)
      obtain ⟨hc24, h⟩ := chk_some h
      refine go_if_eq (tgt := 30) C dX10_distance_25 rfl hc24 (fun hc25 => ?_) (fun hc25 => ?_)
      · replace h := ite_t hc25 h
        refine go_aload_n C dX10_distance_30 rfl rfl ?_
        obtain ⟨q26, h26, h⟩ := ob_some h
        refine go_callV_v C dX10_distance_31 (ok_X10_laysFar C.hl hB23 h26) mv_X10_101 sh_64 rfl rfl (Nat.le_of_ble_eq_true rfl) ⟨(Nat.le_of_ble_eq_true rfl), (Nat.le_of_ble_eq_true rfl)⟩ ⟨(Nat.le_of_ble_eq_true rfl), (Nat.le_of_ble_eq_true rfl)⟩ (fun hB26 => ?_)
        refine go_aload_n C dX10_distance_34 rfl rfl ?_
        refine go_iload_n C dX10_distance_35 rfl rfl ?_
        refine go_iload_n C dX10_distance_36 rfl rfl ?_
        obtain ⟨q27, h27, h⟩ := ob_some h
        refine go_callV_i C dX10_distance_37 (ok_X10_farFrom C.hl hB26 h27) mv_X10_104 sh_64 rfl rfl (Nat.le_of_ble_eq_true rfl) ⟨(Nat.le_of_ble_eq_true rfl), (Nat.le_of_ble_eq_true rfl)⟩ ⟨(Nat.le_of_ble_eq_true rfl), (Nat.le_of_ble_eq_true rfl)⟩ (fun hB27 => ?_)
        refine go_sipush C dX10_distance_40 (by decide +kernel) ?_
        obtain ⟨hc28, h⟩ := chk_some h
        refine go_icmp_ne (tgt := 50) C dX10_distance_43 rfl hc28 (by decide) (fun hc29 => ?_) (fun hc29 => ?_)
        · replace h := ite_f hc29 h
          refine go_aload_n C dX10_distance_50 rfl rfl ?_
          refine go_iload_n C dX10_distance_51 rfl rfl ?_
          refine go_iload_n C dX10_distance_52 rfl rfl ?_
          obtain ⟨q30, h30, h⟩ := ob_some h
          refine go_callV_i C dX10_distance_53 (ok_X10_farFrom C.hl hB27 h30) mv_X10_104 sh_64 rfl rfl (Nat.le_of_ble_eq_true rfl) ⟨(Nat.le_of_ble_eq_true rfl), (Nat.le_of_ble_eq_true rfl)⟩ ⟨(Nat.le_of_ble_eq_true rfl), (Nat.le_of_ble_eq_true rfl)⟩ (fun hB30 => ?_)
          cases h
          exact go_iret C E rfl dX10_distance_56 (Nat.le_of_ble_eq_true rfl) (Nat.le_of_ble_eq_true rfl) rfl rfl hB30
        · replace h := ite_t hc29 h
          refine go_iconst C dX10_distance_46 ?_
          refine go_goto (tgt := 56) C dX10_distance_47 rfl ?_
          cases h
          exact go_iret C E rfl dX10_distance_56 (Nat.le_of_ble_eq_true rfl) (Nat.le_of_ble_eq_true rfl) rfl rfl hB27
      · replace h := ite_f hc25 h
        refine go_iconst C dX10_distance_28 ?_
        cases h
        exact go_iret C E rfl dX10_distance_29 (Nat.le_of_ble_eq_true rfl) (Nat.le_of_ble_eq_true rfl) rfl rfl hB23
-- IntervalRouterModel.good(II)I
set_option maxHeartbeats 4000000 in
theorem w_X10_good_5 {G : gC} {X : gX} {res : Int} {F : Nat} {M : Mem} (hB : Bd M) (C : Cx G X cX10_good 6 RX10 2 0 0 (some .int) []) (E : Fnl G X 0 0 (.inr (some (.int (iI res)))) M) : ∀ (fu : Nat) (v1 : Int) (v2 : Int) (v3 : Int) (v4 : Int), f_X10_good_5 F fu v1 v2 v3 v4 M = some res → Go G X 6 0 0 5 [some (rf G 64), some (.int (iI v1)), some (.int (iI v2)), some (.int (iI v3)), some (.int (iI v4)), none] [] M := by
  intro fu
  induction fu with
  | zero => intro v1 v2 v3 v4 h; exact nomatch (show (none : Option (Int)) = some res from h)
  | succ fu ih =>
    intro v1 v2 v3 v4 h
    rw [f_X10_good_5] at h
    obtain ⟨⟨hp_v1, hp_v2, hp_v4⟩, h⟩ := chk_some h
    refine go_iload C dX10_good_5 rfl ?_
    refine go_aload_n C dX10_good_7 rfl rfl ?_
    refine go_getR (o := 1) (k2 := 65) C dX10_good_8 fl_X10_7 sh_64 rfl rfl ?_
    refine go_iconst C dX10_good_11 ?_
    refine go_iald C dX10_good_12 sh_65 (by decide) ⟨by decide, by decide⟩ ?_
    refine go_icmp_ge (tgt := 101) C dX10_good_13 rfl hp_v4 (hB 65 1 (by decide)) (fun hc1 => ?_) (fun hc1 => ?_)
    · replace h := ite_t hc1 h
      refine go_iload_n C dX10_good_101 rfl rfl ?_
      cases h
      exact go_iret C E rfl dX10_good_102 (Nat.le_of_ble_eq_true rfl) (Nat.le_of_ble_eq_true rfl) rfl rfl hB
    · replace h := ite_f hc1 h
      refine go_iload_n C dX10_good_16 rfl rfl ?_
      refine go_iload_n C dX10_good_17 rfl rfl ?_
      refine go_icmp_eq (tgt := 101) C dX10_good_18 rfl hp_v1 hp_v2 (fun hc2 => ?_) (fun hc2 => ?_)
      · replace h := ite_t hc2 h
        refine go_iload_n C dX10_good_101 rfl rfl ?_
        cases h
        exact go_iret C E rfl dX10_good_102 (Nat.le_of_ble_eq_true rfl) (Nat.le_of_ble_eq_true rfl) rfl rfl hB
      · replace h := ite_f hc2 h
        refine go_aload_n C dX10_good_21 rfl rfl ?_
        refine go_iload_n C dX10_good_22 rfl rfl ?_
        refine go_iload_n C dX10_good_23 rfl rfl ?_
        obtain ⟨q3, h3, h⟩ := ob_some h
        refine go_callV_i C dX10_good_24 (ok_X10_farFrom C.hl hB h3) mv_X10_104 sh_64 rfl rfl (Nat.le_of_ble_eq_true rfl) ⟨(Nat.le_of_ble_eq_true rfl), (Nat.le_of_ble_eq_true rfl)⟩ ⟨(Nat.le_of_ble_eq_true rfl), (Nat.le_of_ble_eq_true rfl)⟩ (fun hB3 => ?_)
        refine go_sipush C dX10_good_27 (by decide +kernel) ?_
        obtain ⟨hc4, h⟩ := chk_some h
        refine go_icmp_ge (tgt := 101) C dX10_good_30 rfl hc4 (by decide) (fun hc5 => ?_) (fun hc5 => ?_)
        · replace h := ite_t hc5 h
          refine go_iload_n C dX10_good_101 rfl rfl ?_
          cases h
          exact go_iret C E rfl dX10_good_102 (Nat.le_of_ble_eq_true rfl) (Nat.le_of_ble_eq_true rfl) rfl rfl hB3
        · replace h := ite_f hc5 h
          refine go_aload_n C dX10_good_33 rfl rfl ?_
          refine go_iload C dX10_good_34 rfl ?_
          refine go_iload_n C dX10_good_36 rfl rfl ?_
          obtain ⟨q6, h6, h⟩ := ob_some h
          refine go_callV_i C dX10_good_37 (ok_X10_isOf C.hl hB3 h6) mv_X10_81 sh_64 rfl rfl (Nat.le_of_ble_eq_true rfl) ⟨(Nat.le_of_ble_eq_true rfl), (Nat.le_of_ble_eq_true rfl)⟩ ⟨(Nat.le_of_ble_eq_true rfl), (Nat.le_of_ble_eq_true rfl)⟩ (fun hB6 => ?_)
          obtain ⟨hc7, h⟩ := chk_some h
          refine go_if_eq (tgt := 76) C dX10_good_40 rfl hc7 (fun hc8 => ?_) (fun hc8 => ?_)
          · replace h := ite_t hc8 h
            refine go_iconst C dX10_good_76 ?_
            refine go_istore (ls2 := [some (rf G 64), some (.int (iI v1)), some (.int (iI v2)), some (.int (iI v3)), some (.int (iI v4)), some (.int (iI 0))]) C dX10_good_77 (Nat.le_of_ble_eq_true rfl) rfl ?_
            refine go_iload_n C dX10_good_79 rfl rfl ?_
            refine go_iload C dX10_good_80 rfl ?_
            refine go_if_eq (tgt := 92) C dX10_good_82 rfl (by decide) (fun hc9 => ?_) (fun hc9 => ?_)
            · refine go_iconst C dX10_good_92 ?_
              refine go_ior C dX10_good_93 ?_
              refine go_istore_n (ls2 := [some (rf G 64), some (.int (iI v1)), some (.int (iI v2)), some (.int (iI (bor v3 0))), some (.int (iI v4)), some (.int (iI 0))]) C dX10_good_94 rfl (Nat.le_of_ble_eq_true rfl) rfl ?_
              refine go_iinc (ls2 := [some (rf G 64), some (.int (iI v1)), some (.int (iI v2)), some (.int (iI (bor v3 0))), some (.int (iI (v4 + 1))), some (.int (iI 0))]) C dX10_good_95 rfl (Nat.le_of_ble_eq_true rfl) rfl ?_
              refine go_goto (tgt := 5) C dX10_good_98 rfl ?_
              refine go_weak (ls' := [some (rf G 64), some (.int (iI v1)), some (.int (iI v2)), some (.int (iI (bor v3 0))), some (.int (iI (v4 + 1))), none]) ⟨rfl, ⟨rfl, ⟨rfl, ⟨rfl, ⟨rfl, trivial⟩⟩⟩⟩⟩ ?_
              exact ih v1 v2 (bor v3 0) (v4 + 1) h
            · exact absurd hc9 (by decide)
          · replace h := ite_f hc8 h
            refine go_aload_n C dX10_good_43 rfl rfl ?_
            refine go_iload C dX10_good_44 rfl ?_
            refine go_iconst C dX10_good_46 ?_
            obtain ⟨q10, h10, h⟩ := ob_some h
            refine go_callV_i C dX10_good_47 (ok_X10_part C.hl hB6 h10) mv_X10_60 sh_64 rfl rfl (Nat.le_of_ble_eq_true rfl) ⟨(Nat.le_of_ble_eq_true rfl), (Nat.le_of_ble_eq_true rfl)⟩ ⟨(Nat.le_of_ble_eq_true rfl), (Nat.le_of_ble_eq_true rfl)⟩ (fun hB10 => ?_)
            refine go_aload_n C dX10_good_50 rfl rfl ?_
            refine go_aload_n C dX10_good_51 rfl rfl ?_
            refine go_iload C dX10_good_52 rfl ?_
            refine go_iload_n C dX10_good_54 rfl rfl ?_
            obtain ⟨q11, h11, h⟩ := ob_some h
            refine go_callV_i C dX10_good_55 (ok_X10_otherEnd C.hl hB10 h11) mv_X10_107 sh_64 rfl rfl (Nat.le_of_ble_eq_true rfl) ⟨(Nat.le_of_ble_eq_true rfl), (Nat.le_of_ble_eq_true rfl)⟩ ⟨(Nat.le_of_ble_eq_true rfl), (Nat.le_of_ble_eq_true rfl)⟩ (fun hB11 => ?_)
            refine go_iload_n C dX10_good_58 rfl rfl ?_
            obtain ⟨q12, h12, h⟩ := ob_some h
            refine go_callV_i C dX10_good_59 (ok_X10_farFrom C.hl hB11 h12) mv_X10_104 sh_64 rfl rfl (Nat.le_of_ble_eq_true rfl) ⟨(Nat.le_of_ble_eq_true rfl), (Nat.le_of_ble_eq_true rfl)⟩ ⟨(Nat.le_of_ble_eq_true rfl), (Nat.le_of_ble_eq_true rfl)⟩ (fun hB12 => ?_)
            refine go_iadd C dX10_good_62 ?_
            refine go_aload_n C dX10_good_63 rfl rfl ?_
            refine go_iload_n C dX10_good_64 rfl rfl ?_
            refine go_iload_n C dX10_good_65 rfl rfl ?_
            obtain ⟨q13, h13, h⟩ := ob_some h
            refine go_callV_i C dX10_good_66 (ok_X10_farFrom C.hl hB12 h13) mv_X10_104 sh_64 rfl rfl (Nat.le_of_ble_eq_true rfl) ⟨(Nat.le_of_ble_eq_true rfl), (Nat.le_of_ble_eq_true rfl)⟩ ⟨(Nat.le_of_ble_eq_true rfl), (Nat.le_of_ble_eq_true rfl)⟩ (fun hB13 => ?_)
            obtain ⟨hc14, h⟩ := chk_some h
            obtain ⟨hc15, h⟩ := chk_some h
            refine go_icmp_ne (tgt := 76) C dX10_good_69 rfl hc14 hc15 (fun hc16 => ?_) (fun hc16 => ?_)
            · replace h := ite_f hc16 h
              refine go_iconst C dX10_good_76 ?_
              refine go_istore (ls2 := [some (rf G 64), some (.int (iI v1)), some (.int (iI v2)), some (.int (iI v3)), some (.int (iI v4)), some (.int (iI 0))]) C dX10_good_77 (Nat.le_of_ble_eq_true rfl) rfl ?_
              refine go_iload_n C dX10_good_79 rfl rfl ?_
              refine go_iload C dX10_good_80 rfl ?_
              refine go_if_eq (tgt := 92) C dX10_good_82 rfl (by decide) (fun hc17 => ?_) (fun hc17 => ?_)
              · refine go_iconst C dX10_good_92 ?_
                refine go_ior C dX10_good_93 ?_
                refine go_istore_n (ls2 := [some (rf G 64), some (.int (iI v1)), some (.int (iI v2)), some (.int (iI (bor v3 0))), some (.int (iI v4)), some (.int (iI 0))]) C dX10_good_94 rfl (Nat.le_of_ble_eq_true rfl) rfl ?_
                refine go_iinc (ls2 := [some (rf G 64), some (.int (iI v1)), some (.int (iI v2)), some (.int (iI (bor v3 0))), some (.int (iI (v4 + 1))), some (.int (iI 0))]) C dX10_good_95 rfl (Nat.le_of_ble_eq_true rfl) rfl ?_
                refine go_goto (tgt := 5) C dX10_good_98 rfl ?_
                refine go_weak (ls' := [some (rf G 64), some (.int (iI v1)), some (.int (iI v2)), some (.int (iI (bor v3 0))), some (.int (iI (v4 + 1))), none]) ⟨rfl, ⟨rfl, ⟨rfl, ⟨rfl, ⟨rfl, trivial⟩⟩⟩⟩⟩ ?_
                exact ih v1 v2 (bor v3 0) (v4 + 1) h
              · exact absurd hc17 (by decide)
            · replace h := ite_t hc16 h
              refine go_iconst C dX10_good_72 ?_
              refine go_goto (tgt := 77) C dX10_good_73 rfl ?_
              refine go_istore (ls2 := [some (rf G 64), some (.int (iI v1)), some (.int (iI v2)), some (.int (iI v3)), some (.int (iI v4)), some (.int (iI 1))]) C dX10_good_77 (Nat.le_of_ble_eq_true rfl) rfl ?_
              refine go_iload_n C dX10_good_79 rfl rfl ?_
              refine go_iload C dX10_good_80 rfl ?_
              refine go_if_eq (tgt := 92) C dX10_good_82 rfl (by decide) (fun hc18 => ?_) (fun hc18 => ?_)
              · exact absurd hc18 (by decide)
              · refine go_iconst C dX10_good_85 ?_
                refine go_iload C dX10_good_86 rfl ?_
                refine go_ishl C dX10_good_88 ?_
                refine go_goto (tgt := 93) C dX10_good_89 rfl ?_
                refine go_ior C dX10_good_93 ?_
                refine go_istore_n (ls2 := [some (rf G 64), some (.int (iI v1)), some (.int (iI v2)), some (.int (iI (bor v3 (bshl 1 v4)))), some (.int (iI v4)), some (.int (iI 1))]) C dX10_good_94 rfl (Nat.le_of_ble_eq_true rfl) rfl ?_
                refine go_iinc (ls2 := [some (rf G 64), some (.int (iI v1)), some (.int (iI v2)), some (.int (iI (bor v3 (bshl 1 v4)))), some (.int (iI (v4 + 1))), some (.int (iI 1))]) C dX10_good_95 rfl (Nat.le_of_ble_eq_true rfl) rfl ?_
                refine go_goto (tgt := 5) C dX10_good_98 rfl ?_
                refine go_weak (ls' := [some (rf G 64), some (.int (iI v1)), some (.int (iI v2)), some (.int (iI (bor v3 (bshl 1 v4)))), some (.int (iI (v4 + 1))), none]) ⟨rfl, ⟨rfl, ⟨rfl, ⟨rfl, ⟨rfl, trivial⟩⟩⟩⟩⟩ ?_
                exact ih v1 v2 (bor v3 (bshl 1 v4)) (v4 + 1) h
set_option maxHeartbeats 4000000 in
theorem ok_X10_good {G : gC} {l : Launch} (hl : l.stackTraces = false) {F : Nat} {v1 : Int} {v2 : Int} {M : Mem} (hB : Bd M) {res : Int} (h : f_X10_good F v1 v2 M = some res) : Ok G l 2 0 0 yX10_good (.code yX10_good cX10_good 6 (some .int)) [rf G 64, .int (iI v1), .int (iI v2)] M (.inr (some (.int (iI res)))) M := by
  refine ok_of (ls := [some (rf G 64), some (.int (iI v1)), some (.int (iI v2)), none, none, none]) hl (by decide +kernel) (Nat.le_of_ble_eq_true rfl) ⟨rfl, ⟨rfl, ⟨rfl, trivial⟩⟩⟩ ?_
  intro X hX C E
  subst hX
  rw [f_X10_good] at h
  refine go_iconst C dX10_good_0 ?_
  refine go_istore_n (ls2 := [some (rf G 64), some (.int (iI v1)), some (.int (iI v2)), some (.int (iI 0)), none, none]) C dX10_good_1 rfl (Nat.le_of_ble_eq_true rfl) rfl ?_
  refine go_iconst C dX10_good_2 ?_
  refine go_istore (ls2 := [some (rf G 64), some (.int (iI v1)), some (.int (iI v2)), some (.int (iI 0)), some (.int (iI 0)), none]) C dX10_good_3 (Nat.le_of_ble_eq_true rfl) rfl ?_
  exact w_X10_good_5 hB C E F v1 v2 0 0 h
-- IntervalRouterModel.goodLinks(II)I
set_option maxHeartbeats 4000000 in
theorem ok_X10_goodLinks {G : gC} {l : Launch} (hl : l.stackTraces = false) {F : Nat} {v1 : Int} {v2 : Int} {M : Mem} (hB : Bd M) {res : Int × Mem} (h : f_X10_goodLinks F v1 v2 M = some res) : Ok G l 3 0 0 yX10_goodLinks (.code yX10_goodLinks cX10_goodLinks 3 (some .int)) [rf G 64, .int (iI v1), .int (iI v2)] M (.inr (some (.int (iI res.1)))) res.2 := by
  refine ok_of (ls := [some (rf G 64), some (.int (iI v1)), some (.int (iI v2))]) hl (by decide +kernel) (Nat.le_of_ble_eq_true rfl) ⟨rfl, ⟨rfl, ⟨rfl, trivial⟩⟩⟩ ?_
  intro X hX C E
  subst hX
  rw [f_X10_goodLinks] at h
  refine go_aload_n C dX10_goodLinks_0 rfl rfl ?_
  refine go_aload_n C dX10_goodLinks_1 rfl rfl ?_
  refine go_iload_n C dX10_goodLinks_2 rfl rfl ?_
  obtain ⟨q1, h1, h⟩ := ob_some h
  refine go_callV_i C dX10_goodLinks_3 (ok_X10_isNode C.hl hB h1) mv_X10_85 sh_64 rfl rfl (Nat.le_of_ble_eq_true rfl) ⟨(Nat.le_of_ble_eq_true rfl), (Nat.le_of_ble_eq_true rfl)⟩ ⟨(Nat.le_of_ble_eq_true rfl), (Nat.le_of_ble_eq_true rfl)⟩ (fun hB1 => ?_)
  obtain ⟨hc2, h⟩ := chk_some h
  refine go_if_eq (tgt := 21) C dX10_goodLinks_6 rfl hc2 (fun hc3 => ?_) (fun hc3 => ?_)
  · replace h := ite_t hc3 h
    refine go_iconst C dX10_goodLinks_21 ?_
    obtain ⟨q4, h4, h⟩ := ob_some h
    refine go_callV_i C dX10_goodLinks_22 (ok_X10_refused C.hl hB1 h4) mv_X10_67 sh_64 rfl rfl (Nat.le_of_ble_eq_true rfl) ⟨(Nat.le_of_ble_eq_true rfl), (Nat.le_of_ble_eq_true rfl)⟩ ⟨(Nat.le_of_ble_eq_true rfl), (Nat.le_of_ble_eq_true rfl)⟩ (fun hB4 => ?_)
    obtain ⟨hc5, h⟩ := chk_some h
    refine go_if_eq (tgt := 30) C dX10_goodLinks_25 rfl hc5 (fun hc6 => ?_) (fun hc6 => ?_)
    · replace h := ite_t hc6 h
      refine go_aload_n C dX10_goodLinks_30 rfl rfl ?_
      obtain ⟨q7, h7, h⟩ := ob_some h
      refine go_callV_v C dX10_goodLinks_31 (ok_X10_laysFar C.hl hB4 h7) mv_X10_101 sh_64 rfl rfl (Nat.le_of_ble_eq_true rfl) ⟨(Nat.le_of_ble_eq_true rfl), (Nat.le_of_ble_eq_true rfl)⟩ ⟨(Nat.le_of_ble_eq_true rfl), (Nat.le_of_ble_eq_true rfl)⟩ (fun hB7 => ?_)
      refine go_aload_n C dX10_goodLinks_34 rfl rfl ?_
      refine go_iload_n C dX10_goodLinks_35 rfl rfl ?_
      refine go_iload_n C dX10_goodLinks_36 rfl rfl ?_
      obtain ⟨q8, h8, h⟩ := ob_some h
      refine go_callV_i C dX10_goodLinks_37 (ok_X10_good C.hl hB7 h8) mv_X10_110 sh_64 rfl rfl (Nat.le_of_ble_eq_true rfl) ⟨(Nat.le_of_ble_eq_true rfl), (Nat.le_of_ble_eq_true rfl)⟩ ⟨(Nat.le_of_ble_eq_true rfl), (Nat.le_of_ble_eq_true rfl)⟩ (fun hB8 => ?_)
      cases h
      exact go_iret C E rfl dX10_goodLinks_40 (Nat.le_of_ble_eq_true rfl) (Nat.le_of_ble_eq_true rfl) rfl rfl hB8
    · replace h := ite_f hc6 h
      refine go_iconst C dX10_goodLinks_28 ?_
      cases h
      exact go_iret C E rfl dX10_goodLinks_29 (Nat.le_of_ble_eq_true rfl) (Nat.le_of_ble_eq_true rfl) rfl rfl hB4
  · replace h := ite_f hc3 h
    refine go_aload_n C dX10_goodLinks_9 rfl rfl ?_
    refine go_iload_n C dX10_goodLinks_10 rfl rfl ?_
    obtain ⟨q9, h9, h⟩ := ob_some h
    refine go_callV_i C dX10_goodLinks_11 (ok_X10_isNode C.hl hB1 h9) mv_X10_85 sh_64 rfl rfl (Nat.le_of_ble_eq_true rfl) ⟨(Nat.le_of_ble_eq_true rfl), (Nat.le_of_ble_eq_true rfl)⟩ ⟨(Nat.le_of_ble_eq_true rfl), (Nat.le_of_ble_eq_true rfl)⟩ (fun hB9 => ?_)
    obtain ⟨hc10, h⟩ := chk_some h
    refine go_if_eq (tgt := 21) C dX10_goodLinks_14 rfl hc10 (fun hc11 => ?_) (fun hc11 => ?_)
    · replace h := ite_t hc11 h
      refine go_iconst C dX10_goodLinks_21 ?_
      obtain ⟨q12, h12, h⟩ := ob_some h
      refine go_callV_i C dX10_goodLinks_22 (ok_X10_refused C.hl hB9 h12) mv_X10_67 sh_64 rfl rfl (Nat.le_of_ble_eq_true rfl) ⟨(Nat.le_of_ble_eq_true rfl), (Nat.le_of_ble_eq_true rfl)⟩ ⟨(Nat.le_of_ble_eq_true rfl), (Nat.le_of_ble_eq_true rfl)⟩ (fun hB12 => ?_)
      obtain ⟨hc13, h⟩ := chk_some h
      refine go_if_eq (tgt := 30) C dX10_goodLinks_25 rfl hc13 (fun hc14 => ?_) (fun hc14 => ?_)
      · replace h := ite_t hc14 h
        refine go_aload_n C dX10_goodLinks_30 rfl rfl ?_
        obtain ⟨q15, h15, h⟩ := ob_some h
        refine go_callV_v C dX10_goodLinks_31 (ok_X10_laysFar C.hl hB12 h15) mv_X10_101 sh_64 rfl rfl (Nat.le_of_ble_eq_true rfl) ⟨(Nat.le_of_ble_eq_true rfl), (Nat.le_of_ble_eq_true rfl)⟩ ⟨(Nat.le_of_ble_eq_true rfl), (Nat.le_of_ble_eq_true rfl)⟩ (fun hB15 => ?_)
        refine go_aload_n C dX10_goodLinks_34 rfl rfl ?_
        refine go_iload_n C dX10_goodLinks_35 rfl rfl ?_
        refine go_iload_n C dX10_goodLinks_36 rfl rfl ?_
        obtain ⟨q16, h16, h⟩ := ob_some h
        refine go_callV_i C dX10_goodLinks_37 (ok_X10_good C.hl hB15 h16) mv_X10_110 sh_64 rfl rfl (Nat.le_of_ble_eq_true rfl) ⟨(Nat.le_of_ble_eq_true rfl), (Nat.le_of_ble_eq_true rfl)⟩ ⟨(Nat.le_of_ble_eq_true rfl), (Nat.le_of_ble_eq_true rfl)⟩ (fun hB16 => ?_)
        cases h
        exact go_iret C E rfl dX10_goodLinks_40 (Nat.le_of_ble_eq_true rfl) (Nat.le_of_ble_eq_true rfl) rfl rfl hB16
      · replace h := ite_f hc14 h
        refine go_iconst C dX10_goodLinks_28 ?_
        cases h
        exact go_iret C E rfl dX10_goodLinks_29 (Nat.le_of_ble_eq_true rfl) (Nat.le_of_ble_eq_true rfl) rfl rfl hB12
    · replace h := ite_f hc11 h
      refine go_iconst C dX10_goodLinks_17 ?_
      refine go_goto (tgt := 22) C dX10_goodLinks_18 rfl ?_
      obtain ⟨q17, h17, h⟩ := ob_some h
      refine go_callV_i C dX10_goodLinks_22 (ok_X10_refused C.hl hB9 h17) mv_X10_67 sh_64 rfl rfl (Nat.le_of_ble_eq_true rfl) ⟨(Nat.le_of_ble_eq_true rfl), (Nat.le_of_ble_eq_true rfl)⟩ ⟨(Nat.le_of_ble_eq_true rfl), (Nat.le_of_ble_eq_true rfl)⟩ (fun hB17 => ?_)
      obtain ⟨hc18, h⟩ := chk_some h
      refine go_if_eq (tgt := 30) C dX10_goodLinks_25 rfl hc18 (fun hc19 => ?_) (fun hc19 => ?_)
      · replace h := ite_t hc19 h
        refine go_aload_n C dX10_goodLinks_30 rfl rfl ?_
        obtain ⟨q20, h20, h⟩ := ob_some h
        refine go_callV_v C dX10_goodLinks_31 (ok_X10_laysFar C.hl hB17 h20) mv_X10_101 sh_64 rfl rfl (Nat.le_of_ble_eq_true rfl) ⟨(Nat.le_of_ble_eq_true rfl), (Nat.le_of_ble_eq_true rfl)⟩ ⟨(Nat.le_of_ble_eq_true rfl), (Nat.le_of_ble_eq_true rfl)⟩ (fun hB20 => ?_)
        refine go_aload_n C dX10_goodLinks_34 rfl rfl ?_
        refine go_iload_n C dX10_goodLinks_35 rfl rfl ?_
        refine go_iload_n C dX10_goodLinks_36 rfl rfl ?_
        obtain ⟨q21, h21, h⟩ := ob_some h
        refine go_callV_i C dX10_goodLinks_37 (ok_X10_good C.hl hB20 h21) mv_X10_110 sh_64 rfl rfl (Nat.le_of_ble_eq_true rfl) ⟨(Nat.le_of_ble_eq_true rfl), (Nat.le_of_ble_eq_true rfl)⟩ ⟨(Nat.le_of_ble_eq_true rfl), (Nat.le_of_ble_eq_true rfl)⟩ (fun hB21 => ?_)
        cases h
        exact go_iret C E rfl dX10_goodLinks_40 (Nat.le_of_ble_eq_true rfl) (Nat.le_of_ble_eq_true rfl) rfl rfl hB21
      · replace h := ite_f hc19 h
        refine go_iconst C dX10_goodLinks_28 ?_
        cases h
        exact go_iret C E rfl dX10_goodLinks_29 (Nat.le_of_ble_eq_true rfl) (Nat.le_of_ble_eq_true rfl) rfl rfl hB17
-- IntervalRouterModel.degree(I)I
set_option maxHeartbeats 4000000 in
theorem w_X10_degree_4 {G : gC} {X : gX} {res : Int} {F : Nat} {M : Mem} (hB : Bd M) (C : Cx G X cX10_degree 4 RX10 2 0 0 (some .int) []) (E : Fnl G X 0 0 (.inr (some (.int (iI res)))) M) : ∀ (fu : Nat) (v1 : Int) (v2 : Int) (v3 : Int), f_X10_degree_4 F fu v1 v2 v3 M = some res → Go G X 4 0 0 4 [some (rf G 64), some (.int (iI v1)), some (.int (iI v2)), some (.int (iI v3))] [] M := by
  intro fu
  induction fu with
  | zero => intro v1 v2 v3 h; exact nomatch (show (none : Option (Int)) = some res from h)
  | succ fu ih =>
    intro v1 v2 v3 h
    rw [f_X10_degree_4] at h
    obtain ⟨hp_v3, h⟩ := chk_some h
    refine go_iload_n C dX10_degree_4 rfl rfl ?_
    refine go_aload_n C dX10_degree_5 rfl rfl ?_
    refine go_getR (o := 1) (k2 := 65) C dX10_degree_6 fl_X10_7 sh_64 rfl rfl ?_
    refine go_iconst C dX10_degree_9 ?_
    refine go_iald C dX10_degree_10 sh_65 (by decide) ⟨by decide, by decide⟩ ?_
    refine go_icmp_ge (tgt := 37) C dX10_degree_11 rfl hp_v3 (hB 65 1 (by decide)) (fun hc1 => ?_) (fun hc1 => ?_)
    · replace h := ite_t hc1 h
      refine go_iload_n C dX10_degree_37 rfl rfl ?_
      cases h
      exact go_iret C E rfl dX10_degree_38 (Nat.le_of_ble_eq_true rfl) (Nat.le_of_ble_eq_true rfl) rfl rfl hB
    · replace h := ite_f hc1 h
      refine go_iload_n C dX10_degree_14 rfl rfl ?_
      refine go_aload_n C dX10_degree_15 rfl rfl ?_
      refine go_iload_n C dX10_degree_16 rfl rfl ?_
      refine go_iload_n C dX10_degree_17 rfl rfl ?_
      obtain ⟨q2, h2, h⟩ := ob_some h
      refine go_callV_i C dX10_degree_18 (ok_X10_isOf C.hl hB h2) mv_X10_81 sh_64 rfl rfl (Nat.le_of_ble_eq_true rfl) ⟨(Nat.le_of_ble_eq_true rfl), (Nat.le_of_ble_eq_true rfl)⟩ ⟨(Nat.le_of_ble_eq_true rfl), (Nat.le_of_ble_eq_true rfl)⟩ (fun hB2 => ?_)
      obtain ⟨hc3, h⟩ := chk_some h
      refine go_if_eq (tgt := 28) C dX10_degree_21 rfl hc3 (fun hc4 => ?_) (fun hc4 => ?_)
      · replace h := ite_t hc4 h
        refine go_iconst C dX10_degree_28 ?_
        refine go_iadd C dX10_degree_29 ?_
        refine go_istore_n (ls2 := [some (rf G 64), some (.int (iI v1)), some (.int (iI (v2 + 0))), some (.int (iI v3))]) C dX10_degree_30 rfl (Nat.le_of_ble_eq_true rfl) rfl ?_
        refine go_iinc (ls2 := [some (rf G 64), some (.int (iI v1)), some (.int (iI (v2 + 0))), some (.int (iI (v3 + 1)))]) C dX10_degree_31 rfl (Nat.le_of_ble_eq_true rfl) rfl ?_
        refine go_goto (tgt := 4) C dX10_degree_34 rfl ?_
        exact ih v1 (v2 + 0) (v3 + 1) h
      · replace h := ite_f hc4 h
        refine go_iconst C dX10_degree_24 ?_
        refine go_goto (tgt := 29) C dX10_degree_25 rfl ?_
        refine go_iadd C dX10_degree_29 ?_
        refine go_istore_n (ls2 := [some (rf G 64), some (.int (iI v1)), some (.int (iI (v2 + 1))), some (.int (iI v3))]) C dX10_degree_30 rfl (Nat.le_of_ble_eq_true rfl) rfl ?_
        refine go_iinc (ls2 := [some (rf G 64), some (.int (iI v1)), some (.int (iI (v2 + 1))), some (.int (iI (v3 + 1)))]) C dX10_degree_31 rfl (Nat.le_of_ble_eq_true rfl) rfl ?_
        refine go_goto (tgt := 4) C dX10_degree_34 rfl ?_
        exact ih v1 (v2 + 1) (v3 + 1) h
set_option maxHeartbeats 4000000 in
theorem ok_X10_degree {G : gC} {l : Launch} (hl : l.stackTraces = false) {F : Nat} {v1 : Int} {M : Mem} (hB : Bd M) {res : Int} (h : f_X10_degree F v1 M = some res) : Ok G l 2 0 0 yX10_degree (.code yX10_degree cX10_degree 4 (some .int)) [rf G 64, .int (iI v1)] M (.inr (some (.int (iI res)))) M := by
  refine ok_of (ls := [some (rf G 64), some (.int (iI v1)), none, none]) hl (by decide +kernel) (Nat.le_of_ble_eq_true rfl) ⟨rfl, ⟨rfl, trivial⟩⟩ ?_
  intro X hX C E
  subst hX
  rw [f_X10_degree] at h
  refine go_iconst C dX10_degree_0 ?_
  refine go_istore_n (ls2 := [some (rf G 64), some (.int (iI v1)), some (.int (iI 0)), none]) C dX10_degree_1 rfl (Nat.le_of_ble_eq_true rfl) rfl ?_
  refine go_iconst C dX10_degree_2 ?_
  refine go_istore_n (ls2 := [some (rf G 64), some (.int (iI v1)), some (.int (iI 0)), some (.int (iI 0))]) C dX10_degree_3 rfl (Nat.le_of_ble_eq_true rfl) rfl ?_
  exact w_X10_degree_4 hB C E F v1 0 0 h
-- IntervalRouterModel.kind()I
set_option maxHeartbeats 4000000 in
theorem w_X10_kind_42 {G : gC} {X : gX} {res : Int × Mem} {F : Nat} (C : Cx G X cX10_kind 4 RX10 3 0 0 (some .int) []) (E : Fnl G X 0 0 (.inr (some (.int (iI res.1)))) res.2) : ∀ (fu : Nat) (v1 : Int) (v2 : Int) (v3 : Int) (M : Mem), Bd M → f_X10_kind_42 F fu v1 v2 v3 M = some res → Go G X 4 0 0 42 [some (rf G 64), some (.int (iI v1)), some (.int (iI v2)), some (.int (iI v3))] [] M := by
  intro fu
  induction fu with
  | zero => intro v1 v2 v3 M hB h; exact nomatch (show (none : Option (Int × Mem)) = some res from h)
  | succ fu ih =>
    intro v1 v2 v3 M hB h
    rw [f_X10_kind_42] at h
    obtain ⟨⟨hp_v1, hp_v2, hp_v3⟩, h⟩ := chk_some h
    refine go_iload_n C dX10_kind_42 rfl rfl ?_
    refine go_aload_n C dX10_kind_43 rfl rfl ?_
    refine go_getR (o := 1) (k2 := 65) C dX10_kind_44 fl_X10_7 sh_64 rfl rfl ?_
    refine go_iconst C dX10_kind_47 ?_
    refine go_iald C dX10_kind_48 sh_65 (by decide) ⟨by decide, by decide⟩ ?_
    refine go_icmp_ge (tgt := 99) C dX10_kind_49 rfl hp_v3 (hB 65 0 (by decide)) (fun hc5 => ?_) (fun hc5 => ?_)
    · replace h := ite_t hc5 h
      refine go_iload_n C dX10_kind_99 rfl rfl ?_
      refine go_if_ne (tgt := 107) C dX10_kind_100 rfl hp_v1 (fun hc6 => ?_) (fun hc6 => ?_)
      · replace h := ite_f hc6 h
        refine go_aload_n C dX10_kind_107 rfl rfl ?_
        refine go_getR (o := 1) (k2 := 65) C dX10_kind_108 fl_X10_7 sh_64 rfl rfl ?_
        refine go_iconst C dX10_kind_111 ?_
        refine go_iald C dX10_kind_112 sh_65 (by decide) ⟨by decide, by decide⟩ ?_
        refine go_aload_n C dX10_kind_113 rfl rfl ?_
        refine go_getR (o := 1) (k2 := 65) C dX10_kind_114 fl_X10_7 sh_64 rfl rfl ?_
        refine go_iconst C dX10_kind_117 ?_
        refine go_iald C dX10_kind_118 sh_65 (by decide) ⟨by decide, by decide⟩ ?_
        refine go_iconst C dX10_kind_119 ?_
        refine go_isub C dX10_kind_120 ?_
        obtain ⟨hc7, h⟩ := chk_some h
        refine go_icmp_ne (tgt := 128) C dX10_kind_121 rfl (hB 65 1 (by decide)) hc7 (fun hc8 => ?_) (fun hc8 => ?_)
        · replace h := ite_f hc8 h
          refine go_iload_n C dX10_kind_128 rfl rfl ?_
          refine go_if_eq (tgt := 136) C dX10_kind_129 rfl hp_v2 (fun hc9 => ?_) (fun hc9 => ?_)
          · replace h := ite_t hc9 h
            refine go_iconst C dX10_kind_136 ?_
            cases h
            exact go_iret C E rfl dX10_kind_137 (Nat.le_of_ble_eq_true rfl) (Nat.le_of_ble_eq_true rfl) rfl rfl hB
          · replace h := ite_f hc9 h
            refine go_iconst C dX10_kind_132 ?_
            refine go_goto (tgt := 137) C dX10_kind_133 rfl ?_
            cases h
            exact go_iret C E rfl dX10_kind_137 (Nat.le_of_ble_eq_true rfl) (Nat.le_of_ble_eq_true rfl) rfl rfl hB
        · replace h := ite_t hc8 h
          refine go_iconst C dX10_kind_124 ?_
          refine go_goto (tgt := 137) C dX10_kind_125 rfl ?_
          cases h
          exact go_iret C E rfl dX10_kind_137 (Nat.le_of_ble_eq_true rfl) (Nat.le_of_ble_eq_true rfl) rfl rfl hB
      · replace h := ite_t hc6 h
        refine go_iconst C dX10_kind_103 ?_
        refine go_goto (tgt := 137) C dX10_kind_104 rfl ?_
        cases h
        exact go_iret C E rfl dX10_kind_137 (Nat.le_of_ble_eq_true rfl) (Nat.le_of_ble_eq_true rfl) rfl rfl hB
    · replace h := ite_f hc5 h
      refine go_iload_n C dX10_kind_52 rfl rfl ?_
      refine go_if_eq (tgt := 72) C dX10_kind_53 rfl hp_v1 (fun hc10 => ?_) (fun hc10 => ?_)
      · replace h := ite_t hc10 h
        refine go_iconst C dX10_kind_72 ?_
        refine go_istore_n (ls2 := [some (rf G 64), some (.int (iI 0)), some (.int (iI v2)), some (.int (iI v3))]) C dX10_kind_73 rfl (Nat.le_of_ble_eq_true rfl) rfl ?_
        refine go_iload_n C dX10_kind_74 rfl rfl ?_
        refine go_if_eq (tgt := 91) C dX10_kind_75 rfl hp_v2 (fun hc11 => ?_) (fun hc11 => ?_)
        · replace h := ite_t hc11 h
          refine go_iconst C dX10_kind_91 ?_
          refine go_istore_n (ls2 := [some (rf G 64), some (.int (iI 0)), some (.int (iI 0)), some (.int (iI v3))]) C dX10_kind_92 rfl (Nat.le_of_ble_eq_true rfl) rfl ?_
          refine go_iinc (ls2 := [some (rf G 64), some (.int (iI 0)), some (.int (iI 0)), some (.int (iI (v3 + 1)))]) C dX10_kind_93 rfl (Nat.le_of_ble_eq_true rfl) rfl ?_
          refine go_goto (tgt := 42) C dX10_kind_96 rfl ?_
          exact ih 0 0 (v3 + 1) M hB h
        · replace h := ite_f hc11 h
          refine go_aload_n C dX10_kind_78 rfl rfl ?_
          refine go_iload_n C dX10_kind_79 rfl rfl ?_
          obtain ⟨q12, h12, h⟩ := ob_some h
          refine go_callV_i C dX10_kind_80 (ok_X10_degree C.hl hB h12) mv_X10_113 sh_64 rfl rfl (Nat.le_of_ble_eq_true rfl) ⟨(Nat.le_of_ble_eq_true rfl), (Nat.le_of_ble_eq_true rfl)⟩ ⟨(Nat.le_of_ble_eq_true rfl), (Nat.le_of_ble_eq_true rfl)⟩ (fun hB12 => ?_)
          refine go_iconst C dX10_kind_83 ?_
          obtain ⟨hc13, h⟩ := chk_some h
          refine go_icmp_ne (tgt := 91) C dX10_kind_84 rfl hc13 (by decide) (fun hc14 => ?_) (fun hc14 => ?_)
          · replace h := ite_f hc14 h
            refine go_iconst C dX10_kind_91 ?_
            refine go_istore_n (ls2 := [some (rf G 64), some (.int (iI 0)), some (.int (iI 0)), some (.int (iI v3))]) C dX10_kind_92 rfl (Nat.le_of_ble_eq_true rfl) rfl ?_
            refine go_iinc (ls2 := [some (rf G 64), some (.int (iI 0)), some (.int (iI 0)), some (.int (iI (v3 + 1)))]) C dX10_kind_93 rfl (Nat.le_of_ble_eq_true rfl) rfl ?_
            refine go_goto (tgt := 42) C dX10_kind_96 rfl ?_
            exact ih 0 0 (v3 + 1) M hB12 h
          · replace h := ite_t hc14 h
            refine go_iconst C dX10_kind_87 ?_
            refine go_goto (tgt := 92) C dX10_kind_88 rfl ?_
            refine go_istore_n (ls2 := [some (rf G 64), some (.int (iI 0)), some (.int (iI 1)), some (.int (iI v3))]) C dX10_kind_92 rfl (Nat.le_of_ble_eq_true rfl) rfl ?_
            refine go_iinc (ls2 := [some (rf G 64), some (.int (iI 0)), some (.int (iI 1)), some (.int (iI (v3 + 1)))]) C dX10_kind_93 rfl (Nat.le_of_ble_eq_true rfl) rfl ?_
            refine go_goto (tgt := 42) C dX10_kind_96 rfl ?_
            exact ih 0 1 (v3 + 1) M hB12 h
      · replace h := ite_f hc10 h
        refine go_aload_n C dX10_kind_56 rfl rfl ?_
        refine go_iconst C dX10_kind_57 ?_
        refine go_iload_n C dX10_kind_58 rfl rfl ?_
        obtain ⟨q15, h15, h⟩ := ob_some h
        refine go_callV_i C dX10_kind_59 (ok_X10_farFrom C.hl hB h15) mv_X10_104 sh_64 rfl rfl (Nat.le_of_ble_eq_true rfl) ⟨(Nat.le_of_ble_eq_true rfl), (Nat.le_of_ble_eq_true rfl)⟩ ⟨(Nat.le_of_ble_eq_true rfl), (Nat.le_of_ble_eq_true rfl)⟩ (fun hB15 => ?_)
        refine go_sipush C dX10_kind_62 (by decide +kernel) ?_
        obtain ⟨hc16, h⟩ := chk_some h
        refine go_icmp_ge (tgt := 72) C dX10_kind_65 rfl hc16 (by decide) (fun hc17 => ?_) (fun hc17 => ?_)
        · replace h := ite_t hc17 h
          refine go_iconst C dX10_kind_72 ?_
          refine go_istore_n (ls2 := [some (rf G 64), some (.int (iI 0)), some (.int (iI v2)), some (.int (iI v3))]) C dX10_kind_73 rfl (Nat.le_of_ble_eq_true rfl) rfl ?_
          refine go_iload_n C dX10_kind_74 rfl rfl ?_
          refine go_if_eq (tgt := 91) C dX10_kind_75 rfl hp_v2 (fun hc18 => ?_) (fun hc18 => ?_)
          · replace h := ite_t hc18 h
            refine go_iconst C dX10_kind_91 ?_
            refine go_istore_n (ls2 := [some (rf G 64), some (.int (iI 0)), some (.int (iI 0)), some (.int (iI v3))]) C dX10_kind_92 rfl (Nat.le_of_ble_eq_true rfl) rfl ?_
            refine go_iinc (ls2 := [some (rf G 64), some (.int (iI 0)), some (.int (iI 0)), some (.int (iI (v3 + 1)))]) C dX10_kind_93 rfl (Nat.le_of_ble_eq_true rfl) rfl ?_
            refine go_goto (tgt := 42) C dX10_kind_96 rfl ?_
            exact ih 0 0 (v3 + 1) M hB15 h
          · replace h := ite_f hc18 h
            refine go_aload_n C dX10_kind_78 rfl rfl ?_
            refine go_iload_n C dX10_kind_79 rfl rfl ?_
            obtain ⟨q19, h19, h⟩ := ob_some h
            refine go_callV_i C dX10_kind_80 (ok_X10_degree C.hl hB15 h19) mv_X10_113 sh_64 rfl rfl (Nat.le_of_ble_eq_true rfl) ⟨(Nat.le_of_ble_eq_true rfl), (Nat.le_of_ble_eq_true rfl)⟩ ⟨(Nat.le_of_ble_eq_true rfl), (Nat.le_of_ble_eq_true rfl)⟩ (fun hB19 => ?_)
            refine go_iconst C dX10_kind_83 ?_
            obtain ⟨hc20, h⟩ := chk_some h
            refine go_icmp_ne (tgt := 91) C dX10_kind_84 rfl hc20 (by decide) (fun hc21 => ?_) (fun hc21 => ?_)
            · replace h := ite_f hc21 h
              refine go_iconst C dX10_kind_91 ?_
              refine go_istore_n (ls2 := [some (rf G 64), some (.int (iI 0)), some (.int (iI 0)), some (.int (iI v3))]) C dX10_kind_92 rfl (Nat.le_of_ble_eq_true rfl) rfl ?_
              refine go_iinc (ls2 := [some (rf G 64), some (.int (iI 0)), some (.int (iI 0)), some (.int (iI (v3 + 1)))]) C dX10_kind_93 rfl (Nat.le_of_ble_eq_true rfl) rfl ?_
              refine go_goto (tgt := 42) C dX10_kind_96 rfl ?_
              exact ih 0 0 (v3 + 1) M hB19 h
            · replace h := ite_t hc21 h
              refine go_iconst C dX10_kind_87 ?_
              refine go_goto (tgt := 92) C dX10_kind_88 rfl ?_
              refine go_istore_n (ls2 := [some (rf G 64), some (.int (iI 0)), some (.int (iI 1)), some (.int (iI v3))]) C dX10_kind_92 rfl (Nat.le_of_ble_eq_true rfl) rfl ?_
              refine go_iinc (ls2 := [some (rf G 64), some (.int (iI 0)), some (.int (iI 1)), some (.int (iI (v3 + 1)))]) C dX10_kind_93 rfl (Nat.le_of_ble_eq_true rfl) rfl ?_
              refine go_goto (tgt := 42) C dX10_kind_96 rfl ?_
              exact ih 0 1 (v3 + 1) M hB19 h
        · replace h := ite_f hc17 h
          refine go_iconst C dX10_kind_68 ?_
          refine go_goto (tgt := 73) C dX10_kind_69 rfl ?_
          refine go_istore_n (ls2 := [some (rf G 64), some (.int (iI 1)), some (.int (iI v2)), some (.int (iI v3))]) C dX10_kind_73 rfl (Nat.le_of_ble_eq_true rfl) rfl ?_
          refine go_iload_n C dX10_kind_74 rfl rfl ?_
          refine go_if_eq (tgt := 91) C dX10_kind_75 rfl hp_v2 (fun hc22 => ?_) (fun hc22 => ?_)
          · replace h := ite_t hc22 h
            refine go_iconst C dX10_kind_91 ?_
            refine go_istore_n (ls2 := [some (rf G 64), some (.int (iI 1)), some (.int (iI 0)), some (.int (iI v3))]) C dX10_kind_92 rfl (Nat.le_of_ble_eq_true rfl) rfl ?_
            refine go_iinc (ls2 := [some (rf G 64), some (.int (iI 1)), some (.int (iI 0)), some (.int (iI (v3 + 1)))]) C dX10_kind_93 rfl (Nat.le_of_ble_eq_true rfl) rfl ?_
            refine go_goto (tgt := 42) C dX10_kind_96 rfl ?_
            exact ih 1 0 (v3 + 1) M hB15 h
          · replace h := ite_f hc22 h
            refine go_aload_n C dX10_kind_78 rfl rfl ?_
            refine go_iload_n C dX10_kind_79 rfl rfl ?_
            obtain ⟨q23, h23, h⟩ := ob_some h
            refine go_callV_i C dX10_kind_80 (ok_X10_degree C.hl hB15 h23) mv_X10_113 sh_64 rfl rfl (Nat.le_of_ble_eq_true rfl) ⟨(Nat.le_of_ble_eq_true rfl), (Nat.le_of_ble_eq_true rfl)⟩ ⟨(Nat.le_of_ble_eq_true rfl), (Nat.le_of_ble_eq_true rfl)⟩ (fun hB23 => ?_)
            refine go_iconst C dX10_kind_83 ?_
            obtain ⟨hc24, h⟩ := chk_some h
            refine go_icmp_ne (tgt := 91) C dX10_kind_84 rfl hc24 (by decide) (fun hc25 => ?_) (fun hc25 => ?_)
            · replace h := ite_f hc25 h
              refine go_iconst C dX10_kind_91 ?_
              refine go_istore_n (ls2 := [some (rf G 64), some (.int (iI 1)), some (.int (iI 0)), some (.int (iI v3))]) C dX10_kind_92 rfl (Nat.le_of_ble_eq_true rfl) rfl ?_
              refine go_iinc (ls2 := [some (rf G 64), some (.int (iI 1)), some (.int (iI 0)), some (.int (iI (v3 + 1)))]) C dX10_kind_93 rfl (Nat.le_of_ble_eq_true rfl) rfl ?_
              refine go_goto (tgt := 42) C dX10_kind_96 rfl ?_
              exact ih 1 0 (v3 + 1) M hB23 h
            · replace h := ite_t hc25 h
              refine go_iconst C dX10_kind_87 ?_
              refine go_goto (tgt := 92) C dX10_kind_88 rfl ?_
              refine go_istore_n (ls2 := [some (rf G 64), some (.int (iI 1)), some (.int (iI 1)), some (.int (iI v3))]) C dX10_kind_92 rfl (Nat.le_of_ble_eq_true rfl) rfl ?_
              refine go_iinc (ls2 := [some (rf G 64), some (.int (iI 1)), some (.int (iI 1)), some (.int (iI (v3 + 1)))]) C dX10_kind_93 rfl (Nat.le_of_ble_eq_true rfl) rfl ?_
              refine go_goto (tgt := 42) C dX10_kind_96 rfl ?_
              exact ih 1 1 (v3 + 1) M hB23 h
set_option maxHeartbeats 4000000 in
theorem ok_X10_kind {G : gC} {l : Launch} (hl : l.stackTraces = false) {F : Nat} {M : Mem} (hB : Bd M) {res : Int × Mem} (h : f_X10_kind F M = some res) : Ok G l 3 0 0 yX10_kind (.code yX10_kind cX10_kind 4 (some .int)) [rf G 64] M (.inr (some (.int (iI res.1)))) res.2 := by
  refine ok_of (ls := [some (rf G 64), none, none, none]) hl (by decide +kernel) (Nat.le_of_ble_eq_true rfl) ⟨rfl, trivial⟩ ?_
  intro X hX C E
  subst hX
  rw [f_X10_kind] at h
  refine go_aload_n C dX10_kind_0 rfl rfl ?_
  refine go_iconst C dX10_kind_1 ?_
  refine go_putI (z := 3) C dX10_kind_2 fp_X10_52 sh_64 rfl rfl rfl rfl ?_
  have hB1 := hB.set 64 3 (x := 0) (by decide)
  refine go_aload_n C dX10_kind_5 rfl rfl ?_
  obtain ⟨q2, h2, h⟩ := ob_some h
  refine go_callV_v C dX10_kind_6 (ok_X10_laysFar C.hl hB1 h2) mv_X10_101 sh_64 rfl rfl (Nat.le_of_ble_eq_true rfl) ⟨(Nat.le_of_ble_eq_true rfl), (Nat.le_of_ble_eq_true rfl)⟩ ⟨(Nat.le_of_ble_eq_true rfl), (Nat.le_of_ble_eq_true rfl)⟩ (fun hB2 => ?_)
  refine go_aload_n C dX10_kind_9 rfl rfl ?_
  refine go_getR (o := 1) (k2 := 65) C dX10_kind_10 fl_X10_7 sh_64 rfl rfl ?_
  refine go_iconst C dX10_kind_13 ?_
  refine go_iald C dX10_kind_14 sh_65 (by decide) ⟨by decide, by decide⟩ ?_
  refine go_if_le (tgt := 22) C dX10_kind_15 rfl (hB2 65 0 (by decide)) (fun hc3 => ?_) (fun hc3 => ?_)
  · replace h := ite_t hc3 h
    refine go_iconst C dX10_kind_22 ?_
    refine go_istore_n (ls2 := [some (rf G 64), some (.int (iI 0)), none, none]) C dX10_kind_23 rfl (Nat.le_of_ble_eq_true rfl) rfl ?_
    refine go_aload_n C dX10_kind_24 rfl rfl ?_
    refine go_getR (o := 1) (k2 := 65) C dX10_kind_25 fl_X10_7 sh_64 rfl rfl ?_
    refine go_iconst C dX10_kind_28 ?_
    refine go_iald C dX10_kind_29 sh_65 (by decide) ⟨by decide, by decide⟩ ?_
    refine go_iconst C dX10_kind_30 ?_
    refine go_icmp_le (tgt := 38) C dX10_kind_31 rfl (hB2 65 0 (by decide)) (by decide) (fun hc4 => ?_) (fun hc4 => ?_)
    · replace h := ite_t hc4 h
      refine go_iconst C dX10_kind_38 ?_
      refine go_istore_n (ls2 := [some (rf G 64), some (.int (iI 0)), some (.int (iI 0)), none]) C dX10_kind_39 rfl (Nat.le_of_ble_eq_true rfl) rfl ?_
      refine go_iconst C dX10_kind_40 ?_
      refine go_istore_n (ls2 := [some (rf G 64), some (.int (iI 0)), some (.int (iI 0)), some (.int (iI 0))]) C dX10_kind_41 rfl (Nat.le_of_ble_eq_true rfl) rfl ?_
      exact w_X10_kind_42 C E F 0 0 0 q2 hB2 h
    · replace h := ite_f hc4 h
      refine go_iconst C dX10_kind_34 ?_
      refine go_goto (tgt := 39) C dX10_kind_35 rfl ?_
      refine go_istore_n (ls2 := [some (rf G 64), some (.int (iI 0)), some (.int (iI 1)), none]) C dX10_kind_39 rfl (Nat.le_of_ble_eq_true rfl) rfl ?_
      refine go_iconst C dX10_kind_40 ?_
      refine go_istore_n (ls2 := [some (rf G 64), some (.int (iI 0)), some (.int (iI 1)), some (.int (iI 0))]) C dX10_kind_41 rfl (Nat.le_of_ble_eq_true rfl) rfl ?_
      exact w_X10_kind_42 C E F 0 1 0 q2 hB2 h
  · replace h := ite_f hc3 h
    refine go_iconst C dX10_kind_18 ?_
    refine go_goto (tgt := 23) C dX10_kind_19 rfl ?_
    refine go_istore_n (ls2 := [some (rf G 64), some (.int (iI 1)), none, none]) C dX10_kind_23 rfl (Nat.le_of_ble_eq_true rfl) rfl ?_
    refine go_aload_n C dX10_kind_24 rfl rfl ?_
    refine go_getR (o := 1) (k2 := 65) C dX10_kind_25 fl_X10_7 sh_64 rfl rfl ?_
    refine go_iconst C dX10_kind_28 ?_
    refine go_iald C dX10_kind_29 sh_65 (by decide) ⟨by decide, by decide⟩ ?_
    refine go_iconst C dX10_kind_30 ?_
    refine go_icmp_le (tgt := 38) C dX10_kind_31 rfl (hB2 65 0 (by decide)) (by decide) (fun hc26 => ?_) (fun hc26 => ?_)
    · replace h := ite_t hc26 h
      refine go_iconst C dX10_kind_38 ?_
      refine go_istore_n (ls2 := [some (rf G 64), some (.int (iI 1)), some (.int (iI 0)), none]) C dX10_kind_39 rfl (Nat.le_of_ble_eq_true rfl) rfl ?_
      refine go_iconst C dX10_kind_40 ?_
      refine go_istore_n (ls2 := [some (rf G 64), some (.int (iI 1)), some (.int (iI 0)), some (.int (iI 0))]) C dX10_kind_41 rfl (Nat.le_of_ble_eq_true rfl) rfl ?_
      exact w_X10_kind_42 C E F 1 0 0 q2 hB2 h
    · replace h := ite_f hc26 h
      refine go_iconst C dX10_kind_34 ?_
      refine go_goto (tgt := 39) C dX10_kind_35 rfl ?_
      refine go_istore_n (ls2 := [some (rf G 64), some (.int (iI 1)), some (.int (iI 1)), none]) C dX10_kind_39 rfl (Nat.le_of_ble_eq_true rfl) rfl ?_
      refine go_iconst C dX10_kind_40 ?_
      refine go_istore_n (ls2 := [some (rf G 64), some (.int (iI 1)), some (.int (iI 1)), some (.int (iI 0))]) C dX10_kind_41 rfl (Nat.le_of_ble_eq_true rfl) rfl ?_
      exact w_X10_kind_42 C E F 1 1 0 q2 hB2 h
-- IntervalRouterModel.label(I)I
set_option maxHeartbeats 4000000 in
theorem ok_X10_label {G : gC} {l : Launch} (hl : l.stackTraces = false) {v1 : Int} {M : Mem} (hB : Bd M) {res : Int × Mem} (h : f_X10_label v1 M = some res) : Ok G l 2 0 0 yX10_label (.code yX10_label cX10_label 2 (some .int)) [rf G 64, .int (iI v1)] M (.inr (some (.int (iI res.1)))) res.2 := by
  refine ok_of (ls := [some (rf G 64), some (.int (iI v1))]) hl (by decide +kernel) (Nat.le_of_ble_eq_true rfl) ⟨rfl, ⟨rfl, trivial⟩⟩ ?_
  intro X hX C E
  subst hX
  rw [f_X10_label] at h
  refine go_aload_n C dX10_label_0 rfl rfl ?_
  refine go_aload_n C dX10_label_1 rfl rfl ?_
  refine go_iload_n C dX10_label_2 rfl rfl ?_
  obtain ⟨q1, h1, h⟩ := ob_some h
  refine go_callV_i C dX10_label_3 (ok_X10_isNode C.hl hB h1) mv_X10_85 sh_64 rfl rfl (Nat.le_of_ble_eq_true rfl) ⟨(Nat.le_of_ble_eq_true rfl), (Nat.le_of_ble_eq_true rfl)⟩ ⟨(Nat.le_of_ble_eq_true rfl), (Nat.le_of_ble_eq_true rfl)⟩ (fun hB1 => ?_)
  obtain ⟨hc2, h⟩ := chk_some h
  refine go_if_eq (tgt := 13) C dX10_label_6 rfl hc2 (fun hc3 => ?_) (fun hc3 => ?_)
  · replace h := ite_t hc3 h
    refine go_iconst C dX10_label_13 ?_
    obtain ⟨q4, h4, h⟩ := ob_some h
    refine go_callV_i C dX10_label_14 (ok_X10_refused C.hl hB1 h4) mv_X10_67 sh_64 rfl rfl (Nat.le_of_ble_eq_true rfl) ⟨(Nat.le_of_ble_eq_true rfl), (Nat.le_of_ble_eq_true rfl)⟩ ⟨(Nat.le_of_ble_eq_true rfl), (Nat.le_of_ble_eq_true rfl)⟩ (fun hB4 => ?_)
    obtain ⟨hc5, h⟩ := chk_some h
    refine go_if_eq (tgt := 24) C dX10_label_17 rfl hc5 (fun hc6 => ?_) (fun hc6 => ?_)
    · replace h := ite_t hc6 h
      refine go_aload_n C dX10_label_24 rfl rfl ?_
      refine go_getR (o := 1) (k2 := 65) C dX10_label_25 fl_X10_7 sh_64 rfl rfl ?_
      refine go_bipush C dX10_label_28 (by decide +kernel) ?_
      refine go_iload_n C dX10_label_30 rfl rfl ?_
      refine go_iadd C dX10_label_31 ?_
      obtain ⟨hc7, h⟩ := chk_some h
      refine go_iald C dX10_label_32 sh_65 (by decide) hc7 ?_
      cases h
      exact go_iret C E rfl dX10_label_33 (Nat.le_of_ble_eq_true rfl) (Nat.le_of_ble_eq_true rfl) rfl rfl hB4
    · replace h := ite_f hc6 h
      refine go_iconst C dX10_label_20 ?_
      refine go_goto (tgt := 33) C dX10_label_21 rfl ?_
      cases h
      exact go_iret C E rfl dX10_label_33 (Nat.le_of_ble_eq_true rfl) (Nat.le_of_ble_eq_true rfl) rfl rfl hB4
  · replace h := ite_f hc3 h
    refine go_iconst C dX10_label_9 ?_
    refine go_goto (tgt := 14) C dX10_label_10 rfl ?_
    obtain ⟨q8, h8, h⟩ := ob_some h
    refine go_callV_i C dX10_label_14 (ok_X10_refused C.hl hB1 h8) mv_X10_67 sh_64 rfl rfl (Nat.le_of_ble_eq_true rfl) ⟨(Nat.le_of_ble_eq_true rfl), (Nat.le_of_ble_eq_true rfl)⟩ ⟨(Nat.le_of_ble_eq_true rfl), (Nat.le_of_ble_eq_true rfl)⟩ (fun hB8 => ?_)
    obtain ⟨hc9, h⟩ := chk_some h
    refine go_if_eq (tgt := 24) C dX10_label_17 rfl hc9 (fun hc10 => ?_) (fun hc10 => ?_)
    · replace h := ite_t hc10 h
      refine go_aload_n C dX10_label_24 rfl rfl ?_
      refine go_getR (o := 1) (k2 := 65) C dX10_label_25 fl_X10_7 sh_64 rfl rfl ?_
      refine go_bipush C dX10_label_28 (by decide +kernel) ?_
      refine go_iload_n C dX10_label_30 rfl rfl ?_
      refine go_iadd C dX10_label_31 ?_
      obtain ⟨hc11, h⟩ := chk_some h
      refine go_iald C dX10_label_32 sh_65 (by decide) hc11 ?_
      cases h
      exact go_iret C E rfl dX10_label_33 (Nat.le_of_ble_eq_true rfl) (Nat.le_of_ble_eq_true rfl) rfl rfl hB8
    · replace h := ite_f hc10 h
      refine go_iconst C dX10_label_20 ?_
      refine go_goto (tgt := 33) C dX10_label_21 rfl ?_
      cases h
      exact go_iret C E rfl dX10_label_33 (Nat.le_of_ble_eq_true rfl) (Nat.le_of_ble_eq_true rfl) rfl rfl hB8
-- IntervalRouterModel.nodeOf(I)I
set_option maxHeartbeats 4000000 in
theorem w_X10_nodeOf_2 {G : gC} {X : gX} {res : Int} {F : Nat} {M : Mem} (hB : Bd M) (C : Cx G X cX10_nodeOf 3 RX10 0 0 0 (some .int) []) (E : Fnl G X 0 0 (.inr (some (.int (iI res)))) M) : ∀ (fu : Nat) (v1 : Int) (v2 : Int), f_X10_nodeOf_2 F fu v1 v2 M = some res → Go G X 3 0 0 2 [some (rf G 64), some (.int (iI v1)), some (.int (iI v2))] [] M := by
  intro fu
  induction fu with
  | zero => intro v1 v2 h; exact nomatch (show (none : Option (Int)) = some res from h)
  | succ fu ih =>
    intro v1 v2 h
    rw [f_X10_nodeOf_2] at h
    obtain ⟨hp_v1, h⟩ := chk_some h
    refine go_aload_n C dX10_nodeOf_2 rfl rfl ?_
    refine go_getR (o := 1) (k2 := 65) C dX10_nodeOf_3 fl_X10_7 sh_64 rfl rfl ?_
    refine go_bipush C dX10_nodeOf_6 (by decide +kernel) ?_
    refine go_iload_n C dX10_nodeOf_8 rfl rfl ?_
    refine go_iadd C dX10_nodeOf_9 ?_
    obtain ⟨hc1, h⟩ := chk_some h
    refine go_iald C dX10_nodeOf_10 sh_65 (by decide) hc1 ?_
    refine go_iload_n C dX10_nodeOf_11 rfl rfl ?_
    refine go_icmp_eq (tgt := 21) C dX10_nodeOf_12 rfl (hB 65 (50 + v2) (by decide)) hp_v1 (fun hc2 => ?_) (fun hc2 => ?_)
    · replace h := ite_t hc2 h
      refine go_iload_n C dX10_nodeOf_21 rfl rfl ?_
      cases h
      exact go_iret C E rfl dX10_nodeOf_22 (Nat.le_of_ble_eq_true rfl) (Nat.le_of_ble_eq_true rfl) rfl rfl hB
    · replace h := ite_f hc2 h
      refine go_iinc (ls2 := [some (rf G 64), some (.int (iI v1)), some (.int (iI (v2 + 1)))]) C dX10_nodeOf_15 rfl (Nat.le_of_ble_eq_true rfl) rfl ?_
      refine go_goto (tgt := 2) C dX10_nodeOf_18 rfl ?_
      exact ih v1 (v2 + 1) h
set_option maxHeartbeats 4000000 in
theorem ok_X10_nodeOf {G : gC} {l : Launch} (hl : l.stackTraces = false) {F : Nat} {v1 : Int} {M : Mem} (hB : Bd M) {res : Int} (h : f_X10_nodeOf F v1 M = some res) : Ok G l 0 0 0 yX10_nodeOf (.code yX10_nodeOf cX10_nodeOf 3 (some .int)) [rf G 64, .int (iI v1)] M (.inr (some (.int (iI res)))) M := by
  refine ok_of (ls := [some (rf G 64), some (.int (iI v1)), none]) hl (by decide +kernel) (Nat.le_of_ble_eq_true rfl) ⟨rfl, ⟨rfl, trivial⟩⟩ ?_
  intro X hX C E
  subst hX
  rw [f_X10_nodeOf] at h
  refine go_iconst C dX10_nodeOf_0 ?_
  refine go_istore_n (ls2 := [some (rf G 64), some (.int (iI v1)), some (.int (iI 0))]) C dX10_nodeOf_1 rfl (Nat.le_of_ble_eq_true rfl) rfl ?_
  exact w_X10_nodeOf_2 hB C E F v1 0 h
-- IntervalRouterModel.nodeWith(I)I
set_option maxHeartbeats 4000000 in
theorem ok_X10_nodeWith {G : gC} {l : Launch} (hl : l.stackTraces = false) {F : Nat} {v1 : Int} {M : Mem} (hB : Bd M) {res : Int × Mem} (h : f_X10_nodeWith F v1 M = some res) : Ok G l 2 0 0 yX10_nodeWith (.code yX10_nodeWith cX10_nodeWith 2 (some .int)) [rf G 64, .int (iI v1)] M (.inr (some (.int (iI res.1)))) res.2 := by
  refine ok_of (ls := [some (rf G 64), some (.int (iI v1))]) hl (by decide +kernel) (Nat.le_of_ble_eq_true rfl) ⟨rfl, ⟨rfl, trivial⟩⟩ ?_
  intro X hX C E
  subst hX
  rw [f_X10_nodeWith] at h
  refine go_aload_n C dX10_nodeWith_0 rfl rfl ?_
  refine go_aload_n C dX10_nodeWith_1 rfl rfl ?_
  refine go_iload_n C dX10_nodeWith_2 rfl rfl ?_
  obtain ⟨q1, h1, h⟩ := ob_some h
  refine go_callV_i C dX10_nodeWith_3 (ok_X10_isNode C.hl hB h1) mv_X10_85 sh_64 rfl rfl (Nat.le_of_ble_eq_true rfl) ⟨(Nat.le_of_ble_eq_true rfl), (Nat.le_of_ble_eq_true rfl)⟩ ⟨(Nat.le_of_ble_eq_true rfl), (Nat.le_of_ble_eq_true rfl)⟩ (fun hB1 => ?_)
  obtain ⟨hc2, h⟩ := chk_some h
  refine go_if_eq (tgt := 13) C dX10_nodeWith_6 rfl hc2 (fun hc3 => ?_) (fun hc3 => ?_)
  · replace h := ite_t hc3 h
    refine go_iconst C dX10_nodeWith_13 ?_
    obtain ⟨q4, h4, h⟩ := ob_some h
    refine go_callV_i C dX10_nodeWith_14 (ok_X10_refused C.hl hB1 h4) mv_X10_67 sh_64 rfl rfl (Nat.le_of_ble_eq_true rfl) ⟨(Nat.le_of_ble_eq_true rfl), (Nat.le_of_ble_eq_true rfl)⟩ ⟨(Nat.le_of_ble_eq_true rfl), (Nat.le_of_ble_eq_true rfl)⟩ (fun hB4 => ?_)
    obtain ⟨hc5, h⟩ := chk_some h
    refine go_if_eq (tgt := 24) C dX10_nodeWith_17 rfl hc5 (fun hc6 => ?_) (fun hc6 => ?_)
    · replace h := ite_t hc6 h
      refine go_aload_n C dX10_nodeWith_24 rfl rfl ?_
      refine go_iload_n C dX10_nodeWith_25 rfl rfl ?_
      obtain ⟨q7, h7, h⟩ := ob_some h
      refine go_callV_i C dX10_nodeWith_26 (ok_X10_nodeOf C.hl hB4 h7) mv_X10_117 sh_64 rfl rfl (Nat.le_of_ble_eq_true rfl) ⟨(Nat.le_of_ble_eq_true rfl), (Nat.le_of_ble_eq_true rfl)⟩ ⟨(Nat.le_of_ble_eq_true rfl), (Nat.le_of_ble_eq_true rfl)⟩ (fun hB7 => ?_)
      cases h
      exact go_iret C E rfl dX10_nodeWith_29 (Nat.le_of_ble_eq_true rfl) (Nat.le_of_ble_eq_true rfl) rfl rfl hB7
    · replace h := ite_f hc6 h
      refine go_iconst C dX10_nodeWith_20 ?_
      refine go_goto (tgt := 29) C dX10_nodeWith_21 rfl ?_
      cases h
      exact go_iret C E rfl dX10_nodeWith_29 (Nat.le_of_ble_eq_true rfl) (Nat.le_of_ble_eq_true rfl) rfl rfl hB4
  · replace h := ite_f hc3 h
    refine go_iconst C dX10_nodeWith_9 ?_
    refine go_goto (tgt := 14) C dX10_nodeWith_10 rfl ?_
    obtain ⟨q8, h8, h⟩ := ob_some h
    refine go_callV_i C dX10_nodeWith_14 (ok_X10_refused C.hl hB1 h8) mv_X10_67 sh_64 rfl rfl (Nat.le_of_ble_eq_true rfl) ⟨(Nat.le_of_ble_eq_true rfl), (Nat.le_of_ble_eq_true rfl)⟩ ⟨(Nat.le_of_ble_eq_true rfl), (Nat.le_of_ble_eq_true rfl)⟩ (fun hB8 => ?_)
    obtain ⟨hc9, h⟩ := chk_some h
    refine go_if_eq (tgt := 24) C dX10_nodeWith_17 rfl hc9 (fun hc10 => ?_) (fun hc10 => ?_)
    · replace h := ite_t hc10 h
      refine go_aload_n C dX10_nodeWith_24 rfl rfl ?_
      refine go_iload_n C dX10_nodeWith_25 rfl rfl ?_
      obtain ⟨q11, h11, h⟩ := ob_some h
      refine go_callV_i C dX10_nodeWith_26 (ok_X10_nodeOf C.hl hB8 h11) mv_X10_117 sh_64 rfl rfl (Nat.le_of_ble_eq_true rfl) ⟨(Nat.le_of_ble_eq_true rfl), (Nat.le_of_ble_eq_true rfl)⟩ ⟨(Nat.le_of_ble_eq_true rfl), (Nat.le_of_ble_eq_true rfl)⟩ (fun hB11 => ?_)
      cases h
      exact go_iret C E rfl dX10_nodeWith_29 (Nat.le_of_ble_eq_true rfl) (Nat.le_of_ble_eq_true rfl) rfl rfl hB11
    · replace h := ite_f hc10 h
      refine go_iconst C dX10_nodeWith_20 ?_
      refine go_goto (tgt := 29) C dX10_nodeWith_21 rfl ?_
      cases h
      exact go_iret C E rfl dX10_nodeWith_29 (Nat.le_of_ble_eq_true rfl) (Nat.le_of_ble_eq_true rfl) rfl rfl hB8
-- IntervalRouterModel.visits(I)V
set_option maxHeartbeats 4000000 in
theorem w_X10_visits_158 {G : gC} {X : gX} {res : Mem} {F : Nat} (C : Cx G X cX10_visits 8 RX10 2 0 0 none []) (E : Fnl G X 0 0 (.inr none) res) : ∀ (fu : Nat) (v2 : Int) (v3 : Int) (v5 : Int) (M : Mem), Bd M → f_X10_visits_158 F fu v2 v3 v5 M = some res → Go G X 8 0 0 158 [some (rf G 64), none, some (.int (iI v2)), some (.int (iI v3)), none, some (.int (iI v5)), none, none] [] M := by
  intro fu
  induction fu with
  | zero => intro v2 v3 v5 M hB h; exact nomatch (show (none : Option (Mem)) = some res from h)
  | succ fu ih =>
    intro v2 v3 v5 M hB h
    rw [f_X10_visits_158] at h
    obtain ⟨⟨hp_v3, hp_v5⟩, h⟩ := chk_some h
    refine go_iload C dX10_visits_158 rfl ?_
    refine go_aload_n C dX10_visits_160 rfl rfl ?_
    refine go_getR (o := 1) (k2 := 65) C dX10_visits_161 fl_X10_7 sh_64 rfl rfl ?_
    refine go_iconst C dX10_visits_164 ?_
    refine go_iald C dX10_visits_165 sh_65 (by decide) ⟨by decide, by decide⟩ ?_
    refine go_icmp_ge (tgt := 198) C dX10_visits_166 rfl hp_v5 (hB 65 0 (by decide)) (fun hc5 => ?_) (fun hc5 => ?_)
    · replace h := ite_t hc5 h
      cases h
      exact go_vret C E rfl dX10_visits_198 (Nat.le_of_ble_eq_true rfl) (Nat.le_of_ble_eq_true rfl) rfl rfl hB
    · replace h := ite_f hc5 h
      refine go_iload_n C dX10_visits_169 rfl rfl ?_
      refine go_iload C dX10_visits_170 rfl ?_
      obtain ⟨q6, h6, h⟩ := ob_some h
      refine go_callS_i C dX10_visits_172 (ok_X10_has C.hl hB h6) ms_X10_120 rfl rfl (Nat.le_of_ble_eq_true rfl) ⟨(Nat.le_of_ble_eq_true rfl), (Nat.le_of_ble_eq_true rfl)⟩ ⟨(Nat.le_of_ble_eq_true rfl), (Nat.le_of_ble_eq_true rfl)⟩ (fun hB6 => ?_)
      obtain ⟨hc7, h⟩ := chk_some h
      refine go_if_ne (tgt := 192) C dX10_visits_175 rfl hc7 (fun hc8 => ?_) (fun hc8 => ?_)
      · replace h := ite_f hc8 h
        refine go_iinc (ls2 := [some (rf G 64), none, some (.int (iI v2)), some (.int (iI v3)), none, some (.int (iI (v5 + 1))), none, none]) C dX10_visits_192 rfl (Nat.le_of_ble_eq_true rfl) rfl ?_
        refine go_goto (tgt := 158) C dX10_visits_195 rfl ?_
        exact ih v2 v3 (v5 + 1) M hB6 h
      · replace h := ite_t hc8 h
        refine go_aload_n C dX10_visits_178 rfl rfl ?_
        refine go_getR (o := 1) (k2 := 65) C dX10_visits_179 fl_X10_7 sh_64 rfl rfl ?_
        refine go_bipush C dX10_visits_182 (by decide +kernel) ?_
        refine go_iload C dX10_visits_184 rfl ?_
        refine go_iadd C dX10_visits_186 ?_
        refine go_iload_n C dX10_visits_187 rfl rfl ?_
        obtain ⟨hc9, h⟩ := chk_some h
        refine go_iast C dX10_visits_188 sh_65 (by decide) hc9 ?_
        have hB10 := hB6.set 65 (50 + v5) (x := v3) hp_v3
        refine go_iinc (ls2 := [some (rf G 64), none, some (.int (iI v2)), some (.int (iI (v3 + 1))), none, some (.int (iI v5)), none, none]) C dX10_visits_189 rfl (Nat.le_of_ble_eq_true rfl) rfl ?_
        refine go_iinc (ls2 := [some (rf G 64), none, some (.int (iI v2)), some (.int (iI (v3 + 1))), none, some (.int (iI (v5 + 1))), none, none]) C dX10_visits_192 rfl (Nat.le_of_ble_eq_true rfl) rfl ?_
        refine go_goto (tgt := 158) C dX10_visits_195 rfl ?_
        exact ih v2 (v3 + 1) (v5 + 1) (mset M 65 (50 + v5) v3) hB10 h
set_option maxHeartbeats 4000000 in
theorem w_X10_visits_55 {G : gC} {X : gX} {res : Mem} {F : Nat} (C : Cx G X cX10_visits 8 RX10 2 0 0 none []) (E : Fnl G X 0 0 (.inr none) res) {k26 : Int → Int → Int → Mem → Option (Mem)} (hk26 : ∀ (v2 : Int) (v3 : Int) (v4 : Int) (M : Mem), Bd M → k26 v2 v3 v4 M = some res → Go G X 8 0 0 26 [some (rf G 64), none, some (.int (iI v2)), some (.int (iI v3)), some (.int (iI v4)), none, none, none] [] M) : ∀ (fu : Nat) (v2 : Int) (v3 : Int) (v4 : Int) (v5 : Int) (v6 : Int) (v7 : Int) (M : Mem), Bd M → f_X10_visits_55 F k26 fu v2 v3 v4 v5 v6 v7 M = some res → Go G X 8 0 0 55 [some (rf G 64), none, some (.int (iI v2)), some (.int (iI v3)), some (.int (iI v4)), some (.int (iI v5)), some (.int (iI v6)), some (.int (iI v7))] [] M := by
  intro fu
  induction fu with
  | zero => intro v2 v3 v4 v5 v6 v7 M hB h; exact nomatch (show (none : Option (Mem)) = some res from h)
  | succ fu ih =>
    intro v2 v3 v4 v5 v6 v7 M hB h
    rw [f_X10_visits_55] at h
    obtain ⟨⟨hp_v3, hp_v6, hp_v7⟩, h⟩ := chk_some h
    refine go_iload C dX10_visits_55 rfl ?_
    refine go_if_lt (tgt := 107) C dX10_visits_57 rfl hp_v7 (fun hc12 => ?_) (fun hc12 => ?_)
    · replace h := ite_t hc12 h
      refine go_iload C dX10_visits_107 rfl ?_
      refine go_iconst C dX10_visits_109 ?_
      refine go_icmp_ne (tgt := 119) C dX10_visits_110 rfl hp_v6 (by decide) (fun hc13 => ?_) (fun hc13 => ?_)
      · replace h := ite_f hc13 h
        refine go_iload_n C dX10_visits_119 rfl rfl ?_
        refine go_iconst C dX10_visits_120 ?_
        refine go_iload C dX10_visits_121 rfl ?_
        refine go_ishl C dX10_visits_123 ?_
        refine go_ior C dX10_visits_124 ?_
        refine go_istore_n (ls2 := [some (rf G 64), none, some (.int (iI (bor v2 (bshl 1 v6)))), some (.int (iI v3)), some (.int (iI v4)), some (.int (iI v5)), some (.int (iI v6)), some (.int (iI v7))]) C dX10_visits_125 rfl (Nat.le_of_ble_eq_true rfl) rfl ?_
        refine go_aload_n C dX10_visits_126 rfl rfl ?_
        refine go_getR (o := 1) (k2 := 65) C dX10_visits_127 fl_X10_7 sh_64 rfl rfl ?_
        refine go_bipush C dX10_visits_130 (by decide +kernel) ?_
        refine go_iload C dX10_visits_132 rfl ?_
        refine go_iadd C dX10_visits_134 ?_
        refine go_iload_n C dX10_visits_135 rfl rfl ?_
        obtain ⟨hc14, h⟩ := chk_some h
        refine go_iast C dX10_visits_136 sh_65 (by decide) hc14 ?_
        have hB15 := hB.set 65 (50 + v6) (x := v3) hp_v3
        refine go_iinc (ls2 := [some (rf G 64), none, some (.int (iI (bor v2 (bshl 1 v6)))), some (.int (iI (v3 + 1))), some (.int (iI v4)), some (.int (iI v5)), some (.int (iI v6)), some (.int (iI v7))]) C dX10_visits_137 rfl (Nat.le_of_ble_eq_true rfl) rfl ?_
        refine go_aload_n C dX10_visits_140 rfl rfl ?_
        refine go_getR (o := 5) (k2 := 69) C dX10_visits_141 fl_X10_22 sh_64 rfl rfl ?_
        refine go_iload C dX10_visits_144 rfl ?_
        refine go_iload C dX10_visits_146 rfl ?_
        obtain ⟨hc16, h⟩ := chk_some h
        refine go_iast C dX10_visits_148 sh_69 (by decide) hc16 ?_
        have hB17 := hB15.set 69 v4 (x := v6) hp_v6
        refine go_iinc (ls2 := [some (rf G 64), none, some (.int (iI (bor v2 (bshl 1 v6)))), some (.int (iI (v3 + 1))), some (.int (iI (v4 + 1))), some (.int (iI v5)), some (.int (iI v6)), some (.int (iI v7))]) C dX10_visits_149 rfl (Nat.le_of_ble_eq_true rfl) rfl ?_
        refine go_goto (tgt := 26) C dX10_visits_152 rfl ?_
        refine go_weak (ls' := [some (rf G 64), none, some (.int (iI (bor v2 (bshl 1 v6)))), some (.int (iI (v3 + 1))), some (.int (iI (v4 + 1))), none, none, none]) ⟨rfl, ⟨rfl, ⟨rfl, ⟨rfl, trivial⟩⟩⟩⟩ ?_
        exact hk26 (bor v2 (bshl 1 v6)) (v3 + 1) (v4 + 1) (mset (mset M 65 (50 + v6) v3) 69 v4 v6) hB17 h
      · replace h := ite_t hc13 h
        refine go_iinc (ls2 := [some (rf G 64), none, some (.int (iI v2)), some (.int (iI v3)), some (.int (iI (v4 + (-1)))), some (.int (iI v5)), some (.int (iI v6)), some (.int (iI v7))]) C dX10_visits_113 rfl (Nat.le_of_ble_eq_true rfl) rfl ?_
        refine go_goto (tgt := 152) C dX10_visits_116 rfl ?_
        refine go_goto (tgt := 26) C dX10_visits_152 rfl ?_
        refine go_weak (ls' := [some (rf G 64), none, some (.int (iI v2)), some (.int (iI v3)), some (.int (iI (v4 + (-1)))), none, none, none]) ⟨rfl, ⟨rfl, ⟨rfl, ⟨rfl, trivial⟩⟩⟩⟩ ?_
        exact hk26 v2 v3 (v4 + (-1)) M hB h
    · replace h := ite_f hc12 h
      refine go_aload_n C dX10_visits_60 rfl rfl ?_
      refine go_iload C dX10_visits_61 rfl ?_
      refine go_iload C dX10_visits_63 rfl ?_
      obtain ⟨q18, h18, h⟩ := ob_some h
      refine go_callV_i C dX10_visits_65 (ok_X10_isOf C.hl hB h18) mv_X10_81 sh_64 rfl rfl (Nat.le_of_ble_eq_true rfl) ⟨(Nat.le_of_ble_eq_true rfl), (Nat.le_of_ble_eq_true rfl)⟩ ⟨(Nat.le_of_ble_eq_true rfl), (Nat.le_of_ble_eq_true rfl)⟩ (fun hB18 => ?_)
      obtain ⟨hc19, h⟩ := chk_some h
      refine go_if_eq (tgt := 97) C dX10_visits_68 rfl hc19 (fun hc20 => ?_) (fun hc20 => ?_)
      · replace h := ite_t hc20 h
        refine go_iload C dX10_visits_97 rfl ?_
        refine go_istore (ls2 := [some (rf G 64), none, some (.int (iI v2)), some (.int (iI v3)), some (.int (iI v4)), some (.int (iI v5)), some (.int (iI v6)), some (.int (iI v7))]) C dX10_visits_99 (Nat.le_of_ble_eq_true rfl) rfl ?_
        refine go_iinc (ls2 := [some (rf G 64), none, some (.int (iI v2)), some (.int (iI v3)), some (.int (iI v4)), some (.int (iI v5)), some (.int (iI v6)), some (.int (iI (v7 + (-1))))]) C dX10_visits_101 rfl (Nat.le_of_ble_eq_true rfl) rfl ?_
        refine go_goto (tgt := 55) C dX10_visits_104 rfl ?_
        exact ih v2 v3 v4 v5 v6 (v7 + (-1)) M hB18 h
      · replace h := ite_f hc20 h
        refine go_iload_n C dX10_visits_71 rfl rfl ?_
        refine go_aload_n C dX10_visits_72 rfl rfl ?_
        refine go_iload C dX10_visits_73 rfl ?_
        refine go_iload C dX10_visits_75 rfl ?_
        obtain ⟨q21, h21, h⟩ := ob_some h
        refine go_callV_i C dX10_visits_77 (ok_X10_otherEnd C.hl hB18 h21) mv_X10_107 sh_64 rfl rfl (Nat.le_of_ble_eq_true rfl) ⟨(Nat.le_of_ble_eq_true rfl), (Nat.le_of_ble_eq_true rfl)⟩ ⟨(Nat.le_of_ble_eq_true rfl), (Nat.le_of_ble_eq_true rfl)⟩ (fun hB21 => ?_)
        obtain ⟨q22, h22, h⟩ := ob_some h
        refine go_callS_i C dX10_visits_80 (ok_X10_has C.hl hB21 h22) ms_X10_120 rfl rfl (Nat.le_of_ble_eq_true rfl) ⟨(Nat.le_of_ble_eq_true rfl), (Nat.le_of_ble_eq_true rfl)⟩ ⟨(Nat.le_of_ble_eq_true rfl), (Nat.le_of_ble_eq_true rfl)⟩ (fun hB22 => ?_)
        obtain ⟨hc23, h⟩ := chk_some h
        refine go_if_ne (tgt := 97) C dX10_visits_83 rfl hc23 (fun hc24 => ?_) (fun hc24 => ?_)
        · replace h := ite_f hc24 h
          refine go_iload C dX10_visits_97 rfl ?_
          refine go_istore (ls2 := [some (rf G 64), none, some (.int (iI v2)), some (.int (iI v3)), some (.int (iI v4)), some (.int (iI v5)), some (.int (iI v6)), some (.int (iI v7))]) C dX10_visits_99 (Nat.le_of_ble_eq_true rfl) rfl ?_
          refine go_iinc (ls2 := [some (rf G 64), none, some (.int (iI v2)), some (.int (iI v3)), some (.int (iI v4)), some (.int (iI v5)), some (.int (iI v6)), some (.int (iI (v7 + (-1))))]) C dX10_visits_101 rfl (Nat.le_of_ble_eq_true rfl) rfl ?_
          refine go_goto (tgt := 55) C dX10_visits_104 rfl ?_
          exact ih v2 v3 v4 v5 v6 (v7 + (-1)) M hB22 h
        · replace h := ite_t hc24 h
          refine go_aload_n C dX10_visits_86 rfl rfl ?_
          refine go_iload C dX10_visits_87 rfl ?_
          refine go_iload C dX10_visits_89 rfl ?_
          obtain ⟨q25, h25, h⟩ := ob_some h
          refine go_callV_i C dX10_visits_91 (ok_X10_otherEnd C.hl hB22 h25) mv_X10_107 sh_64 rfl rfl (Nat.le_of_ble_eq_true rfl) ⟨(Nat.le_of_ble_eq_true rfl), (Nat.le_of_ble_eq_true rfl)⟩ ⟨(Nat.le_of_ble_eq_true rfl), (Nat.le_of_ble_eq_true rfl)⟩ (fun hB25 => ?_)
          refine go_goto (tgt := 99) C dX10_visits_94 rfl ?_
          refine go_istore (ls2 := [some (rf G 64), none, some (.int (iI v2)), some (.int (iI v3)), some (.int (iI v4)), some (.int (iI v5)), some (.int (iI q25)), some (.int (iI v7))]) C dX10_visits_99 (Nat.le_of_ble_eq_true rfl) rfl ?_
          refine go_iinc (ls2 := [some (rf G 64), none, some (.int (iI v2)), some (.int (iI v3)), some (.int (iI v4)), some (.int (iI v5)), some (.int (iI q25)), some (.int (iI (v7 + (-1))))]) C dX10_visits_101 rfl (Nat.le_of_ble_eq_true rfl) rfl ?_
          refine go_goto (tgt := 55) C dX10_visits_104 rfl ?_
          exact ih v2 v3 v4 v5 q25 (v7 + (-1)) M hB25 h
set_option maxHeartbeats 4000000 in
theorem w_X10_visits_26 {G : gC} {X : gX} {res : Mem} {F : Nat} (C : Cx G X cX10_visits 8 RX10 2 0 0 none []) (E : Fnl G X 0 0 (.inr none) res) : ∀ (fu : Nat) (v2 : Int) (v3 : Int) (v4 : Int) (M : Mem), Bd M → f_X10_visits_26 F fu v2 v3 v4 M = some res → Go G X 8 0 0 26 [some (rf G 64), none, some (.int (iI v2)), some (.int (iI v3)), some (.int (iI v4)), none, none, none] [] M := by
  intro fu
  induction fu with
  | zero => intro v2 v3 v4 M hB h; exact nomatch (show (none : Option (Mem)) = some res from h)
  | succ fu ih =>
    intro v2 v3 v4 M hB h
    rw [f_X10_visits_26] at h
    obtain ⟨hp_v4, h⟩ := chk_some h
    refine go_iload C dX10_visits_26 rfl ?_
    refine go_if_le (tgt := 155) C dX10_visits_28 rfl hp_v4 (fun hc4 => ?_) (fun hc4 => ?_)
    · replace h := ite_t hc4 h
      refine go_iconst C dX10_visits_155 ?_
      refine go_istore (ls2 := [some (rf G 64), none, some (.int (iI v2)), some (.int (iI v3)), some (.int (iI v4)), some (.int (iI 0)), none, none]) C dX10_visits_156 (Nat.le_of_ble_eq_true rfl) rfl ?_
      refine go_weak (ls' := [some (rf G 64), none, some (.int (iI v2)), some (.int (iI v3)), none, some (.int (iI 0)), none, none]) ⟨rfl, ⟨rfl, ⟨rfl, ⟨rfl, trivial⟩⟩⟩⟩ ?_
      exact w_X10_visits_158 C E F v2 v3 0 M hB h
    · replace h := ite_f hc4 h
      refine go_aload_n C dX10_visits_31 rfl rfl ?_
      refine go_getR (o := 5) (k2 := 69) C dX10_visits_32 fl_X10_22 sh_64 rfl rfl ?_
      refine go_iload C dX10_visits_35 rfl ?_
      refine go_iconst C dX10_visits_37 ?_
      refine go_isub C dX10_visits_38 ?_
      obtain ⟨hc11, h⟩ := chk_some h
      refine go_iald C dX10_visits_39 sh_69 (by decide) hc11 ?_
      refine go_istore (ls2 := [some (rf G 64), none, some (.int (iI v2)), some (.int (iI v3)), some (.int (iI v4)), some (.int (iI (M 69 (v4 - 1)))), none, none]) C dX10_visits_40 (Nat.le_of_ble_eq_true rfl) rfl ?_
      refine go_iconst C dX10_visits_42 ?_
      refine go_istore (ls2 := [some (rf G 64), none, some (.int (iI v2)), some (.int (iI v3)), some (.int (iI v4)), some (.int (iI (M 69 (v4 - 1)))), some (.int (iI (-1))), none]) C dX10_visits_43 (Nat.le_of_ble_eq_true rfl) rfl ?_
      refine go_aload_n C dX10_visits_45 rfl rfl ?_
      refine go_getR (o := 1) (k2 := 65) C dX10_visits_46 fl_X10_7 sh_64 rfl rfl ?_
      refine go_iconst C dX10_visits_49 ?_
      refine go_iald C dX10_visits_50 sh_65 (by decide) ⟨by decide, by decide⟩ ?_
      refine go_iconst C dX10_visits_51 ?_
      refine go_isub C dX10_visits_52 ?_
      refine go_istore (ls2 := [some (rf G 64), none, some (.int (iI v2)), some (.int (iI v3)), some (.int (iI v4)), some (.int (iI (M 69 (v4 - 1)))), some (.int (iI (-1))), some (.int (iI ((M 65 1) - 1)))]) C dX10_visits_53 (Nat.le_of_ble_eq_true rfl) rfl ?_
      exact w_X10_visits_55 C E ih F v2 v3 v4 (M 69 (v4 - 1)) (-1) ((M 65 1) - 1) M hB h
set_option maxHeartbeats 4000000 in
theorem ok_X10_visits {G : gC} {l : Launch} (hl : l.stackTraces = false) {F : Nat} {v1 : Int} {M : Mem} (hB : Bd M) {res : Mem} (h : f_X10_visits F v1 M = some res) : Ok G l 2 0 0 yX10_visits (.code yX10_visits cX10_visits 8 none) [rf G 64, .int (iI v1)] M (.inr none) res := by
  refine ok_of (ls := [some (rf G 64), some (.int (iI v1)), none, none, none, none, none, none]) hl (by decide +kernel) (Nat.le_of_ble_eq_true rfl) ⟨rfl, ⟨rfl, trivial⟩⟩ ?_
  intro X hX C E
  subst hX
  rw [f_X10_visits] at h
  obtain ⟨hp_v1, h⟩ := chk_some h
  refine go_iconst C dX10_visits_0 ?_
  refine go_iload_n C dX10_visits_1 rfl rfl ?_
  refine go_ishl C dX10_visits_2 ?_
  refine go_istore_n (ls2 := [some (rf G 64), some (.int (iI v1)), some (.int (iI (bshl 1 v1))), none, none, none, none, none]) C dX10_visits_3 rfl (Nat.le_of_ble_eq_true rfl) rfl ?_
  refine go_iconst C dX10_visits_4 ?_
  refine go_istore_n (ls2 := [some (rf G 64), some (.int (iI v1)), some (.int (iI (bshl 1 v1))), some (.int (iI 1)), none, none, none, none]) C dX10_visits_5 rfl (Nat.le_of_ble_eq_true rfl) rfl ?_
  refine go_iconst C dX10_visits_6 ?_
  refine go_istore (ls2 := [some (rf G 64), some (.int (iI v1)), some (.int (iI (bshl 1 v1))), some (.int (iI 1)), some (.int (iI 1)), none, none, none]) C dX10_visits_7 (Nat.le_of_ble_eq_true rfl) rfl ?_
  refine go_aload_n C dX10_visits_9 rfl rfl ?_
  refine go_getR (o := 5) (k2 := 69) C dX10_visits_10 fl_X10_22 sh_64 rfl rfl ?_
  refine go_iconst C dX10_visits_13 ?_
  refine go_iload_n C dX10_visits_14 rfl rfl ?_
  refine go_iast C dX10_visits_15 sh_69 (by decide) ⟨by decide, by decide⟩ ?_
  have hB1 := hB.set 69 0 (x := v1) hp_v1
  refine go_aload_n C dX10_visits_16 rfl rfl ?_
  refine go_getR (o := 1) (k2 := 65) C dX10_visits_17 fl_X10_7 sh_64 rfl rfl ?_
  refine go_bipush C dX10_visits_20 (by decide +kernel) ?_
  refine go_iload_n C dX10_visits_22 rfl rfl ?_
  refine go_iadd C dX10_visits_23 ?_
  refine go_iconst C dX10_visits_24 ?_
  obtain ⟨hc2, h⟩ := chk_some h
  refine go_iast C dX10_visits_25 sh_65 (by decide) hc2 ?_
  have hB3 := hB1.set 65 (50 + v1) (x := 0) (by decide)
  refine go_weak (ls' := [some (rf G 64), none, some (.int (iI (bshl 1 v1))), some (.int (iI 1)), some (.int (iI 1)), none, none, none]) ⟨rfl, ⟨rfl, ⟨rfl, ⟨rfl, trivial⟩⟩⟩⟩ ?_
  exact w_X10_visits_26 C E F (bshl 1 v1) 1 1 (mset (mset M 69 0 v1) 65 (50 + v1) 0) hB3 h
-- IntervalRouterModel.ranks(I)V
set_option maxHeartbeats 4000000 in
theorem w_X10_ranks_21 {G : gC} {X : gX} {res : Mem} {F : Nat} (C : Cx G X cX10_ranks 5 RX10 2 0 0 none []) (E : Fnl G X 0 0 (.inr none) res) {k6 : Int → Int → Mem → Option (Mem)} (hk6 : ∀ (v1 : Int) (v2 : Int) (M : Mem), Bd M → k6 v1 v2 M = some res → Go G X 5 0 0 6 [some (rf G 64), some (.int (iI v1)), some (.int (iI v2)), none, none] [] M) : ∀ (fu : Nat) (v1 : Int) (v2 : Int) (v3 : Int) (v4 : Int) (M : Mem), Bd M → f_X10_ranks_21 F k6 fu v1 v2 v3 v4 M = some res → Go G X 5 0 0 21 [some (rf G 64), some (.int (iI v1)), some (.int (iI v2)), some (.int (iI v3)), some (.int (iI v4))] [] M := by
  intro fu
  induction fu with
  | zero => intro v1 v2 v3 v4 M hB h; exact nomatch (show (none : Option (Mem)) = some res from h)
  | succ fu ih =>
    intro v1 v2 v3 v4 M hB h
    rw [f_X10_ranks_21] at h
    obtain ⟨⟨hp_v2, hp_v3, hp_v4⟩, h⟩ := chk_some h
    refine go_iload C dX10_ranks_21 rfl ?_
    refine go_aload_n C dX10_ranks_23 rfl rfl ?_
    refine go_getR (o := 1) (k2 := 65) C dX10_ranks_24 fl_X10_7 sh_64 rfl rfl ?_
    refine go_iconst C dX10_ranks_27 ?_
    refine go_iald C dX10_ranks_28 sh_65 (by decide) ⟨by decide, by decide⟩ ?_
    refine go_icmp_ge (tgt := 84) C dX10_ranks_29 rfl hp_v4 (hB 65 0 (by decide)) (fun hc3 => ?_) (fun hc3 => ?_)
    · replace h := ite_t hc3 h
      refine go_aload_n C dX10_ranks_84 rfl rfl ?_
      refine go_getR (o := 1) (k2 := 65) C dX10_ranks_85 fl_X10_7 sh_64 rfl rfl ?_
      refine go_bipush C dX10_ranks_88 (by decide +kernel) ?_
      refine go_iload_n C dX10_ranks_90 rfl rfl ?_
      refine go_iadd C dX10_ranks_91 ?_
      refine go_iload_n C dX10_ranks_92 rfl rfl ?_
      obtain ⟨hc4, h⟩ := chk_some h
      refine go_iast C dX10_ranks_93 sh_65 (by decide) hc4 ?_
      have hB5 := hB.set 65 (50 + v2) (x := v3) hp_v3
      refine go_iinc (ls2 := [some (rf G 64), some (.int (iI v1)), some (.int (iI (v2 + 1))), some (.int (iI v3)), some (.int (iI v4))]) C dX10_ranks_94 rfl (Nat.le_of_ble_eq_true rfl) rfl ?_
      refine go_goto (tgt := 6) C dX10_ranks_97 rfl ?_
      refine go_weak (ls' := [some (rf G 64), some (.int (iI v1)), some (.int (iI (v2 + 1))), none, none]) ⟨rfl, ⟨rfl, ⟨rfl, trivial⟩⟩⟩ ?_
      exact hk6 v1 (v2 + 1) (mset M 65 (50 + v2) v3) hB5 h
    · replace h := ite_f hc3 h
      refine go_iload_n C dX10_ranks_32 rfl rfl ?_
      refine go_aload_n C dX10_ranks_33 rfl rfl ?_
      refine go_iload_n C dX10_ranks_34 rfl rfl ?_
      refine go_iload C dX10_ranks_35 rfl ?_
      obtain ⟨q6, h6, h⟩ := ob_some h
      refine go_callV_i C dX10_ranks_37 (ok_X10_farFrom C.hl hB h6) mv_X10_104 sh_64 rfl rfl (Nat.le_of_ble_eq_true rfl) ⟨(Nat.le_of_ble_eq_true rfl), (Nat.le_of_ble_eq_true rfl)⟩ ⟨(Nat.le_of_ble_eq_true rfl), (Nat.le_of_ble_eq_true rfl)⟩ (fun hB6 => ?_)
      refine go_aload_n C dX10_ranks_40 rfl rfl ?_
      refine go_iload_n C dX10_ranks_41 rfl rfl ?_
      refine go_iload_n C dX10_ranks_42 rfl rfl ?_
      obtain ⟨q7, h7, h⟩ := ob_some h
      refine go_callV_i C dX10_ranks_43 (ok_X10_farFrom C.hl hB6 h7) mv_X10_104 sh_64 rfl rfl (Nat.le_of_ble_eq_true rfl) ⟨(Nat.le_of_ble_eq_true rfl), (Nat.le_of_ble_eq_true rfl)⟩ ⟨(Nat.le_of_ble_eq_true rfl), (Nat.le_of_ble_eq_true rfl)⟩ (fun hB7 => ?_)
      obtain ⟨hc8, h⟩ := chk_some h
      obtain ⟨hc9, h⟩ := chk_some h
      refine go_icmp_lt (tgt := 71) C dX10_ranks_46 rfl hc8 hc9 (fun hc10 => ?_) (fun hc10 => ?_)
      · replace h := ite_t hc10 h
        refine go_iconst C dX10_ranks_71 ?_
        refine go_goto (tgt := 76) C dX10_ranks_72 rfl ?_
        refine go_iadd C dX10_ranks_76 ?_
        refine go_istore_n (ls2 := [some (rf G 64), some (.int (iI v1)), some (.int (iI v2)), some (.int (iI (v3 + 1))), some (.int (iI v4))]) C dX10_ranks_77 rfl (Nat.le_of_ble_eq_true rfl) rfl ?_
        refine go_iinc (ls2 := [some (rf G 64), some (.int (iI v1)), some (.int (iI v2)), some (.int (iI (v3 + 1))), some (.int (iI (v4 + 1)))]) C dX10_ranks_78 rfl (Nat.le_of_ble_eq_true rfl) rfl ?_
        refine go_goto (tgt := 21) C dX10_ranks_81 rfl ?_
        exact ih v1 v2 (v3 + 1) (v4 + 1) M hB7 h
      · replace h := ite_f hc10 h
        refine go_aload_n C dX10_ranks_49 rfl rfl ?_
        refine go_iload_n C dX10_ranks_50 rfl rfl ?_
        refine go_iload C dX10_ranks_51 rfl ?_
        obtain ⟨q11, h11, h⟩ := ob_some h
        refine go_callV_i C dX10_ranks_53 (ok_X10_farFrom C.hl hB7 h11) mv_X10_104 sh_64 rfl rfl (Nat.le_of_ble_eq_true rfl) ⟨(Nat.le_of_ble_eq_true rfl), (Nat.le_of_ble_eq_true rfl)⟩ ⟨(Nat.le_of_ble_eq_true rfl), (Nat.le_of_ble_eq_true rfl)⟩ (fun hB11 => ?_)
        refine go_aload_n C dX10_ranks_56 rfl rfl ?_
        refine go_iload_n C dX10_ranks_57 rfl rfl ?_
        refine go_iload_n C dX10_ranks_58 rfl rfl ?_
        obtain ⟨q12, h12, h⟩ := ob_some h
        refine go_callV_i C dX10_ranks_59 (ok_X10_farFrom C.hl hB11 h12) mv_X10_104 sh_64 rfl rfl (Nat.le_of_ble_eq_true rfl) ⟨(Nat.le_of_ble_eq_true rfl), (Nat.le_of_ble_eq_true rfl)⟩ ⟨(Nat.le_of_ble_eq_true rfl), (Nat.le_of_ble_eq_true rfl)⟩ (fun hB12 => ?_)
        obtain ⟨hc13, h⟩ := chk_some h
        obtain ⟨hc14, h⟩ := chk_some h
        refine go_icmp_ne (tgt := 75) C dX10_ranks_62 rfl hc13 hc14 (fun hc15 => ?_) (fun hc15 => ?_)
        · replace h := ite_f hc15 h
          refine go_iconst C dX10_ranks_75 ?_
          refine go_iadd C dX10_ranks_76 ?_
          refine go_istore_n (ls2 := [some (rf G 64), some (.int (iI v1)), some (.int (iI v2)), some (.int (iI (v3 + 0))), some (.int (iI v4))]) C dX10_ranks_77 rfl (Nat.le_of_ble_eq_true rfl) rfl ?_
          refine go_iinc (ls2 := [some (rf G 64), some (.int (iI v1)), some (.int (iI v2)), some (.int (iI (v3 + 0))), some (.int (iI (v4 + 1)))]) C dX10_ranks_78 rfl (Nat.le_of_ble_eq_true rfl) rfl ?_
          refine go_goto (tgt := 21) C dX10_ranks_81 rfl ?_
          exact ih v1 v2 (v3 + 0) (v4 + 1) M hB12 h
        · replace h := ite_t hc15 h
          refine go_iload C dX10_ranks_65 rfl ?_
          refine go_iload_n C dX10_ranks_67 rfl rfl ?_
          refine go_icmp_ge (tgt := 75) C dX10_ranks_68 rfl hp_v4 hp_v2 (fun hc16 => ?_) (fun hc16 => ?_)
          · replace h := ite_t hc16 h
            refine go_iconst C dX10_ranks_75 ?_
            refine go_iadd C dX10_ranks_76 ?_
            refine go_istore_n (ls2 := [some (rf G 64), some (.int (iI v1)), some (.int (iI v2)), some (.int (iI (v3 + 0))), some (.int (iI v4))]) C dX10_ranks_77 rfl (Nat.le_of_ble_eq_true rfl) rfl ?_
            refine go_iinc (ls2 := [some (rf G 64), some (.int (iI v1)), some (.int (iI v2)), some (.int (iI (v3 + 0))), some (.int (iI (v4 + 1)))]) C dX10_ranks_78 rfl (Nat.le_of_ble_eq_true rfl) rfl ?_
            refine go_goto (tgt := 21) C dX10_ranks_81 rfl ?_
            exact ih v1 v2 (v3 + 0) (v4 + 1) M hB12 h
          · replace h := ite_f hc16 h
            refine go_iconst C dX10_ranks_71 ?_
            refine go_goto (tgt := 76) C dX10_ranks_72 rfl ?_
            refine go_iadd C dX10_ranks_76 ?_
            refine go_istore_n (ls2 := [some (rf G 64), some (.int (iI v1)), some (.int (iI v2)), some (.int (iI (v3 + 1))), some (.int (iI v4))]) C dX10_ranks_77 rfl (Nat.le_of_ble_eq_true rfl) rfl ?_
            refine go_iinc (ls2 := [some (rf G 64), some (.int (iI v1)), some (.int (iI v2)), some (.int (iI (v3 + 1))), some (.int (iI (v4 + 1)))]) C dX10_ranks_78 rfl (Nat.le_of_ble_eq_true rfl) rfl ?_
            refine go_goto (tgt := 21) C dX10_ranks_81 rfl ?_
            exact ih v1 v2 (v3 + 1) (v4 + 1) M hB12 h
