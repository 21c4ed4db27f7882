set_option maxHeartbeats 4000000 in
theorem w_X10_ranks_6 {G : gC} {X : gX} {res : Mem} {F : Nat} (C : Cx G X cX10_ranks 5 RX10 2 0 0 none []) (E : Fnl G X 0 0 (.inr none) res) : ∀ (fu : Nat) (v1 : Int) (v2 : Int) (M : Mem), Bd M → f_X10_ranks_6 F fu v1 v2 M = some res → Go G X 5 0 0 6 [some (rf G 64), some (.int (iI v1)), some (.int (iI v2)), none, none] [] M := by
  intro fu
  induction fu with
  | zero => intro v1 v2 M hB h; exact nomatch (show (none : Option (Mem)) = some res from h)
  | succ fu ih =>
    intro v1 v2 M hB h
    rw [f_X10_ranks_6] at h
    obtain ⟨hp_v2, h⟩ := chk_some h
    refine go_iload_n C dX10_ranks_6 rfl rfl ?_
    refine go_aload_n C dX10_ranks_7 rfl rfl ?_
    refine go_getR (o := 1) (k2 := 65) C dX10_ranks_8 fl_X10_7 sh_64 rfl rfl ?_
    refine go_iconst C dX10_ranks_11 ?_
    refine go_iald C dX10_ranks_12 sh_65 (by decide) ⟨by decide, by decide⟩ ?_
    refine go_icmp_ge (tgt := 100) C dX10_ranks_13 rfl hp_v2 (hB 65 0 (by decide)) (fun hc2 => ?_) (fun hc2 => ?_)
    · replace h := ite_t hc2 h
      cases h
      exact go_vret C E rfl dX10_ranks_100 (Nat.le_of_ble_eq_true rfl) (Nat.le_of_ble_eq_true rfl) rfl rfl hB
    · replace h := ite_f hc2 h
      refine go_iconst C dX10_ranks_16 ?_
      refine go_istore_n (ls2 := [some (rf G 64), some (.int (iI v1)), some (.int (iI v2)), some (.int (iI 0)), none]) C dX10_ranks_17 rfl (Nat.le_of_ble_eq_true rfl) rfl ?_
      refine go_iconst C dX10_ranks_18 ?_
      refine go_istore (ls2 := [some (rf G 64), some (.int (iI v1)), some (.int (iI v2)), some (.int (iI 0)), some (.int (iI 0))]) C dX10_ranks_19 (Nat.le_of_ble_eq_true rfl) rfl ?_
      exact w_X10_ranks_21 C E ih F v1 v2 0 0 M hB h
set_option maxHeartbeats 4000000 in
theorem ok_X10_ranks {G : gC} {l : Launch} (hl : l.stackTraces = false) {F : Nat} {v1 : Int} {M : Mem} (hB : Bd M) {res : Mem} (h : f_X10_ranks F v1 M = some res) : Ok G l 2 0 0 yX10_ranks (.code yX10_ranks cX10_ranks 5 none) [rf G 64, .int (iI v1)] M (.inr none) res := by
  refine ok_of (ls := [some (rf G 64), some (.int (iI v1)), none, none, none]) hl (by decide +kernel) (Nat.le_of_ble_eq_true rfl) ⟨rfl, ⟨rfl, trivial⟩⟩ ?_
  intro X hX C E
  subst hX
  rw [f_X10_ranks] at h
  refine go_aload_n C dX10_ranks_0 rfl rfl ?_
  obtain ⟨q1, h1, h⟩ := ob_some h
  refine go_callV_v C dX10_ranks_1 (ok_X10_laysFar C.hl hB h1) mv_X10_101 sh_64 rfl rfl (Nat.le_of_ble_eq_true rfl) ⟨(Nat.le_of_ble_eq_true rfl), (Nat.le_of_ble_eq_true rfl)⟩ ⟨(Nat.le_of_ble_eq_true rfl), (Nat.le_of_ble_eq_true rfl)⟩ (fun hB1 => ?_)
  refine go_iconst C dX10_ranks_4 ?_
  refine go_istore_n (ls2 := [some (rf G 64), some (.int (iI v1)), some (.int (iI 0)), none, none]) C dX10_ranks_5 rfl (Nat.le_of_ble_eq_true rfl) rfl ?_
  exact w_X10_ranks_6 C E F v1 0 q1 hB1 h
-- IntervalRouterModel.laysRing(I)V
set_option maxHeartbeats 4000000 in
theorem w_X10_laysRing_7 {G : gC} {X : gX} {res : Mem} {F : Nat} (C : Cx G X cX10_laysRing 3 RX10 1 0 0 none []) (E : Fnl G X 0 0 (.inr none) res) : ∀ (fu : Nat) (v1 : Int) (v2 : Int) (M : Mem), Bd M → f_X10_laysRing_7 F fu v1 v2 M = some res → Go G X 3 0 0 7 [some (rf G 64), some (.int (iI v1)), some (.int (iI v2))] [] M := by
  intro fu
  induction fu with
  | zero => intro v1 v2 M hB h; exact nomatch (show (none : Option (Mem)) = some res from h)
  | succ fu ih =>
    intro v1 v2 M hB h
    rw [f_X10_laysRing_7] at h
    obtain ⟨hp_v2, h⟩ := chk_some h
    refine go_iload_n C dX10_laysRing_7 rfl rfl ?_
    refine go_aload_n C dX10_laysRing_8 rfl rfl ?_
    refine go_getR (o := 1) (k2 := 65) C dX10_laysRing_9 fl_X10_7 sh_64 rfl rfl ?_
    refine go_iconst C dX10_laysRing_12 ?_
    refine go_iald C dX10_laysRing_13 sh_65 (by decide) ⟨by decide, by decide⟩ ?_
    refine go_icmp_ge (tgt := 71) C dX10_laysRing_14 rfl hp_v2 (hB 65 0 (by decide)) (fun hc2 => ?_) (fun hc2 => ?_)
    · replace h := ite_t hc2 h
      cases h
      exact go_vret C E rfl dX10_laysRing_71 (Nat.le_of_ble_eq_true rfl) (Nat.le_of_ble_eq_true rfl) rfl rfl hB
    · replace h := ite_f hc2 h
      refine go_iload_n C dX10_laysRing_17 rfl rfl ?_
      refine go_aload_n C dX10_laysRing_18 rfl rfl ?_
      refine go_getR (o := 1) (k2 := 65) C dX10_laysRing_19 fl_X10_7 sh_64 rfl rfl ?_
      refine go_bipush C dX10_laysRing_22 (by decide +kernel) ?_
      refine go_iload_n C dX10_laysRing_24 rfl rfl ?_
      refine go_iadd C dX10_laysRing_25 ?_
      obtain ⟨hc3, h⟩ := chk_some h
      refine go_iald C dX10_laysRing_26 sh_65 (by decide) hc3 ?_
      refine go_icmp_eq (tgt := 65) C dX10_laysRing_27 rfl hp_v2 (hB 65 (50 + v1) (by decide)) (fun hc4 => ?_) (fun hc4 => ?_)
      · replace h := ite_t hc4 h
        refine go_iinc (ls2 := [some (rf G 64), some (.int (iI v1)), some (.int (iI (v2 + 1)))]) C dX10_laysRing_65 rfl (Nat.le_of_ble_eq_true rfl) rfl ?_
        refine go_goto (tgt := 7) C dX10_laysRing_68 rfl ?_
        exact ih v1 (v2 + 1) M hB h
      · replace h := ite_f hc4 h
        refine go_aload_n C dX10_laysRing_30 rfl rfl ?_
        refine go_getR (o := 7) (k2 := 71) C dX10_laysRing_31 fl_X10_28 sh_64 rfl rfl ?_
        refine go_aload_n C dX10_laysRing_34 rfl rfl ?_
        refine go_getI (z := 10) C dX10_laysRing_35 fl_X10_146 sh_64 rfl rfl ?_
        refine go_iload_n C dX10_laysRing_38 rfl rfl ?_
        obtain ⟨hc5, h⟩ := chk_some h
        refine go_iast C dX10_laysRing_39 sh_71 (by decide) hc5 ?_
        have hB6 := hB.set 71 (M 64 10) (x := v2) hp_v2
        refine go_aload_n C dX10_laysRing_40 rfl rfl ?_
        refine go_getR (o := 6) (k2 := 70) C dX10_laysRing_41 fl_X10_25 sh_64 rfl rfl ?_
        refine go_aload_n C dX10_laysRing_44 rfl rfl ?_
        refine go_getI (z := 10) C dX10_laysRing_45 fl_X10_146 sh_64 rfl rfl ?_
        refine go_aload_n C dX10_laysRing_48 rfl rfl ?_
        refine go_iload_n C dX10_laysRing_49 rfl rfl ?_
        refine go_iload_n C dX10_laysRing_50 rfl rfl ?_
        obtain ⟨q7, h7, h⟩ := ob_some h
        refine go_callV_i C dX10_laysRing_51 (ok_X10_entryAt C.hl hB6 h7) mv_X10_149 sh_64 rfl rfl (Nat.le_of_ble_eq_true rfl) ⟨(Nat.le_of_ble_eq_true rfl), (Nat.le_of_ble_eq_true rfl)⟩ ⟨(Nat.le_of_ble_eq_true rfl), (Nat.le_of_ble_eq_true rfl)⟩ (fun hB7 => ?_)
        obtain ⟨hc8, h⟩ := chk_some h
        obtain ⟨hc9, h⟩ := chk_some h
        refine go_iast C dX10_laysRing_54 sh_70 (by decide) hc8 ?_
        have hB10 := hB7.set 70 ((mset M 71 (M 64 10) v2) 64 10) (x := q7) hc9
        refine go_aload_n C dX10_laysRing_55 rfl rfl ?_
        refine go_dup C dX10_laysRing_56 rfl ?_
        refine go_getI (z := 10) C dX10_laysRing_57 fl_X10_146 sh_64 rfl rfl ?_
        refine go_iconst C dX10_laysRing_60 ?_
        refine go_iadd C dX10_laysRing_61 ?_
        obtain ⟨hc11, h⟩ := chk_some h
        refine go_putI (z := 10) C dX10_laysRing_62 fp_X10_146 sh_64 rfl rfl rfl rfl ?_
        have hB12 := hB10.set 64 10 (x := ((mset (mset M 71 (M 64 10) v2) 70 ((mset M 71 (M 64 10) v2) 64 10) q7) 64 10) + 1) hc11
        refine go_iinc (ls2 := [some (rf G 64), some (.int (iI v1)), some (.int (iI (v2 + 1)))]) C dX10_laysRing_65 rfl (Nat.le_of_ble_eq_true rfl) rfl ?_
        refine go_goto (tgt := 7) C dX10_laysRing_68 rfl ?_
        exact ih v1 (v2 + 1) (mset (mset (mset M 71 (M 64 10) v2) 70 ((mset M 71 (M 64 10) v2) 64 10) q7) 64 10 (((mset (mset M 71 (M 64 10) v2) 70 ((mset M 71 (M 64 10) v2) 64 10) q7) 64 10) + 1)) hB12 h
set_option maxHeartbeats 4000000 in
theorem ok_X10_laysRing {G : gC} {l : Launch} (hl : l.stackTraces = false) {F : Nat} {v1 : Int} {M : Mem} (hB : Bd M) {res : Mem} (h : f_X10_laysRing F v1 M = some res) : Ok G l 1 0 0 yX10_laysRing (.code yX10_laysRing cX10_laysRing 3 none) [rf G 64, .int (iI v1)] M (.inr none) res := by
  refine ok_of (ls := [some (rf G 64), some (.int (iI v1)), none]) hl (by decide +kernel) (Nat.le_of_ble_eq_true rfl) ⟨rfl, ⟨rfl, trivial⟩⟩ ?_
  intro X hX C E
  subst hX
  rw [f_X10_laysRing] at h
  refine go_aload_n C dX10_laysRing_0 rfl rfl ?_
  refine go_iconst C dX10_laysRing_1 ?_
  refine go_putI (z := 10) C dX10_laysRing_2 fp_X10_146 sh_64 rfl rfl rfl rfl ?_
  have hB1 := hB.set 64 10 (x := 0) (by decide)
  refine go_iconst C dX10_laysRing_5 ?_
  refine go_istore_n (ls2 := [some (rf G 64), some (.int (iI v1)), some (.int (iI 0))]) C dX10_laysRing_6 rfl (Nat.le_of_ble_eq_true rfl) rfl ?_
  exact w_X10_laysRing_7 C E F v1 0 (mset M 64 10 0) hB1 h
-- IntervalRouterModel.cost(II)I
set_option maxHeartbeats 4000000 in
theorem ok_X10_cost {G : gC} {l : Launch} (hl : l.stackTraces = false) {v0 : Int} {v1 : Int} {M : Mem} (hB : Bd M) {res : Int} (h : f_X10_cost v0 v1 M = some res) : Ok G l 0 0 0 yX10_cost (.code yX10_cost cX10_cost 2 (some .int)) [.int (iI v0), .int (iI v1)] M (.inr (some (.int (iI res)))) M := by
  refine ok_of (ls := [some (.int (iI v0)), some (.int (iI v1))]) hl (by decide +kernel) (Nat.le_of_ble_eq_true rfl) ⟨rfl, ⟨rfl, trivial⟩⟩ ?_
  intro X hX C E
  subst hX
  rw [f_X10_cost] at h
  obtain ⟨⟨hp_v0, hp_v1⟩, h⟩ := chk_some h
  refine go_iload_n C dX10_cost_0 rfl rfl ?_
  refine go_bipush C dX10_cost_1 (by decide +kernel) ?_
  refine go_icmp_eq (tgt := 15) C dX10_cost_3 rfl hp_v1 (by decide) (fun hc1 => ?_) (fun hc1 => ?_)
  · replace h := ite_t hc1 h
    refine go_iconst C dX10_cost_15 ?_
    cases h
    exact go_iret C E rfl dX10_cost_16 (Nat.le_of_ble_eq_true rfl) (Nat.le_of_ble_eq_true rfl) rfl rfl hB
  · replace h := ite_f hc1 h
    refine go_iload_n C dX10_cost_6 rfl rfl ?_
    refine go_iload_n C dX10_cost_7 rfl rfl ?_
    refine go_icmp_eq (tgt := 15) C dX10_cost_8 rfl hp_v1 hp_v0 (fun hc2 => ?_) (fun hc2 => ?_)
    · replace h := ite_t hc2 h
      refine go_iconst C dX10_cost_15 ?_
      cases h
      exact go_iret C E rfl dX10_cost_16 (Nat.le_of_ble_eq_true rfl) (Nat.le_of_ble_eq_true rfl) rfl rfl hB
    · replace h := ite_f hc2 h
      refine go_iconst C dX10_cost_11 ?_
      refine go_goto (tgt := 16) C dX10_cost_12 rfl ?_
      cases h
      exact go_iret C E rfl dX10_cost_16 (Nat.le_of_ble_eq_true rfl) (Nat.le_of_ble_eq_true rfl) rfl rfl hB
-- IntervalRouterModel.laysRest(I)V
set_option maxHeartbeats 4000000 in
theorem w_X10_laysRest_60 {G : gC} {X : gX} {res : Mem} {F : Nat} (C : Cx G X cX10_laysRest 7 RX10 1 0 0 none []) (E : Fnl G X 0 0 (.inr none) res) {k46 : Int → Int → Mem → Option (Mem)} (hk46 : ∀ (v2 : Int) (v3 : Int) (M : Mem), Bd M → k46 v2 v3 M = some res → Go G X 7 0 0 46 [some (rf G 64), none, some (.int (iI v2)), some (.int (iI v3)), none, none, none] [] M) : ∀ (fu : Nat) (v2 : Int) (v3 : Int) (v4 : Int) (v5 : Int) (M : Mem), Bd M → f_X10_laysRest_60 F k46 fu v2 v3 v4 v5 M = some res → Go G X 7 0 0 60 [some (rf G 64), none, some (.int (iI v2)), some (.int (iI v3)), some (.int (iI v4)), some (.int (iI v5)), none] [] M := by
  intro fu
  induction fu with
  | zero => intro v2 v3 v4 v5 M hB h; exact nomatch (show (none : Option (Mem)) = some res from h)
  | succ fu ih =>
    intro v2 v3 v4 v5 M hB h
    rw [f_X10_laysRest_60] at h
    obtain ⟨⟨hp_v4, hp_v5⟩, h⟩ := chk_some h
    refine go_iload C dX10_laysRest_60 rfl ?_
    refine go_bipush C dX10_laysRest_62 (by decide +kernel) ?_
    refine go_icmp_gt (tgt := 132) C dX10_laysRest_64 rfl hp_v5 (by decide) (fun hc4 => ?_) (fun hc4 => ?_)
    · replace h := ite_t hc4 h
      refine go_aload_n C dX10_laysRest_132 rfl rfl ?_
      refine go_getR (o := 9) (k2 := 73) C dX10_laysRest_133 fl_X10_34 sh_64 rfl rfl ?_
      refine go_bipush C dX10_laysRest_136 (by decide +kernel) ?_
      refine go_iload_n C dX10_laysRest_138 rfl rfl ?_
      refine go_imul C dX10_laysRest_139 ?_
      refine go_iload_n C dX10_laysRest_140 rfl rfl ?_
      refine go_iadd C dX10_laysRest_141 ?_
      refine go_iload C dX10_laysRest_142 rfl ?_
      obtain ⟨hc5, h⟩ := chk_some h
      refine go_iast C dX10_laysRest_144 sh_73 (by decide) hc5 ?_
      have hB6 := hB.set 73 ((17 * v2) + v3) (x := v4) hp_v4
      refine go_iinc (ls2 := [some (rf G 64), none, some (.int (iI v2)), some (.int (iI (v3 + 1))), some (.int (iI v4)), some (.int (iI v5)), none]) C dX10_laysRest_145 rfl (Nat.le_of_ble_eq_true rfl) rfl ?_
      refine go_goto (tgt := 46) C dX10_laysRest_148 rfl ?_
      refine go_weak (ls' := [some (rf G 64), none, some (.int (iI v2)), some (.int (iI (v3 + 1))), none, none, none]) ⟨rfl, ⟨rfl, ⟨rfl, trivial⟩⟩⟩ ?_
      exact hk46 v2 (v3 + 1) (mset M 73 ((17 * v2) + v3) v4) hB6 h
    · replace h := ite_f hc4 h
      refine go_aload_n C dX10_laysRest_67 rfl rfl ?_
      refine go_getR (o := 8) (k2 := 72) C dX10_laysRest_68 fl_X10_31 sh_64 rfl rfl ?_
      refine go_iload_n C dX10_laysRest_71 rfl rfl ?_
      obtain ⟨hc7, h⟩ := chk_some h
      refine go_iald C dX10_laysRest_72 sh_72 (by decide) hc7 ?_
      refine go_iload C dX10_laysRest_73 rfl ?_
      obtain ⟨q8, h8, h⟩ := ob_some h
      refine go_callS_i C dX10_laysRest_75 (ok_X10_has C.hl hB h8) ms_X10_120 rfl rfl (Nat.le_of_ble_eq_true rfl) ⟨(Nat.le_of_ble_eq_true rfl), (Nat.le_of_ble_eq_true rfl)⟩ ⟨(Nat.le_of_ble_eq_true rfl), (Nat.le_of_ble_eq_true rfl)⟩ (fun hB8 => ?_)
      obtain ⟨hc9, h⟩ := chk_some h
      refine go_if_eq (tgt := 105) C dX10_laysRest_78 rfl hc9 (fun hc10 => ?_) (fun hc10 => ?_)
      · replace h := ite_t hc10 h
        refine go_sipush C dX10_laysRest_105 (by decide +kernel) ?_
        refine go_istore (ls2 := [some (rf G 64), none, some (.int (iI v2)), some (.int (iI v3)), some (.int (iI v4)), some (.int (iI v5)), some (.int (iI 1000))]) C dX10_laysRest_108 (Nat.le_of_ble_eq_true rfl) rfl ?_
        refine go_iload C dX10_laysRest_110 rfl ?_
        refine go_iload C dX10_laysRest_112 rfl ?_
        refine go_icmp_ge (tgt := 122) C dX10_laysRest_114 rfl (by decide) hp_v4 (fun hc11 => ?_) (fun hc11 => ?_)
        · replace h := ite_t hc11 h
          refine go_iload C dX10_laysRest_122 rfl ?_
          refine go_istore (ls2 := [some (rf G 64), none, some (.int (iI v2)), some (.int (iI v3)), some (.int (iI v4)), some (.int (iI v5)), some (.int (iI 1000))]) C dX10_laysRest_124 (Nat.le_of_ble_eq_true rfl) rfl ?_
          refine go_iinc (ls2 := [some (rf G 64), none, some (.int (iI v2)), some (.int (iI v3)), some (.int (iI v4)), some (.int (iI (v5 + 1))), some (.int (iI 1000))]) C dX10_laysRest_126 rfl (Nat.le_of_ble_eq_true rfl) rfl ?_
          refine go_goto (tgt := 60) C dX10_laysRest_129 rfl ?_
          refine go_weak (ls' := [some (rf G 64), none, some (.int (iI v2)), some (.int (iI v3)), some (.int (iI v4)), some (.int (iI (v5 + 1))), none]) ⟨rfl, ⟨rfl, ⟨rfl, ⟨rfl, ⟨rfl, trivial⟩⟩⟩⟩⟩ ?_
          exact ih v2 v3 v4 (v5 + 1) M hB8 h
        · replace h := ite_f hc11 h
          refine go_iload C dX10_laysRest_117 rfl ?_
          refine go_goto (tgt := 124) C dX10_laysRest_119 rfl ?_
          refine go_istore (ls2 := [some (rf G 64), none, some (.int (iI v2)), some (.int (iI v3)), some (.int (iI 1000)), some (.int (iI v5)), some (.int (iI 1000))]) C dX10_laysRest_124 (Nat.le_of_ble_eq_true rfl) rfl ?_
          refine go_iinc (ls2 := [some (rf G 64), none, some (.int (iI v2)), some (.int (iI v3)), some (.int (iI 1000)), some (.int (iI (v5 + 1))), some (.int (iI 1000))]) C dX10_laysRest_126 rfl (Nat.le_of_ble_eq_true rfl) rfl ?_
          refine go_goto (tgt := 60) C dX10_laysRest_129 rfl ?_
          refine go_weak (ls' := [some (rf G 64), none, some (.int (iI v2)), some (.int (iI v3)), some (.int (iI 1000)), some (.int (iI (v5 + 1))), none]) ⟨rfl, ⟨rfl, ⟨rfl, ⟨rfl, ⟨rfl, trivial⟩⟩⟩⟩⟩ ?_
          exact ih v2 v3 1000 (v5 + 1) M hB8 h
      · replace h := ite_f hc10 h
        refine go_iload_n C dX10_laysRest_81 rfl rfl ?_
        refine go_iload C dX10_laysRest_82 rfl ?_
        obtain ⟨q12, h12, h⟩ := ob_some h
        refine go_callS_i C dX10_laysRest_84 (ok_X10_cost C.hl hB8 h12) ms_X10_162 rfl rfl (Nat.le_of_ble_eq_true rfl) ⟨(Nat.le_of_ble_eq_true rfl), (Nat.le_of_ble_eq_true rfl)⟩ ⟨(Nat.le_of_ble_eq_true rfl), (Nat.le_of_ble_eq_true rfl)⟩ (fun hB12 => ?_)
        refine go_aload_n C dX10_laysRest_87 rfl rfl ?_
        refine go_getR (o := 9) (k2 := 73) C dX10_laysRest_88 fl_X10_34 sh_64 rfl rfl ?_
        refine go_bipush C dX10_laysRest_91 (by decide +kernel) ?_
        refine go_iload_n C dX10_laysRest_93 rfl rfl ?_
        refine go_iconst C dX10_laysRest_94 ?_
        refine go_iadd C dX10_laysRest_95 ?_
        refine go_imul C dX10_laysRest_96 ?_
        refine go_iload C dX10_laysRest_97 rfl ?_
        refine go_iadd C dX10_laysRest_99 ?_
        obtain ⟨hc13, h⟩ := chk_some h
        refine go_iald C dX10_laysRest_100 sh_73 (by decide) hc13 ?_
        refine go_iadd C dX10_laysRest_101 ?_
        refine go_goto (tgt := 108) C dX10_laysRest_102 rfl ?_
        refine go_istore (ls2 := [some (rf G 64), none, some (.int (iI v2)), some (.int (iI v3)), some (.int (iI v4)), some (.int (iI v5)), some (.int (iI (q12 + (M 73 ((17 * (v2 + 1)) + v5)))))]) C dX10_laysRest_108 (Nat.le_of_ble_eq_true rfl) rfl ?_
        refine go_iload C dX10_laysRest_110 rfl ?_
        refine go_iload C dX10_laysRest_112 rfl ?_
        obtain ⟨hc14, h⟩ := chk_some h
        refine go_icmp_ge (tgt := 122) C dX10_laysRest_114 rfl hc14 hp_v4 (fun hc15 => ?_) (fun hc15 => ?_)
        · replace h := ite_t hc15 h
          refine go_iload C dX10_laysRest_122 rfl ?_
          refine go_istore (ls2 := [some (rf G 64), none, some (.int (iI v2)), some (.int (iI v3)), some (.int (iI v4)), some (.int (iI v5)), some (.int (iI (q12 + (M 73 ((17 * (v2 + 1)) + v5)))))]) C dX10_laysRest_124 (Nat.le_of_ble_eq_true rfl) rfl ?_
          refine go_iinc (ls2 := [some (rf G 64), none, some (.int (iI v2)), some (.int (iI v3)), some (.int (iI v4)), some (.int (iI (v5 + 1))), some (.int (iI (q12 + (M 73 ((17 * (v2 + 1)) + v5)))))]) C dX10_laysRest_126 rfl (Nat.le_of_ble_eq_true rfl) rfl ?_
          refine go_goto (tgt := 60) C dX10_laysRest_129 rfl ?_
          refine go_weak (ls' := [some (rf G 64), none, some (.int (iI v2)), some (.int (iI v3)), some (.int (iI v4)), some (.int (iI (v5 + 1))), none]) ⟨rfl, ⟨rfl, ⟨rfl, ⟨rfl, ⟨rfl, trivial⟩⟩⟩⟩⟩ ?_
          exact ih v2 v3 v4 (v5 + 1) M hB12 h
        · replace h := ite_f hc15 h
          refine go_iload C dX10_laysRest_117 rfl ?_
          refine go_goto (tgt := 124) C dX10_laysRest_119 rfl ?_
          refine go_istore (ls2 := [some (rf G 64), none, some (.int (iI v2)), some (.int (iI v3)), some (.int (iI (q12 + (M 73 ((17 * (v2 + 1)) + v5))))), some (.int (iI v5)), some (.int (iI (q12 + (M 73 ((17 * (v2 + 1)) + v5)))))]) C dX10_laysRest_124 (Nat.le_of_ble_eq_true rfl) rfl ?_
          refine go_iinc (ls2 := [some (rf G 64), none, some (.int (iI v2)), some (.int (iI v3)), some (.int (iI (q12 + (M 73 ((17 * (v2 + 1)) + v5))))), some (.int (iI (v5 + 1))), some (.int (iI (q12 + (M 73 ((17 * (v2 + 1)) + v5)))))]) C dX10_laysRest_126 rfl (Nat.le_of_ble_eq_true rfl) rfl ?_
          refine go_goto (tgt := 60) C dX10_laysRest_129 rfl ?_
          refine go_weak (ls' := [some (rf G 64), none, some (.int (iI v2)), some (.int (iI v3)), some (.int (iI (q12 + (M 73 ((17 * (v2 + 1)) + v5))))), some (.int (iI (v5 + 1))), none]) ⟨rfl, ⟨rfl, ⟨rfl, ⟨rfl, ⟨rfl, trivial⟩⟩⟩⟩⟩ ?_
          exact ih v2 v3 (q12 + (M 73 ((17 * (v2 + 1)) + v5))) (v5 + 1) M hB12 h
set_option maxHeartbeats 4000000 in
theorem w_X10_laysRest_46 {G : gC} {X : gX} {res : Mem} {F : Nat} (C : Cx G X cX10_laysRest 7 RX10 1 0 0 none []) (E : Fnl G X 0 0 (.inr none) res) {k40 : Int → Mem → Option (Mem)} (hk40 : ∀ (v2 : Int) (M : Mem), Bd M → k40 v2 M = some res → Go G X 7 0 0 40 [some (rf G 64), none, some (.int (iI v2)), none, none, none, none] [] M) : ∀ (fu : Nat) (v2 : Int) (v3 : Int) (M : Mem), Bd M → f_X10_laysRest_46 F k40 fu v2 v3 M = some res → Go G X 7 0 0 46 [some (rf G 64), none, some (.int (iI v2)), some (.int (iI v3)), none, none, none] [] M := by
  intro fu
  induction fu with
  | zero => intro v2 v3 M hB h; exact nomatch (show (none : Option (Mem)) = some res from h)
  | succ fu ih =>
    intro v2 v3 M hB h
    rw [f_X10_laysRest_46] at h
    obtain ⟨hp_v3, h⟩ := chk_some h
    refine go_iload_n C dX10_laysRest_46 rfl rfl ?_
    refine go_bipush C dX10_laysRest_47 (by decide +kernel) ?_
    refine go_icmp_gt (tgt := 151) C dX10_laysRest_49 rfl hp_v3 (by decide) (fun hc3 => ?_) (fun hc3 => ?_)
    · replace h := ite_t hc3 h
      refine go_iinc (ls2 := [some (rf G 64), none, some (.int (iI (v2 + (-1)))), some (.int (iI v3)), none, none, none]) C dX10_laysRest_151 rfl (Nat.le_of_ble_eq_true rfl) rfl ?_
      refine go_goto (tgt := 40) C dX10_laysRest_154 rfl ?_
      refine go_weak (ls' := [some (rf G 64), none, some (.int (iI (v2 + (-1)))), none, none, none, none]) ⟨rfl, ⟨rfl, trivial⟩⟩ ?_
      exact hk40 (v2 + (-1)) M hB h
    · replace h := ite_f hc3 h
      refine go_sipush C dX10_laysRest_52 (by decide +kernel) ?_
      refine go_istore (ls2 := [some (rf G 64), none, some (.int (iI v2)), some (.int (iI v3)), some (.int (iI 1000)), none, none]) C dX10_laysRest_55 (Nat.le_of_ble_eq_true rfl) rfl ?_
      refine go_iconst C dX10_laysRest_57 ?_
      refine go_istore (ls2 := [some (rf G 64), none, some (.int (iI v2)), some (.int (iI v3)), some (.int (iI 1000)), some (.int (iI 0)), none]) C dX10_laysRest_58 (Nat.le_of_ble_eq_true rfl) rfl ?_
      exact w_X10_laysRest_60 C E ih F v2 v3 1000 0 M hB h
set_option maxHeartbeats 4000000 in
theorem w_X10_laysRest_40 {G : gC} {X : gX} {res : Mem} {F : Nat} (C : Cx G X cX10_laysRest 7 RX10 1 0 0 none []) (E : Fnl G X 0 0 (.inr none) res) : ∀ (fu : Nat) (v2 : Int) (M : Mem), Bd M → f_X10_laysRest_40 F fu v2 M = some res → Go G X 7 0 0 40 [some (rf G 64), none, some (.int (iI v2)), none, none, none, none] [] M := by
  intro fu
  induction fu with
  | zero => intro v2 M hB h; exact nomatch (show (none : Option (Mem)) = some res from h)
  | succ fu ih =>
    intro v2 M hB h
    rw [f_X10_laysRest_40] at h
    obtain ⟨hp_v2, h⟩ := chk_some h
    refine go_iload_n C dX10_laysRest_40 rfl rfl ?_
    refine go_if_le (tgt := 157) C dX10_laysRest_41 rfl hp_v2 (fun hc2 => ?_) (fun hc2 => ?_)
    · replace h := ite_t hc2 h
      cases h
      exact go_vret C E rfl dX10_laysRest_157 (Nat.le_of_ble_eq_true rfl) (Nat.le_of_ble_eq_true rfl) rfl rfl hB
    · replace h := ite_f hc2 h
      refine go_iconst C dX10_laysRest_44 ?_
      refine go_istore_n (ls2 := [some (rf G 64), none, some (.int (iI v2)), some (.int (iI 0)), none, none, none]) C dX10_laysRest_45 rfl (Nat.le_of_ble_eq_true rfl) rfl ?_
      exact w_X10_laysRest_46 C E ih F v2 0 M hB h
set_option maxHeartbeats 4000000 in
theorem w_X10_laysRest_2 {G : gC} {X : gX} {res : Mem} {F : Nat} (C : Cx G X cX10_laysRest 7 RX10 1 0 0 none []) (E : Fnl G X 0 0 (.inr none) res) : ∀ (fu : Nat) (v1 : Int) (v2 : Int) (M : Mem), Bd M → f_X10_laysRest_2 F fu v1 v2 M = some res → Go G X 7 0 0 2 [some (rf G 64), some (.int (iI v1)), some (.int (iI v2)), none, none, none, none] [] M := by
  intro fu
  induction fu with
  | zero => intro v1 v2 M hB h; exact nomatch (show (none : Option (Mem)) = some res from h)
  | succ fu ih =>
    intro v1 v2 M hB h
    rw [f_X10_laysRest_2] at h
    obtain ⟨hp_v2, h⟩ := chk_some h
    refine go_iload_n C dX10_laysRest_2 rfl rfl ?_
    refine go_bipush C dX10_laysRest_3 (by decide +kernel) ?_
    refine go_icmp_gt (tgt := 33) C dX10_laysRest_5 rfl hp_v2 (by decide) (fun hc1 => ?_) (fun hc1 => ?_)
    · replace h := ite_t hc1 h
      refine go_aload_n C dX10_laysRest_33 rfl rfl ?_
      refine go_getI (z := 10) C dX10_laysRest_34 fl_X10_146 sh_64 rfl rfl ?_
      refine go_iconst C dX10_laysRest_37 ?_
      refine go_isub C dX10_laysRest_38 ?_
      refine go_istore_n (ls2 := [some (rf G 64), some (.int (iI v1)), some (.int (iI ((M 64 10) - 1))), none, none, none, none]) C dX10_laysRest_39 rfl (Nat.le_of_ble_eq_true rfl) rfl ?_
      refine go_weak (ls' := [some (rf G 64), none, some (.int (iI ((M 64 10) - 1))), none, none, none, none]) ⟨rfl, ⟨rfl, trivial⟩⟩ ?_
      exact w_X10_laysRest_40 C E F ((M 64 10) - 1) M hB h
    · replace h := ite_f hc1 h
      refine go_aload_n C dX10_laysRest_8 rfl rfl ?_
      refine go_getR (o := 9) (k2 := 73) C dX10_laysRest_9 fl_X10_34 sh_64 rfl rfl ?_
      refine go_bipush C dX10_laysRest_12 (by decide +kernel) ?_
      refine go_aload_n C dX10_laysRest_14 rfl rfl ?_
      refine go_getI (z := 10) C dX10_laysRest_15 fl_X10_146 sh_64 rfl rfl ?_
      refine go_imul C dX10_laysRest_18 ?_
      refine go_iload_n C dX10_laysRest_19 rfl rfl ?_
      refine go_iadd C dX10_laysRest_20 ?_
      refine go_iload_n C dX10_laysRest_21 rfl rfl ?_
      refine go_iload_n C dX10_laysRest_22 rfl rfl ?_
      obtain ⟨q16, h16, h⟩ := ob_some h
      refine go_callS_i C dX10_laysRest_23 (ok_X10_cost C.hl hB h16) ms_X10_162 rfl rfl (Nat.le_of_ble_eq_true rfl) ⟨(Nat.le_of_ble_eq_true rfl), (Nat.le_of_ble_eq_true rfl)⟩ ⟨(Nat.le_of_ble_eq_true rfl), (Nat.le_of_ble_eq_true rfl)⟩ (fun hB16 => ?_)
      obtain ⟨hc17, h⟩ := chk_some h
      obtain ⟨hc18, h⟩ := chk_some h
      refine go_iast C dX10_laysRest_26 sh_73 (by decide) hc17 ?_
      have hB19 := hB16.set 73 ((17 * (M 64 10)) + v2) (x := q16) hc18
      refine go_iinc (ls2 := [some (rf G 64), some (.int (iI v1)), some (.int (iI (v2 + 1))), none, none, none, none]) C dX10_laysRest_27 rfl (Nat.le_of_ble_eq_true rfl) rfl ?_
      refine go_goto (tgt := 2) C dX10_laysRest_30 rfl ?_
      exact ih v1 (v2 + 1) (mset M 73 ((17 * (M 64 10)) + v2) q16) hB19 h
set_option maxHeartbeats 4000000 in
theorem ok_X10_laysRest {G : gC} {l : Launch} (hl : l.stackTraces = false) {F : Nat} {v1 : Int} {M : Mem} (hB : Bd M) {res : Mem} (h : f_X10_laysRest F v1 M = some res) : Ok G l 1 0 0 yX10_laysRest (.code yX10_laysRest cX10_laysRest 7 none) [rf G 64, .int (iI v1)] M (.inr none) res := by
  refine ok_of (ls := [some (rf G 64), some (.int (iI v1)), none, none, none, none, none]) hl (by decide +kernel) (Nat.le_of_ble_eq_true rfl) ⟨rfl, ⟨rfl, trivial⟩⟩ ?_
  intro X hX C E
  subst hX
  rw [f_X10_laysRest] at h
  refine go_iconst C dX10_laysRest_0 ?_
  refine go_istore_n (ls2 := [some (rf G 64), some (.int (iI v1)), some (.int (iI 0)), none, none, none, none]) C dX10_laysRest_1 rfl (Nat.le_of_ble_eq_true rfl) rfl ?_
  exact w_X10_laysRest_2 C E F v1 0 M hB h
-- IntervalRouterModel.laysBest(I)V
set_option maxHeartbeats 4000000 in
theorem w_X10_laysBest_278 {G : gC} {X : gX} {res : Mem} {F : Nat} (C : Cx G X cX10_laysBest 6 RX10 3 0 0 none []) (E : Fnl G X 0 0 (.inr none) res) : ∀ (fu : Nat) (v4 : Int) (M : Mem), Bd M → f_X10_laysBest_278 F fu v4 M = some res → Go G X 6 0 0 278 [some (rf G 64), none, none, none, some (.int (iI v4)), none] [] M := by
  intro fu
  induction fu with
  | zero => intro v4 M hB h; exact nomatch (show (none : Option (Mem)) = some res from h)
  | succ fu ih =>
    intro v4 M hB h
    rw [f_X10_laysBest_278] at h
    obtain ⟨hp_v4, h⟩ := chk_some h
    refine go_iload C dX10_laysBest_278 rfl ?_
    refine go_aload_n C dX10_laysBest_280 rfl rfl ?_
    refine go_getI (z := 10) C dX10_laysBest_281 fl_X10_146 sh_64 rfl rfl ?_
    refine go_icmp_ge (tgt := 323) C dX10_laysBest_284 rfl hp_v4 (hB 64 10 (by decide)) (fun hc6 => ?_) (fun hc6 => ?_)
    · replace h := ite_t hc6 h
      cases h
      exact go_vret C E rfl dX10_laysBest_323 (Nat.le_of_ble_eq_true rfl) (Nat.le_of_ble_eq_true rfl) rfl rfl hB
    · replace h := ite_f hc6 h
      refine go_aload_n C dX10_laysBest_287 rfl rfl ?_
      refine go_getR (o := 6) (k2 := 70) C dX10_laysBest_288 fl_X10_25 sh_64 rfl rfl ?_
      refine go_iload C dX10_laysBest_291 rfl ?_
      refine go_aload_n C dX10_laysBest_293 rfl rfl ?_
      refine go_getR (o := 6) (k2 := 70) C dX10_laysBest_294 fl_X10_25 sh_64 rfl rfl ?_
      refine go_iload C dX10_laysBest_297 rfl ?_
      obtain ⟨hc7, h⟩ := chk_some h
      refine go_iald C dX10_laysBest_299 sh_70 (by decide) hc7 ?_
      refine go_bipush C dX10_laysBest_300 (by decide +kernel) ?_
      refine go_icmp_ne (tgt := 309) C dX10_laysBest_302 rfl (hB 70 v4 (by decide)) (by decide) (fun hc8 => ?_) (fun hc8 => ?_)
      · replace h := ite_f hc8 h
        refine go_aload_n C dX10_laysBest_309 rfl rfl ?_
        refine go_getR (o := 6) (k2 := 70) C dX10_laysBest_310 fl_X10_25 sh_64 rfl rfl ?_
        refine go_iload C dX10_laysBest_313 rfl ?_
        refine go_iald C dX10_laysBest_315 sh_70 (by decide) hc7 ?_
        refine go_iast C dX10_laysBest_316 sh_70 (by decide) hc7 ?_
        have hB9 := hB.set 70 v4 (x := M 70 v4) (hB 70 v4 (by decide))
        refine go_iinc (ls2 := [some (rf G 64), none, none, none, some (.int (iI (v4 + 1))), none]) C dX10_laysBest_317 rfl (Nat.le_of_ble_eq_true rfl) rfl ?_
        refine go_goto (tgt := 278) C dX10_laysBest_320 rfl ?_
        exact ih (v4 + 1) (mset M 70 v4 (M 70 v4)) hB9 h
      · replace h := ite_t hc8 h
        refine go_iconst C dX10_laysBest_305 ?_
        refine go_goto (tgt := 316) C dX10_laysBest_306 rfl ?_
        refine go_iast C dX10_laysBest_316 sh_70 (by decide) hc7 ?_
        have hB10 := hB.set 70 v4 (x := (-1)) (by decide)
        refine go_iinc (ls2 := [some (rf G 64), none, none, none, some (.int (iI (v4 + 1))), none]) C dX10_laysBest_317 rfl (Nat.le_of_ble_eq_true rfl) rfl ?_
        refine go_goto (tgt := 278) C dX10_laysBest_320 rfl ?_
        exact ih (v4 + 1) (mset M 70 v4 (-1)) hB10 h
set_option maxHeartbeats 4000000 in
theorem w_X10_laysBest_186 {G : gC} {X : gX} {res : Mem} {F : Nat} (C : Cx G X cX10_laysBest 6 RX10 3 0 0 none []) (E : Fnl G X 0 0 (.inr none) res) {k174 : Int → Mem → Option (Mem)} (hk174 : ∀ (v4 : Int) (M : Mem), Bd M → k174 v4 M = some res → Go G X 6 0 0 174 [some (rf G 64), none, none, none, some (.int (iI v4)), none] [] M) : ∀ (fu : Nat) (v4 : Int) (v5 : Int) (M : Mem), Bd M → f_X10_laysBest_186 F k174 fu v4 v5 M = some res → Go G X 6 0 0 186 [some (rf G 64), none, none, none, some (.int (iI v4)), some (.int (iI v5))] [] M := by
  intro fu
  induction fu with
  | zero => intro v4 v5 M hB h; exact nomatch (show (none : Option (Mem)) = some res from h)
  | succ fu ih =>
    intro v4 v5 M hB h
    rw [f_X10_laysBest_186] at h
    obtain ⟨hp_v5, h⟩ := chk_some h
    refine go_aload_n C dX10_laysBest_186 rfl rfl ?_
    refine go_getR (o := 8) (k2 := 72) C dX10_laysBest_187 fl_X10_31 sh_64 rfl rfl ?_
    refine go_iload C dX10_laysBest_190 rfl ?_
    obtain ⟨hc11, h⟩ := chk_some h
    refine go_iald C dX10_laysBest_192 sh_72 (by decide) hc11 ?_
    refine go_iload C dX10_laysBest_193 rfl ?_
    obtain ⟨q12, h12, h⟩ := ob_some h
    refine go_callS_i C dX10_laysBest_195 (ok_X10_has C.hl hB h12) ms_X10_120 rfl rfl (Nat.le_of_ble_eq_true rfl) ⟨(Nat.le_of_ble_eq_true rfl), (Nat.le_of_ble_eq_true rfl)⟩ ⟨(Nat.le_of_ble_eq_true rfl), (Nat.le_of_ble_eq_true rfl)⟩ (fun hB12 => ?_)
    obtain ⟨hc13, h⟩ := chk_some h
    refine go_if_eq (tgt := 254) C dX10_laysBest_198 rfl hc13 (fun hc14 => ?_) (fun hc14 => ?_)
    · replace h := ite_t hc14 h
      refine go_iinc (ls2 := [some (rf G 64), none, none, none, some (.int (iI v4)), some (.int (iI (v5 + 1)))]) C dX10_laysBest_254 rfl (Nat.le_of_ble_eq_true rfl) rfl ?_
      refine go_goto (tgt := 186) C dX10_laysBest_257 rfl ?_
      exact ih v4 (v5 + 1) M hB12 h
    · replace h := ite_f hc14 h
      refine go_aload_n C dX10_laysBest_201 rfl rfl ?_
      refine go_getR (o := 6) (k2 := 70) C dX10_laysBest_202 fl_X10_25 sh_64 rfl rfl ?_
      refine go_iload C dX10_laysBest_205 rfl ?_
      refine go_iconst C dX10_laysBest_207 ?_
      refine go_isub C dX10_laysBest_208 ?_
      obtain ⟨hc15, h⟩ := chk_some h
      refine go_iald C dX10_laysBest_209 sh_70 (by decide) hc15 ?_
      refine go_iload C dX10_laysBest_210 rfl ?_
      obtain ⟨q16, h16, h⟩ := ob_some h
      refine go_callS_i C dX10_laysBest_212 (ok_X10_cost C.hl hB12 h16) ms_X10_162 rfl rfl (Nat.le_of_ble_eq_true rfl) ⟨(Nat.le_of_ble_eq_true rfl), (Nat.le_of_ble_eq_true rfl)⟩ ⟨(Nat.le_of_ble_eq_true rfl), (Nat.le_of_ble_eq_true rfl)⟩ (fun hB16 => ?_)
      refine go_aload_n C dX10_laysBest_215 rfl rfl ?_
      refine go_getR (o := 9) (k2 := 73) C dX10_laysBest_216 fl_X10_34 sh_64 rfl rfl ?_
      refine go_bipush C dX10_laysBest_219 (by decide +kernel) ?_
      refine go_iload C dX10_laysBest_221 rfl ?_
      refine go_iconst C dX10_laysBest_223 ?_
      refine go_iadd C dX10_laysBest_224 ?_
      refine go_imul C dX10_laysBest_225 ?_
      refine go_iload C dX10_laysBest_226 rfl ?_
      refine go_iadd C dX10_laysBest_228 ?_
      obtain ⟨hc17, h⟩ := chk_some h
      refine go_iald C dX10_laysBest_229 sh_73 (by decide) hc17 ?_
      refine go_iadd C dX10_laysBest_230 ?_
      refine go_aload_n C dX10_laysBest_231 rfl rfl ?_
      refine go_getR (o := 9) (k2 := 73) C dX10_laysBest_232 fl_X10_34 sh_64 rfl rfl ?_
      refine go_bipush C dX10_laysBest_235 (by decide +kernel) ?_
      refine go_iload C dX10_laysBest_237 rfl ?_
      refine go_imul C dX10_laysBest_239 ?_
      refine go_aload_n C dX10_laysBest_240 rfl rfl ?_
      refine go_getR (o := 6) (k2 := 70) C dX10_laysBest_241 fl_X10_25 sh_64 rfl rfl ?_
      refine go_iload C dX10_laysBest_244 rfl ?_
      refine go_iconst C dX10_laysBest_246 ?_
      refine go_isub C dX10_laysBest_247 ?_
      refine go_iald C dX10_laysBest_248 sh_70 (by decide) hc15 ?_
      refine go_iadd C dX10_laysBest_249 ?_
      obtain ⟨hc18, h⟩ := chk_some h
      refine go_iald C dX10_laysBest_250 sh_73 (by decide) hc18 ?_
      obtain ⟨hc19, h⟩ := chk_some h
      refine go_icmp_eq (tgt := 260) C dX10_laysBest_251 rfl hc19 (hB16 73 ((17 * v4) + (M 70 (v4 - 1))) (by decide)) (fun hc20 => ?_) (fun hc20 => ?_)
      · replace h := ite_t hc20 h
        refine go_aload_n C dX10_laysBest_260 rfl rfl ?_
        refine go_getR (o := 6) (k2 := 70) C dX10_laysBest_261 fl_X10_25 sh_64 rfl rfl ?_
        refine go_iload C dX10_laysBest_264 rfl ?_
        refine go_iload C dX10_laysBest_266 rfl ?_
        refine go_iast C dX10_laysBest_268 sh_70 (by decide) hc11 ?_
        have hB21 := hB16.set 70 v4 (x := v5) hp_v5
        refine go_iinc (ls2 := [some (rf G 64), none, none, none, some (.int (iI (v4 + 1))), some (.int (iI v5))]) C dX10_laysBest_269 rfl (Nat.le_of_ble_eq_true rfl) rfl ?_
        refine go_goto (tgt := 174) C dX10_laysBest_272 rfl ?_
        refine go_weak (ls' := [some (rf G 64), none, none, none, some (.int (iI (v4 + 1))), none]) ⟨rfl, ⟨rfl, trivial⟩⟩ ?_
        exact hk174 (v4 + 1) (mset M 70 v4 v5) hB21 h
      · replace h := ite_f hc20 h
        refine go_iinc (ls2 := [some (rf G 64), none, none, none, some (.int (iI v4)), some (.int (iI (v5 + 1)))]) C dX10_laysBest_254 rfl (Nat.le_of_ble_eq_true rfl) rfl ?_
        refine go_goto (tgt := 186) C dX10_laysBest_257 rfl ?_
        exact ih v4 (v5 + 1) M hB16 h
set_option maxHeartbeats 4000000 in
theorem w_X10_laysBest_174 {G : gC} {X : gX} {res : Mem} {F : Nat} (C : Cx G X cX10_laysBest 6 RX10 3 0 0 none []) (E : Fnl G X 0 0 (.inr none) res) : ∀ (fu : Nat) (v4 : Int) (M : Mem), Bd M → f_X10_laysBest_174 F fu v4 M = some res → Go G X 6 0 0 174 [some (rf G 64), none, none, none, some (.int (iI v4)), none] [] M := by
  intro fu
  induction fu with
  | zero => intro v4 M hB h; exact nomatch (show (none : Option (Mem)) = some res from h)
  | succ fu ih =>
    intro v4 M hB h
    rw [f_X10_laysBest_174] at h
    obtain ⟨hp_v4, h⟩ := chk_some h
    refine go_iload C dX10_laysBest_174 rfl ?_
    refine go_aload_n C dX10_laysBest_176 rfl rfl ?_
    refine go_getI (z := 10) C dX10_laysBest_177 fl_X10_146 sh_64 rfl rfl ?_
    refine go_icmp_ge (tgt := 275) C dX10_laysBest_180 rfl hp_v4 (hB 64 10 (by decide)) (fun hc5 => ?_) (fun hc5 => ?_)
    · replace h := ite_t hc5 h
      refine go_iconst C dX10_laysBest_275 ?_
      refine go_istore (ls2 := [some (rf G 64), none, none, none, some (.int (iI 0)), none]) C dX10_laysBest_276 (Nat.le_of_ble_eq_true rfl) rfl ?_
      exact w_X10_laysBest_278 C E F 0 M hB h
    · replace h := ite_f hc5 h
      refine go_iconst C dX10_laysBest_183 ?_
      refine go_istore (ls2 := [some (rf G 64), none, none, none, some (.int (iI v4)), some (.int (iI 0))]) C dX10_laysBest_184 (Nat.le_of_ble_eq_true rfl) rfl ?_
      exact w_X10_laysBest_186 C E ih F v4 0 M hB h
set_option maxHeartbeats 4000000 in
theorem w_X10_laysBest_62 {G : gC} {X : gX} {res : Mem} {F : Nat} (C : Cx G X cX10_laysBest 6 RX10 3 0 0 none []) (E : Fnl G X 0 0 (.inr none) res) : ∀ (fu : Nat) (v2 : Int) (v3 : Int) (v4 : Int) (M : Mem), Bd M → f_X10_laysBest_62 F fu v2 v3 v4 M = some res → Go G X 6 0 0 62 [some (rf G 64), none, some (.int (iI v2)), some (.int (iI v3)), some (.int (iI v4)), none] [] M := by
  intro fu
  induction fu with
  | zero => intro v2 v3 v4 M hB h; exact nomatch (show (none : Option (Mem)) = some res from h)
  | succ fu ih =>
    intro v2 v3 v4 M hB h
    rw [f_X10_laysBest_62] at h
    obtain ⟨⟨hp_v2, hp_v3, hp_v4⟩, h⟩ := chk_some h
    refine go_iload C dX10_laysBest_62 rfl ?_
    refine go_bipush C dX10_laysBest_64 (by decide +kernel) ?_
    refine go_icmp_gt (tgt := 152) C dX10_laysBest_66 rfl hp_v4 (by decide) (fun hc3 => ?_) (fun hc3 => ?_)
    · replace h := ite_t hc3 h
      refine go_aload_n C dX10_laysBest_152 rfl rfl ?_
      refine go_getI (z := 10) C dX10_laysBest_153 fl_X10_146 sh_64 rfl rfl ?_
      refine go_if_le (tgt := 171) C dX10_laysBest_156 rfl (hB 64 10 (by decide)) (fun hc4 => ?_) (fun hc4 => ?_)
      · replace h := ite_t hc4 h
        refine go_iconst C dX10_laysBest_171 ?_
        refine go_istore (ls2 := [some (rf G 64), none, some (.int (iI v2)), some (.int (iI v3)), some (.int (iI 1)), none]) C dX10_laysBest_172 (Nat.le_of_ble_eq_true rfl) rfl ?_
        refine go_weak (ls' := [some (rf G 64), none, none, none, some (.int (iI 1)), none]) ⟨rfl, ⟨rfl, trivial⟩⟩ ?_
        exact w_X10_laysBest_174 C E F 1 M hB h
      · replace h := ite_f hc4 h
        refine go_aload_n C dX10_laysBest_159 rfl rfl ?_
        refine go_iload_n C dX10_laysBest_160 rfl rfl ?_
        obtain ⟨q22, h22, h⟩ := ob_some h
        refine go_callV_v C dX10_laysBest_161 (ok_X10_laysRest C.hl hB h22) mv_X10_169 sh_64 rfl rfl (Nat.le_of_ble_eq_true rfl) ⟨(Nat.le_of_ble_eq_true rfl), (Nat.le_of_ble_eq_true rfl)⟩ ⟨(Nat.le_of_ble_eq_true rfl), (Nat.le_of_ble_eq_true rfl)⟩ (fun hB22 => ?_)
        refine go_aload_n C dX10_laysBest_164 rfl rfl ?_
        refine go_getR (o := 6) (k2 := 70) C dX10_laysBest_165 fl_X10_25 sh_64 rfl rfl ?_
        refine go_iconst C dX10_laysBest_168 ?_
        refine go_iload_n C dX10_laysBest_169 rfl rfl ?_
        refine go_iast C dX10_laysBest_170 sh_70 (by decide) ⟨by decide, by decide⟩ ?_
        have hB23 := hB22.set 70 0 (x := v2) hp_v2
        refine go_iconst C dX10_laysBest_171 ?_
        refine go_istore (ls2 := [some (rf G 64), none, some (.int (iI v2)), some (.int (iI v3)), some (.int (iI 1)), none]) C dX10_laysBest_172 (Nat.le_of_ble_eq_true rfl) rfl ?_
        refine go_weak (ls' := [some (rf G 64), none, none, none, some (.int (iI 1)), none]) ⟨rfl, ⟨rfl, trivial⟩⟩ ?_
        exact w_X10_laysBest_174 C E F 1 (mset q22 70 0 v2) hB23 h
    · replace h := ite_f hc3 h
      refine go_aload_n C dX10_laysBest_69 rfl rfl ?_
      refine go_getI (z := 10) C dX10_laysBest_70 fl_X10_146 sh_64 rfl rfl ?_
      refine go_if_le (tgt := 152) C dX10_laysBest_73 rfl (hB 64 10 (by decide)) (fun hc24 => ?_) (fun hc24 => ?_)
      · replace h := ite_t hc24 h
        refine go_aload_n C dX10_laysBest_152 rfl rfl ?_
        refine go_getI (z := 10) C dX10_laysBest_153 fl_X10_146 sh_64 rfl rfl ?_
        refine go_if_le (tgt := 171) C dX10_laysBest_156 rfl (hB 64 10 (by decide)) (fun hc25 => ?_) (fun hc25 => ?_)
        · replace h := ite_t hc25 h
          refine go_iconst C dX10_laysBest_171 ?_
          refine go_istore (ls2 := [some (rf G 64), none, some (.int (iI v2)), some (.int (iI v3)), some (.int (iI 1)), none]) C dX10_laysBest_172 (Nat.le_of_ble_eq_true rfl) rfl ?_
          refine go_weak (ls' := [some (rf G 64), none, none, none, some (.int (iI 1)), none]) ⟨rfl, ⟨rfl, trivial⟩⟩ ?_
          exact w_X10_laysBest_174 C E F 1 M hB h
        · replace h := ite_f hc25 h
          refine go_aload_n C dX10_laysBest_159 rfl rfl ?_
          refine go_iload_n C dX10_laysBest_160 rfl rfl ?_
          obtain ⟨q26, h26, h⟩ := ob_some h
          refine go_callV_v C dX10_laysBest_161 (ok_X10_laysRest C.hl hB h26) mv_X10_169 sh_64 rfl rfl (Nat.le_of_ble_eq_true rfl) ⟨(Nat.le_of_ble_eq_true rfl), (Nat.le_of_ble_eq_true rfl)⟩ ⟨(Nat.le_of_ble_eq_true rfl), (Nat.le_of_ble_eq_true rfl)⟩ (fun hB26 => ?_)
          refine go_aload_n C dX10_laysBest_164 rfl rfl ?_
          refine go_getR (o := 6) (k2 := 70) C dX10_laysBest_165 fl_X10_25 sh_64 rfl rfl ?_
          refine go_iconst C dX10_laysBest_168 ?_
          refine go_iload_n C dX10_laysBest_169 rfl rfl ?_
          refine go_iast C dX10_laysBest_170 sh_70 (by decide) ⟨by decide, by decide⟩ ?_
          have hB27 := hB26.set 70 0 (x := v2) hp_v2
          refine go_iconst C dX10_laysBest_171 ?_
          refine go_istore (ls2 := [some (rf G 64), none, some (.int (iI v2)), some (.int (iI v3)), some (.int (iI 1)), none]) C dX10_laysBest_172 (Nat.le_of_ble_eq_true rfl) rfl ?_
          refine go_weak (ls' := [some (rf G 64), none, none, none, some (.int (iI 1)), none]) ⟨rfl, ⟨rfl, trivial⟩⟩ ?_
          exact w_X10_laysBest_174 C E F 1 (mset q26 70 0 v2) hB27 h
      · replace h := ite_f hc24 h
        refine go_aload_n C dX10_laysBest_76 rfl rfl ?_
        refine go_getR (o := 8) (k2 := 72) C dX10_laysBest_77 fl_X10_31 sh_64 rfl rfl ?_
        refine go_iconst C dX10_laysBest_80 ?_
        refine go_iald C dX10_laysBest_81 sh_72 (by decide) ⟨by decide, by decide⟩ ?_
        refine go_iload C dX10_laysBest_82 rfl ?_
        obtain ⟨q28, h28, h⟩ := ob_some h
        refine go_callS_i C dX10_laysBest_84 (ok_X10_has C.hl hB h28) ms_X10_120 rfl rfl (Nat.le_of_ble_eq_true rfl) ⟨(Nat.le_of_ble_eq_true rfl), (Nat.le_of_ble_eq_true rfl)⟩ ⟨(Nat.le_of_ble_eq_true rfl), (Nat.le_of_ble_eq_true rfl)⟩ (fun hB28 => ?_)
        obtain ⟨hc29, h⟩ := chk_some h
        refine go_if_eq (tgt := 146) C dX10_laysBest_87 rfl hc29 (fun hc30 => ?_) (fun hc30 => ?_)
        · replace h := ite_t hc30 h
          refine go_iinc (ls2 := [some (rf G 64), none, some (.int (iI v2)), some (.int (iI v3)), some (.int (iI (v4 + 1))), none]) C dX10_laysBest_146 rfl (Nat.le_of_ble_eq_true rfl) rfl ?_
          refine go_goto (tgt := 62) C dX10_laysBest_149 rfl ?_
          exact ih v2 v3 (v4 + 1) M hB28 h
        · replace h := ite_f hc30 h
          refine go_aload_n C dX10_laysBest_90 rfl rfl ?_
          refine go_iload C dX10_laysBest_91 rfl ?_
          obtain ⟨q31, h31, h⟩ := ob_some h
          refine go_callV_v C dX10_laysBest_93 (ok_X10_laysRest C.hl hB28 h31) mv_X10_169 sh_64 rfl rfl (Nat.le_of_ble_eq_true rfl) ⟨(Nat.le_of_ble_eq_true rfl), (Nat.le_of_ble_eq_true rfl)⟩ ⟨(Nat.le_of_ble_eq_true rfl), (Nat.le_of_ble_eq_true rfl)⟩ (fun hB31 => ?_)
          refine go_aload_n C dX10_laysBest_96 rfl rfl ?_
          refine go_getR (o := 9) (k2 := 73) C dX10_laysBest_97 fl_X10_34 sh_64 rfl rfl ?_
          refine go_bipush C dX10_laysBest_100 (by decide +kernel) ?_
          refine go_iload C dX10_laysBest_102 rfl ?_
          refine go_iadd C dX10_laysBest_104 ?_
          obtain ⟨hc32, h⟩ := chk_some h
          refine go_iald C dX10_laysBest_105 sh_73 (by decide) hc32 ?_
          refine go_iload_n C dX10_laysBest_106 rfl rfl ?_
          refine go_icmp_ge (tgt := 115) C dX10_laysBest_107 rfl (hB31 73 (17 + v4) (by decide)) hp_v3 (fun hc33 => ?_) (fun hc33 => ?_)
          · replace h := ite_t hc33 h
            refine go_iload_n C dX10_laysBest_115 rfl rfl ?_
            refine go_istore_n (ls2 := [some (rf G 64), none, some (.int (iI v2)), some (.int (iI v3)), some (.int (iI v4)), none]) C dX10_laysBest_116 rfl (Nat.le_of_ble_eq_true rfl) rfl ?_
            refine go_aload_n C dX10_laysBest_117 rfl rfl ?_
            refine go_getR (o := 9) (k2 := 73) C dX10_laysBest_118 fl_X10_34 sh_64 rfl rfl ?_
            refine go_bipush C dX10_laysBest_121 (by decide +kernel) ?_
            refine go_iload C dX10_laysBest_123 rfl ?_
            refine go_iadd C dX10_laysBest_125 ?_
            refine go_iald C dX10_laysBest_126 sh_73 (by decide) hc32 ?_
            refine go_iload_n C dX10_laysBest_127 rfl rfl ?_
            refine go_icmp_ge (tgt := 144) C dX10_laysBest_128 rfl (hB31 73 (17 + v4) (by decide)) hp_v3 (fun hc34 => ?_) (fun hc34 => ?_)
            · replace h := ite_t hc34 h
              refine go_iload_n C dX10_laysBest_144 rfl rfl ?_
              refine go_istore_n (ls2 := [some (rf G 64), none, some (.int (iI v2)), some (.int (iI v3)), some (.int (iI v4)), none]) C dX10_laysBest_145 rfl (Nat.le_of_ble_eq_true rfl) rfl ?_
              refine go_iinc (ls2 := [some (rf G 64), none, some (.int (iI v2)), some (.int (iI v3)), some (.int (iI (v4 + 1))), none]) C dX10_laysBest_146 rfl (Nat.le_of_ble_eq_true rfl) rfl ?_
              refine go_goto (tgt := 62) C dX10_laysBest_149 rfl ?_
              exact ih v2 v3 (v4 + 1) q31 hB31 h
            · replace h := ite_f hc34 h
              refine go_aload_n C dX10_laysBest_131 rfl rfl ?_
              refine go_getR (o := 9) (k2 := 73) C dX10_laysBest_132 fl_X10_34 sh_64 rfl rfl ?_
              refine go_bipush C dX10_laysBest_135 (by decide +kernel) ?_
              refine go_iload C dX10_laysBest_137 rfl ?_
              refine go_iadd C dX10_laysBest_139 ?_
              refine go_iald C dX10_laysBest_140 sh_73 (by decide) hc32 ?_
              refine go_goto (tgt := 145) C dX10_laysBest_141 rfl ?_
              refine go_istore_n (ls2 := [some (rf G 64), none, some (.int (iI v2)), some (.int (iI (q31 73 (17 + v4)))), some (.int (iI v4)), none]) C dX10_laysBest_145 rfl (Nat.le_of_ble_eq_true rfl) rfl ?_
              refine go_iinc (ls2 := [some (rf G 64), none, some (.int (iI v2)), some (.int (iI (q31 73 (17 + v4)))), some (.int (iI (v4 + 1))), none]) C dX10_laysBest_146 rfl (Nat.le_of_ble_eq_true rfl) rfl ?_
              refine go_goto (tgt := 62) C dX10_laysBest_149 rfl ?_
              exact ih v2 (q31 73 (17 + v4)) (v4 + 1) q31 hB31 h
          · replace h := ite_f hc33 h
            refine go_iload C dX10_laysBest_110 rfl ?_
            refine go_goto (tgt := 116) C dX10_laysBest_112 rfl ?_
            refine go_istore_n (ls2 := [some (rf G 64), none, some (.int (iI v4)), some (.int (iI v3)), some (.int (iI v4)), none]) C dX10_laysBest_116 rfl (Nat.le_of_ble_eq_true rfl) rfl ?_
            refine go_aload_n C dX10_laysBest_117 rfl rfl ?_
            refine go_getR (o := 9) (k2 := 73) C dX10_laysBest_118 fl_X10_34 sh_64 rfl rfl ?_
            refine go_bipush C dX10_laysBest_121 (by decide +kernel) ?_
            refine go_iload C dX10_laysBest_123 rfl ?_
            refine go_iadd C dX10_laysBest_125 ?_
            refine go_iald C dX10_laysBest_126 sh_73 (by decide) hc32 ?_
            refine go_iload_n C dX10_laysBest_127 rfl rfl ?_
            refine go_icmp_ge (tgt := 144) C dX10_laysBest_128 rfl (hB31 73 (17 + v4) (by decide)) hp_v3 (fun hc35 => ?_) (fun hc35 => ?_)
            · replace h := ite_t hc35 h
              refine go_iload_n C dX10_laysBest_144 rfl rfl ?_
              refine go_istore_n (ls2 := [some (rf G 64), none, some (.int (iI v4)), some (.int (iI v3)), some (.int (iI v4)), none]) C dX10_laysBest_145 rfl (Nat.le_of_ble_eq_true rfl) rfl ?_
              refine go_iinc (ls2 := [some (rf G 64), none, some (.int (iI v4)), some (.int (iI v3)), some (.int (iI (v4 + 1))), none]) C dX10_laysBest_146 rfl (Nat.le_of_ble_eq_true rfl) rfl ?_
              refine go_goto (tgt := 62) C dX10_laysBest_149 rfl ?_
              exact ih v4 v3 (v4 + 1) q31 hB31 h
            · replace h := ite_f hc35 h
              refine go_aload_n C dX10_laysBest_131 rfl rfl ?_
              refine go_getR (o := 9) (k2 := 73) C dX10_laysBest_132 fl_X10_34 sh_64 rfl rfl ?_
              refine go_bipush C dX10_laysBest_135 (by decide +kernel) ?_
              refine go_iload C dX10_laysBest_137 rfl ?_
              refine go_iadd C dX10_laysBest_139 ?_
              refine go_iald C dX10_laysBest_140 sh_73 (by decide) hc32 ?_
              refine go_goto (tgt := 145) C dX10_laysBest_141 rfl ?_
              refine go_istore_n (ls2 := [some (rf G 64), none, some (.int (iI v4)), some (.int (iI (q31 73 (17 + v4)))), some (.int (iI v4)), none]) C dX10_laysBest_145 rfl (Nat.le_of_ble_eq_true rfl) rfl ?_
              refine go_iinc (ls2 := [some (rf G 64), none, some (.int (iI v4)), some (.int (iI (q31 73 (17 + v4)))), some (.int (iI (v4 + 1))), none]) C dX10_laysBest_146 rfl (Nat.le_of_ble_eq_true rfl) rfl ?_
              refine go_goto (tgt := 62) C dX10_laysBest_149 rfl ?_
              exact ih v4 (q31 73 (17 + v4)) (v4 + 1) q31 hB31 h
set_option maxHeartbeats 4000000 in
theorem w_X10_laysBest_7 {G : gC} {X : gX} {res : Mem} {F : Nat} (C : Cx G X cX10_laysBest 6 RX10 3 0 0 none []) (E : Fnl G X 0 0 (.inr none) res) : ∀ (fu : Nat) (v1 : Int) (v2 : Int) (M : Mem), Bd M → f_X10_laysBest_7 F fu v1 v2 M = some res → Go G X 6 0 0 7 [some (rf G 64), some (.int (iI v1)), some (.int (iI v2)), none, none, none] [] M := by
  intro fu
  induction fu with
  | zero => intro v1 v2 M hB h; exact nomatch (show (none : Option (Mem)) = some res from h)
  | succ fu ih =>
    intro v1 v2 M hB h
    rw [f_X10_laysBest_7] at h
    obtain ⟨hp_v2, h⟩ := chk_some h
    refine go_iload_n C dX10_laysBest_7 rfl rfl ?_
    refine go_aload_n C dX10_laysBest_8 rfl rfl ?_
    refine go_getI (z := 10) C dX10_laysBest_9 fl_X10_146 sh_64 rfl rfl ?_
    refine go_icmp_ge (tgt := 53) C dX10_laysBest_12 rfl hp_v2 (hB 64 10 (by decide)) (fun hc2 => ?_) (fun hc2 => ?_)
    · replace h := ite_t hc2 h
      refine go_iconst C dX10_laysBest_53 ?_
      refine go_istore_n (ls2 := [some (rf G 64), some (.int (iI v1)), some (.int (iI (-1))), none, none, none]) C dX10_laysBest_54 rfl (Nat.le_of_ble_eq_true rfl) rfl ?_
      refine go_sipush C dX10_laysBest_55 (by decide +kernel) ?_
      refine go_istore_n (ls2 := [some (rf G 64), some (.int (iI v1)), some (.int (iI (-1))), some (.int (iI 1000)), none, none]) C dX10_laysBest_58 rfl (Nat.le_of_ble_eq_true rfl) rfl ?_
      refine go_iconst C dX10_laysBest_59 ?_
      refine go_istore (ls2 := [some (rf G 64), some (.int (iI v1)), some (.int (iI (-1))), some (.int (iI 1000)), some (.int (iI 0)), none]) C dX10_laysBest_60 (Nat.le_of_ble_eq_true rfl) rfl ?_
      refine go_weak (ls' := [some (rf G 64), none, some (.int (iI (-1))), some (.int (iI 1000)), some (.int (iI 0)), none]) ⟨rfl, ⟨rfl, ⟨rfl, ⟨rfl, trivial⟩⟩⟩⟩ ?_
      exact w_X10_laysBest_62 C E F (-1) 1000 0 M hB h
    · replace h := ite_f hc2 h
      refine go_aload_n C dX10_laysBest_15 rfl rfl ?_
      refine go_iload_n C dX10_laysBest_16 rfl rfl ?_
      refine go_aload_n C dX10_laysBest_17 rfl rfl ?_
      refine go_aload_n C dX10_laysBest_18 rfl rfl ?_
      refine go_getR (o := 7) (k2 := 71) C dX10_laysBest_19 fl_X10_28 sh_64 rfl rfl ?_
      refine go_iload_n C dX10_laysBest_22 rfl rfl ?_
      obtain ⟨hc36, h⟩ := chk_some h
      refine go_iald C dX10_laysBest_23 sh_71 (by decide) hc36 ?_
      obtain ⟨q37, h37, h⟩ := ob_some h
      refine go_callV_i C dX10_laysBest_24 (ok_X10_nodeOf C.hl hB h37) mv_X10_117 sh_64 rfl rfl (Nat.le_of_ble_eq_true rfl) ⟨(Nat.le_of_ble_eq_true rfl), (Nat.le_of_ble_eq_true rfl)⟩ ⟨(Nat.le_of_ble_eq_true rfl), (Nat.le_of_ble_eq_true rfl)⟩ (fun hB37 => ?_)
      obtain ⟨q38, h38, h⟩ := ob_some h
      refine go_callV_i C dX10_laysBest_27 (ok_X10_good C.hl hB37 h38) mv_X10_110 sh_64 rfl rfl (Nat.le_of_ble_eq_true rfl) ⟨(Nat.le_of_ble_eq_true rfl), (Nat.le_of_ble_eq_true rfl)⟩ ⟨(Nat.le_of_ble_eq_true rfl), (Nat.le_of_ble_eq_true rfl)⟩ (fun hB38 => ?_)
      refine go_istore_n (ls2 := [some (rf G 64), some (.int (iI v1)), some (.int (iI v2)), some (.int (iI q38)), none, none]) C dX10_laysBest_30 rfl (Nat.le_of_ble_eq_true rfl) rfl ?_
      refine go_aload_n C dX10_laysBest_31 rfl rfl ?_
      refine go_getR (o := 8) (k2 := 72) C dX10_laysBest_32 fl_X10_31 sh_64 rfl rfl ?_
      refine go_iload_n C dX10_laysBest_35 rfl rfl ?_
      refine go_iload_n C dX10_laysBest_36 rfl rfl ?_
      obtain ⟨hc39, h⟩ := chk_some h
      refine go_if_ne (tgt := 45) C dX10_laysBest_37 rfl hc39 (fun hc40 => ?_) (fun hc40 => ?_)
      · replace h := ite_f hc40 h
        refine go_iload_n C dX10_laysBest_45 rfl rfl ?_
        refine go_iast C dX10_laysBest_46 sh_72 (by decide) hc36 ?_
        have hB41 := hB38.set 72 v2 (x := q38) hc39
        refine go_iinc (ls2 := [some (rf G 64), some (.int (iI v1)), some (.int (iI (v2 + 1))), some (.int (iI q38)), none, none]) C dX10_laysBest_47 rfl (Nat.le_of_ble_eq_true rfl) rfl ?_
        refine go_goto (tgt := 7) C dX10_laysBest_50 rfl ?_
        refine go_weak (ls' := [some (rf G 64), some (.int (iI v1)), some (.int (iI (v2 + 1))), none, none, none]) ⟨rfl, ⟨rfl, ⟨rfl, trivial⟩⟩⟩ ?_
        exact ih v1 (v2 + 1) (mset M 72 v2 q38) hB41 h
      · replace h := ite_t hc40 h
        refine go_ldc (v := 65536) C dX10_laysBest_40 gt_1280 ?_
        refine go_goto (tgt := 46) C dX10_laysBest_42 rfl ?_
        refine go_iast C dX10_laysBest_46 sh_72 (by decide) hc36 ?_
        have hB42 := hB38.set 72 v2 (x := 65536) (by decide)
        refine go_iinc (ls2 := [some (rf G 64), some (.int (iI v1)), some (.int (iI (v2 + 1))), some (.int (iI q38)), none, none]) C dX10_laysBest_47 rfl (Nat.le_of_ble_eq_true rfl) rfl ?_
        refine go_goto (tgt := 7) C dX10_laysBest_50 rfl ?_
        refine go_weak (ls' := [some (rf G 64), some (.int (iI v1)), some (.int (iI (v2 + 1))), none, none, none]) ⟨rfl, ⟨rfl, ⟨rfl, trivial⟩⟩⟩ ?_
        exact ih v1 (v2 + 1) (mset M 72 v2 65536) hB42 h
set_option maxHeartbeats 4000000 in
theorem ok_X10_laysBest {G : gC} {l : Launch} (hl : l.stackTraces = false) {F : Nat} {v1 : Int} {M : Mem} (hB : Bd M) {res : Mem} (h : f_X10_laysBest F v1 M = some res) : Ok G l 3 0 0 yX10_laysBest (.code yX10_laysBest cX10_laysBest 6 none) [rf G 64, .int (iI v1)] M (.inr none) res := by
  refine ok_of (ls := [some (rf G 64), some (.int (iI v1)), none, none, none, none]) hl (by decide +kernel) (Nat.le_of_ble_eq_true rfl) ⟨rfl, ⟨rfl, trivial⟩⟩ ?_
  intro X hX C E
  subst hX
  rw [f_X10_laysBest] at h
  refine go_aload_n C dX10_laysBest_0 rfl rfl ?_
  refine go_iload_n C dX10_laysBest_1 rfl rfl ?_
  obtain ⟨q1, h1, h⟩ := ob_some h
  refine go_callV_v C dX10_laysBest_2 (ok_X10_laysRing C.hl hB h1) mv_X10_165 sh_64 rfl rfl (Nat.le_of_ble_eq_true rfl) ⟨(Nat.le_of_ble_eq_true rfl), (Nat.le_of_ble_eq_true rfl)⟩ ⟨(Nat.le_of_ble_eq_true rfl), (Nat.le_of_ble_eq_true rfl)⟩ (fun hB1 => ?_)
  refine go_iconst C dX10_laysBest_5 ?_
  refine go_istore_n (ls2 := [some (rf G 64), some (.int (iI v1)), some (.int (iI 0)), none, none, none]) C dX10_laysBest_6 rfl (Nat.le_of_ble_eq_true rfl) rfl ?_
  exact w_X10_laysBest_7 C E F v1 0 q1 hB1 h
-- IntervalRouterModel.isRound()Z
set_option maxHeartbeats 4000000 in
theorem w_X10_isRound_15 {G : gC} {X : gX} {res : Int} {F : Nat} {M : Mem} (hB : Bd M) (C : Cx G X cX10_isRound 3 RX10 0 0 0 (some .boolean) []) (E : Fnl G X 0 0 (.inr (some (.int (iI res)))) M) : ∀ (fu : Nat) (v1 : Int) (v2 : Int), f_X10_isRound_15 F fu v1 v2 M = some res → Go G X 3 0 0 15 [some (rf G 64), some (.int (iI v1)), some (.int (iI v2))] [] M := by
  intro fu
  induction fu with
  | zero => intro v1 v2 h; exact nomatch (show (none : Option (Int)) = some res from h)
  | succ fu ih =>
    intro v1 v2 h
    rw [f_X10_isRound_15] at h
    obtain ⟨⟨hp_v1, hp_v2⟩, h⟩ := chk_some h
    refine go_iload_n C dX10_isRound_15 rfl rfl ?_
    refine go_aload_n C dX10_isRound_16 rfl rfl ?_
    refine go_getI (z := 10) C dX10_isRound_17 fl_X10_146 sh_64 rfl rfl ?_
    refine go_icmp_ge (tgt := 54) C dX10_isRound_20 rfl hp_v2 (hB 64 10 (by decide)) (fun hc2 => ?_) (fun hc2 => ?_)
    · replace h := ite_t hc2 h
      refine go_iload_n C dX10_isRound_54 rfl rfl ?_
      obtain ⟨hc3, h⟩ := chk_some h
      cases h
      exact go_zret C E rfl dX10_isRound_55 hc3 (Nat.le_of_ble_eq_true rfl) (Nat.le_of_ble_eq_true rfl) rfl rfl hB
    · replace h := ite_f hc2 h
      refine go_iload_n C dX10_isRound_23 rfl rfl ?_
      refine go_if_eq (tgt := 46) C dX10_isRound_24 rfl hp_v1 (fun hc4 => ?_) (fun hc4 => ?_)
      · replace h := ite_t hc4 h
        refine go_iconst C dX10_isRound_46 ?_
        refine go_istore_n (ls2 := [some (rf G 64), some (.int (iI 0)), some (.int (iI v2))]) C dX10_isRound_47 rfl (Nat.le_of_ble_eq_true rfl) rfl ?_
        refine go_iinc (ls2 := [some (rf G 64), some (.int (iI 0)), some (.int (iI (v2 + 1)))]) C dX10_isRound_48 rfl (Nat.le_of_ble_eq_true rfl) rfl ?_
        refine go_goto (tgt := 15) C dX10_isRound_51 rfl ?_
        exact ih 0 (v2 + 1) h
      · replace h := ite_f hc4 h
        refine go_aload_n C dX10_isRound_27 rfl rfl ?_
        refine go_getR (o := 6) (k2 := 70) C dX10_isRound_28 fl_X10_25 sh_64 rfl rfl ?_
        refine go_iload_n C dX10_isRound_31 rfl rfl ?_
        obtain ⟨hc5, h⟩ := chk_some h
        refine go_iald C dX10_isRound_32 sh_70 (by decide) hc5 ?_
        refine go_aload_n C dX10_isRound_33 rfl rfl ?_
        refine go_getR (o := 6) (k2 := 70) C dX10_isRound_34 fl_X10_25 sh_64 rfl rfl ?_
        refine go_iconst C dX10_isRound_37 ?_
        refine go_iald C dX10_isRound_38 sh_70 (by decide) ⟨by decide, by decide⟩ ?_
        refine go_icmp_ne (tgt := 46) C dX10_isRound_39 rfl (hB 70 v2 (by decide)) (hB 70 0 (by decide)) (fun hc6 => ?_) (fun hc6 => ?_)
        · replace h := ite_f hc6 h
          refine go_iconst C dX10_isRound_46 ?_
          refine go_istore_n (ls2 := [some (rf G 64), some (.int (iI 0)), some (.int (iI v2))]) C dX10_isRound_47 rfl (Nat.le_of_ble_eq_true rfl) rfl ?_
          refine go_iinc (ls2 := [some (rf G 64), some (.int (iI 0)), some (.int (iI (v2 + 1)))]) C dX10_isRound_48 rfl (Nat.le_of_ble_eq_true rfl) rfl ?_
          refine go_goto (tgt := 15) C dX10_isRound_51 rfl ?_
          exact ih 0 (v2 + 1) h
        · replace h := ite_t hc6 h
          refine go_iconst C dX10_isRound_42 ?_
          refine go_goto (tgt := 47) C dX10_isRound_43 rfl ?_
          refine go_istore_n (ls2 := [some (rf G 64), some (.int (iI 1)), some (.int (iI v2))]) C dX10_isRound_47 rfl (Nat.le_of_ble_eq_true rfl) rfl ?_
          refine go_iinc (ls2 := [some (rf G 64), some (.int (iI 1)), some (.int (iI (v2 + 1)))]) C dX10_isRound_48 rfl (Nat.le_of_ble_eq_true rfl) rfl ?_
          refine go_goto (tgt := 15) C dX10_isRound_51 rfl ?_
          exact ih 1 (v2 + 1) h
set_option maxHeartbeats 4000000 in
theorem ok_X10_isRound {G : gC} {l : Launch} (hl : l.stackTraces = false) {F : Nat} {M : Mem} (hB : Bd M) {res : Int} (h : f_X10_isRound F M = some res) : Ok G l 0 0 0 yX10_isRound (.code yX10_isRound cX10_isRound 3 (some .boolean)) [rf G 64] M (.inr (some (.int (iI res)))) M := by
  refine ok_of (ls := [some (rf G 64), none, none]) hl (by decide +kernel) (Nat.le_of_ble_eq_true rfl) ⟨rfl, trivial⟩ ?_
  intro X hX C E
  subst hX
  rw [f_X10_isRound] at h
  refine go_aload_n C dX10_isRound_0 rfl rfl ?_
  refine go_getI (z := 10) C dX10_isRound_1 fl_X10_146 sh_64 rfl rfl ?_
  refine go_if_le (tgt := 11) C dX10_isRound_4 rfl (hB 64 10 (by decide)) (fun hc1 => ?_) (fun hc1 => ?_)
  · replace h := ite_t hc1 h
    refine go_iconst C dX10_isRound_11 ?_
    refine go_istore_n (ls2 := [some (rf G 64), some (.int (iI 0)), none]) C dX10_isRound_12 rfl (Nat.le_of_ble_eq_true rfl) rfl ?_
    refine go_iconst C dX10_isRound_13 ?_
    refine go_istore_n (ls2 := [some (rf G 64), some (.int (iI 0)), some (.int (iI 1))]) C dX10_isRound_14 rfl (Nat.le_of_ble_eq_true rfl) rfl ?_
    exact w_X10_isRound_15 hB C E F 0 1 h
  · replace h := ite_f hc1 h
    refine go_iconst C dX10_isRound_7 ?_
    refine go_goto (tgt := 12) C dX10_isRound_8 rfl ?_
    refine go_istore_n (ls2 := [some (rf G 64), some (.int (iI 1)), none]) C dX10_isRound_12 rfl (Nat.le_of_ble_eq_true rfl) rfl ?_
    refine go_iconst C dX10_isRound_13 ?_
    refine go_istore_n (ls2 := [some (rf G 64), some (.int (iI 1)), some (.int (iI 1))]) C dX10_isRound_14 rfl (Nat.le_of_ble_eq_true rfl) rfl ?_
    exact w_X10_isRound_15 hB C E F 1 1 h
-- IntervalRouterModel.beginsAt(I)Z
set_option maxHeartbeats 4000000 in
theorem ok_X10_beginsAt {G : gC} {l : Launch} (hl : l.stackTraces = false) {v1 : Int} {M : Mem} (hB : Bd M) {res : Int} (h : f_X10_beginsAt v1 M = some res) : Ok G l 0 0 0 yX10_beginsAt (.code yX10_beginsAt cX10_beginsAt 2 (some .boolean)) [rf G 64, .int (iI v1)] M (.inr (some (.int (iI res)))) M := by
  refine ok_of (ls := [some (rf G 64), some (.int (iI v1))]) hl (by decide +kernel) (Nat.le_of_ble_eq_true rfl) ⟨rfl, ⟨rfl, trivial⟩⟩ ?_
  intro X hX C E
  subst hX
  rw [f_X10_beginsAt] at h
  refine go_aload_n C dX10_beginsAt_0 rfl rfl ?_
  refine go_getR (o := 6) (k2 := 70) C dX10_beginsAt_1 fl_X10_25 sh_64 rfl rfl ?_
  refine go_iload_n C dX10_beginsAt_4 rfl rfl ?_
  obtain ⟨hc1, h⟩ := chk_some h
  refine go_iald C dX10_beginsAt_5 sh_70 (by decide) hc1 ?_
  refine go_aload_n C dX10_beginsAt_6 rfl rfl ?_
  refine go_getR (o := 6) (k2 := 70) C dX10_beginsAt_7 fl_X10_25 sh_64 rfl rfl ?_
  refine go_iload_n C dX10_beginsAt_10 rfl rfl ?_
  refine go_aload_n C dX10_beginsAt_11 rfl rfl ?_
  refine go_getI (z := 10) C dX10_beginsAt_12 fl_X10_146 sh_64 rfl rfl ?_
  refine go_iadd C dX10_beginsAt_15 ?_
  refine go_iconst C dX10_beginsAt_16 ?_
  refine go_isub C dX10_beginsAt_17 ?_
  refine go_aload_n C dX10_beginsAt_18 rfl rfl ?_
  refine go_getI (z := 10) C dX10_beginsAt_19 fl_X10_146 sh_64 rfl rfl ?_
  obtain ⟨hc2, h⟩ := chk_some h
  refine go_irem C dX10_beginsAt_22 hc2 ?_
  obtain ⟨hc3, h⟩ := chk_some h
  refine go_iald C dX10_beginsAt_23 sh_70 (by decide) hc3 ?_
  refine go_icmp_eq (tgt := 31) C dX10_beginsAt_24 rfl (hB 70 v1 (by decide)) (hB 70 (((v1 + (M 64 10)) - 1) % (M 64 10)) (by decide)) (fun hc4 => ?_) (fun hc4 => ?_)
  · replace h := ite_t hc4 h
    refine go_iconst C dX10_beginsAt_31 ?_
    cases h
    exact go_zret C E rfl dX10_beginsAt_32 (by decide) (Nat.le_of_ble_eq_true rfl) (Nat.le_of_ble_eq_true rfl) rfl rfl hB
  · replace h := ite_f hc4 h
    refine go_iconst C dX10_beginsAt_27 ?_
    refine go_goto (tgt := 32) C dX10_beginsAt_28 rfl ?_
    cases h
    exact go_zret C E rfl dX10_beginsAt_32 (by decide) (Nat.le_of_ble_eq_true rfl) (Nat.le_of_ble_eq_true rfl) rfl rfl hB
-- IntervalRouterModel.runsOf(I)I
set_option maxHeartbeats 4000000 in
theorem w_X10_runsOf_27 {G : gC} {X : gX} {res : Int} {F : Nat} {M : Mem} (hB : Bd M) (C : Cx G X cX10_runsOf 4 RX10 1 0 0 (some .int) []) (E : Fnl G X 0 0 (.inr (some (.int (iI res)))) M) : ∀ (fu : Nat) (v1 : Int) (v2 : Int) (v3 : Int), f_X10_runsOf_27 F fu v1 v2 v3 M = some res → Go G X 4 0 0 27 [some (rf G 64), some (.int (iI v1)), some (.int (iI v2)), some (.int (iI v3))] [] M := by
  intro fu
  induction fu with
  | zero => intro v1 v2 v3 h; exact nomatch (show (none : Option (Int)) = some res from h)
  | succ fu ih =>
    intro v1 v2 v3 h
    rw [f_X10_runsOf_27] at h
    obtain ⟨⟨hp_v1, hp_v3⟩, h⟩ := chk_some h
    refine go_iload_n C dX10_runsOf_27 rfl rfl ?_
    refine go_aload_n C dX10_runsOf_28 rfl rfl ?_
    refine go_getI (z := 10) C dX10_runsOf_29 fl_X10_146 sh_64 rfl rfl ?_
    refine go_icmp_ge (tgt := 67) C dX10_runsOf_32 rfl hp_v3 (hB 64 10 (by decide)) (fun hc4 => ?_) (fun hc4 => ?_)
    · replace h := ite_t hc4 h
      refine go_iload_n C dX10_runsOf_67 rfl rfl ?_
      cases h
      exact go_iret C E rfl dX10_runsOf_68 (Nat.le_of_ble_eq_true rfl) (Nat.le_of_ble_eq_true rfl) rfl rfl hB
    · replace h := ite_f hc4 h
      refine go_iload_n C dX10_runsOf_35 rfl rfl ?_
      refine go_aload_n C dX10_runsOf_36 rfl rfl ?_
      refine go_getR (o := 6) (k2 := 70) C dX10_runsOf_37 fl_X10_25 sh_64 rfl rfl ?_
      refine go_iload_n C dX10_runsOf_40 rfl rfl ?_
      obtain ⟨hc5, h⟩ := chk_some h
      refine go_iald C dX10_runsOf_41 sh_70 (by decide) hc5 ?_
      refine go_iload_n C dX10_runsOf_42 rfl rfl ?_
      refine go_icmp_ne (tgt := 58) C dX10_runsOf_43 rfl (hB 70 v3 (by decide)) hp_v1 (fun hc6 => ?_) (fun hc6 => ?_)
      · replace h := ite_f hc6 h
        refine go_iconst C dX10_runsOf_58 ?_
        refine go_iadd C dX10_runsOf_59 ?_
        refine go_istore_n (ls2 := [some (rf G 64), some (.int (iI v1)), some (.int (iI (v2 + 0))), some (.int (iI v3))]) C dX10_runsOf_60 rfl (Nat.le_of_ble_eq_true rfl) rfl ?_
        refine go_iinc (ls2 := [some (rf G 64), some (.int (iI v1)), some (.int (iI (v2 + 0))), some (.int (iI (v3 + 1)))]) C dX10_runsOf_61 rfl (Nat.le_of_ble_eq_true rfl) rfl ?_
        refine go_goto (tgt := 27) C dX10_runsOf_64 rfl ?_
        exact ih v1 (v2 + 0) (v3 + 1) h
      · replace h := ite_t hc6 h
        refine go_aload_n C dX10_runsOf_46 rfl rfl ?_
        refine go_iload_n C dX10_runsOf_47 rfl rfl ?_
        obtain ⟨q7, h7, h⟩ := ob_some h
        refine go_callV_i C dX10_runsOf_48 (ok_X10_beginsAt C.hl hB h7) mv_X10_156 sh_64 rfl rfl (Nat.le_of_ble_eq_true rfl) ⟨(Nat.le_of_ble_eq_true rfl), (Nat.le_of_ble_eq_true rfl)⟩ ⟨(Nat.le_of_ble_eq_true rfl), (Nat.le_of_ble_eq_true rfl)⟩ (fun hB7 => ?_)
        obtain ⟨hc8, h⟩ := chk_some h
        refine go_if_eq (tgt := 58) C dX10_runsOf_51 rfl hc8 (fun hc9 => ?_) (fun hc9 => ?_)
        · replace h := ite_t hc9 h
          refine go_iconst C dX10_runsOf_58 ?_
          refine go_iadd C dX10_runsOf_59 ?_
          refine go_istore_n (ls2 := [some (rf G 64), some (.int (iI v1)), some (.int (iI (v2 + 0))), some (.int (iI v3))]) C dX10_runsOf_60 rfl (Nat.le_of_ble_eq_true rfl) rfl ?_
          refine go_iinc (ls2 := [some (rf G 64), some (.int (iI v1)), some (.int (iI (v2 + 0))), some (.int (iI (v3 + 1)))]) C dX10_runsOf_61 rfl (Nat.le_of_ble_eq_true rfl) rfl ?_
          refine go_goto (tgt := 27) C dX10_runsOf_64 rfl ?_
          exact ih v1 (v2 + 0) (v3 + 1) h
        · replace h := ite_f hc9 h
          refine go_iconst C dX10_runsOf_54 ?_
          refine go_goto (tgt := 59) C dX10_runsOf_55 rfl ?_
          refine go_iadd C dX10_runsOf_59 ?_
          refine go_istore_n (ls2 := [some (rf G 64), some (.int (iI v1)), some (.int (iI (v2 + 1))), some (.int (iI v3))]) C dX10_runsOf_60 rfl (Nat.le_of_ble_eq_true rfl) rfl ?_
          refine go_iinc (ls2 := [some (rf G 64), some (.int (iI v1)), some (.int (iI (v2 + 1))), some (.int (iI (v3 + 1)))]) C dX10_runsOf_61 rfl (Nat.le_of_ble_eq_true rfl) rfl ?_
          refine go_goto (tgt := 27) C dX10_runsOf_64 rfl ?_
          exact ih v1 (v2 + 1) (v3 + 1) h
set_option maxHeartbeats 4000000 in
theorem ok_X10_runsOf {G : gC} {l : Launch} (hl : l.stackTraces = false) {F : Nat} {v1 : Int} {M : Mem} (hB : Bd M) {res : Int} (h : f_X10_runsOf F v1 M = some res) : Ok G l 1 0 0 yX10_runsOf (.code yX10_runsOf cX10_runsOf 4 (some .int)) [rf G 64, .int (iI v1)] M (.inr (some (.int (iI res)))) M := by
  refine ok_of (ls := [some (rf G 64), some (.int (iI v1)), none, none]) hl (by decide +kernel) (Nat.le_of_ble_eq_true rfl) ⟨rfl, ⟨rfl, trivial⟩⟩ ?_
  intro X hX C E
  subst hX
  rw [f_X10_runsOf] at h
  obtain ⟨hp_v1, h⟩ := chk_some h
  refine go_aload_n C dX10_runsOf_0 rfl rfl ?_
  obtain ⟨q1, h1, h⟩ := ob_some h
  refine go_callV_i C dX10_runsOf_1 (ok_X10_isRound C.hl hB h1) mv_X10_152 sh_64 rfl rfl (Nat.le_of_ble_eq_true rfl) ⟨(Nat.le_of_ble_eq_true rfl), (Nat.le_of_ble_eq_true rfl)⟩ ⟨(Nat.le_of_ble_eq_true rfl), (Nat.le_of_ble_eq_true rfl)⟩ (fun hB1 => ?_)
  obtain ⟨hc2, h⟩ := chk_some h
  refine go_if_eq (tgt := 23) C dX10_runsOf_4 rfl hc2 (fun hc3 => ?_) (fun hc3 => ?_)
  · replace h := ite_t hc3 h
    refine go_iconst C dX10_runsOf_23 ?_
    refine go_istore_n (ls2 := [some (rf G 64), some (.int (iI v1)), some (.int (iI 0)), none]) C dX10_runsOf_24 rfl (Nat.le_of_ble_eq_true rfl) rfl ?_
    refine go_iconst C dX10_runsOf_25 ?_
    refine go_istore_n (ls2 := [some (rf G 64), some (.int (iI v1)), some (.int (iI 0)), some (.int (iI 0))]) C dX10_runsOf_26 rfl (Nat.le_of_ble_eq_true rfl) rfl ?_
    exact w_X10_runsOf_27 hB1 C E F v1 0 0 h
  · replace h := ite_f hc3 h
    refine go_aload_n C dX10_runsOf_7 rfl rfl ?_
    refine go_getR (o := 6) (k2 := 70) C dX10_runsOf_8 fl_X10_25 sh_64 rfl rfl ?_
    refine go_iconst C dX10_runsOf_11 ?_
    refine go_iald C dX10_runsOf_12 sh_70 (by decide) ⟨by decide, by decide⟩ ?_
    refine go_iload_n C dX10_runsOf_13 rfl rfl ?_
    refine go_icmp_ne (tgt := 21) C dX10_runsOf_14 rfl (hB1 70 0 (by decide)) hp_v1 (fun hc10 => ?_) (fun hc10 => ?_)
    · replace h := ite_f hc10 h
      refine go_iconst C dX10_runsOf_21 ?_
      cases h
      exact go_iret C E rfl dX10_runsOf_22 (Nat.le_of_ble_eq_true rfl) (Nat.le_of_ble_eq_true rfl) rfl rfl hB1
    · replace h := ite_t hc10 h
      refine go_iconst C dX10_runsOf_17 ?_
      refine go_goto (tgt := 22) C dX10_runsOf_18 rfl ?_
      cases h
      exact go_iret C E rfl dX10_runsOf_22 (Nat.le_of_ble_eq_true rfl) (Nat.le_of_ble_eq_true rfl) rfl rfl hB1
-- IntervalRouterModel.ringMost()I
set_option maxHeartbeats 4000000 in
theorem w_X10_ringMost_4 {G : gC} {X : gX} {res : Int} {F : Nat} {M : Mem} (hB : Bd M) (C : Cx G X cX10_ringMost 3 RX10 2 0 0 (some .int) []) (E : Fnl G X 0 0 (.inr (some (.int (iI res)))) M) : ∀ (fu : Nat) (v1 : Int) (v2 : Int), f_X10_ringMost_4 F fu v1 v2 M = some res → Go G X 3 0 0 4 [some (rf G 64), some (.int (iI v1)), some (.int (iI v2))] [] M := by
  intro fu
  induction fu with
  | zero => intro v1 v2 h; exact nomatch (show (none : Option (Int)) = some res from h)
  | succ fu ih =>
    intro v1 v2 h
    rw [f_X10_ringMost_4] at h
    obtain ⟨⟨hp_v1, hp_v2⟩, h⟩ := chk_some h
    refine go_iload_n C dX10_ringMost_4 rfl rfl ?_
    refine go_aload_n C dX10_ringMost_5 rfl rfl ?_
    refine go_getR (o := 1) (k2 := 65) C dX10_ringMost_6 fl_X10_7 sh_64 rfl rfl ?_
    refine go_iconst C dX10_ringMost_9 ?_
    refine go_iald C dX10_ringMost_10 sh_65 (by decide) ⟨by decide, by decide⟩ ?_
    refine go_icmp_ge (tgt := 39) C dX10_ringMost_11 rfl hp_v2 (hB 65 1 (by decide)) (fun hc1 => ?_) (fun hc1 => ?_)
    · replace h := ite_t hc1 h
      refine go_iload_n C dX10_ringMost_39 rfl rfl ?_
      cases h
      exact go_iret C E rfl dX10_ringMost_40 (Nat.le_of_ble_eq_true rfl) (Nat.le_of_ble_eq_true rfl) rfl rfl hB
    · replace h := ite_f hc1 h
      refine go_aload_n C dX10_ringMost_14 rfl rfl ?_
      refine go_iload_n C dX10_ringMost_15 rfl rfl ?_
      obtain ⟨q2, h2, h⟩ := ob_some h
      refine go_callV_i C dX10_ringMost_16 (ok_X10_runsOf C.hl hB h2) mv_X10_159 sh_64 rfl rfl (Nat.le_of_ble_eq_true rfl) ⟨(Nat.le_of_ble_eq_true rfl), (Nat.le_of_ble_eq_true rfl)⟩ ⟨(Nat.le_of_ble_eq_true rfl), (Nat.le_of_ble_eq_true rfl)⟩ (fun hB2 => ?_)
      refine go_iload_n C dX10_ringMost_19 rfl rfl ?_
      obtain ⟨hc3, h⟩ := chk_some h
      refine go_icmp_le (tgt := 31) C dX10_ringMost_20 rfl hc3 hp_v1 (fun hc4 => ?_) (fun hc4 => ?_)
      · replace h := ite_t hc4 h
        refine go_iload_n C dX10_ringMost_31 rfl rfl ?_
        refine go_istore_n (ls2 := [some (rf G 64), some (.int (iI v1)), some (.int (iI v2))]) C dX10_ringMost_32 rfl (Nat.le_of_ble_eq_true rfl) rfl ?_
        refine go_iinc (ls2 := [some (rf G 64), some (.int (iI v1)), some (.int (iI (v2 + 1)))]) C dX10_ringMost_33 rfl (Nat.le_of_ble_eq_true rfl) rfl ?_
        refine go_goto (tgt := 4) C dX10_ringMost_36 rfl ?_
        exact ih v1 (v2 + 1) h
      · replace h := ite_f hc4 h
        refine go_aload_n C dX10_ringMost_23 rfl rfl ?_
        refine go_iload_n C dX10_ringMost_24 rfl rfl ?_
        obtain ⟨q5, h5, h⟩ := ob_some h
        refine go_callV_i C dX10_ringMost_25 (ok_X10_runsOf C.hl hB2 h5) mv_X10_159 sh_64 rfl rfl (Nat.le_of_ble_eq_true rfl) ⟨(Nat.le_of_ble_eq_true rfl), (Nat.le_of_ble_eq_true rfl)⟩ ⟨(Nat.le_of_ble_eq_true rfl), (Nat.le_of_ble_eq_true rfl)⟩ (fun hB5 => ?_)
        refine go_goto (tgt := 32) C dX10_ringMost_28 rfl ?_
        refine go_istore_n (ls2 := [some (rf G 64), some (.int (iI q5)), some (.int (iI v2))]) C dX10_ringMost_32 rfl (Nat.le_of_ble_eq_true rfl) rfl ?_
        refine go_iinc (ls2 := [some (rf G 64), some (.int (iI q5)), some (.int (iI (v2 + 1)))]) C dX10_ringMost_33 rfl (Nat.le_of_ble_eq_true rfl) rfl ?_
        refine go_goto (tgt := 4) C dX10_ringMost_36 rfl ?_
        exact ih q5 (v2 + 1) h
set_option maxHeartbeats 4000000 in
theorem ok_X10_ringMost {G : gC} {l : Launch} (hl : l.stackTraces = false) {F : Nat} {M : Mem} (hB : Bd M) {res : Int} (h : f_X10_ringMost F M = some res) : Ok G l 2 0 0 yX10_ringMost (.code yX10_ringMost cX10_ringMost 3 (some .int)) [rf G 64] M (.inr (some (.int (iI res)))) M := by
  refine ok_of (ls := [some (rf G 64), none, none]) hl (by decide +kernel) (Nat.le_of_ble_eq_true rfl) ⟨rfl, trivial⟩ ?_
  intro X hX C E
  subst hX
  rw [f_X10_ringMost] at h
  refine go_iconst C dX10_ringMost_0 ?_
  refine go_istore_n (ls2 := [some (rf G 64), some (.int (iI 0)), none]) C dX10_ringMost_1 rfl (Nat.le_of_ble_eq_true rfl) rfl ?_
  refine go_iconst C dX10_ringMost_2 ?_
  refine go_istore_n (ls2 := [some (rf G 64), some (.int (iI 0)), some (.int (iI 0))]) C dX10_ringMost_3 rfl (Nat.le_of_ble_eq_true rfl) rfl ?_
  exact w_X10_ringMost_4 hB C E F 0 0 h
-- IntervalRouterModel.ringSize()I
set_option maxHeartbeats 4000000 in
theorem w_X10_ringSize_4 {G : gC} {X : gX} {res : Int} {F : Nat} {M : Mem} (hB : Bd M) (C : Cx G X cX10_ringSize 3 RX10 2 0 0 (some .int) []) (E : Fnl G X 0 0 (.inr (some (.int (iI res)))) M) : ∀ (fu : Nat) (v1 : Int) (v2 : Int), f_X10_ringSize_4 F fu v1 v2 M = some res → Go G X 3 0 0 4 [some (rf G 64), some (.int (iI v1)), some (.int (iI v2))] [] M := by
  intro fu
  induction fu with
  | zero => intro v1 v2 h; exact nomatch (show (none : Option (Int)) = some res from h)
  | succ fu ih =>
    intro v1 v2 h
    rw [f_X10_ringSize_4] at h
    obtain ⟨hp_v2, h⟩ := chk_some h
    refine go_iload_n C dX10_ringSize_4 rfl rfl ?_
    refine go_aload_n C dX10_ringSize_5 rfl rfl ?_
    refine go_getR (o := 1) (k2 := 65) C dX10_ringSize_6 fl_X10_7 sh_64 rfl rfl ?_
    refine go_iconst C dX10_ringSize_9 ?_
    refine go_iald C dX10_ringSize_10 sh_65 (by decide) ⟨by decide, by decide⟩ ?_
    refine go_icmp_ge (tgt := 28) C dX10_ringSize_11 rfl hp_v2 (hB 65 1 (by decide)) (fun hc1 => ?_) (fun hc1 => ?_)
    · replace h := ite_t hc1 h
      refine go_iload_n C dX10_ringSize_28 rfl rfl ?_
      cases h
      exact go_iret C E rfl dX10_ringSize_29 (Nat.le_of_ble_eq_true rfl) (Nat.le_of_ble_eq_true rfl) rfl rfl hB
    · replace h := ite_f hc1 h
      refine go_iload_n C dX10_ringSize_14 rfl rfl ?_
      refine go_aload_n C dX10_ringSize_15 rfl rfl ?_
      refine go_iload_n C dX10_ringSize_16 rfl rfl ?_
      obtain ⟨q2, h2, h⟩ := ob_some h
      refine go_callV_i C dX10_ringSize_17 (ok_X10_runsOf C.hl hB h2) mv_X10_159 sh_64 rfl rfl (Nat.le_of_ble_eq_true rfl) ⟨(Nat.le_of_ble_eq_true rfl), (Nat.le_of_ble_eq_true rfl)⟩ ⟨(Nat.le_of_ble_eq_true rfl), (Nat.le_of_ble_eq_true rfl)⟩ (fun hB2 => ?_)
      refine go_iadd C dX10_ringSize_20 ?_
      refine go_istore_n (ls2 := [some (rf G 64), some (.int (iI (v1 + q2))), some (.int (iI v2))]) C dX10_ringSize_21 rfl (Nat.le_of_ble_eq_true rfl) rfl ?_
      refine go_iinc (ls2 := [some (rf G 64), some (.int (iI (v1 + q2))), some (.int (iI (v2 + 1)))]) C dX10_ringSize_22 rfl (Nat.le_of_ble_eq_true rfl) rfl ?_
      refine go_goto (tgt := 4) C dX10_ringSize_25 rfl ?_
      exact ih (v1 + q2) (v2 + 1) h
set_option maxHeartbeats 4000000 in
theorem ok_X10_ringSize {G : gC} {l : Launch} (hl : l.stackTraces = false) {F : Nat} {M : Mem} (hB : Bd M) {res : Int} (h : f_X10_ringSize F M = some res) : Ok G l 2 0 0 yX10_ringSize (.code yX10_ringSize cX10_ringSize 3 (some .int)) [rf G 64] M (.inr (some (.int (iI res)))) M := by
  refine ok_of (ls := [some (rf G 64), none, none]) hl (by decide +kernel) (Nat.le_of_ble_eq_true rfl) ⟨rfl, trivial⟩ ?_
  intro X hX C E
  subst hX
  rw [f_X10_ringSize] at h
  refine go_iconst C dX10_ringSize_0 ?_
  refine go_istore_n (ls2 := [some (rf G 64), some (.int (iI 0)), none]) C dX10_ringSize_1 rfl (Nat.le_of_ble_eq_true rfl) rfl ?_
  refine go_iconst C dX10_ringSize_2 ?_
  refine go_istore_n (ls2 := [some (rf G 64), some (.int (iI 0)), some (.int (iI 0))]) C dX10_ringSize_3 rfl (Nat.le_of_ble_eq_true rfl) rfl ?_
  exact w_X10_ringSize_4 hB C E F 0 0 h
-- IntervalRouterModel.swaps(II)V
set_option maxHeartbeats 4000000 in
theorem ok_X10_swaps {G : gC} {l : Launch} (hl : l.stackTraces = false) {v1 : Int} {v2 : Int} {M : Mem} (hB : Bd M) {res : Mem} (h : f_X10_swaps v1 v2 M = some res) : Ok G l 0 0 0 yX10_swaps (.code yX10_swaps cX10_swaps 4 none) [rf G 64, .int (iI v1), .int (iI v2)] M (.inr none) res := by
  refine ok_of (ls := [some (rf G 64), some (.int (iI v1)), some (.int (iI v2)), none]) hl (by decide +kernel) (Nat.le_of_ble_eq_true rfl) ⟨rfl, ⟨rfl, ⟨rfl, trivial⟩⟩⟩ ?_
  intro X hX C E
  subst hX
  rw [f_X10_swaps] at h
  refine go_aload_n C dX10_swaps_0 rfl rfl ?_
  refine go_getR (o := 1) (k2 := 65) C dX10_swaps_1 fl_X10_7 sh_64 rfl rfl ?_
  refine go_bipush C dX10_swaps_4 (by decide +kernel) ?_
  refine go_iload_n C dX10_swaps_6 rfl rfl ?_
  refine go_iadd C dX10_swaps_7 ?_
  obtain ⟨hc1, h⟩ := chk_some h
  refine go_iald C dX10_swaps_8 sh_65 (by decide) hc1 ?_
  refine go_istore_n (ls2 := [some (rf G 64), some (.int (iI v1)), some (.int (iI v2)), some (.int (iI (M 65 (50 + v1))))]) C dX10_swaps_9 rfl (Nat.le_of_ble_eq_true rfl) rfl ?_
  refine go_aload_n C dX10_swaps_10 rfl rfl ?_
  refine go_getR (o := 1) (k2 := 65) C dX10_swaps_11 fl_X10_7 sh_64 rfl rfl ?_
  refine go_bipush C dX10_swaps_14 (by decide +kernel) ?_
  refine go_iload_n C dX10_swaps_16 rfl rfl ?_
  refine go_iadd C dX10_swaps_17 ?_
  refine go_aload_n C dX10_swaps_18 rfl rfl ?_
  refine go_getR (o := 1) (k2 := 65) C dX10_swaps_19 fl_X10_7 sh_64 rfl rfl ?_
  refine go_bipush C dX10_swaps_22 (by decide +kernel) ?_
  refine go_iload_n C dX10_swaps_24 rfl rfl ?_
  refine go_iadd C dX10_swaps_25 ?_
  obtain ⟨hc2, h⟩ := chk_some h
  refine go_iald C dX10_swaps_26 sh_65 (by decide) hc2 ?_
  refine go_iast C dX10_swaps_27 sh_65 (by decide) hc1 ?_
  have hB3 := hB.set 65 (50 + v1) (x := M 65 (50 + v2)) (hB 65 (50 + v2) (by decide))
  refine go_aload_n C dX10_swaps_28 rfl rfl ?_
  refine go_getR (o := 1) (k2 := 65) C dX10_swaps_29 fl_X10_7 sh_64 rfl rfl ?_
  refine go_bipush C dX10_swaps_32 (by decide +kernel) ?_
  refine go_iload_n C dX10_swaps_34 rfl rfl ?_
  refine go_iadd C dX10_swaps_35 ?_
  refine go_iload_n C dX10_swaps_36 rfl rfl ?_
  refine go_iast C dX10_swaps_37 sh_65 (by decide) hc2 ?_
  have hB4 := hB3.set 65 (50 + v2) (x := M 65 (50 + v1)) (hB 65 (50 + v1) (by decide))
  cases h
  exact go_vret C E rfl dX10_swaps_38 (Nat.le_of_ble_eq_true rfl) (Nat.le_of_ble_eq_true rfl) rfl rfl hB4
-- IntervalRouterModel.follows()Z
set_option maxHeartbeats 4000000 in
theorem w_X10_follows_104 {G : gC} {X : gX} {res : Int × Mem} {F : Nat} (C : Cx G X cX10_follows 5 RX10 1 0 0 (some .boolean) []) (E : Fnl G X 0 0 (.inr (some (.int (iI res.1)))) res.2) : ∀ (fu : Nat) (v3 : Int) (v4 : Int) (M : Mem), Bd M → f_X10_follows_104 F fu v3 v4 M = some res → Go G X 5 0 0 104 [some (rf G 64), none, none, some (.int (iI v3)), some (.int (iI v4))] [] M := by
  intro fu
  induction fu with
  | zero => intro v3 v4 M hB h; exact nomatch (show (none : Option (Int × Mem)) = some res from h)
  | succ fu ih =>
    intro v3 v4 M hB h
    rw [f_X10_follows_104] at h
    obtain ⟨⟨hp_v3, hp_v4⟩, h⟩ := chk_some h
    refine go_iload_n C dX10_follows_104 rfl rfl ?_
    refine go_iload C dX10_follows_105 rfl ?_
    refine go_icmp_ge (tgt := 126) C dX10_follows_107 rfl hp_v3 hp_v4 (fun hc7 => ?_) (fun hc7 => ?_)
    · replace h := ite_t hc7 h
      refine go_iconst C dX10_follows_126 ?_
      cases h
      exact go_zret C E rfl dX10_follows_127 (by decide) (Nat.le_of_ble_eq_true rfl) (Nat.le_of_ble_eq_true rfl) rfl rfl hB
    · replace h := ite_f hc7 h
      refine go_aload_n C dX10_follows_110 rfl rfl ?_
      refine go_iload_n C dX10_follows_111 rfl rfl ?_
      refine go_iload C dX10_follows_112 rfl ?_
      obtain ⟨q8, h8, h⟩ := ob_some h
      refine go_callV_v C dX10_follows_114 (ok_X10_swaps C.hl hB h8) mv_X10_133 sh_64 rfl rfl (Nat.le_of_ble_eq_true rfl) ⟨(Nat.le_of_ble_eq_true rfl), (Nat.le_of_ble_eq_true rfl)⟩ ⟨(Nat.le_of_ble_eq_true rfl), (Nat.le_of_ble_eq_true rfl)⟩ (fun hB8 => ?_)
      refine go_iinc (ls2 := [some (rf G 64), none, none, some (.int (iI (v3 + 1))), some (.int (iI v4))]) C dX10_follows_117 rfl (Nat.le_of_ble_eq_true rfl) rfl ?_
      refine go_iinc (ls2 := [some (rf G 64), none, none, some (.int (iI (v3 + 1))), some (.int (iI (v4 + (-1))))]) C dX10_follows_120 rfl (Nat.le_of_ble_eq_true rfl) rfl ?_
      refine go_goto (tgt := 104) C dX10_follows_123 rfl ?_
      exact ih (v3 + 1) (v4 + (-1)) q8 hB8 h
set_option maxHeartbeats 4000000 in
theorem w_X10_follows_57 {G : gC} {X : gX} {res : Int × Mem} {F : Nat} (C : Cx G X cX10_follows 5 RX10 1 0 0 (some .boolean) []) (E : Fnl G X 0 0 (.inr (some (.int (iI res.1)))) res.2) : ∀ (fu : Nat) (v1 : Int) (v2 : Int) (M : Mem), Bd M → f_X10_follows_57 F fu v1 v2 M = some res → Go G X 5 0 0 57 [some (rf G 64), some (.int (iI v1)), some (.int (iI v2)), none, none] [] M := by
  intro fu
  induction fu with
  | zero => intro v1 v2 M hB h; exact nomatch (show (none : Option (Int × Mem)) = some res from h)
  | succ fu ih =>
    intro v1 v2 M hB h
    rw [f_X10_follows_57] at h
    refine go_aload_n C dX10_follows_57 rfl rfl ?_
    refine go_getR (o := 1) (k2 := 65) C dX10_follows_58 fl_X10_7 sh_64 rfl rfl ?_
    refine go_bipush C dX10_follows_61 (by decide +kernel) ?_
    refine go_iload_n C dX10_follows_63 rfl rfl ?_
    refine go_iadd C dX10_follows_64 ?_
    obtain ⟨hc3, h⟩ := chk_some h
    refine go_iald C dX10_follows_65 sh_65 (by decide) hc3 ?_
    refine go_aload_n C dX10_follows_66 rfl rfl ?_
    refine go_getR (o := 1) (k2 := 65) C dX10_follows_67 fl_X10_7 sh_64 rfl rfl ?_
    refine go_bipush C dX10_follows_70 (by decide +kernel) ?_
    refine go_iload_n C dX10_follows_72 rfl rfl ?_
    refine go_iadd C dX10_follows_73 ?_
    obtain ⟨hc4, h⟩ := chk_some h
    refine go_iald C dX10_follows_74 sh_65 (by decide) hc4 ?_
    refine go_icmp_ge (tgt := 84) C dX10_follows_75 rfl (hB 65 (50 + v2) (by decide)) (hB 65 (50 + v1) (by decide)) (fun hc5 => ?_) (fun hc5 => ?_)
    · replace h := ite_t hc5 h
      refine go_aload_n C dX10_follows_84 rfl rfl ?_
      refine go_iload_n C dX10_follows_85 rfl rfl ?_
      refine go_iload_n C dX10_follows_86 rfl rfl ?_
      obtain ⟨q6, h6, h⟩ := ob_some h
      refine go_callV_v C dX10_follows_87 (ok_X10_swaps C.hl hB h6) mv_X10_133 sh_64 rfl rfl (Nat.le_of_ble_eq_true rfl) ⟨(Nat.le_of_ble_eq_true rfl), (Nat.le_of_ble_eq_true rfl)⟩ ⟨(Nat.le_of_ble_eq_true rfl), (Nat.le_of_ble_eq_true rfl)⟩ (fun hB6 => ?_)
      refine go_iload_n C dX10_follows_90 rfl rfl ?_
      refine go_iconst C dX10_follows_91 ?_
      refine go_iadd C dX10_follows_92 ?_
      refine go_istore_n (ls2 := [some (rf G 64), some (.int (iI v1)), some (.int (iI v2)), some (.int (iI (v1 + 1))), none]) C dX10_follows_93 rfl (Nat.le_of_ble_eq_true rfl) rfl ?_
      refine go_aload_n C dX10_follows_94 rfl rfl ?_
      refine go_getR (o := 1) (k2 := 65) C dX10_follows_95 fl_X10_7 sh_64 rfl rfl ?_
      refine go_iconst C dX10_follows_98 ?_
      refine go_iald C dX10_follows_99 sh_65 (by decide) ⟨by decide, by decide⟩ ?_
      refine go_iconst C dX10_follows_100 ?_
      refine go_isub C dX10_follows_101 ?_
      refine go_istore (ls2 := [some (rf G 64), some (.int (iI v1)), some (.int (iI v2)), some (.int (iI (v1 + 1))), some (.int (iI ((q6 65 0) - 1)))]) C dX10_follows_102 (Nat.le_of_ble_eq_true rfl) rfl ?_
      refine go_weak (ls' := [some (rf G 64), none, none, some (.int (iI (v1 + 1))), some (.int (iI ((q6 65 0) - 1)))]) ⟨rfl, ⟨rfl, ⟨rfl, trivial⟩⟩⟩ ?_
      exact w_X10_follows_104 C E F (v1 + 1) ((q6 65 0) - 1) q6 hB6 h
    · replace h := ite_f hc5 h
      refine go_iinc (ls2 := [some (rf G 64), some (.int (iI v1)), some (.int (iI (v2 + (-1)))), none, none]) C dX10_follows_78 rfl (Nat.le_of_ble_eq_true rfl) rfl ?_
      refine go_goto (tgt := 57) C dX10_follows_81 rfl ?_
      exact ih v1 (v2 + (-1)) M hB h
set_option maxHeartbeats 4000000 in
theorem w_X10_follows_9 {G : gC} {X : gX} {res : Int × Mem} {F : Nat} (C : Cx G X cX10_follows 5 RX10 1 0 0 (some .boolean) []) (E : Fnl G X 0 0 (.inr (some (.int (iI res.1)))) res.2) : ∀ (fu : Nat) (v1 : Int) (M : Mem), Bd M → f_X10_follows_9 F fu v1 M = some res → Go G X 5 0 0 9 [some (rf G 64), some (.int (iI v1)), none, none, none] [] M := by
  intro fu
  induction fu with
  | zero => intro v1 M hB h; exact nomatch (show (none : Option (Int × Mem)) = some res from h)
  | succ fu ih =>
    intro v1 M hB h
    rw [f_X10_follows_9] at h
    obtain ⟨hp_v1, h⟩ := chk_some h
    refine go_iload_n C dX10_follows_9 rfl rfl ?_
    refine go_if_lt (tgt := 42) C dX10_follows_10 rfl hp_v1 (fun hc1 => ?_) (fun hc1 => ?_)
    · replace h := ite_t hc1 h
      refine go_iload_n C dX10_follows_42 rfl rfl ?_
      refine go_if_ge (tgt := 48) C dX10_follows_43 rfl hp_v1 (fun hc2 => ?_) (fun hc2 => ?_)
      · replace h := ite_t hc2 h
        refine go_aload_n C dX10_follows_48 rfl rfl ?_
        refine go_getR (o := 1) (k2 := 65) C dX10_follows_49 fl_X10_7 sh_64 rfl rfl ?_
        refine go_iconst C dX10_follows_52 ?_
        refine go_iald C dX10_follows_53 sh_65 (by decide) ⟨by decide, by decide⟩ ?_
        refine go_iconst C dX10_follows_54 ?_
        refine go_isub C dX10_follows_55 ?_
        refine go_istore_n (ls2 := [some (rf G 64), some (.int (iI v1)), some (.int (iI ((M 65 0) - 1))), none, none]) C dX10_follows_56 rfl (Nat.le_of_ble_eq_true rfl) rfl ?_
        exact w_X10_follows_57 C E F v1 ((M 65 0) - 1) M hB h
      · replace h := ite_f hc2 h
        refine go_iconst C dX10_follows_46 ?_
        cases h
        exact go_zret C E rfl dX10_follows_47 (by decide) (Nat.le_of_ble_eq_true rfl) (Nat.le_of_ble_eq_true rfl) rfl rfl hB
    · replace h := ite_f hc1 h
      refine go_aload_n C dX10_follows_13 rfl rfl ?_
      refine go_getR (o := 1) (k2 := 65) C dX10_follows_14 fl_X10_7 sh_64 rfl rfl ?_
      refine go_bipush C dX10_follows_17 (by decide +kernel) ?_
      refine go_iload_n C dX10_follows_19 rfl rfl ?_
      refine go_iadd C dX10_follows_20 ?_
      obtain ⟨hc9, h⟩ := chk_some h
      refine go_iald C dX10_follows_21 sh_65 (by decide) hc9 ?_
      refine go_aload_n C dX10_follows_22 rfl rfl ?_
      refine go_getR (o := 1) (k2 := 65) C dX10_follows_23 fl_X10_7 sh_64 rfl rfl ?_
      refine go_bipush C dX10_follows_26 (by decide +kernel) ?_
      refine go_iload_n C dX10_follows_28 rfl rfl ?_
      refine go_iadd C dX10_follows_29 ?_
      refine go_iconst C dX10_follows_30 ?_
      refine go_iadd C dX10_follows_31 ?_
      obtain ⟨hc10, h⟩ := chk_some h
      refine go_iald C dX10_follows_32 sh_65 (by decide) hc10 ?_
      refine go_icmp_le (tgt := 42) C dX10_follows_33 rfl (hB 65 (50 + v1) (by decide)) (hB 65 ((50 + v1) + 1) (by decide)) (fun hc11 => ?_) (fun hc11 => ?_)
      · replace h := ite_t hc11 h
        refine go_iload_n C dX10_follows_42 rfl rfl ?_
        refine go_if_ge (tgt := 48) C dX10_follows_43 rfl hp_v1 (fun hc12 => ?_) (fun hc12 => ?_)
        · replace h := ite_t hc12 h
          refine go_aload_n C dX10_follows_48 rfl rfl ?_
          refine go_getR (o := 1) (k2 := 65) C dX10_follows_49 fl_X10_7 sh_64 rfl rfl ?_
          refine go_iconst C dX10_follows_52 ?_
          refine go_iald C dX10_follows_53 sh_65 (by decide) ⟨by decide, by decide⟩ ?_
          refine go_iconst C dX10_follows_54 ?_
          refine go_isub C dX10_follows_55 ?_
          refine go_istore_n (ls2 := [some (rf G 64), some (.int (iI v1)), some (.int (iI ((M 65 0) - 1))), none, none]) C dX10_follows_56 rfl (Nat.le_of_ble_eq_true rfl) rfl ?_
          exact w_X10_follows_57 C E F v1 ((M 65 0) - 1) M hB h
        · replace h := ite_f hc12 h
          refine go_iconst C dX10_follows_46 ?_
          cases h
          exact go_zret C E rfl dX10_follows_47 (by decide) (Nat.le_of_ble_eq_true rfl) (Nat.le_of_ble_eq_true rfl) rfl rfl hB
      · replace h := ite_f hc11 h
        refine go_iinc (ls2 := [some (rf G 64), some (.int (iI (v1 + (-1)))), none, none, none]) C dX10_follows_36 rfl (Nat.le_of_ble_eq_true rfl) rfl ?_
        refine go_goto (tgt := 9) C dX10_follows_39 rfl ?_
        exact ih (v1 + (-1)) M hB h
set_option maxHeartbeats 4000000 in
theorem ok_X10_follows {G : gC} {l : Launch} (hl : l.stackTraces = false) {F : Nat} {M : Mem} (hB : Bd M) {res : Int × Mem} (h : f_X10_follows F M = some res) : Ok G l 1 0 0 yX10_follows (.code yX10_follows cX10_follows 5 (some .boolean)) [rf G 64] M (.inr (some (.int (iI res.1)))) res.2 := by
  refine ok_of (ls := [some (rf G 64), none, none, none, none]) hl (by decide +kernel) (Nat.le_of_ble_eq_true rfl) ⟨rfl, trivial⟩ ?_
  intro X hX C E
  subst hX
  rw [f_X10_follows] at h
  refine go_aload_n C dX10_follows_0 rfl rfl ?_
  refine go_getR (o := 1) (k2 := 65) C dX10_follows_1 fl_X10_7 sh_64 rfl rfl ?_
  refine go_iconst C dX10_follows_4 ?_
  refine go_iald C dX10_follows_5 sh_65 (by decide) ⟨by decide, by decide⟩ ?_
  refine go_iconst C dX10_follows_6 ?_
  refine go_isub C dX10_follows_7 ?_
  refine go_istore_n (ls2 := [some (rf G 64), some (.int (iI ((M 65 0) - 2))), none, none, none]) C dX10_follows_8 rfl (Nat.le_of_ble_eq_true rfl) rfl ?_
  exact w_X10_follows_9 C E F ((M 65 0) - 2) M hB h
-- IntervalRouterModel.bestOf()I
set_option maxHeartbeats 4000000 in
theorem w_X10_bestOf_248 {G : gC} {X : gX} {res : Int × Mem} {F : Nat} (C : Cx G X cX10_bestOf 8 RX10 4 0 0 (some .int) []) (E : Fnl G X 0 0 (.inr (some (.int (iI res.1)))) res.2) : ∀ (fu : Nat) (v1 : Int) (v4 : Int) (M : Mem), Bd M → f_X10_bestOf_248 F fu v1 v4 M = some res → Go G X 8 0 0 248 [some (rf G 64), some (.int (iI v1)), none, none, some (.int (iI v4)), none, none, none] [] M := by
  intro fu
  induction fu with
  | zero => intro v1 v4 M hB h; exact nomatch (show (none : Option (Int × Mem)) = some res from h)
  | succ fu ih =>
    intro v1 v4 M hB h
    rw [f_X10_bestOf_248] at h
    obtain ⟨hp_v4, h⟩ := chk_some h
    refine go_iload C dX10_bestOf_248 rfl ?_
    refine go_bipush C dX10_bestOf_250 (by decide +kernel) ?_
    refine go_icmp_ge (tgt := 278) C dX10_bestOf_252 rfl hp_v4 (by decide) (fun hc5 => ?_) (fun hc5 => ?_)
    · replace h := ite_t hc5 h
      refine go_iload_n C dX10_bestOf_278 rfl rfl ?_
      cases h
      exact go_iret C E rfl dX10_bestOf_279 (Nat.le_of_ble_eq_true rfl) (Nat.le_of_ble_eq_true rfl) rfl rfl hB
    · replace h := ite_f hc5 h
      refine go_aload_n C dX10_bestOf_255 rfl rfl ?_
      refine go_getR (o := 1) (k2 := 65) C dX10_bestOf_256 fl_X10_7 sh_64 rfl rfl ?_
      refine go_bipush C dX10_bestOf_259 (by decide +kernel) ?_
      refine go_iload C dX10_bestOf_261 rfl ?_
      refine go_iadd C dX10_bestOf_263 ?_
      refine go_aload_n C dX10_bestOf_264 rfl rfl ?_
      refine go_getR (o := 12) (k2 := 76) C dX10_bestOf_265 fl_X10_43 sh_64 rfl rfl ?_
      refine go_iload C dX10_bestOf_268 rfl ?_
      obtain ⟨hc6, h⟩ := chk_some h
      refine go_iald C dX10_bestOf_270 sh_76 (by decide) hc6 ?_
      obtain ⟨hc7, h⟩ := chk_some h
      refine go_iast C dX10_bestOf_271 sh_65 (by decide) hc7 ?_
      have hB8 := hB.set 65 (50 + v4) (x := M 76 v4) (hB 76 v4 (by decide))
      refine go_iinc (ls2 := [some (rf G 64), some (.int (iI v1)), none, none, some (.int (iI (v4 + 1))), none, none, none]) C dX10_bestOf_272 rfl (Nat.le_of_ble_eq_true rfl) rfl ?_
      refine go_goto (tgt := 248) C dX10_bestOf_275 rfl ?_
      exact ih v1 (v4 + 1) (mset M 65 (50 + v4) (M 76 v4)) hB8 h
set_option maxHeartbeats 4000000 in
theorem w_X10_bestOf_213 {G : gC} {X : gX} {res : Int × Mem} {F : Nat} (C : Cx G X cX10_bestOf 8 RX10 4 0 0 (some .int) []) (E : Fnl G X 0 0 (.inr (some (.int (iI res.1)))) res.2) {k74 : Int → Int → Int → Mem → Option (Int × Mem)} (hk74 : ∀ (v1 : Int) (v2 : Int) (v3 : Int) (M : Mem), Bd M → k74 v1 v2 v3 M = some res → Go G X 8 0 0 74 [some (rf G 64), some (.int (iI v1)), some (.int (iI v2)), some (.int (iI v3)), none, none, none, none] [] M) : ∀ (v1 : Int) (v2 : Int) (v4 : Int) (v5 : Int) (v6 : Int) (M : Mem), Bd M → f_X10_bestOf_213 F k74 v1 v2 v4 v5 v6 M = some res → Go G X 8 0 0 213 [some (rf G 64), some (.int (iI v1)), some (.int (iI v2)), none, some (.int (iI v4)), some (.int (iI v5)), some (.int (iI v6)), none] [] M := by
  intro v1 v2 v4 v5 v6 M hB h
  rw [f_X10_bestOf_213] at h
  obtain ⟨hp_v6, h⟩ := chk_some h
  refine go_iload C dX10_bestOf_213 rfl ?_
  refine go_if_eq (tgt := 223) C dX10_bestOf_215 rfl hp_v6 (fun hc15 => ?_) (fun hc15 => ?_)
  · replace h := ite_t hc15 h
    refine go_iload_n C dX10_bestOf_223 rfl rfl ?_
    refine go_istore_n (ls2 := [some (rf G 64), some (.int (iI v1)), some (.int (iI v2)), none, some (.int (iI v4)), some (.int (iI v5)), some (.int (iI v6)), none]) C dX10_bestOf_224 rfl (Nat.le_of_ble_eq_true rfl) rfl ?_
    refine go_iload C dX10_bestOf_225 rfl ?_
    refine go_if_eq (tgt := 235) C dX10_bestOf_227 rfl hp_v6 (fun hc16 => ?_) (fun hc16 => ?_)
    · replace h := ite_t hc16 h
      refine go_iload_n C dX10_bestOf_235 rfl rfl ?_
      refine go_istore_n (ls2 := [some (rf G 64), some (.int (iI v1)), some (.int (iI v2)), none, some (.int (iI v4)), some (.int (iI v5)), some (.int (iI v6)), none]) C dX10_bestOf_236 rfl (Nat.le_of_ble_eq_true rfl) rfl ?_
      refine go_aload_n C dX10_bestOf_237 rfl rfl ?_
      obtain ⟨q17, h17, h⟩ := ob_some h
      refine go_callV_i C dX10_bestOf_238 (ok_X10_follows C.hl hB h17) mv_X10_211 sh_64 rfl rfl (Nat.le_of_ble_eq_true rfl) ⟨(Nat.le_of_ble_eq_true rfl), (Nat.le_of_ble_eq_true rfl)⟩ ⟨(Nat.le_of_ble_eq_true rfl), (Nat.le_of_ble_eq_true rfl)⟩ (fun hB17 => ?_)
      refine go_istore_n (ls2 := [some (rf G 64), some (.int (iI v1)), some (.int (iI v2)), some (.int (iI q17.1)), some (.int (iI v4)), some (.int (iI v5)), some (.int (iI v6)), none]) C dX10_bestOf_241 rfl (Nat.le_of_ble_eq_true rfl) rfl ?_
      refine go_goto (tgt := 74) C dX10_bestOf_242 rfl ?_
      refine go_weak (ls' := [some (rf G 64), some (.int (iI v1)), some (.int (iI v2)), some (.int (iI q17.1)), none, none, none, none]) ⟨rfl, ⟨rfl, ⟨rfl, ⟨rfl, trivial⟩⟩⟩⟩ ?_
      exact hk74 v1 v2 q17.1 q17.2 hB17 h
    · replace h := ite_f hc16 h
      refine go_iload C dX10_bestOf_230 rfl ?_
      refine go_goto (tgt := 236) C dX10_bestOf_232 rfl ?_
      refine go_istore_n (ls2 := [some (rf G 64), some (.int (iI v1)), some (.int (iI v5)), none, some (.int (iI v4)), some (.int (iI v5)), some (.int (iI v6)), none]) C dX10_bestOf_236 rfl (Nat.le_of_ble_eq_true rfl) rfl ?_
      refine go_aload_n C dX10_bestOf_237 rfl rfl ?_
      obtain ⟨q18, h18, h⟩ := ob_some h
      refine go_callV_i C dX10_bestOf_238 (ok_X10_follows C.hl hB h18) mv_X10_211 sh_64 rfl rfl (Nat.le_of_ble_eq_true rfl) ⟨(Nat.le_of_ble_eq_true rfl), (Nat.le_of_ble_eq_true rfl)⟩ ⟨(Nat.le_of_ble_eq_true rfl), (Nat.le_of_ble_eq_true rfl)⟩ (fun hB18 => ?_)
      refine go_istore_n (ls2 := [some (rf G 64), some (.int (iI v1)), some (.int (iI v5)), some (.int (iI q18.1)), some (.int (iI v4)), some (.int (iI v5)), some (.int (iI v6)), none]) C dX10_bestOf_241 rfl (Nat.le_of_ble_eq_true rfl) rfl ?_
      refine go_goto (tgt := 74) C dX10_bestOf_242 rfl ?_
      refine go_weak (ls' := [some (rf G 64), some (.int (iI v1)), some (.int (iI v5)), some (.int (iI q18.1)), none, none, none, none]) ⟨rfl, ⟨rfl, ⟨rfl, ⟨rfl, trivial⟩⟩⟩⟩ ?_
      exact hk74 v1 v5 q18.1 q18.2 hB18 h
  · replace h := ite_f hc15 h
    refine go_iload C dX10_bestOf_218 rfl ?_
    refine go_goto (tgt := 224) C dX10_bestOf_220 rfl ?_
    refine go_istore_n (ls2 := [some (rf G 64), some (.int (iI v4)), some (.int (iI v2)), none, some (.int (iI v4)), some (.int (iI v5)), some (.int (iI v6)), none]) C dX10_bestOf_224 rfl (Nat.le_of_ble_eq_true rfl) rfl ?_
    refine go_iload C dX10_bestOf_225 rfl ?_
    refine go_if_eq (tgt := 235) C dX10_bestOf_227 rfl hp_v6 (fun hc19 => ?_) (fun hc19 => ?_)
    · replace h := ite_t hc19 h
      refine go_iload_n C dX10_bestOf_235 rfl rfl ?_
      refine go_istore_n (ls2 := [some (rf G 64), some (.int (iI v4)), some (.int (iI v2)), none, some (.int (iI v4)), some (.int (iI v5)), some (.int (iI v6)), none]) C dX10_bestOf_236 rfl (Nat.le_of_ble_eq_true rfl) rfl ?_
      refine go_aload_n C dX10_bestOf_237 rfl rfl ?_
      obtain ⟨q20, h20, h⟩ := ob_some h
      refine go_callV_i C dX10_bestOf_238 (ok_X10_follows C.hl hB h20) mv_X10_211 sh_64 rfl rfl (Nat.le_of_ble_eq_true rfl) ⟨(Nat.le_of_ble_eq_true rfl), (Nat.le_of_ble_eq_true rfl)⟩ ⟨(Nat.le_of_ble_eq_true rfl), (Nat.le_of_ble_eq_true rfl)⟩ (fun hB20 => ?_)
      refine go_istore_n (ls2 := [some (rf G 64), some (.int (iI v4)), some (.int (iI v2)), some (.int (iI q20.1)), some (.int (iI v4)), some (.int (iI v5)), some (.int (iI v6)), none]) C dX10_bestOf_241 rfl (Nat.le_of_ble_eq_true rfl) rfl ?_
      refine go_goto (tgt := 74) C dX10_bestOf_242 rfl ?_
      refine go_weak (ls' := [some (rf G 64), some (.int (iI v4)), some (.int (iI v2)), some (.int (iI q20.1)), none, none, none, none]) ⟨rfl, ⟨rfl, ⟨rfl, ⟨rfl, trivial⟩⟩⟩⟩ ?_
      exact hk74 v4 v2 q20.1 q20.2 hB20 h
    · replace h := ite_f hc19 h
      refine go_iload C dX10_bestOf_230 rfl ?_
      refine go_goto (tgt := 236) C dX10_bestOf_232 rfl ?_
      refine go_istore_n (ls2 := [some (rf G 64), some (.int (iI v4)), some (.int (iI v5)), none, some (.int (iI v4)), some (.int (iI v5)), some (.int (iI v6)), none]) C dX10_bestOf_236 rfl (Nat.le_of_ble_eq_true rfl) rfl ?_
      refine go_aload_n C dX10_bestOf_237 rfl rfl ?_
      obtain ⟨q21, h21, h⟩ := ob_some h
      refine go_callV_i C dX10_bestOf_238 (ok_X10_follows C.hl hB h21) mv_X10_211 sh_64 rfl rfl (Nat.le_of_ble_eq_true rfl) ⟨(Nat.le_of_ble_eq_true rfl), (Nat.le_of_ble_eq_true rfl)⟩ ⟨(Nat.le_of_ble_eq_true rfl), (Nat.le_of_ble_eq_true rfl)⟩ (fun hB21 => ?_)
      refine go_istore_n (ls2 := [some (rf G 64), some (.int (iI v4)), some (.int (iI v5)), some (.int (iI q21.1)), some (.int (iI v4)), some (.int (iI v5)), some (.int (iI v6)), none]) C dX10_bestOf_241 rfl (Nat.le_of_ble_eq_true rfl) rfl ?_
      refine go_goto (tgt := 74) C dX10_bestOf_242 rfl ?_
      refine go_weak (ls' := [some (rf G 64), some (.int (iI v4)), some (.int (iI v5)), some (.int (iI q21.1)), none, none, none, none]) ⟨rfl, ⟨rfl, ⟨rfl, ⟨rfl, trivial⟩⟩⟩⟩ ?_
      exact hk74 v4 v5 q21.1 q21.2 hB21 h
set_option maxHeartbeats 4000000 in
theorem w_X10_bestOf_178 {G : gC} {X : gX} {res : Int × Mem} {F : Nat} (C : Cx G X cX10_bestOf 8 RX10 4 0 0 (some .int) []) (E : Fnl G X 0 0 (.inr (some (.int (iI res.1)))) res.2) {k74 : Int → Int → Int → Mem → Option (Int × Mem)} (hk74 : ∀ (v1 : Int) (v2 : Int) (v3 : Int) (M : Mem), Bd M → k74 v1 v2 v3 M = some res → Go G X 8 0 0 74 [some (rf G 64), some (.int (iI v1)), some (.int (iI v2)), some (.int (iI v3)), none, none, none, none] [] M) : ∀ (fu : Nat) (v1 : Int) (v2 : Int) (v4 : Int) (v5 : Int) (v6 : Int) (v7 : Int) (M : Mem), Bd M → f_X10_bestOf_178 F k74 fu v1 v2 v4 v5 v6 v7 M = some res → Go G X 8 0 0 178 [some (rf G 64), some (.int (iI v1)), some (.int (iI v2)), none, some (.int (iI v4)), some (.int (iI v5)), some (.int (iI v6)), some (.int (iI v7))] [] M := by
  intro fu
  induction fu with
  | zero => intro v1 v2 v4 v5 v6 v7 M hB h; exact nomatch (show (none : Option (Int × Mem)) = some res from h)
  | succ fu ih =>
    intro v1 v2 v4 v5 v6 v7 M hB h
    rw [f_X10_bestOf_178] at h
    obtain ⟨⟨hp_v6, hp_v7⟩, h⟩ := chk_some h
    refine go_iload C dX10_bestOf_178 rfl ?_
    refine go_bipush C dX10_bestOf_180 (by decide +kernel) ?_
    refine go_icmp_ge (tgt := 213) C dX10_bestOf_182 rfl hp_v7 (by decide) (fun hc14 => ?_) (fun hc14 => ?_)
    · replace h := ite_t hc14 h
      refine go_weak (ls' := [some (rf G 64), some (.int (iI v1)), some (.int (iI v2)), none, some (.int (iI v4)), some (.int (iI v5)), some (.int (iI v6)), none]) ⟨rfl, ⟨rfl, ⟨rfl, ⟨rfl, ⟨rfl, ⟨rfl, trivial⟩⟩⟩⟩⟩⟩ ?_
      exact w_X10_bestOf_213 C E hk74 v1 v2 v4 v5 v6 M hB h
    · replace h := ite_f hc14 h
      refine go_iload C dX10_bestOf_185 rfl ?_
      refine go_if_eq (tgt := 213) C dX10_bestOf_187 rfl hp_v6 (fun hc22 => ?_) (fun hc22 => ?_)
      · replace h := ite_t hc22 h
        refine go_weak (ls' := [some (rf G 64), some (.int (iI v1)), some (.int (iI v2)), none, some (.int (iI v4)), some (.int (iI v5)), some (.int (iI v6)), none]) ⟨rfl, ⟨rfl, ⟨rfl, ⟨rfl, ⟨rfl, ⟨rfl, trivial⟩⟩⟩⟩⟩⟩ ?_
        exact w_X10_bestOf_213 C E hk74 v1 v2 v4 v5 v6 M hB h
      · replace h := ite_f hc22 h
        refine go_aload_n C dX10_bestOf_190 rfl rfl ?_
        refine go_getR (o := 11) (k2 := 75) C dX10_bestOf_191 fl_X10_40 sh_64 rfl rfl ?_
        refine go_iload C dX10_bestOf_194 rfl ?_
        refine go_aload_n C dX10_bestOf_196 rfl rfl ?_
        refine go_getR (o := 1) (k2 := 65) C dX10_bestOf_197 fl_X10_7 sh_64 rfl rfl ?_
        refine go_bipush C dX10_bestOf_200 (by decide +kernel) ?_
        refine go_iload C dX10_bestOf_202 rfl ?_
        refine go_iadd C dX10_bestOf_204 ?_
        obtain ⟨hc23, h⟩ := chk_some h
        refine go_iald C dX10_bestOf_205 sh_65 (by decide) hc23 ?_
        obtain ⟨hc24, h⟩ := chk_some h
        refine go_iast C dX10_bestOf_206 sh_75 (by decide) hc24 ?_
        have hB25 := hB.set 75 v7 (x := M 65 (50 + v7)) (hB 65 (50 + v7) (by decide))
        refine go_iinc (ls2 := [some (rf G 64), some (.int (iI v1)), some (.int (iI v2)), none, some (.int (iI v4)), some (.int (iI v5)), some (.int (iI v6)), some (.int (iI (v7 + 1)))]) C dX10_bestOf_207 rfl (Nat.le_of_ble_eq_true rfl) rfl ?_
        refine go_goto (tgt := 178) C dX10_bestOf_210 rfl ?_
        exact ih v1 v2 v4 v5 v6 (v7 + 1) (mset M 75 v7 (M 65 (50 + v7))) hB25 h
set_option maxHeartbeats 4000000 in
theorem w_X10_bestOf_87 {G : gC} {X : gX} {res : Int × Mem} {F : Nat} (C : Cx G X cX10_bestOf 8 RX10 4 0 0 (some .int) []) (E : Fnl G X 0 0 (.inr (some (.int (iI res.1)))) res.2) {k74 : Int → Int → Int → Mem → Option (Int × Mem)} (hk74 : ∀ (v1 : Int) (v2 : Int) (v3 : Int) (M : Mem), Bd M → k74 v1 v2 v3 M = some res → Go G X 8 0 0 74 [some (rf G 64), some (.int (iI v1)), some (.int (iI v2)), some (.int (iI v3)), none, none, none, none] [] M) : ∀ (fu : Nat) (v1 : Int) (v2 : Int) (v4 : Int) (v5 : Int) (v6 : Int) (M : Mem), Bd M → f_X10_bestOf_87 F k74 fu v1 v2 v4 v5 v6 M = some res → Go G X 8 0 0 87 [some (rf G 64), some (.int (iI v1)), some (.int (iI v2)), none, some (.int (iI v4)), some (.int (iI v5)), some (.int (iI v6)), none] [] M := by
  intro fu
  induction fu with
  | zero => intro v1 v2 v4 v5 v6 M hB h; exact nomatch (show (none : Option (Int × Mem)) = some res from h)
  | succ fu ih =>
    intro v1 v2 v4 v5 v6 M hB h
    rw [f_X10_bestOf_87] at h
    obtain ⟨⟨hp_v1, hp_v2, hp_v4, hp_v5, hp_v6⟩, h⟩ := chk_some h
    refine go_iload C dX10_bestOf_87 rfl ?_
    refine go_aload_n C dX10_bestOf_89 rfl rfl ?_
    refine go_getR (o := 1) (k2 := 65) C dX10_bestOf_90 fl_X10_7 sh_64 rfl rfl ?_
    refine go_iconst C dX10_bestOf_93 ?_
    refine go_iald C dX10_bestOf_94 sh_65 (by decide) ⟨by decide, by decide⟩ ?_
    refine go_icmp_ge (tgt := 139) C dX10_bestOf_95 rfl hp_v6 (hB 65 0 (by decide)) (fun hc9 => ?_) (fun hc9 => ?_)
    · replace h := ite_t hc9 h
      refine go_aload_n C dX10_bestOf_139 rfl rfl ?_
      refine go_getR (o := 13) (k2 := 77) C dX10_bestOf_140 fl_X10_46 sh_64 rfl rfl ?_
      refine go_iload C dX10_bestOf_143 rfl ?_
      refine go_dup2 C dX10_bestOf_145 rfl rfl ?_
      obtain ⟨hc10, h⟩ := chk_some h
      refine go_iald C dX10_bestOf_146 sh_77 (by decide) hc10 ?_
      refine go_iconst C dX10_bestOf_147 ?_
      refine go_iadd C dX10_bestOf_148 ?_
      obtain ⟨hc11, h⟩ := chk_some h
      refine go_iast C dX10_bestOf_149 sh_77 (by decide) hc10 ?_
      have hB12 := hB.set 77 v4 (x := (M 77 v4) + 1) hc11
      refine go_iload C dX10_bestOf_150 rfl ?_
      refine go_iload_n C dX10_bestOf_152 rfl rfl ?_
      refine go_icmp_lt (tgt := 168) C dX10_bestOf_153 rfl hp_v4 hp_v1 (fun hc13 => ?_) (fun hc13 => ?_)
      · replace h := ite_t hc13 h
        refine go_iconst C dX10_bestOf_168 ?_
        refine go_goto (tgt := 173) C dX10_bestOf_169 rfl ?_
        refine go_istore (ls2 := [some (rf G 64), some (.int (iI v1)), some (.int (iI v2)), none, some (.int (iI v4)), some (.int (iI v5)), some (.int (iI 1)), none]) C dX10_bestOf_173 (Nat.le_of_ble_eq_true rfl) rfl ?_
        refine go_iconst C dX10_bestOf_175 ?_
        refine go_istore (ls2 := [some (rf G 64), some (.int (iI v1)), some (.int (iI v2)), none, some (.int (iI v4)), some (.int (iI v5)), some (.int (iI 1)), some (.int (iI 0))]) C dX10_bestOf_176 (Nat.le_of_ble_eq_true rfl) rfl ?_
        exact w_X10_bestOf_178 C E hk74 F v1 v2 v4 v5 1 0 (mset M 77 v4 ((M 77 v4) + 1)) hB12 h
      · replace h := ite_f hc13 h
        refine go_iload C dX10_bestOf_156 rfl ?_
        refine go_iload_n C dX10_bestOf_158 rfl rfl ?_
        refine go_icmp_ne (tgt := 172) C dX10_bestOf_159 rfl hp_v4 hp_v1 (fun hc26 => ?_) (fun hc26 => ?_)
        · replace h := ite_f hc26 h
          refine go_iconst C dX10_bestOf_172 ?_
          refine go_istore (ls2 := [some (rf G 64), some (.int (iI v1)), some (.int (iI v2)), none, some (.int (iI v4)), some (.int (iI v5)), some (.int (iI 0)), none]) C dX10_bestOf_173 (Nat.le_of_ble_eq_true rfl) rfl ?_
          refine go_iconst C dX10_bestOf_175 ?_
          refine go_istore (ls2 := [some (rf G 64), some (.int (iI v1)), some (.int (iI v2)), none, some (.int (iI v4)), some (.int (iI v5)), some (.int (iI 0)), some (.int (iI 0))]) C dX10_bestOf_176 (Nat.le_of_ble_eq_true rfl) rfl ?_
          exact w_X10_bestOf_178 C E hk74 F v1 v2 v4 v5 0 0 (mset M 77 v4 ((M 77 v4) + 1)) hB12 h
        · replace h := ite_t hc26 h
          refine go_iload C dX10_bestOf_162 rfl ?_
          refine go_iload_n C dX10_bestOf_164 rfl rfl ?_
          refine go_icmp_ge (tgt := 172) C dX10_bestOf_165 rfl hp_v5 hp_v2 (fun hc27 => ?_) (fun hc27 => ?_)
          · replace h := ite_t hc27 h
            refine go_iconst C dX10_bestOf_172 ?_
            refine go_istore (ls2 := [some (rf G 64), some (.int (iI v1)), some (.int (iI v2)), none, some (.int (iI v4)), some (.int (iI v5)), some (.int (iI 0)), none]) C dX10_bestOf_173 (Nat.le_of_ble_eq_true rfl) rfl ?_
            refine go_iconst C dX10_bestOf_175 ?_
            refine go_istore (ls2 := [some (rf G 64), some (.int (iI v1)), some (.int (iI v2)), none, some (.int (iI v4)), some (.int (iI v5)), some (.int (iI 0)), some (.int (iI 0))]) C dX10_bestOf_176 (Nat.le_of_ble_eq_true rfl) rfl ?_
            exact w_X10_bestOf_178 C E hk74 F v1 v2 v4 v5 0 0 (mset M 77 v4 ((M 77 v4) + 1)) hB12 h
          · replace h := ite_f hc27 h
            refine go_iconst C dX10_bestOf_168 ?_
            refine go_goto (tgt := 173) C dX10_bestOf_169 rfl ?_
            refine go_istore (ls2 := [some (rf G 64), some (.int (iI v1)), some (.int (iI v2)), none, some (.int (iI v4)), some (.int (iI v5)), some (.int (iI 1)), none]) C dX10_bestOf_173 (Nat.le_of_ble_eq_true rfl) rfl ?_
            refine go_iconst C dX10_bestOf_175 ?_
            refine go_istore (ls2 := [some (rf G 64), some (.int (iI v1)), some (.int (iI v2)), none, some (.int (iI v4)), some (.int (iI v5)), some (.int (iI 1)), some (.int (iI 0))]) C dX10_bestOf_176 (Nat.le_of_ble_eq_true rfl) rfl ?_
            exact w_X10_bestOf_178 C E hk74 F v1 v2 v4 v5 1 0 (mset M 77 v4 ((M 77 v4) + 1)) hB12 h
    · replace h := ite_f hc9 h
      refine go_aload_n C dX10_bestOf_98 rfl rfl ?_
      refine go_iload C dX10_bestOf_99 rfl ?_
      obtain ⟨q28, h28, h⟩ := ob_some h
      refine go_callV_v C dX10_bestOf_101 (ok_X10_laysBest C.hl hB h28) mv_X10_175 sh_64 rfl rfl (Nat.le_of_ble_eq_true rfl) ⟨(Nat.le_of_ble_eq_true rfl), (Nat.le_of_ble_eq_true rfl)⟩ ⟨(Nat.le_of_ble_eq_true rfl), (Nat.le_of_ble_eq_true rfl)⟩ (fun hB28 => ?_)
      refine go_aload_n C dX10_bestOf_104 rfl rfl ?_
      obtain ⟨q29, h29, h⟩ := ob_some h
      refine go_callV_i C dX10_bestOf_105 (ok_X10_ringMost C.hl hB28 h29) mv_X10_181 sh_64 rfl rfl (Nat.le_of_ble_eq_true rfl) ⟨(Nat.le_of_ble_eq_true rfl), (Nat.le_of_ble_eq_true rfl)⟩ ⟨(Nat.le_of_ble_eq_true rfl), (Nat.le_of_ble_eq_true rfl)⟩ (fun hB29 => ?_)
      refine go_iload C dX10_bestOf_108 rfl ?_
      obtain ⟨hc30, h⟩ := chk_some h
      refine go_icmp_le (tgt := 120) C dX10_bestOf_110 rfl hc30 hp_v4 (fun hc31 => ?_) (fun hc31 => ?_)
      · replace h := ite_t hc31 h
        refine go_iload C dX10_bestOf_120 rfl ?_
        refine go_istore (ls2 := [some (rf G 64), some (.int (iI v1)), some (.int (iI v2)), none, some (.int (iI v4)), some (.int (iI v5)), some (.int (iI v6)), none]) C dX10_bestOf_122 (Nat.le_of_ble_eq_true rfl) rfl ?_
        refine go_iload C dX10_bestOf_124 rfl ?_
        refine go_aload_n C dX10_bestOf_126 rfl rfl ?_
        obtain ⟨q32, h32, h⟩ := ob_some h
        refine go_callV_i C dX10_bestOf_127 (ok_X10_ringSize C.hl hB29 h32) mv_X10_172 sh_64 rfl rfl (Nat.le_of_ble_eq_true rfl) ⟨(Nat.le_of_ble_eq_true rfl), (Nat.le_of_ble_eq_true rfl)⟩ ⟨(Nat.le_of_ble_eq_true rfl), (Nat.le_of_ble_eq_true rfl)⟩ (fun hB32 => ?_)
        refine go_iadd C dX10_bestOf_130 ?_
        refine go_istore (ls2 := [some (rf G 64), some (.int (iI v1)), some (.int (iI v2)), none, some (.int (iI v4)), some (.int (iI (v5 + q32))), some (.int (iI v6)), none]) C dX10_bestOf_131 (Nat.le_of_ble_eq_true rfl) rfl ?_
        refine go_iinc (ls2 := [some (rf G 64), some (.int (iI v1)), some (.int (iI v2)), none, some (.int (iI v4)), some (.int (iI (v5 + q32))), some (.int (iI (v6 + 1))), none]) C dX10_bestOf_133 rfl (Nat.le_of_ble_eq_true rfl) rfl ?_
        refine go_goto (tgt := 87) C dX10_bestOf_136 rfl ?_
        exact ih v1 v2 v4 (v5 + q32) (v6 + 1) q28 hB32 h
      · replace h := ite_f hc31 h
        refine go_aload_n C dX10_bestOf_113 rfl rfl ?_
        obtain ⟨q33, h33, h⟩ := ob_some h
        refine go_callV_i C dX10_bestOf_114 (ok_X10_ringMost C.hl hB29 h33) mv_X10_181 sh_64 rfl rfl (Nat.le_of_ble_eq_true rfl) ⟨(Nat.le_of_ble_eq_true rfl), (Nat.le_of_ble_eq_true rfl)⟩ ⟨(Nat.le_of_ble_eq_true rfl), (Nat.le_of_ble_eq_true rfl)⟩ (fun hB33 => ?_)
        refine go_goto (tgt := 122) C dX10_bestOf_117 rfl ?_
        refine go_istore (ls2 := [some (rf G 64), some (.int (iI v1)), some (.int (iI v2)), none, some (.int (iI q33)), some (.int (iI v5)), some (.int (iI v6)), none]) C dX10_bestOf_122 (Nat.le_of_ble_eq_true rfl) rfl ?_
        refine go_iload C dX10_bestOf_124 rfl ?_
        refine go_aload_n C dX10_bestOf_126 rfl rfl ?_
        obtain ⟨q34, h34, h⟩ := ob_some h
        refine go_callV_i C dX10_bestOf_127 (ok_X10_ringSize C.hl hB33 h34) mv_X10_172 sh_64 rfl rfl (Nat.le_of_ble_eq_true rfl) ⟨(Nat.le_of_ble_eq_true rfl), (Nat.le_of_ble_eq_true rfl)⟩ ⟨(Nat.le_of_ble_eq_true rfl), (Nat.le_of_ble_eq_true rfl)⟩ (fun hB34 => ?_)
        refine go_iadd C dX10_bestOf_130 ?_
        refine go_istore (ls2 := [some (rf G 64), some (.int (iI v1)), some (.int (iI v2)), none, some (.int (iI q33)), some (.int (iI (v5 + q34))), some (.int (iI v6)), none]) C dX10_bestOf_131 (Nat.le_of_ble_eq_true rfl) rfl ?_
        refine go_iinc (ls2 := [some (rf G 64), some (.int (iI v1)), some (.int (iI v2)), none, some (.int (iI q33)), some (.int (iI (v5 + q34))), some (.int (iI (v6 + 1))), none]) C dX10_bestOf_133 rfl (Nat.le_of_ble_eq_true rfl) rfl ?_
        refine go_goto (tgt := 87) C dX10_bestOf_136 rfl ?_
        exact ih v1 v2 q33 (v5 + q34) (v6 + 1) q28 hB34 h
set_option maxHeartbeats 4000000 in
theorem w_X10_bestOf_74 {G : gC} {X : gX} {res : Int × Mem} {F : Nat} (C : Cx G X cX10_bestOf 8 RX10 4 0 0 (some .int) []) (E : Fnl G X 0 0 (.inr (some (.int (iI res.1)))) res.2) : ∀ (fu : Nat) (v1 : Int) (v2 : Int) (v3 : Int) (M : Mem), Bd M → f_X10_bestOf_74 F fu v1 v2 v3 M = some res → Go G X 8 0 0 74 [some (rf G 64), some (.int (iI v1)), some (.int (iI v2)), some (.int (iI v3)), none, none, none, none] [] M := by
  intro fu
  induction fu with
  | zero => intro v1 v2 v3 M hB h; exact nomatch (show (none : Option (Int × Mem)) = some res from h)
  | succ fu ih =>
    intro v1 v2 v3 M hB h
    rw [f_X10_bestOf_74] at h
    obtain ⟨hp_v3, h⟩ := chk_some h
    refine go_iload_n C dX10_bestOf_74 rfl rfl ?_
    refine go_if_eq (tgt := 245) C dX10_bestOf_75 rfl hp_v3 (fun hc4 => ?_) (fun hc4 => ?_)
    · replace h := ite_t hc4 h
      refine go_iconst C dX10_bestOf_245 ?_
      refine go_istore (ls2 := [some (rf G 64), some (.int (iI v1)), some (.int (iI v2)), some (.int (iI v3)), some (.int (iI 0)), none, none, none]) C dX10_bestOf_246 (Nat.le_of_ble_eq_true rfl) rfl ?_
      refine go_weak (ls' := [some (rf G 64), some (.int (iI v1)), none, none, some (.int (iI 0)), none, none, none]) ⟨rfl, ⟨rfl, ⟨rfl, trivial⟩⟩⟩ ?_
      exact w_X10_bestOf_248 C E F v1 0 M hB h
    · replace h := ite_f hc4 h
      refine go_iconst C dX10_bestOf_78 ?_
      refine go_istore (ls2 := [some (rf G 64), some (.int (iI v1)), some (.int (iI v2)), some (.int (iI v3)), some (.int (iI 0)), none, none, none]) C dX10_bestOf_79 (Nat.le_of_ble_eq_true rfl) rfl ?_
      refine go_iconst C dX10_bestOf_81 ?_
      refine go_istore (ls2 := [some (rf G 64), some (.int (iI v1)), some (.int (iI v2)), some (.int (iI v3)), some (.int (iI 0)), some (.int (iI 0)), none, none]) C dX10_bestOf_82 (Nat.le_of_ble_eq_true rfl) rfl ?_
      refine go_iconst C dX10_bestOf_84 ?_
      refine go_istore (ls2 := [some (rf G 64), some (.int (iI v1)), some (.int (iI v2)), some (.int (iI v3)), some (.int (iI 0)), some (.int (iI 0)), some (.int (iI 0)), none]) C dX10_bestOf_85 (Nat.le_of_ble_eq_true rfl) rfl ?_
      refine go_weak (ls' := [some (rf G 64), some (.int (iI v1)), some (.int (iI v2)), none, some (.int (iI 0)), some (.int (iI 0)), some (.int (iI 0)), none]) ⟨rfl, ⟨rfl, ⟨rfl, ⟨rfl, ⟨rfl, ⟨rfl, trivial⟩⟩⟩⟩⟩⟩ ?_
      exact w_X10_bestOf_87 C E ih F v1 v2 0 0 0 M hB h
set_option maxHeartbeats 4000000 in
theorem w_X10_bestOf_27 {G : gC} {X : gX} {res : Int × Mem} {F : Nat} (C : Cx G X cX10_bestOf 8 RX10 4 0 0 (some .int) []) (E : Fnl G X 0 0 (.inr (some (.int (iI res.1)))) res.2) : ∀ (fu : Nat) (v1 : Int) (M : Mem), Bd M → f_X10_bestOf_27 F fu v1 M = some res → Go G X 8 0 0 27 [some (rf G 64), some (.int (iI v1)), none, none, none, none, none, none] [] M := by
  intro fu
  induction fu with
  | zero => intro v1 M hB h; exact nomatch (show (none : Option (Int × Mem)) = some res from h)
  | succ fu ih =>
    intro v1 M hB h
    rw [f_X10_bestOf_27] at h
    obtain ⟨hp_v1, h⟩ := chk_some h
    refine go_iload_n C dX10_bestOf_27 rfl rfl ?_
    refine go_bipush C dX10_bestOf_28 (by decide +kernel) ?_
    refine go_icmp_ge (tgt := 64) C dX10_bestOf_30 rfl hp_v1 (by decide) (fun hc3 => ?_) (fun hc3 => ?_)
    · replace h := ite_t hc3 h
      refine go_sipush C dX10_bestOf_64 (by decide +kernel) ?_
      refine go_istore_n (ls2 := [some (rf G 64), some (.int (iI 1000)), none, none, none, none, none, none]) C dX10_bestOf_67 rfl (Nat.le_of_ble_eq_true rfl) rfl ?_
      refine go_sipush C dX10_bestOf_68 (by decide +kernel) ?_
      refine go_istore_n (ls2 := [some (rf G 64), some (.int (iI 1000)), some (.int (iI 1000)), none, none, none, none, none]) C dX10_bestOf_71 rfl (Nat.le_of_ble_eq_true rfl) rfl ?_
      refine go_iconst C dX10_bestOf_72 ?_
      refine go_istore_n (ls2 := [some (rf G 64), some (.int (iI 1000)), some (.int (iI 1000)), some (.int (iI 1)), none, none, none, none]) C dX10_bestOf_73 rfl (Nat.le_of_ble_eq_true rfl) rfl ?_
      exact w_X10_bestOf_74 C E F 1000 1000 1 M hB h
    · replace h := ite_f hc3 h
      refine go_aload_n C dX10_bestOf_33 rfl rfl ?_
      refine go_getR (o := 12) (k2 := 76) C dX10_bestOf_34 fl_X10_43 sh_64 rfl rfl ?_
      refine go_iload_n C dX10_bestOf_37 rfl rfl ?_
      refine go_aload_n C dX10_bestOf_38 rfl rfl ?_
      refine go_getR (o := 1) (k2 := 65) C dX10_bestOf_39 fl_X10_7 sh_64 rfl rfl ?_
      refine go_bipush C dX10_bestOf_42 (by decide +kernel) ?_
      refine go_iload_n C dX10_bestOf_44 rfl rfl ?_
      refine go_iadd C dX10_bestOf_45 ?_
      obtain ⟨hc35, h⟩ := chk_some h
      refine go_iald C dX10_bestOf_46 sh_65 (by decide) hc35 ?_
      obtain ⟨hc36, h⟩ := chk_some h
      refine go_iast C dX10_bestOf_47 sh_76 (by decide) hc36 ?_
      have hB37 := hB.set 76 v1 (x := M 65 (50 + v1)) (hB 65 (50 + v1) (by decide))
      refine go_aload_n C dX10_bestOf_48 rfl rfl ?_
      refine go_getR (o := 1) (k2 := 65) C dX10_bestOf_49 fl_X10_7 sh_64 rfl rfl ?_
      refine go_bipush C dX10_bestOf_52 (by decide +kernel) ?_
      refine go_iload_n C dX10_bestOf_54 rfl rfl ?_
      refine go_iadd C dX10_bestOf_55 ?_
      refine go_iload_n C dX10_bestOf_56 rfl rfl ?_
      refine go_iast C dX10_bestOf_57 sh_65 (by decide) hc35 ?_
      have hB38 := hB37.set 65 (50 + v1) (x := v1) hp_v1
      refine go_iinc (ls2 := [some (rf G 64), some (.int (iI (v1 + 1))), none, none, none, none, none, none]) C dX10_bestOf_58 rfl (Nat.le_of_ble_eq_true rfl) rfl ?_
      refine go_goto (tgt := 27) C dX10_bestOf_61 rfl ?_
      exact ih (v1 + 1) (mset (mset M 76 v1 (M 65 (50 + v1))) 65 (50 + v1) v1) hB38 h
set_option maxHeartbeats 4000000 in
theorem w_X10_bestOf_6 {G : gC} {X : gX} {res : Int × Mem} {F : Nat} (C : Cx G X cX10_bestOf 8 RX10 4 0 0 (some .int) []) (E : Fnl G X 0 0 (.inr (some (.int (iI res.1)))) res.2) : ∀ (fu : Nat) (v1 : Int) (M : Mem), Bd M → f_X10_bestOf_6 F fu v1 M = some res → Go G X 8 0 0 6 [some (rf G 64), some (.int (iI v1)), none, none, none, none, none, none] [] M := by
  intro fu
  induction fu with
  | zero => intro v1 M hB h; exact nomatch (show (none : Option (Int × Mem)) = some res from h)
  | succ fu ih =>
    intro v1 M hB h
    rw [f_X10_bestOf_6] at h
    obtain ⟨hp_v1, h⟩ := chk_some h
    refine go_iload_n C dX10_bestOf_6 rfl rfl ?_
    refine go_bipush C dX10_bestOf_7 (by decide +kernel) ?_
    refine go_icmp_ge (tgt := 25) C dX10_bestOf_9 rfl hp_v1 (by decide) (fun hc2 => ?_) (fun hc2 => ?_)
    · replace h := ite_t hc2 h
      refine go_iconst C dX10_bestOf_25 ?_
      refine go_istore_n (ls2 := [some (rf G 64), some (.int (iI 0)), none, none, none, none, none, none]) C dX10_bestOf_26 rfl (Nat.le_of_ble_eq_true rfl) rfl ?_
      exact w_X10_bestOf_27 C E F 0 M hB h
    · replace h := ite_f hc2 h
      refine go_aload_n C dX10_bestOf_12 rfl rfl ?_
      refine go_getR (o := 13) (k2 := 77) C dX10_bestOf_13 fl_X10_46 sh_64 rfl rfl ?_
      refine go_iload_n C dX10_bestOf_16 rfl rfl ?_
      refine go_iconst C dX10_bestOf_17 ?_
      obtain ⟨hc39, h⟩ := chk_some h
      refine go_iast C dX10_bestOf_18 sh_77 (by decide) hc39 ?_
      have hB40 := hB.set 77 v1 (x := 0) (by decide)
      refine go_iinc (ls2 := [some (rf G 64), some (.int (iI (v1 + 1))), none, none, none, none, none, none]) C dX10_bestOf_19 rfl (Nat.le_of_ble_eq_true rfl) rfl ?_
      refine go_goto (tgt := 6) C dX10_bestOf_22 rfl ?_
      exact ih (v1 + 1) (mset M 77 v1 0) hB40 h
set_option maxHeartbeats 4000000 in
theorem ok_X10_bestOf {G : gC} {l : Launch} (hl : l.stackTraces = false) {F : Nat} {M : Mem} (hB : Bd M) {res : Int × Mem} (h : f_X10_bestOf F M = some res) : Ok G l 4 0 0 yX10_bestOf (.code yX10_bestOf cX10_bestOf 8 (some .int)) [rf G 64] M (.inr (some (.int (iI res.1)))) res.2 := by
  refine ok_of (ls := [some (rf G 64), none, none, none, none, none, none, none]) hl (by decide +kernel) (Nat.le_of_ble_eq_true rfl) ⟨rfl, trivial⟩ ?_
  intro X hX C E
  subst hX
  rw [f_X10_bestOf] at h
  refine go_aload_n C dX10_bestOf_0 rfl rfl ?_
  obtain ⟨q1, h1, h⟩ := ob_some h
  refine go_callV_v C dX10_bestOf_1 (ok_X10_laysFar C.hl hB h1) mv_X10_101 sh_64 rfl rfl (Nat.le_of_ble_eq_true rfl) ⟨(Nat.le_of_ble_eq_true rfl), (Nat.le_of_ble_eq_true rfl)⟩ ⟨(Nat.le_of_ble_eq_true rfl), (Nat.le_of_ble_eq_true rfl)⟩ (fun hB1 => ?_)
  refine go_iconst C dX10_bestOf_4 ?_
  refine go_istore_n (ls2 := [some (rf G 64), some (.int (iI 0)), none, none, none, none, none, none]) C dX10_bestOf_5 rfl (Nat.le_of_ble_eq_true rfl) rfl ?_
  exact w_X10_bestOf_6 C E F 0 q1 hB1 h
-- IntervalRouterModel.setLabels(II)I
set_option maxHeartbeats 4000000 in
theorem w_X10_setLabels_102 {G : gC} {X : gX} {res : Int × Mem} {F : Nat} (C : Cx G X cX10_setLabels 5 RX10 5 0 0 (some .int) []) (E : Fnl G X 0 0 (.inr (some (.int (iI res.1)))) res.2) : ∀ (fu : Nat) (v1 : Int) (v4 : Int) (M : Mem), Bd M → f_X10_setLabels_102 F fu v1 v4 M = some res → Go G X 5 0 0 102 [some (rf G 64), some (.int (iI v1)), none, none, some (.int (iI v4))] [] M := by
  intro fu
  induction fu with
  | zero => intro v1 v4 M hB h; exact nomatch (show (none : Option (Int × Mem)) = some res from h)
  | succ fu ih =>
    intro v1 v4 M hB h
    rw [f_X10_setLabels_102] at h
    obtain ⟨⟨hp_v1, hp_v4⟩, h⟩ := chk_some h
    refine go_iload C dX10_setLabels_102 rfl ?_
    refine go_aload_n C dX10_setLabels_104 rfl rfl ?_
    refine go_getR (o := 1) (k2 := 65) C dX10_setLabels_105 fl_X10_7 sh_64 rfl rfl ?_
    refine go_iconst C dX10_setLabels_108 ?_
    refine go_iald C dX10_setLabels_109 sh_65 (by decide) ⟨by decide, by decide⟩ ?_
    refine go_icmp_ge (tgt := 146) C dX10_setLabels_110 rfl hp_v4 (hB 65 0 (by decide)) (fun hc15 => ?_) (fun hc15 => ?_)
    · replace h := ite_t hc15 h
      refine go_aload_n C dX10_setLabels_146 rfl rfl ?_
      obtain ⟨q16, h16, h⟩ := ob_some h
      refine go_callV_v C dX10_setLabels_147 (ok_X10_empties C.hl hB h16) mv_X10_71 sh_64 rfl rfl (Nat.le_of_ble_eq_true rfl) ⟨(Nat.le_of_ble_eq_true rfl), (Nat.le_of_ble_eq_true rfl)⟩ ⟨(Nat.le_of_ble_eq_true rfl), (Nat.le_of_ble_eq_true rfl)⟩ (fun hB16 => ?_)
      refine go_aload_n C dX10_setLabels_150 rfl rfl ?_
      refine go_getR (o := 1) (k2 := 65) C dX10_setLabels_151 fl_X10_7 sh_64 rfl rfl ?_
      refine go_bipush C dX10_setLabels_154 (by decide +kernel) ?_
      refine go_aload_n C dX10_setLabels_156 rfl rfl ?_
      refine go_getR (o := 1) (k2 := 65) C dX10_setLabels_157 fl_X10_7 sh_64 rfl rfl ?_
      refine go_iconst C dX10_setLabels_160 ?_
      refine go_iald C dX10_setLabels_161 sh_65 (by decide) ⟨by decide, by decide⟩ ?_
      refine go_iadd C dX10_setLabels_162 ?_
      refine go_iconst C dX10_setLabels_163 ?_
      refine go_isub C dX10_setLabels_164 ?_
      obtain ⟨hc17, h⟩ := chk_some h
      refine go_iald C dX10_setLabels_165 sh_65 (by decide) hc17 ?_
      cases h
      exact go_iret C E rfl dX10_setLabels_166 (Nat.le_of_ble_eq_true rfl) (Nat.le_of_ble_eq_true rfl) rfl rfl hB16
    · replace h := ite_f hc15 h
      refine go_aload_n C dX10_setLabels_113 rfl rfl ?_
      refine go_getR (o := 1) (k2 := 65) C dX10_setLabels_114 fl_X10_7 sh_64 rfl rfl ?_
      refine go_bipush C dX10_setLabels_117 (by decide +kernel) ?_
      refine go_iload C dX10_setLabels_119 rfl ?_
      refine go_iadd C dX10_setLabels_121 ?_
      refine go_iload_n C dX10_setLabels_122 rfl rfl ?_
      refine go_iconst C dX10_setLabels_123 ?_
      refine go_icmp_ne (tgt := 137) C dX10_setLabels_124 rfl hp_v1 (by decide) (fun hc18 => ?_) (fun hc18 => ?_)
      · replace h := ite_f hc18 h
        refine go_iload C dX10_setLabels_137 rfl ?_
        obtain ⟨hc19, h⟩ := chk_some h
        refine go_iast C dX10_setLabels_139 sh_65 (by decide) hc19 ?_
        have hB20 := hB.set 65 (50 + v4) (x := v4) hp_v4
        refine go_iinc (ls2 := [some (rf G 64), some (.int (iI v1)), none, none, some (.int (iI (v4 + 1)))]) C dX10_setLabels_140 rfl (Nat.le_of_ble_eq_true rfl) rfl ?_
        refine go_goto (tgt := 102) C dX10_setLabels_143 rfl ?_
        exact ih v1 (v4 + 1) (mset M 65 (50 + v4) v4) hB20 h
      · replace h := ite_t hc18 h
        refine go_aload_n C dX10_setLabels_127 rfl rfl ?_
        refine go_getR (o := 11) (k2 := 75) C dX10_setLabels_128 fl_X10_40 sh_64 rfl rfl ?_
        refine go_iload C dX10_setLabels_131 rfl ?_
        obtain ⟨hc21, h⟩ := chk_some h
        refine go_iald C dX10_setLabels_133 sh_75 (by decide) hc21 ?_
        refine go_goto (tgt := 139) C dX10_setLabels_134 rfl ?_
        obtain ⟨hc22, h⟩ := chk_some h
        refine go_iast C dX10_setLabels_139 sh_65 (by decide) hc22 ?_
        have hB23 := hB.set 65 (50 + v4) (x := M 75 v4) (hB 75 v4 (by decide))
        refine go_iinc (ls2 := [some (rf G 64), some (.int (iI v1)), none, none, some (.int (iI (v4 + 1)))]) C dX10_setLabels_140 rfl (Nat.le_of_ble_eq_true rfl) rfl ?_
        refine go_goto (tgt := 102) C dX10_setLabels_143 rfl ?_
        exact ih v1 (v4 + 1) (mset M 65 (50 + v4) (M 75 v4)) hB23 h
set_option maxHeartbeats 4000000 in
theorem w_X10_setLabels_47 {G : gC} {X : gX} {res : Int × Mem} {F : Nat} (C : Cx G X cX10_setLabels 5 RX10 5 0 0 (some .int) []) (E : Fnl G X 0 0 (.inr (some (.int (iI res.1)))) res.2) : ∀ (v1 : Int) (v2 : Int) (t1 : Int) (M : Mem), Bd M → f_X10_setLabels_47 F v1 v2 t1 M = some res → Go G X 5 0 0 47 [some (rf G 64), some (.int (iI v1)), some (.int (iI v2)), none, none] [.int (iI t1), rf G 64] M := by
  intro v1 v2 t1 M hB h
  rw [f_X10_setLabels_47] at h
  obtain ⟨hp_v1, h⟩ := chk_some h
  obtain ⟨q8, h8, h⟩ := ob_some h
  refine go_callV_i C dX10_setLabels_47 (ok_X10_refused C.hl hB h8) mv_X10_67 sh_64 rfl rfl (Nat.le_of_ble_eq_true rfl) ⟨(Nat.le_of_ble_eq_true rfl), (Nat.le_of_ble_eq_true rfl)⟩ ⟨(Nat.le_of_ble_eq_true rfl), (Nat.le_of_ble_eq_true rfl)⟩ (fun hB8 => ?_)
  obtain ⟨hc9, h⟩ := chk_some h
  refine go_if_eq (tgt := 55) C dX10_setLabels_50 rfl hc9 (fun hc10 => ?_) (fun hc10 => ?_)
  · replace h := ite_t hc10 h
    refine go_aload_n C dX10_setLabels_55 rfl rfl ?_
    obtain ⟨q11, h11, h⟩ := ob_some h
    refine go_callV_v C dX10_setLabels_56 (ok_X10_saves C.hl hB8 h11) mv_X10_74 sh_64 rfl rfl (Nat.le_of_ble_eq_true rfl) ⟨(Nat.le_of_ble_eq_true rfl), (Nat.le_of_ble_eq_true rfl)⟩ ⟨(Nat.le_of_ble_eq_true rfl), (Nat.le_of_ble_eq_true rfl)⟩ (fun hB11 => ?_)
    refine go_iload_n C dX10_setLabels_59 rfl rfl ?_
    refine go_iconst C dX10_setLabels_60 ?_
    refine go_icmp_ne (tgt := 72) C dX10_setLabels_61 rfl hp_v1 (by decide) (fun hc12 => ?_) (fun hc12 => ?_)
    · replace h := ite_f hc12 h
      refine go_iload_n C dX10_setLabels_72 rfl rfl ?_
      refine go_iconst C dX10_setLabels_73 ?_
      refine go_icmp_ne (tgt := 85) C dX10_setLabels_74 rfl hp_v1 (by decide) (fun hc13 => ?_) (fun hc13 => ?_)
      · replace h := ite_f hc13 h
        refine go_iload_n C dX10_setLabels_85 rfl rfl ?_
        refine go_iconst C dX10_setLabels_86 ?_
        refine go_icmp_ne (tgt := 97) C dX10_setLabels_87 rfl hp_v1 (by decide) (fun hc14 => ?_) (fun hc14 => ?_)
        · replace h := ite_f hc14 h
          refine go_iconst C dX10_setLabels_97 ?_
          refine go_istore_n (ls2 := [some (rf G 64), some (.int (iI v1)), some (.int (iI v2)), some (.int (iI 0)), none]) C dX10_setLabels_98 rfl (Nat.le_of_ble_eq_true rfl) rfl ?_
          refine go_iconst C dX10_setLabels_99 ?_
          refine go_istore (ls2 := [some (rf G 64), some (.int (iI v1)), some (.int (iI v2)), some (.int (iI 0)), some (.int (iI 0))]) C dX10_setLabels_100 (Nat.le_of_ble_eq_true rfl) rfl ?_
          refine go_weak (ls' := [some (rf G 64), some (.int (iI v1)), none, none, some (.int (iI 0))]) ⟨rfl, ⟨rfl, ⟨rfl, trivial⟩⟩⟩ ?_
          exact w_X10_setLabels_102 C E F v1 0 q11 hB11 h
        · replace h := ite_t hc14 h
          refine go_aload_n C dX10_setLabels_90 rfl rfl ?_
          obtain ⟨q24, h24, h⟩ := ob_some h
          refine go_callV_i C dX10_setLabels_91 (ok_X10_bestOf C.hl hB11 h24) mv_X10_129 sh_64 rfl rfl (Nat.le_of_ble_eq_true rfl) ⟨(Nat.le_of_ble_eq_true rfl), (Nat.le_of_ble_eq_true rfl)⟩ ⟨(Nat.le_of_ble_eq_true rfl), (Nat.le_of_ble_eq_true rfl)⟩ (fun hB24 => ?_)
          refine go_goto (tgt := 98) C dX10_setLabels_94 rfl ?_
          refine go_istore_n (ls2 := [some (rf G 64), some (.int (iI v1)), some (.int (iI v2)), some (.int (iI q24.1)), none]) C dX10_setLabels_98 rfl (Nat.le_of_ble_eq_true rfl) rfl ?_
          refine go_iconst C dX10_setLabels_99 ?_
          refine go_istore (ls2 := [some (rf G 64), some (.int (iI v1)), some (.int (iI v2)), some (.int (iI q24.1)), some (.int (iI 0))]) C dX10_setLabels_100 (Nat.le_of_ble_eq_true rfl) rfl ?_
          refine go_weak (ls' := [some (rf G 64), some (.int (iI v1)), none, none, some (.int (iI 0))]) ⟨rfl, ⟨rfl, ⟨rfl, trivial⟩⟩⟩ ?_
          exact w_X10_setLabels_102 C E F v1 0 q24.2 hB24 h
      · replace h := ite_t hc13 h
        refine go_aload_n C dX10_setLabels_77 rfl rfl ?_
        refine go_iload_n C dX10_setLabels_78 rfl rfl ?_
        obtain ⟨q25, h25, h⟩ := ob_some h
        refine go_callV_v C dX10_setLabels_79 (ok_X10_ranks C.hl hB11 h25) mv_X10_126 sh_64 rfl rfl (Nat.le_of_ble_eq_true rfl) ⟨(Nat.le_of_ble_eq_true rfl), (Nat.le_of_ble_eq_true rfl)⟩ ⟨(Nat.le_of_ble_eq_true rfl), (Nat.le_of_ble_eq_true rfl)⟩ (fun hB25 => ?_)
        refine go_goto (tgt := 146) C dX10_setLabels_82 rfl ?_
        refine go_aload_n C dX10_setLabels_146 rfl rfl ?_
        obtain ⟨q26, h26, h⟩ := ob_some h
        refine go_callV_v C dX10_setLabels_147 (ok_X10_empties C.hl hB25 h26) mv_X10_71 sh_64 rfl rfl (Nat.le_of_ble_eq_true rfl) ⟨(Nat.le_of_ble_eq_true rfl), (Nat.le_of_ble_eq_true rfl)⟩ ⟨(Nat.le_of_ble_eq_true rfl), (Nat.le_of_ble_eq_true rfl)⟩ (fun hB26 => ?_)
        refine go_aload_n C dX10_setLabels_150 rfl rfl ?_
        refine go_getR (o := 1) (k2 := 65) C dX10_setLabels_151 fl_X10_7 sh_64 rfl rfl ?_
        refine go_bipush C dX10_setLabels_154 (by decide +kernel) ?_
        refine go_aload_n C dX10_setLabels_156 rfl rfl ?_
        refine go_getR (o := 1) (k2 := 65) C dX10_setLabels_157 fl_X10_7 sh_64 rfl rfl ?_
        refine go_iconst C dX10_setLabels_160 ?_
        refine go_iald C dX10_setLabels_161 sh_65 (by decide) ⟨by decide, by decide⟩ ?_
        refine go_iadd C dX10_setLabels_162 ?_
        refine go_iconst C dX10_setLabels_163 ?_
        refine go_isub C dX10_setLabels_164 ?_
        obtain ⟨hc27, h⟩ := chk_some h
        refine go_iald C dX10_setLabels_165 sh_65 (by decide) hc27 ?_
        cases h
        exact go_iret C E rfl dX10_setLabels_166 (Nat.le_of_ble_eq_true rfl) (Nat.le_of_ble_eq_true rfl) rfl rfl hB26
    · replace h := ite_t hc12 h
      refine go_aload_n C dX10_setLabels_64 rfl rfl ?_
      refine go_iload_n C dX10_setLabels_65 rfl rfl ?_
      obtain ⟨q28, h28, h⟩ := ob_some h
      refine go_callV_v C dX10_setLabels_66 (ok_X10_visits C.hl hB11 h28) mv_X10_123 sh_64 rfl rfl (Nat.le_of_ble_eq_true rfl) ⟨(Nat.le_of_ble_eq_true rfl), (Nat.le_of_ble_eq_true rfl)⟩ ⟨(Nat.le_of_ble_eq_true rfl), (Nat.le_of_ble_eq_true rfl)⟩ (fun hB28 => ?_)
      refine go_goto (tgt := 146) C dX10_setLabels_69 rfl ?_
      refine go_aload_n C dX10_setLabels_146 rfl rfl ?_
      obtain ⟨q29, h29, h⟩ := ob_some h
      refine go_callV_v C dX10_setLabels_147 (ok_X10_empties C.hl hB28 h29) mv_X10_71 sh_64 rfl rfl (Nat.le_of_ble_eq_true rfl) ⟨(Nat.le_of_ble_eq_true rfl), (Nat.le_of_ble_eq_true rfl)⟩ ⟨(Nat.le_of_ble_eq_true rfl), (Nat.le_of_ble_eq_true rfl)⟩ (fun hB29 => ?_)
      refine go_aload_n C dX10_setLabels_150 rfl rfl ?_
      refine go_getR (o := 1) (k2 := 65) C dX10_setLabels_151 fl_X10_7 sh_64 rfl rfl ?_
      refine go_bipush C dX10_setLabels_154 (by decide +kernel) ?_
      refine go_aload_n C dX10_setLabels_156 rfl rfl ?_
      refine go_getR (o := 1) (k2 := 65) C dX10_setLabels_157 fl_X10_7 sh_64 rfl rfl ?_
      refine go_iconst C dX10_setLabels_160 ?_
      refine go_iald C dX10_setLabels_161 sh_65 (by decide) ⟨by decide, by decide⟩ ?_
      refine go_iadd C dX10_setLabels_162 ?_
      refine go_iconst C dX10_setLabels_163 ?_
      refine go_isub C dX10_setLabels_164 ?_
      obtain ⟨hc30, h⟩ := chk_some h
      refine go_iald C dX10_setLabels_165 sh_65 (by decide) hc30 ?_
      cases h
      exact go_iret C E rfl dX10_setLabels_166 (Nat.le_of_ble_eq_true rfl) (Nat.le_of_ble_eq_true rfl) rfl rfl hB29
  · replace h := ite_f hc10 h
    refine go_iconst C dX10_setLabels_53 ?_
    cases h
    exact go_iret C E rfl dX10_setLabels_54 (Nat.le_of_ble_eq_true rfl) (Nat.le_of_ble_eq_true rfl) rfl rfl hB8
set_option maxHeartbeats 4000000 in
theorem ok_X10_setLabels {G : gC} {l : Launch} (hl : l.stackTraces = false) {F : Nat} {v1 : Int} {v2 : Int} {M : Mem} (hB : Bd M) {res : Int × Mem} (h : f_X10_setLabels F v1 v2 M = some res) : Ok G l 5 0 0 yX10_setLabels (.code yX10_setLabels cX10_setLabels 5 (some .int)) [rf G 64, .int (iI v1), .int (iI v2)] M (.inr (some (.int (iI res.1)))) res.2 := by
  refine ok_of (ls := [some (rf G 64), some (.int (iI v1)), some (.int (iI v2)), none, none]) hl (by decide +kernel) (Nat.le_of_ble_eq_true rfl) ⟨rfl, ⟨rfl, ⟨rfl, trivial⟩⟩⟩ ?_
  intro X hX C E
  subst hX
  rw [f_X10_setLabels] at h
  obtain ⟨hp_v1, h⟩ := chk_some h
  refine go_aload_n C dX10_setLabels_0 rfl rfl ?_
  refine go_iload_n C dX10_setLabels_1 rfl rfl ?_
  refine go_iconst C dX10_setLabels_2 ?_
  refine go_iconst C dX10_setLabels_3 ?_
  obtain ⟨q1, h1, h⟩ := ob_some h
  refine go_callS_i C dX10_setLabels_4 (ok_X10_within C.hl hB h1) ms_X10_56 rfl rfl (Nat.le_of_ble_eq_true rfl) ⟨(Nat.le_of_ble_eq_true rfl), (Nat.le_of_ble_eq_true rfl)⟩ ⟨(Nat.le_of_ble_eq_true rfl), (Nat.le_of_ble_eq_true rfl)⟩ (fun hB1 => ?_)
  obtain ⟨hc2, h⟩ := chk_some h
  refine go_if_ne (tgt := 14) C dX10_setLabels_7 rfl hc2 (fun hc3 => ?_) (fun hc3 => ?_)
  · replace h := ite_f hc3 h
    refine go_aload_n C dX10_setLabels_14 rfl rfl ?_
    refine go_iload_n C dX10_setLabels_15 rfl rfl ?_
    obtain ⟨q4, h4, h⟩ := ob_some h
    refine go_callV_i C dX10_setLabels_16 (ok_X10_isNode C.hl hB1 h4) mv_X10_85 sh_64 rfl rfl (Nat.le_of_ble_eq_true rfl) ⟨(Nat.le_of_ble_eq_true rfl), (Nat.le_of_ble_eq_true rfl)⟩ ⟨(Nat.le_of_ble_eq_true rfl), (Nat.le_of_ble_eq_true rfl)⟩ (fun hB4 => ?_)
    obtain ⟨hc5, h⟩ := chk_some h
    refine go_if_ne (tgt := 26) C dX10_setLabels_19 rfl hc5 (fun hc6 => ?_) (fun hc6 => ?_)
    · replace h := ite_f hc6 h
      refine go_iload_n C dX10_setLabels_26 rfl rfl ?_
      refine go_iconst C dX10_setLabels_27 ?_
      refine go_icmp_ne (tgt := 46) C dX10_setLabels_28 rfl hp_v1 (by decide) (fun hc7 => ?_) (fun hc7 => ?_)
      · replace h := ite_f hc7 h
        refine go_iconst C dX10_setLabels_46 ?_
        exact w_X10_setLabels_47 C E v1 v2 0 M hB4 h
      · replace h := ite_t hc7 h
        refine go_aload_n C dX10_setLabels_31 rfl rfl ?_
        refine go_getR (o := 1) (k2 := 65) C dX10_setLabels_32 fl_X10_7 sh_64 rfl rfl ?_
        refine go_iconst C dX10_setLabels_35 ?_
        refine go_iald C dX10_setLabels_36 sh_65 (by decide) ⟨by decide, by decide⟩ ?_
        refine go_bipush C dX10_setLabels_37 (by decide +kernel) ?_
        refine go_icmp_le (tgt := 46) C dX10_setLabels_39 rfl (hB4 65 0 (by decide)) (by decide) (fun hc31 => ?_) (fun hc31 => ?_)
        · replace h := ite_t hc31 h
          refine go_iconst C dX10_setLabels_46 ?_
          exact w_X10_setLabels_47 C E v1 v2 0 M hB4 h
        · replace h := ite_f hc31 h
          refine go_iconst C dX10_setLabels_42 ?_
          refine go_goto (tgt := 47) C dX10_setLabels_43 rfl ?_
          exact w_X10_setLabels_47 C E v1 v2 3 M hB4 h
    · replace h := ite_t hc6 h
      refine go_iconst C dX10_setLabels_22 ?_
      refine go_goto (tgt := 47) C dX10_setLabels_23 rfl ?_
      exact w_X10_setLabels_47 C E v1 v2 2 M hB4 h
  · replace h := ite_t hc3 h
    refine go_iconst C dX10_setLabels_10 ?_
    refine go_goto (tgt := 47) C dX10_setLabels_11 rfl ?_
    exact w_X10_setLabels_47 C E v1 v2 1 M hB1 h
-- IntervalRouterModel.swapLabels(II)I
set_option maxHeartbeats 4000000 in
theorem ok_X10_swapLabels {G : gC} {l : Launch} (hl : l.stackTraces = false) {F : Nat} {v1 : Int} {v2 : Int} {M : Mem} (hB : Bd M) {res : Int × Mem} (h : f_X10_swapLabels F v1 v2 M = some res) : Ok G l 2 0 0 yX10_swapLabels (.code yX10_swapLabels cX10_swapLabels 3 (some .int)) [rf G 64, .int (iI v1), .int (iI v2)] M (.inr (some (.int (iI res.1)))) res.2 := by
  refine ok_of (ls := [some (rf G 64), some (.int (iI v1)), some (.int (iI v2))]) hl (by decide +kernel) (Nat.le_of_ble_eq_true rfl) ⟨rfl, ⟨rfl, ⟨rfl, trivial⟩⟩⟩ ?_
  intro X hX C E
  subst hX
  rw [f_X10_swapLabels] at h
  refine go_aload_n C dX10_swapLabels_0 rfl rfl ?_
  refine go_aload_n C dX10_swapLabels_1 rfl rfl ?_
  refine go_iload_n C dX10_swapLabels_2 rfl rfl ?_
  obtain ⟨q1, h1, h⟩ := ob_some h
  refine go_callV_i C dX10_swapLabels_3 (ok_X10_isNode C.hl hB h1) mv_X10_85 sh_64 rfl rfl (Nat.le_of_ble_eq_true rfl) ⟨(Nat.le_of_ble_eq_true rfl), (Nat.le_of_ble_eq_true rfl)⟩ ⟨(Nat.le_of_ble_eq_true rfl), (Nat.le_of_ble_eq_true rfl)⟩ (fun hB1 => ?_)
  obtain ⟨hc2, h⟩ := chk_some h
  refine go_if_eq (tgt := 21) C dX10_swapLabels_6 rfl hc2 (fun hc3 => ?_) (fun hc3 => ?_)
  · replace h := ite_t hc3 h
    refine go_iconst C dX10_swapLabels_21 ?_
    obtain ⟨q4, h4, h⟩ := ob_some h
    refine go_callV_i C dX10_swapLabels_22 (ok_X10_refused C.hl hB1 h4) mv_X10_67 sh_64 rfl rfl (Nat.le_of_ble_eq_true rfl) ⟨(Nat.le_of_ble_eq_true rfl), (Nat.le_of_ble_eq_true rfl)⟩ ⟨(Nat.le_of_ble_eq_true rfl), (Nat.le_of_ble_eq_true rfl)⟩ (fun hB4 => ?_)
    obtain ⟨hc5, h⟩ := chk_some h
    refine go_if_eq (tgt := 30) C dX10_swapLabels_25 rfl hc5 (fun hc6 => ?_) (fun hc6 => ?_)
    · replace h := ite_t hc6 h
      refine go_aload_n C dX10_swapLabels_30 rfl rfl ?_
      obtain ⟨q7, h7, h⟩ := ob_some h
      refine go_callV_v C dX10_swapLabels_31 (ok_X10_saves C.hl hB4 h7) mv_X10_74 sh_64 rfl rfl (Nat.le_of_ble_eq_true rfl) ⟨(Nat.le_of_ble_eq_true rfl), (Nat.le_of_ble_eq_true rfl)⟩ ⟨(Nat.le_of_ble_eq_true rfl), (Nat.le_of_ble_eq_true rfl)⟩ (fun hB7 => ?_)
      refine go_aload_n C dX10_swapLabels_34 rfl rfl ?_
      refine go_iload_n C dX10_swapLabels_35 rfl rfl ?_
      refine go_iload_n C dX10_swapLabels_36 rfl rfl ?_
      obtain ⟨q8, h8, h⟩ := ob_some h
      refine go_callV_v C dX10_swapLabels_37 (ok_X10_swaps C.hl hB7 h8) mv_X10_133 sh_64 rfl rfl (Nat.le_of_ble_eq_true rfl) ⟨(Nat.le_of_ble_eq_true rfl), (Nat.le_of_ble_eq_true rfl)⟩ ⟨(Nat.le_of_ble_eq_true rfl), (Nat.le_of_ble_eq_true rfl)⟩ (fun hB8 => ?_)
      refine go_aload_n C dX10_swapLabels_40 rfl rfl ?_
      obtain ⟨q9, h9, h⟩ := ob_some h
      refine go_callV_v C dX10_swapLabels_41 (ok_X10_empties C.hl hB8 h9) mv_X10_71 sh_64 rfl rfl (Nat.le_of_ble_eq_true rfl) ⟨(Nat.le_of_ble_eq_true rfl), (Nat.le_of_ble_eq_true rfl)⟩ ⟨(Nat.le_of_ble_eq_true rfl), (Nat.le_of_ble_eq_true rfl)⟩ (fun hB9 => ?_)
      refine go_aload_n C dX10_swapLabels_44 rfl rfl ?_
      refine go_getR (o := 1) (k2 := 65) C dX10_swapLabels_45 fl_X10_7 sh_64 rfl rfl ?_
      refine go_bipush C dX10_swapLabels_48 (by decide +kernel) ?_
      refine go_iload_n C dX10_swapLabels_50 rfl rfl ?_
      refine go_iadd C dX10_swapLabels_51 ?_
      obtain ⟨hc10, h⟩ := chk_some h
      refine go_iald C dX10_swapLabels_52 sh_65 (by decide) hc10 ?_
      cases h
      exact go_iret C E rfl dX10_swapLabels_53 (Nat.le_of_ble_eq_true rfl) (Nat.le_of_ble_eq_true rfl) rfl rfl hB9
    · replace h := ite_f hc6 h
      refine go_iconst C dX10_swapLabels_28 ?_
      cases h
      exact go_iret C E rfl dX10_swapLabels_29 (Nat.le_of_ble_eq_true rfl) (Nat.le_of_ble_eq_true rfl) rfl rfl hB4
  · replace h := ite_f hc3 h
    refine go_aload_n C dX10_swapLabels_9 rfl rfl ?_
    refine go_iload_n C dX10_swapLabels_10 rfl rfl ?_
    obtain ⟨q11, h11, h⟩ := ob_some h
    refine go_callV_i C dX10_swapLabels_11 (ok_X10_isNode C.hl hB1 h11) mv_X10_85 sh_64 rfl rfl (Nat.le_of_ble_eq_true rfl) ⟨(Nat.le_of_ble_eq_true rfl), (Nat.le_of_ble_eq_true rfl)⟩ ⟨(Nat.le_of_ble_eq_true rfl), (Nat.le_of_ble_eq_true rfl)⟩ (fun hB11 => ?_)
    obtain ⟨hc12, h⟩ := chk_some h
    refine go_if_eq (tgt := 21) C dX10_swapLabels_14 rfl hc12 (fun hc13 => ?_) (fun hc13 => ?_)
    · replace h := ite_t hc13 h
      refine go_iconst C dX10_swapLabels_21 ?_
      obtain ⟨q14, h14, h⟩ := ob_some h
      refine go_callV_i C dX10_swapLabels_22 (ok_X10_refused C.hl hB11 h14) mv_X10_67 sh_64 rfl rfl (Nat.le_of_ble_eq_true rfl) ⟨(Nat.le_of_ble_eq_true rfl), (Nat.le_of_ble_eq_true rfl)⟩ ⟨(Nat.le_of_ble_eq_true rfl), (Nat.le_of_ble_eq_true rfl)⟩ (fun hB14 => ?_)
      obtain ⟨hc15, h⟩ := chk_some h
      refine go_if_eq (tgt := 30) C dX10_swapLabels_25 rfl hc15 (fun hc16 => ?_) (fun hc16 => ?_)
      · replace h := ite_t hc16 h
        refine go_aload_n C dX10_swapLabels_30 rfl rfl ?_
        obtain ⟨q17, h17, h⟩ := ob_some h
        refine go_callV_v C dX10_swapLabels_31 (ok_X10_saves C.hl hB14 h17) mv_X10_74 sh_64 rfl rfl (Nat.le_of_ble_eq_true rfl) ⟨(Nat.le_of_ble_eq_true rfl), (Nat.le_of_ble_eq_true rfl)⟩ ⟨(Nat.le_of_ble_eq_true rfl), (Nat.le_of_ble_eq_true rfl)⟩ (fun hB17 => ?_)
        refine go_aload_n C dX10_swapLabels_34 rfl rfl ?_
        refine go_iload_n C dX10_swapLabels_35 rfl rfl ?_
        refine go_iload_n C dX10_swapLabels_36 rfl rfl ?_
        obtain ⟨q18, h18, h⟩ := ob_some h
        refine go_callV_v C dX10_swapLabels_37 (ok_X10_swaps C.hl hB17 h18) mv_X10_133 sh_64 rfl rfl (Nat.le_of_ble_eq_true rfl) ⟨(Nat.le_of_ble_eq_true rfl), (Nat.le_of_ble_eq_true rfl)⟩ ⟨(Nat.le_of_ble_eq_true rfl), (Nat.le_of_ble_eq_true rfl)⟩ (fun hB18 => ?_)
        refine go_aload_n C dX10_swapLabels_40 rfl rfl ?_
        obtain ⟨q19, h19, h⟩ := ob_some h
        refine go_callV_v C dX10_swapLabels_41 (ok_X10_empties C.hl hB18 h19) mv_X10_71 sh_64 rfl rfl (Nat.le_of_ble_eq_true rfl) ⟨(Nat.le_of_ble_eq_true rfl), (Nat.le_of_ble_eq_true rfl)⟩ ⟨(Nat.le_of_ble_eq_true rfl), (Nat.le_of_ble_eq_true rfl)⟩ (fun hB19 => ?_)
        refine go_aload_n C dX10_swapLabels_44 rfl rfl ?_
        refine go_getR (o := 1) (k2 := 65) C dX10_swapLabels_45 fl_X10_7 sh_64 rfl rfl ?_
        refine go_bipush C dX10_swapLabels_48 (by decide +kernel) ?_
        refine go_iload_n C dX10_swapLabels_50 rfl rfl ?_
        refine go_iadd C dX10_swapLabels_51 ?_
        obtain ⟨hc20, h⟩ := chk_some h
        refine go_iald C dX10_swapLabels_52 sh_65 (by decide) hc20 ?_
        cases h
        exact go_iret C E rfl dX10_swapLabels_53 (Nat.le_of_ble_eq_true rfl) (Nat.le_of_ble_eq_true rfl) rfl rfl hB19
      · replace h := ite_f hc16 h
        refine go_iconst C dX10_swapLabels_28 ?_
        cases h
        exact go_iret C E rfl dX10_swapLabels_29 (Nat.le_of_ble_eq_true rfl) (Nat.le_of_ble_eq_true rfl) rfl rfl hB14
    · replace h := ite_f hc13 h
      refine go_iconst C dX10_swapLabels_17 ?_
      refine go_goto (tgt := 22) C dX10_swapLabels_18 rfl ?_
      obtain ⟨q21, h21, h⟩ := ob_some h
      refine go_callV_i C dX10_swapLabels_22 (ok_X10_refused C.hl hB11 h21) mv_X10_67 sh_64 rfl rfl (Nat.le_of_ble_eq_true rfl) ⟨(Nat.le_of_ble_eq_true rfl), (Nat.le_of_ble_eq_true rfl)⟩ ⟨(Nat.le_of_ble_eq_true rfl), (Nat.le_of_ble_eq_true rfl)⟩ (fun hB21 => ?_)
      obtain ⟨hc22, h⟩ := chk_some h
      refine go_if_eq (tgt := 30) C dX10_swapLabels_25 rfl hc22 (fun hc23 => ?_) (fun hc23 => ?_)
      · replace h := ite_t hc23 h
        refine go_aload_n C dX10_swapLabels_30 rfl rfl ?_
        obtain ⟨q24, h24, h⟩ := ob_some h
        refine go_callV_v C dX10_swapLabels_31 (ok_X10_saves C.hl hB21 h24) mv_X10_74 sh_64 rfl rfl (Nat.le_of_ble_eq_true rfl) ⟨(Nat.le_of_ble_eq_true rfl), (Nat.le_of_ble_eq_true rfl)⟩ ⟨(Nat.le_of_ble_eq_true rfl), (Nat.le_of_ble_eq_true rfl)⟩ (fun hB24 => ?_)
        refine go_aload_n C dX10_swapLabels_34 rfl rfl ?_
        refine go_iload_n C dX10_swapLabels_35 rfl rfl ?_
        refine go_iload_n C dX10_swapLabels_36 rfl rfl ?_
        obtain ⟨q25, h25, h⟩ := ob_some h
        refine go_callV_v C dX10_swapLabels_37 (ok_X10_swaps C.hl hB24 h25) mv_X10_133 sh_64 rfl rfl (Nat.le_of_ble_eq_true rfl) ⟨(Nat.le_of_ble_eq_true rfl), (Nat.le_of_ble_eq_true rfl)⟩ ⟨(Nat.le_of_ble_eq_true rfl), (Nat.le_of_ble_eq_true rfl)⟩ (fun hB25 => ?_)
        refine go_aload_n C dX10_swapLabels_40 rfl rfl ?_
        obtain ⟨q26, h26, h⟩ := ob_some h
        refine go_callV_v C dX10_swapLabels_41 (ok_X10_empties C.hl hB25 h26) mv_X10_71 sh_64 rfl rfl (Nat.le_of_ble_eq_true rfl) ⟨(Nat.le_of_ble_eq_true rfl), (Nat.le_of_ble_eq_true rfl)⟩ ⟨(Nat.le_of_ble_eq_true rfl), (Nat.le_of_ble_eq_true rfl)⟩ (fun hB26 => ?_)
        refine go_aload_n C dX10_swapLabels_44 rfl rfl ?_
        refine go_getR (o := 1) (k2 := 65) C dX10_swapLabels_45 fl_X10_7 sh_64 rfl rfl ?_
        refine go_bipush C dX10_swapLabels_48 (by decide +kernel) ?_
        refine go_iload_n C dX10_swapLabels_50 rfl rfl ?_
        refine go_iadd C dX10_swapLabels_51 ?_
        obtain ⟨hc27, h⟩ := chk_some h
        refine go_iald C dX10_swapLabels_52 sh_65 (by decide) hc27 ?_
        cases h
        exact go_iret C E rfl dX10_swapLabels_53 (Nat.le_of_ble_eq_true rfl) (Nat.le_of_ble_eq_true rfl) rfl rfl hB26
      · replace h := ite_f hc23 h
        refine go_iconst C dX10_swapLabels_28 ?_
        cases h
        exact go_iret C E rfl dX10_swapLabels_29 (Nat.le_of_ble_eq_true rfl) (Nat.le_of_ble_eq_true rfl) rfl rfl hB21
-- IntervalRouterModel.turn(I)I
set_option maxHeartbeats 4000000 in
theorem w_X10_turn_43 {G : gC} {X : gX} {res : Int × Mem} {F : Nat} (C : Cx G X cX10_turn 3 RX10 1 0 0 (some .int) []) (E : Fnl G X 0 0 (.inr (some (.int (iI res.1)))) res.2) : ∀ (fu : Nat) (v1 : Int) (v2 : Int) (M : Mem), Bd M → f_X10_turn_43 F fu v1 v2 M = some res → Go G X 3 0 0 43 [some (rf G 64), some (.int (iI v1)), some (.int (iI v2))] [] M := by
  intro fu
  induction fu with
  | zero => intro v1 v2 M hB h; exact nomatch (show (none : Option (Int × Mem)) = some res from h)
  | succ fu ih =>
    intro v1 v2 M hB h
    rw [f_X10_turn_43] at h
    obtain ⟨hp_v2, h⟩ := chk_some h
    refine go_iload_n C dX10_turn_43 rfl rfl ?_
    refine go_aload_n C dX10_turn_44 rfl rfl ?_
    refine go_getR (o := 1) (k2 := 65) C dX10_turn_45 fl_X10_7 sh_64 rfl rfl ?_
    refine go_iconst C dX10_turn_48 ?_
    refine go_iald C dX10_turn_49 sh_65 (by decide) ⟨by decide, by decide⟩ ?_
    refine go_icmp_ge (tgt := 86) C dX10_turn_50 rfl hp_v2 (hB 65 0 (by decide)) (fun hc9 => ?_) (fun hc9 => ?_)
    · replace h := ite_t hc9 h
      refine go_aload_n C dX10_turn_86 rfl rfl ?_
      obtain ⟨q10, h10, h⟩ := ob_some h
      refine go_callV_v C dX10_turn_87 (ok_X10_empties C.hl hB h10) mv_X10_71 sh_64 rfl rfl (Nat.le_of_ble_eq_true rfl) ⟨(Nat.le_of_ble_eq_true rfl), (Nat.le_of_ble_eq_true rfl)⟩ ⟨(Nat.le_of_ble_eq_true rfl), (Nat.le_of_ble_eq_true rfl)⟩ (fun hB10 => ?_)
      refine go_aload_n C dX10_turn_90 rfl rfl ?_
      refine go_getR (o := 1) (k2 := 65) C dX10_turn_91 fl_X10_7 sh_64 rfl rfl ?_
      refine go_bipush C dX10_turn_94 (by decide +kernel) ?_
      refine go_iald C dX10_turn_96 sh_65 (by decide) ⟨by decide, by decide⟩ ?_
      cases h
      exact go_iret C E rfl dX10_turn_97 (Nat.le_of_ble_eq_true rfl) (Nat.le_of_ble_eq_true rfl) rfl rfl hB10
    · replace h := ite_f hc9 h
      refine go_aload_n C dX10_turn_53 rfl rfl ?_
      refine go_getR (o := 1) (k2 := 65) C dX10_turn_54 fl_X10_7 sh_64 rfl rfl ?_
      refine go_bipush C dX10_turn_57 (by decide +kernel) ?_
      refine go_iload_n C dX10_turn_59 rfl rfl ?_
      refine go_iadd C dX10_turn_60 ?_
      refine go_aload_n C dX10_turn_61 rfl rfl ?_
      refine go_getR (o := 1) (k2 := 65) C dX10_turn_62 fl_X10_7 sh_64 rfl rfl ?_
      refine go_bipush C dX10_turn_65 (by decide +kernel) ?_
      refine go_iload_n C dX10_turn_67 rfl rfl ?_
      refine go_iadd C dX10_turn_68 ?_
      obtain ⟨hc11, h⟩ := chk_some h
      refine go_iald C dX10_turn_69 sh_65 (by decide) hc11 ?_
      refine go_iload_n C dX10_turn_70 rfl rfl ?_
      refine go_iadd C dX10_turn_71 ?_
      refine go_aload_n C dX10_turn_72 rfl rfl ?_
      refine go_getR (o := 1) (k2 := 65) C dX10_turn_73 fl_X10_7 sh_64 rfl rfl ?_
      refine go_iconst C dX10_turn_76 ?_
      refine go_iald C dX10_turn_77 sh_65 (by decide) ⟨by decide, by decide⟩ ?_
      obtain ⟨hc12, h⟩ := chk_some h
      refine go_irem C dX10_turn_78 hc12 ?_
      obtain ⟨hc13, h⟩ := chk_some h
      refine go_iast C dX10_turn_79 sh_65 (by decide) hc11 ?_
      have hB14 := hB.set 65 (50 + v2) (x := ((M 65 (50 + v2)) + v1) % (M 65 0)) hc13
      refine go_iinc (ls2 := [some (rf G 64), some (.int (iI v1)), some (.int (iI (v2 + 1)))]) C dX10_turn_80 rfl (Nat.le_of_ble_eq_true rfl) rfl ?_
      refine go_goto (tgt := 43) C dX10_turn_83 rfl ?_
      exact ih v1 (v2 + 1) (mset M 65 (50 + v2) (((M 65 (50 + v2)) + v1) % (M 65 0))) hB14 h
set_option maxHeartbeats 4000000 in
theorem ok_X10_turn {G : gC} {l : Launch} (hl : l.stackTraces = false) {F : Nat} {v1 : Int} {M : Mem} (hB : Bd M) {res : Int × Mem} (h : f_X10_turn F v1 M = some res) : Ok G l 1 0 0 yX10_turn (.code yX10_turn cX10_turn 3 (some .int)) [rf G 64, .int (iI v1)] M (.inr (some (.int (iI res.1)))) res.2 := by
  refine ok_of (ls := [some (rf G 64), some (.int (iI v1)), none]) hl (by decide +kernel) (Nat.le_of_ble_eq_true rfl) ⟨rfl, ⟨rfl, trivial⟩⟩ ?_
  intro X hX C E
  subst hX
  rw [f_X10_turn] at h
  refine go_aload_n C dX10_turn_0 rfl rfl ?_
  refine go_iload_n C dX10_turn_1 rfl rfl ?_
  refine go_iconst C dX10_turn_2 ?_
  refine go_bipush C dX10_turn_3 (by decide +kernel) ?_
  obtain ⟨q1, h1, h⟩ := ob_some h
  refine go_callS_i C dX10_turn_5 (ok_X10_within C.hl hB h1) ms_X10_56 rfl rfl (Nat.le_of_ble_eq_true rfl) ⟨(Nat.le_of_ble_eq_true rfl), (Nat.le_of_ble_eq_true rfl)⟩ ⟨(Nat.le_of_ble_eq_true rfl), (Nat.le_of_ble_eq_true rfl)⟩ (fun hB1 => ?_)
  obtain ⟨hc2, h⟩ := chk_some h
  refine go_if_ne (tgt := 15) C dX10_turn_8 rfl hc2 (fun hc3 => ?_) (fun hc3 => ?_)
  · replace h := ite_f hc3 h
    refine go_aload_n C dX10_turn_15 rfl rfl ?_
    refine go_getR (o := 1) (k2 := 65) C dX10_turn_16 fl_X10_7 sh_64 rfl rfl ?_
    refine go_iconst C dX10_turn_19 ?_
    refine go_iald C dX10_turn_20 sh_65 (by decide) ⟨by decide, by decide⟩ ?_
    refine go_if_ne (tgt := 28) C dX10_turn_21 rfl (hB1 65 0 (by decide)) (fun hc4 => ?_) (fun hc4 => ?_)
    · replace h := ite_f hc4 h
      refine go_iconst C dX10_turn_28 ?_
      obtain ⟨q5, h5, h⟩ := ob_some h
      refine go_callV_i C dX10_turn_29 (ok_X10_refused C.hl hB1 h5) mv_X10_67 sh_64 rfl rfl (Nat.le_of_ble_eq_true rfl) ⟨(Nat.le_of_ble_eq_true rfl), (Nat.le_of_ble_eq_true rfl)⟩ ⟨(Nat.le_of_ble_eq_true rfl), (Nat.le_of_ble_eq_true rfl)⟩ (fun hB5 => ?_)
      obtain ⟨hc6, h⟩ := chk_some h
      refine go_if_eq (tgt := 37) C dX10_turn_32 rfl hc6 (fun hc7 => ?_) (fun hc7 => ?_)
      · replace h := ite_t hc7 h
        refine go_aload_n C dX10_turn_37 rfl rfl ?_
        obtain ⟨q8, h8, h⟩ := ob_some h
        refine go_callV_v C dX10_turn_38 (ok_X10_saves C.hl hB5 h8) mv_X10_74 sh_64 rfl rfl (Nat.le_of_ble_eq_true rfl) ⟨(Nat.le_of_ble_eq_true rfl), (Nat.le_of_ble_eq_true rfl)⟩ ⟨(Nat.le_of_ble_eq_true rfl), (Nat.le_of_ble_eq_true rfl)⟩ (fun hB8 => ?_)
        refine go_iconst C dX10_turn_41 ?_
        refine go_istore_n (ls2 := [some (rf G 64), some (.int (iI v1)), some (.int (iI 0))]) C dX10_turn_42 rfl (Nat.le_of_ble_eq_true rfl) rfl ?_
        exact w_X10_turn_43 C E F v1 0 q8 hB8 h
      · replace h := ite_f hc7 h
        refine go_iconst C dX10_turn_35 ?_
        cases h
        exact go_iret C E rfl dX10_turn_36 (Nat.le_of_ble_eq_true rfl) (Nat.le_of_ble_eq_true rfl) rfl rfl hB5
    · replace h := ite_t hc4 h
      refine go_iconst C dX10_turn_24 ?_
      refine go_goto (tgt := 29) C dX10_turn_25 rfl ?_
      obtain ⟨q15, h15, h⟩ := ob_some h
      refine go_callV_i C dX10_turn_29 (ok_X10_refused C.hl hB1 h15) mv_X10_67 sh_64 rfl rfl (Nat.le_of_ble_eq_true rfl) ⟨(Nat.le_of_ble_eq_true rfl), (Nat.le_of_ble_eq_true rfl)⟩ ⟨(Nat.le_of_ble_eq_true rfl), (Nat.le_of_ble_eq_true rfl)⟩ (fun hB15 => ?_)
      obtain ⟨hc16, h⟩ := chk_some h
      refine go_if_eq (tgt := 37) C dX10_turn_32 rfl hc16 (fun hc17 => ?_) (fun hc17 => ?_)
      · replace h := ite_t hc17 h
        refine go_aload_n C dX10_turn_37 rfl rfl ?_
        obtain ⟨q18, h18, h⟩ := ob_some h
        refine go_callV_v C dX10_turn_38 (ok_X10_saves C.hl hB15 h18) mv_X10_74 sh_64 rfl rfl (Nat.le_of_ble_eq_true rfl) ⟨(Nat.le_of_ble_eq_true rfl), (Nat.le_of_ble_eq_true rfl)⟩ ⟨(Nat.le_of_ble_eq_true rfl), (Nat.le_of_ble_eq_true rfl)⟩ (fun hB18 => ?_)
        refine go_iconst C dX10_turn_41 ?_
        refine go_istore_n (ls2 := [some (rf G 64), some (.int (iI v1)), some (.int (iI 0))]) C dX10_turn_42 rfl (Nat.le_of_ble_eq_true rfl) rfl ?_
        exact w_X10_turn_43 C E F v1 0 q18 hB18 h
      · replace h := ite_f hc17 h
        refine go_iconst C dX10_turn_35 ?_
        cases h
        exact go_iret C E rfl dX10_turn_36 (Nat.le_of_ble_eq_true rfl) (Nat.le_of_ble_eq_true rfl) rfl rfl hB15
  · replace h := ite_t hc3 h
    refine go_iconst C dX10_turn_11 ?_
    refine go_goto (tgt := 29) C dX10_turn_12 rfl ?_
    obtain ⟨q19, h19, h⟩ := ob_some h
    refine go_callV_i C dX10_turn_29 (ok_X10_refused C.hl hB1 h19) mv_X10_67 sh_64 rfl rfl (Nat.le_of_ble_eq_true rfl) ⟨(Nat.le_of_ble_eq_true rfl), (Nat.le_of_ble_eq_true rfl)⟩ ⟨(Nat.le_of_ble_eq_true rfl), (Nat.le_of_ble_eq_true rfl)⟩ (fun hB19 => ?_)
    obtain ⟨hc20, h⟩ := chk_some h
    refine go_if_eq (tgt := 37) C dX10_turn_32 rfl hc20 (fun hc21 => ?_) (fun hc21 => ?_)
    · replace h := ite_t hc21 h
      refine go_aload_n C dX10_turn_37 rfl rfl ?_
      obtain ⟨q22, h22, h⟩ := ob_some h
      refine go_callV_v C dX10_turn_38 (ok_X10_saves C.hl hB19 h22) mv_X10_74 sh_64 rfl rfl (Nat.le_of_ble_eq_true rfl) ⟨(Nat.le_of_ble_eq_true rfl), (Nat.le_of_ble_eq_true rfl)⟩ ⟨(Nat.le_of_ble_eq_true rfl), (Nat.le_of_ble_eq_true rfl)⟩ (fun hB22 => ?_)
      refine go_iconst C dX10_turn_41 ?_
      refine go_istore_n (ls2 := [some (rf G 64), some (.int (iI v1)), some (.int (iI 0))]) C dX10_turn_42 rfl (Nat.le_of_ble_eq_true rfl) rfl ?_
      exact w_X10_turn_43 C E F v1 0 q22 hB22 h
    · replace h := ite_f hc21 h
      refine go_iconst C dX10_turn_35 ?_
      cases h
      exact go_iret C E rfl dX10_turn_36 (Nat.le_of_ble_eq_true rfl) (Nat.le_of_ble_eq_true rfl) rfl rfl hB19
-- IntervalRouterModel.shuffle(I)I
set_option maxHeartbeats 4000000 in
theorem w_X10_shuffle_69 {G : gC} {X : gX} {res : Int × Mem} {F : Nat} (C : Cx G X cX10_shuffle 5 RX10 1 0 0 (some .int) []) (E : Fnl G X 0 0 (.inr (some (.int (iI res.1)))) res.2) : ∀ (fu : Nat) (v2 : Int) (v4 : Int) (M : Mem), Bd M → f_X10_shuffle_69 F fu v2 v4 M = some res → Go G X 5 0 0 69 [some (rf G 64), none, some (.long (lI v2)), none, some (.int (iI v4))] [] M := by
  intro fu
  induction fu with
  | zero => intro v2 v4 M hB h; exact nomatch (show (none : Option (Int × Mem)) = some res from h)
  | succ fu ih =>
    intro v2 v4 M hB h
    rw [f_X10_shuffle_69] at h
    obtain ⟨hp_v4, h⟩ := chk_some h
    refine go_iload C dX10_shuffle_69 rfl ?_
    refine go_if_le (tgt := 111) C dX10_shuffle_71 rfl hp_v4 (fun hc9 => ?_) (fun hc9 => ?_)
    · replace h := ite_t hc9 h
      refine go_aload_n C dX10_shuffle_111 rfl rfl ?_
      obtain ⟨q10, h10, h⟩ := ob_some h
      refine go_callV_v C dX10_shuffle_112 (ok_X10_empties C.hl hB h10) mv_X10_71 sh_64 rfl rfl (Nat.le_of_ble_eq_true rfl) ⟨(Nat.le_of_ble_eq_true rfl), (Nat.le_of_ble_eq_true rfl)⟩ ⟨(Nat.le_of_ble_eq_true rfl), (Nat.le_of_ble_eq_true rfl)⟩ (fun hB10 => ?_)
      refine go_aload_n C dX10_shuffle_115 rfl rfl ?_
      refine go_getR (o := 1) (k2 := 65) C dX10_shuffle_116 fl_X10_7 sh_64 rfl rfl ?_
      refine go_iconst C dX10_shuffle_119 ?_
      refine go_iald C dX10_shuffle_120 sh_65 (by decide) ⟨by decide, by decide⟩ ?_
      refine go_if_ne (tgt := 128) C dX10_shuffle_121 rfl (hB10 65 0 (by decide)) (fun hc11 => ?_) (fun hc11 => ?_)
      · replace h := ite_f hc11 h
        refine go_aload_n C dX10_shuffle_128 rfl rfl ?_
        refine go_getR (o := 1) (k2 := 65) C dX10_shuffle_129 fl_X10_7 sh_64 rfl rfl ?_
        refine go_bipush C dX10_shuffle_132 (by decide +kernel) ?_
        refine go_iald C dX10_shuffle_134 sh_65 (by decide) ⟨by decide, by decide⟩ ?_
        cases h
        exact go_iret C E rfl dX10_shuffle_135 (Nat.le_of_ble_eq_true rfl) (Nat.le_of_ble_eq_true rfl) rfl rfl hB10
      · replace h := ite_t hc11 h
        refine go_iconst C dX10_shuffle_124 ?_
        refine go_goto (tgt := 135) C dX10_shuffle_125 rfl ?_
        cases h
        exact go_iret C E rfl dX10_shuffle_135 (Nat.le_of_ble_eq_true rfl) (Nat.le_of_ble_eq_true rfl) rfl rfl hB10
    · replace h := ite_f hc9 h
      refine go_ldc2 (v := 1103515245) C dX10_shuffle_74 gt_1329 ?_
      refine go_lload_n C dX10_shuffle_77 rfl rfl ?_
      refine go_lmul C dX10_shuffle_78 ?_
      refine go_ldc2 (v := 12345) C dX10_shuffle_79 gt_1330 ?_
      refine go_ladd C dX10_shuffle_82 ?_
      refine go_ldc2 (v := 2147483648) C dX10_shuffle_83 gt_1331 ?_
      obtain ⟨hc12, h⟩ := chk_some h
      refine go_lrem C dX10_shuffle_86 hc12 ?_
      refine go_lstore_n (ls2 := [some (rf G 64), none, some (.long (lI (((1103515245 * v2) + 12345) % 2147483648))), none, some (.int (iI v4))]) C dX10_shuffle_87 rfl (Nat.le_of_ble_eq_true rfl) rfl ?_
      refine go_aload_n C dX10_shuffle_88 rfl rfl ?_
      refine go_iload C dX10_shuffle_89 rfl ?_
      refine go_lload_n C dX10_shuffle_91 rfl rfl ?_
      refine go_ldc2 (v := 65536) C dX10_shuffle_92 gt_1332 ?_
      obtain ⟨hc13, h⟩ := chk_some h
      refine go_ldiv C dX10_shuffle_95 hc13 ?_
      refine go_l2i C dX10_shuffle_96 ?_
      refine go_iload C dX10_shuffle_97 rfl ?_
      refine go_iconst C dX10_shuffle_99 ?_
      refine go_iadd C dX10_shuffle_100 ?_
      obtain ⟨hc14, h⟩ := chk_some h
      refine go_irem C dX10_shuffle_101 hc14 ?_
      obtain ⟨q15, h15, h⟩ := ob_some h
      refine go_callV_v C dX10_shuffle_102 (ok_X10_swaps C.hl hB h15) mv_X10_133 sh_64 rfl rfl (Nat.le_of_ble_eq_true rfl) ⟨(Nat.le_of_ble_eq_true rfl), (Nat.le_of_ble_eq_true rfl)⟩ ⟨(Nat.le_of_ble_eq_true rfl), (Nat.le_of_ble_eq_true rfl)⟩ (fun hB15 => ?_)
      refine go_iinc (ls2 := [some (rf G 64), none, some (.long (lI (((1103515245 * v2) + 12345) % 2147483648))), none, some (.int (iI (v4 + (-1))))]) C dX10_shuffle_105 rfl (Nat.le_of_ble_eq_true rfl) rfl ?_
      refine go_goto (tgt := 69) C dX10_shuffle_108 rfl ?_
      exact ih (((1103515245 * v2) + 12345) % 2147483648) (v4 + (-1)) q15 hB15 h
set_option maxHeartbeats 4000000 in
theorem w_X10_shuffle_30 {G : gC} {X : gX} {res : Int × Mem} {F : Nat} (C : Cx G X cX10_shuffle 5 RX10 1 0 0 (some .int) []) (E : Fnl G X 0 0 (.inr (some (.int (iI res.1)))) res.2) : ∀ (fu : Nat) (v1 : Int) (v2 : Int) (M : Mem), Bd M → f_X10_shuffle_30 F fu v1 v2 M = some res → Go G X 5 0 0 30 [some (rf G 64), some (.int (iI v1)), some (.int (iI v2)), none, none] [] M := by
  intro fu
  induction fu with
  | zero => intro v1 v2 M hB h; exact nomatch (show (none : Option (Int × Mem)) = some res from h)
  | succ fu ih =>
    intro v1 v2 M hB h
    rw [f_X10_shuffle_30] at h
    obtain ⟨⟨hp_v1, hp_v2⟩, h⟩ := chk_some h
    refine go_iload_n C dX10_shuffle_30 rfl rfl ?_
    refine go_aload_n C dX10_shuffle_31 rfl rfl ?_
    refine go_getR (o := 1) (k2 := 65) C dX10_shuffle_32 fl_X10_7 sh_64 rfl rfl ?_
    refine go_iconst C dX10_shuffle_35 ?_
    refine go_iald C dX10_shuffle_36 sh_65 (by decide) ⟨by decide, by decide⟩ ?_
    refine go_icmp_ge (tgt := 56) C dX10_shuffle_37 rfl hp_v2 (hB 65 0 (by decide)) (fun hc8 => ?_) (fun hc8 => ?_)
    · replace h := ite_t hc8 h
      refine go_iload_n C dX10_shuffle_56 rfl rfl ?_
      refine go_i2l C dX10_shuffle_57 hp_v1 ?_
      refine go_lstore_n (ls2 := [some (rf G 64), some (.int (iI v1)), some (.long (lI v1)), none, none]) C dX10_shuffle_58 rfl (Nat.le_of_ble_eq_true rfl) rfl ?_
      refine go_aload_n C dX10_shuffle_59 rfl rfl ?_
      refine go_getR (o := 1) (k2 := 65) C dX10_shuffle_60 fl_X10_7 sh_64 rfl rfl ?_
      refine go_iconst C dX10_shuffle_63 ?_
      refine go_iald C dX10_shuffle_64 sh_65 (by decide) ⟨by decide, by decide⟩ ?_
      refine go_iconst C dX10_shuffle_65 ?_
      refine go_isub C dX10_shuffle_66 ?_
      refine go_istore (ls2 := [some (rf G 64), some (.int (iI v1)), some (.long (lI v1)), none, some (.int (iI ((M 65 0) - 1)))]) C dX10_shuffle_67 (Nat.le_of_ble_eq_true rfl) rfl ?_
      refine go_weak (ls' := [some (rf G 64), none, some (.long (lI v1)), none, some (.int (iI ((M 65 0) - 1)))]) ⟨rfl, ⟨rfl, ⟨rfl, trivial⟩⟩⟩ ?_
      exact w_X10_shuffle_69 C E F v1 ((M 65 0) - 1) M hB h
    · replace h := ite_f hc8 h
      refine go_aload_n C dX10_shuffle_40 rfl rfl ?_
      refine go_getR (o := 1) (k2 := 65) C dX10_shuffle_41 fl_X10_7 sh_64 rfl rfl ?_
      refine go_bipush C dX10_shuffle_44 (by decide +kernel) ?_
      refine go_iload_n C dX10_shuffle_46 rfl rfl ?_
      refine go_iadd C dX10_shuffle_47 ?_
      refine go_iload_n C dX10_shuffle_48 rfl rfl ?_
      obtain ⟨hc16, h⟩ := chk_some h
      refine go_iast C dX10_shuffle_49 sh_65 (by decide) hc16 ?_
      have hB17 := hB.set 65 (50 + v2) (x := v2) hp_v2
      refine go_iinc (ls2 := [some (rf G 64), some (.int (iI v1)), some (.int (iI (v2 + 1))), none, none]) C dX10_shuffle_50 rfl (Nat.le_of_ble_eq_true rfl) rfl ?_
      refine go_goto (tgt := 30) C dX10_shuffle_53 rfl ?_
      exact ih v1 (v2 + 1) (mset M 65 (50 + v2) v2) hB17 h
set_option maxHeartbeats 4000000 in
theorem ok_X10_shuffle {G : gC} {l : Launch} (hl : l.stackTraces = false) {F : Nat} {v1 : Int} {M : Mem} (hB : Bd M) {res : Int × Mem} (h : f_X10_shuffle F v1 M = some res) : Ok G l 1 0 0 yX10_shuffle (.code yX10_shuffle cX10_shuffle 5 (some .int)) [rf G 64, .int (iI v1)] M (.inr (some (.int (iI res.1)))) res.2 := by
  refine ok_of (ls := [some (rf G 64), some (.int (iI v1)), none, none, none]) hl (by decide +kernel) (Nat.le_of_ble_eq_true rfl) ⟨rfl, ⟨rfl, trivial⟩⟩ ?_
  intro X hX C E
  subst hX
  rw [f_X10_shuffle] at h
  refine go_aload_n C dX10_shuffle_0 rfl rfl ?_
  refine go_iload_n C dX10_shuffle_1 rfl rfl ?_
  refine go_iconst C dX10_shuffle_2 ?_
  refine go_ldc (v := 999999) C dX10_shuffle_3 gt_1328 ?_
  obtain ⟨q1, h1, h⟩ := ob_some h
  refine go_callS_i C dX10_shuffle_5 (ok_X10_within C.hl hB h1) ms_X10_56 rfl rfl (Nat.le_of_ble_eq_true rfl) ⟨(Nat.le_of_ble_eq_true rfl), (Nat.le_of_ble_eq_true rfl)⟩ ⟨(Nat.le_of_ble_eq_true rfl), (Nat.le_of_ble_eq_true rfl)⟩ (fun hB1 => ?_)
  obtain ⟨hc2, h⟩ := chk_some h
  refine go_if_eq (tgt := 15) C dX10_shuffle_8 rfl hc2 (fun hc3 => ?_) (fun hc3 => ?_)
  · replace h := ite_t hc3 h
    refine go_iconst C dX10_shuffle_15 ?_
    obtain ⟨q4, h4, h⟩ := ob_some h
    refine go_callV_i C dX10_shuffle_16 (ok_X10_refused C.hl hB1 h4) mv_X10_67 sh_64 rfl rfl (Nat.le_of_ble_eq_true rfl) ⟨(Nat.le_of_ble_eq_true rfl), (Nat.le_of_ble_eq_true rfl)⟩ ⟨(Nat.le_of_ble_eq_true rfl), (Nat.le_of_ble_eq_true rfl)⟩ (fun hB4 => ?_)
    obtain ⟨hc5, h⟩ := chk_some h
    refine go_if_eq (tgt := 24) C dX10_shuffle_19 rfl hc5 (fun hc6 => ?_) (fun hc6 => ?_)
    · replace h := ite_t hc6 h
      refine go_aload_n C dX10_shuffle_24 rfl rfl ?_
      obtain ⟨q7, h7, h⟩ := ob_some h
      refine go_callV_v C dX10_shuffle_25 (ok_X10_saves C.hl hB4 h7) mv_X10_74 sh_64 rfl rfl (Nat.le_of_ble_eq_true rfl) ⟨(Nat.le_of_ble_eq_true rfl), (Nat.le_of_ble_eq_true rfl)⟩ ⟨(Nat.le_of_ble_eq_true rfl), (Nat.le_of_ble_eq_true rfl)⟩ (fun hB7 => ?_)
      refine go_iconst C dX10_shuffle_28 ?_
      refine go_istore_n (ls2 := [some (rf G 64), some (.int (iI v1)), some (.int (iI 0)), none, none]) C dX10_shuffle_29 rfl (Nat.le_of_ble_eq_true rfl) rfl ?_
      exact w_X10_shuffle_30 C E F v1 0 q7 hB7 h
    · replace h := ite_f hc6 h
      refine go_iconst C dX10_shuffle_22 ?_
      cases h
      exact go_iret C E rfl dX10_shuffle_23 (Nat.le_of_ble_eq_true rfl) (Nat.le_of_ble_eq_true rfl) rfl rfl hB4
  · replace h := ite_f hc3 h
    refine go_iconst C dX10_shuffle_11 ?_
    refine go_goto (tgt := 16) C dX10_shuffle_12 rfl ?_
    obtain ⟨q18, h18, h⟩ := ob_some h
    refine go_callV_i C dX10_shuffle_16 (ok_X10_refused C.hl hB1 h18) mv_X10_67 sh_64 rfl rfl (Nat.le_of_ble_eq_true rfl) ⟨(Nat.le_of_ble_eq_true rfl), (Nat.le_of_ble_eq_true rfl)⟩ ⟨(Nat.le_of_ble_eq_true rfl), (Nat.le_of_ble_eq_true rfl)⟩ (fun hB18 => ?_)
    obtain ⟨hc19, h⟩ := chk_some h
    refine go_if_eq (tgt := 24) C dX10_shuffle_19 rfl hc19 (fun hc20 => ?_) (fun hc20 => ?_)
    · replace h := ite_t hc20 h
      refine go_aload_n C dX10_shuffle_24 rfl rfl ?_
      obtain ⟨q21, h21, h⟩ := ob_some h
      refine go_callV_v C dX10_shuffle_25 (ok_X10_saves C.hl hB18 h21) mv_X10_74 sh_64 rfl rfl (Nat.le_of_ble_eq_true rfl) ⟨(Nat.le_of_ble_eq_true rfl), (Nat.le_of_ble_eq_true rfl)⟩ ⟨(Nat.le_of_ble_eq_true rfl), (Nat.le_of_ble_eq_true rfl)⟩ (fun hB21 => ?_)
      refine go_iconst C dX10_shuffle_28 ?_
      refine go_istore_n (ls2 := [some (rf G 64), some (.int (iI v1)), some (.int (iI 0)), none, none]) C dX10_shuffle_29 rfl (Nat.le_of_ble_eq_true rfl) rfl ?_
      exact w_X10_shuffle_30 C E F v1 0 q21 hB21 h
    · replace h := ite_f hc20 h
      refine go_iconst C dX10_shuffle_22 ?_
      cases h
      exact go_iret C E rfl dX10_shuffle_23 (Nat.le_of_ble_eq_true rfl) (Nat.le_of_ble_eq_true rfl) rfl rfl hB18
-- IntervalRouterModel.netSize()I
set_option maxHeartbeats 4000000 in
theorem w_X10_netSize_4 {G : gC} {X : gX} {res : Int × Mem} {F : Nat} (C : Cx G X cX10_netSize 3 RX10 3 0 0 (some .int) []) (E : Fnl G X 0 0 (.inr (some (.int (iI res.1)))) res.2) : ∀ (fu : Nat) (v1 : Int) (v2 : Int) (M : Mem), Bd M → f_X10_netSize_4 F fu v1 v2 M = some res → Go G X 3 0 0 4 [some (rf G 64), some (.int (iI v1)), some (.int (iI v2))] [] M := by
  intro fu
  induction fu with
  | zero => intro v1 v2 M hB h; exact nomatch (show (none : Option (Int × Mem)) = some res from h)
  | succ fu ih =>
    intro v1 v2 M hB h
    rw [f_X10_netSize_4] at h
    obtain ⟨hp_v2, h⟩ := chk_some h
    refine go_iload_n C dX10_netSize_4 rfl rfl ?_
    refine go_aload_n C dX10_netSize_5 rfl rfl ?_
    refine go_getR (o := 1) (k2 := 65) C dX10_netSize_6 fl_X10_7 sh_64 rfl rfl ?_
    refine go_iconst C dX10_netSize_9 ?_
    refine go_iald C dX10_netSize_10 sh_65 (by decide) ⟨by decide, by decide⟩ ?_
    refine go_icmp_ge (tgt := 32) C dX10_netSize_11 rfl hp_v2 (hB 65 0 (by decide)) (fun hc1 => ?_) (fun hc1 => ?_)
    · replace h := ite_t hc1 h
      refine go_iload_n C dX10_netSize_32 rfl rfl ?_
      cases h
      exact go_iret C E rfl dX10_netSize_33 (Nat.le_of_ble_eq_true rfl) (Nat.le_of_ble_eq_true rfl) rfl rfl hB
    · replace h := ite_f hc1 h
      refine go_aload_n C dX10_netSize_14 rfl rfl ?_
      refine go_iload_n C dX10_netSize_15 rfl rfl ?_
      obtain ⟨q2, h2, h⟩ := ob_some h
      refine go_callV_v C dX10_netSize_16 (ok_X10_laysRing C.hl hB h2) mv_X10_165 sh_64 rfl rfl (Nat.le_of_ble_eq_true rfl) ⟨(Nat.le_of_ble_eq_true rfl), (Nat.le_of_ble_eq_true rfl)⟩ ⟨(Nat.le_of_ble_eq_true rfl), (Nat.le_of_ble_eq_true rfl)⟩ (fun hB2 => ?_)
      refine go_iload_n C dX10_netSize_19 rfl rfl ?_
      refine go_aload_n C dX10_netSize_20 rfl rfl ?_
      obtain ⟨q3, h3, h⟩ := ob_some h
      refine go_callV_i C dX10_netSize_21 (ok_X10_ringSize C.hl hB2 h3) mv_X10_172 sh_64 rfl rfl (Nat.le_of_ble_eq_true rfl) ⟨(Nat.le_of_ble_eq_true rfl), (Nat.le_of_ble_eq_true rfl)⟩ ⟨(Nat.le_of_ble_eq_true rfl), (Nat.le_of_ble_eq_true rfl)⟩ (fun hB3 => ?_)
      refine go_iadd C dX10_netSize_24 ?_
      refine go_istore_n (ls2 := [some (rf G 64), some (.int (iI (v1 + q3))), some (.int (iI v2))]) C dX10_netSize_25 rfl (Nat.le_of_ble_eq_true rfl) rfl ?_
      refine go_iinc (ls2 := [some (rf G 64), some (.int (iI (v1 + q3))), some (.int (iI (v2 + 1)))]) C dX10_netSize_26 rfl (Nat.le_of_ble_eq_true rfl) rfl ?_
      refine go_goto (tgt := 4) C dX10_netSize_29 rfl ?_
      exact ih (v1 + q3) (v2 + 1) q2 hB3 h
set_option maxHeartbeats 4000000 in
theorem ok_X10_netSize {G : gC} {l : Launch} (hl : l.stackTraces = false) {F : Nat} {M : Mem} (hB : Bd M) {res : Int × Mem} (h : f_X10_netSize F M = some res) : Ok G l 3 0 0 yX10_netSize (.code yX10_netSize cX10_netSize 3 (some .int)) [rf G 64] M (.inr (some (.int (iI res.1)))) res.2 := by
  refine ok_of (ls := [some (rf G 64), none, none]) hl (by decide +kernel) (Nat.le_of_ble_eq_true rfl) ⟨rfl, trivial⟩ ?_
  intro X hX C E
  subst hX
  rw [f_X10_netSize] at h
  refine go_iconst C dX10_netSize_0 ?_
  refine go_istore_n (ls2 := [some (rf G 64), some (.int (iI 0)), none]) C dX10_netSize_1 rfl (Nat.le_of_ble_eq_true rfl) rfl ?_
  refine go_iconst C dX10_netSize_2 ?_
  refine go_istore_n (ls2 := [some (rf G 64), some (.int (iI 0)), some (.int (iI 0))]) C dX10_netSize_3 rfl (Nat.le_of_ble_eq_true rfl) rfl ?_
  exact w_X10_netSize_4 C E F 0 0 M hB h
-- IntervalRouterModel.makeTables()I
set_option maxHeartbeats 4000000 in
theorem w_X10_makeTables_32 {G : gC} {X : gX} {res : Int × Mem} {F : Nat} (C : Cx G X cX10_makeTables 3 RX10 4 0 0 (some .int) []) (E : Fnl G X 0 0 (.inr (some (.int (iI res.1)))) res.2) {k15 : Int → Mem → Option (Int × Mem)} (hk15 : ∀ (v1 : Int) (M : Mem), Bd M → k15 v1 M = some res → Go G X 3 0 0 15 [some (rf G 64), some (.int (iI v1)), none] [] M) : ∀ (fu : Nat) (v1 : Int) (v2 : Int) (M : Mem), Bd M → f_X10_makeTables_32 F k15 fu v1 v2 M = some res → Go G X 3 0 0 32 [some (rf G 64), some (.int (iI v1)), some (.int (iI v2))] [] M := by
  intro fu
  induction fu with
  | zero => intro v1 v2 M hB h; exact nomatch (show (none : Option (Int × Mem)) = some res from h)
  | succ fu ih =>
    intro v1 v2 M hB h
    rw [f_X10_makeTables_32] at h
    obtain ⟨hp_v2, h⟩ := chk_some h
    refine go_iload_n C dX10_makeTables_32 rfl rfl ?_
    refine go_aload_n C dX10_makeTables_33 rfl rfl ?_
    refine go_getI (z := 10) C dX10_makeTables_34 fl_X10_146 sh_64 rfl rfl ?_
    refine go_icmp_ge (tgt := 73) C dX10_makeTables_37 rfl hp_v2 (hB 64 10 (by decide)) (fun hc7 => ?_) (fun hc7 => ?_)
    · replace h := ite_t hc7 h
      refine go_iinc (ls2 := [some (rf G 64), some (.int (iI (v1 + 1))), some (.int (iI v2))]) C dX10_makeTables_73 rfl (Nat.le_of_ble_eq_true rfl) rfl ?_
      refine go_goto (tgt := 15) C dX10_makeTables_76 rfl ?_
      refine go_weak (ls' := [some (rf G 64), some (.int (iI (v1 + 1))), none]) ⟨rfl, ⟨rfl, trivial⟩⟩ ?_
      exact hk15 (v1 + 1) M hB h
    · replace h := ite_f hc7 h
      refine go_aload_n C dX10_makeTables_40 rfl rfl ?_
      refine go_getR (o := 1) (k2 := 65) C dX10_makeTables_41 fl_X10_7 sh_64 rfl rfl ?_
      refine go_bipush C dX10_makeTables_44 (by decide +kernel) ?_
      refine go_bipush C dX10_makeTables_46 (by decide +kernel) ?_
      refine go_iload_n C dX10_makeTables_48 rfl rfl ?_
      refine go_imul C dX10_makeTables_49 ?_
      refine go_iadd C dX10_makeTables_50 ?_
      refine go_aload_n C dX10_makeTables_51 rfl rfl ?_
      refine go_getR (o := 7) (k2 := 71) C dX10_makeTables_52 fl_X10_28 sh_64 rfl rfl ?_
      refine go_iload_n C dX10_makeTables_55 rfl rfl ?_
      obtain ⟨hc8, h⟩ := chk_some h
      refine go_iald C dX10_makeTables_56 sh_71 (by decide) hc8 ?_
      refine go_iadd C dX10_makeTables_57 ?_
      refine go_aload_n C dX10_makeTables_58 rfl rfl ?_
      refine go_getR (o := 6) (k2 := 70) C dX10_makeTables_59 fl_X10_25 sh_64 rfl rfl ?_
      refine go_iload_n C dX10_makeTables_62 rfl rfl ?_
      refine go_iald C dX10_makeTables_63 sh_70 (by decide) hc8 ?_
      refine go_iconst C dX10_makeTables_64 ?_
      refine go_iadd C dX10_makeTables_65 ?_
      obtain ⟨hc9, h⟩ := chk_some h
      obtain ⟨hc10, h⟩ := chk_some h
      refine go_iast C dX10_makeTables_66 sh_65 (by decide) hc9 ?_
      have hB11 := hB.set 65 ((59 + (9 * v1)) + (M 71 v2)) (x := (M 70 v2) + 1) hc10
      refine go_iinc (ls2 := [some (rf G 64), some (.int (iI v1)), some (.int (iI (v2 + 1)))]) C dX10_makeTables_67 rfl (Nat.le_of_ble_eq_true rfl) rfl ?_
      refine go_goto (tgt := 32) C dX10_makeTables_70 rfl ?_
      exact ih v1 (v2 + 1) (mset M 65 ((59 + (9 * v1)) + (M 71 v2)) ((M 70 v2) + 1)) hB11 h
set_option maxHeartbeats 4000000 in
theorem w_X10_makeTables_15 {G : gC} {X : gX} {res : Int × Mem} {F : Nat} (C : Cx G X cX10_makeTables 3 RX10 4 0 0 (some .int) []) (E : Fnl G X 0 0 (.inr (some (.int (iI res.1)))) res.2) : ∀ (fu : Nat) (v1 : Int) (M : Mem), Bd M → f_X10_makeTables_15 F fu v1 M = some res → Go G X 3 0 0 15 [some (rf G 64), some (.int (iI v1)), none] [] M := by
  intro fu
  induction fu with
  | zero => intro v1 M hB h; exact nomatch (show (none : Option (Int × Mem)) = some res from h)
  | succ fu ih =>
    intro v1 M hB h
    rw [f_X10_makeTables_15] at h
    obtain ⟨hp_v1, h⟩ := chk_some h
    refine go_iload_n C dX10_makeTables_15 rfl rfl ?_
    refine go_aload_n C dX10_makeTables_16 rfl rfl ?_
    refine go_getR (o := 1) (k2 := 65) C dX10_makeTables_17 fl_X10_7 sh_64 rfl rfl ?_
    refine go_iconst C dX10_makeTables_20 ?_
    refine go_iald C dX10_makeTables_21 sh_65 (by decide) ⟨by decide, by decide⟩ ?_
    refine go_icmp_ge (tgt := 79) C dX10_makeTables_22 rfl hp_v1 (hB 65 0 (by decide)) (fun hc4 => ?_) (fun hc4 => ?_)
    · replace h := ite_t hc4 h
      refine go_aload_n C dX10_makeTables_79 rfl rfl ?_
      obtain ⟨q5, h5, h⟩ := ob_some h
      refine go_callV_i C dX10_makeTables_80 (ok_X10_netSize C.hl hB h5) mv_X10_178 sh_64 rfl rfl (Nat.le_of_ble_eq_true rfl) ⟨(Nat.le_of_ble_eq_true rfl), (Nat.le_of_ble_eq_true rfl)⟩ ⟨(Nat.le_of_ble_eq_true rfl), (Nat.le_of_ble_eq_true rfl)⟩ (fun hB5 => ?_)
      cases h
      exact go_iret C E rfl dX10_makeTables_83 (Nat.le_of_ble_eq_true rfl) (Nat.le_of_ble_eq_true rfl) rfl rfl hB5
    · replace h := ite_f hc4 h
      refine go_aload_n C dX10_makeTables_25 rfl rfl ?_
      refine go_iload_n C dX10_makeTables_26 rfl rfl ?_
      obtain ⟨q6, h6, h⟩ := ob_some h
      refine go_callV_v C dX10_makeTables_27 (ok_X10_laysBest C.hl hB h6) mv_X10_175 sh_64 rfl rfl (Nat.le_of_ble_eq_true rfl) ⟨(Nat.le_of_ble_eq_true rfl), (Nat.le_of_ble_eq_true rfl)⟩ ⟨(Nat.le_of_ble_eq_true rfl), (Nat.le_of_ble_eq_true rfl)⟩ (fun hB6 => ?_)
      refine go_iconst C dX10_makeTables_30 ?_
      refine go_istore_n (ls2 := [some (rf G 64), some (.int (iI v1)), some (.int (iI 0))]) C dX10_makeTables_31 rfl (Nat.le_of_ble_eq_true rfl) rfl ?_
      exact w_X10_makeTables_32 C E ih F v1 0 q6 hB6 h
set_option maxHeartbeats 4000000 in
theorem ok_X10_makeTables {G : gC} {l : Launch} (hl : l.stackTraces = false) {F : Nat} {M : Mem} (hB : Bd M) {res : Int × Mem} (h : f_X10_makeTables F M = some res) : Ok G l 4 0 0 yX10_makeTables (.code yX10_makeTables cX10_makeTables 3 (some .int)) [rf G 64] M (.inr (some (.int (iI res.1)))) res.2 := by
  refine ok_of (ls := [some (rf G 64), none, none]) hl (by decide +kernel) (Nat.le_of_ble_eq_true rfl) ⟨rfl, trivial⟩ ?_
  intro X hX C E
  subst hX
  rw [f_X10_makeTables] at h
  refine go_aload_n C dX10_makeTables_0 rfl rfl ?_
  refine go_iconst C dX10_makeTables_1 ?_
  refine go_putI (z := 3) C dX10_makeTables_2 fp_X10_52 sh_64 rfl rfl rfl rfl ?_
  have hB1 := hB.set 64 3 (x := 0) (by decide)
  refine go_aload_n C dX10_makeTables_5 rfl rfl ?_
  obtain ⟨q2, h2, h⟩ := ob_some h
  refine go_callV_v C dX10_makeTables_6 (ok_X10_saves C.hl hB1 h2) mv_X10_74 sh_64 rfl rfl (Nat.le_of_ble_eq_true rfl) ⟨(Nat.le_of_ble_eq_true rfl), (Nat.le_of_ble_eq_true rfl)⟩ ⟨(Nat.le_of_ble_eq_true rfl), (Nat.le_of_ble_eq_true rfl)⟩ (fun hB2 => ?_)
  refine go_aload_n C dX10_makeTables_9 rfl rfl ?_
  obtain ⟨q3, h3, h⟩ := ob_some h
  refine go_callV_v C dX10_makeTables_10 (ok_X10_laysFar C.hl hB2 h3) mv_X10_101 sh_64 rfl rfl (Nat.le_of_ble_eq_true rfl) ⟨(Nat.le_of_ble_eq_true rfl), (Nat.le_of_ble_eq_true rfl)⟩ ⟨(Nat.le_of_ble_eq_true rfl), (Nat.le_of_ble_eq_true rfl)⟩ (fun hB3 => ?_)
  refine go_iconst C dX10_makeTables_13 ?_
  refine go_istore_n (ls2 := [some (rf G 64), some (.int (iI 0)), none]) C dX10_makeTables_14 rfl (Nat.le_of_ble_eq_true rfl) rfl ?_
  exact w_X10_makeTables_15 C E F 0 q3 hB3 h
-- IntervalRouterModel.setRange(IIII)I
set_option maxHeartbeats 4000000 in
theorem w_X10_setRange_112 {G : gC} {X : gX} {res : Int × Mem} {F : Nat} (C : Cx G X cX10_setRange 9 RX10 2 0 0 (some .int) []) (E : Fnl G X 0 0 (.inr (some (.int (iI res.1)))) res.2) {k95 : Int → Int → Int → Int → Int → Int → Mem → Option (Int × Mem)} (hk95 : ∀ (v1 : Int) (v2 : Int) (v4 : Int) (v6 : Int) (v7 : Int) (v8 : Int) (M : Mem), Bd M → k95 v1 v2 v4 v6 v7 v8 M = some res → Go G X 9 0 0 95 [some (rf G 64), some (.int (iI v1)), some (.int (iI v2)), none, some (.int (iI v4)), none, some (.int (iI v6)), some (.int (iI v7)), some (.int (iI v8))] [] M) : ∀ (v1 : Int) (v2 : Int) (v4 : Int) (v6 : Int) (v7 : Int) (t0 : Int) (M : Mem), Bd M → f_X10_setRange_112 F k95 v1 v2 v4 v6 v7 t0 M = some res → Go G X 9 0 0 112 [some (rf G 64), some (.int (iI v1)), some (.int (iI v2)), none, some (.int (iI v4)), none, some (.int (iI v6)), some (.int (iI v7)), none] [.int (iI t0)] M := by
  intro v1 v2 v4 v6 v7 t0 M hB h
  rw [f_X10_setRange_112] at h
  obtain ⟨⟨hp_v2, hp_v7⟩, h⟩ := chk_some h
  refine go_istore (ls2 := [some (rf G 64), some (.int (iI v1)), some (.int (iI v2)), none, some (.int (iI v4)), none, some (.int (iI v6)), some (.int (iI v7)), some (.int (iI t0))]) C dX10_setRange_112 (Nat.le_of_ble_eq_true rfl) rfl ?_
  refine go_iload C dX10_setRange_114 rfl ?_
  refine go_aload_n C dX10_setRange_116 rfl rfl ?_
  refine go_getR (o := 1) (k2 := 65) C dX10_setRange_117 fl_X10_7 sh_64 rfl rfl ?_
  refine go_bipush C dX10_setRange_120 (by decide +kernel) ?_
  refine go_iload_n C dX10_setRange_122 rfl rfl ?_
  refine go_iadd C dX10_setRange_123 ?_
  obtain ⟨hc12, h⟩ := chk_some h
  refine go_iald C dX10_setRange_124 sh_65 (by decide) hc12 ?_
  refine go_icmp_eq (tgt := 167) C dX10_setRange_125 rfl hp_v7 (hB 65 (50 + v1) (by decide)) (fun hc13 => ?_) (fun hc13 => ?_)
  · replace h := ite_t hc13 h
    refine go_iload C dX10_setRange_167 rfl ?_
    refine go_iconst C dX10_setRange_169 ?_
    refine go_iadd C dX10_setRange_170 ?_
    refine go_aload_n C dX10_setRange_171 rfl rfl ?_
    refine go_getR (o := 1) (k2 := 65) C dX10_setRange_172 fl_X10_7 sh_64 rfl rfl ?_
    refine go_iconst C dX10_setRange_175 ?_
    refine go_iald C dX10_setRange_176 sh_65 (by decide) ⟨by decide, by decide⟩ ?_
    obtain ⟨hc14, h⟩ := chk_some h
    refine go_irem C dX10_setRange_177 hc14 ?_
    refine go_istore (ls2 := [some (rf G 64), some (.int (iI v1)), some (.int (iI v2)), none, some (.int (iI v4)), none, some (.int (iI v6)), some (.int (iI ((v7 + 1) % (M 65 0)))), some (.int (iI t0))]) C dX10_setRange_178 (Nat.le_of_ble_eq_true rfl) rfl ?_
    refine go_goto (tgt := 95) C dX10_setRange_180 rfl ?_
    exact hk95 v1 v2 v4 v6 ((v7 + 1) % (M 65 0)) t0 M hB h
  · replace h := ite_f hc13 h
    refine go_iload C dX10_setRange_128 rfl ?_
    refine go_aload_n C dX10_setRange_130 rfl rfl ?_
    refine go_iload_n C dX10_setRange_131 rfl rfl ?_
    refine go_iload C dX10_setRange_132 rfl ?_
    obtain ⟨q15, h15, h⟩ := ob_some h
    refine go_callV_i C dX10_setRange_134 (ok_X10_entryAt C.hl hB h15) mv_X10_149 sh_64 rfl rfl (Nat.le_of_ble_eq_true rfl) ⟨(Nat.le_of_ble_eq_true rfl), (Nat.le_of_ble_eq_true rfl)⟩ ⟨(Nat.le_of_ble_eq_true rfl), (Nat.le_of_ble_eq_true rfl)⟩ (fun hB15 => ?_)
    refine go_iload_n C dX10_setRange_137 rfl rfl ?_
    obtain ⟨hc16, h⟩ := chk_some h
    refine go_icmp_ne (tgt := 145) C dX10_setRange_138 rfl hc16 hp_v2 (fun hc17 => ?_) (fun hc17 => ?_)
    · replace h := ite_f hc17 h
      refine go_iconst C dX10_setRange_145 ?_
      refine go_iadd C dX10_setRange_146 ?_
      refine go_istore (ls2 := [some (rf G 64), some (.int (iI v1)), some (.int (iI v2)), none, some (.int (iI v4)), none, some (.int (iI (v6 + 1))), some (.int (iI v7)), some (.int (iI t0))]) C dX10_setRange_147 (Nat.le_of_ble_eq_true rfl) rfl ?_
      refine go_aload_n C dX10_setRange_149 rfl rfl ?_
      refine go_getR (o := 1) (k2 := 65) C dX10_setRange_150 fl_X10_7 sh_64 rfl rfl ?_
      refine go_bipush C dX10_setRange_153 (by decide +kernel) ?_
      refine go_bipush C dX10_setRange_155 (by decide +kernel) ?_
      refine go_iload_n C dX10_setRange_157 rfl rfl ?_
      refine go_imul C dX10_setRange_158 ?_
      refine go_iadd C dX10_setRange_159 ?_
      refine go_iload C dX10_setRange_160 rfl ?_
      refine go_iadd C dX10_setRange_162 ?_
      refine go_iload_n C dX10_setRange_163 rfl rfl ?_
      refine go_iconst C dX10_setRange_164 ?_
      refine go_iadd C dX10_setRange_165 ?_
      obtain ⟨hc18, h⟩ := chk_some h
      obtain ⟨hc19, h⟩ := chk_some h
      refine go_iast C dX10_setRange_166 sh_65 (by decide) hc18 ?_
      have hB20 := hB15.set 65 ((59 + (9 * v1)) + v7) (x := v2 + 1) hc19
      refine go_iload C dX10_setRange_167 rfl ?_
      refine go_iconst C dX10_setRange_169 ?_
      refine go_iadd C dX10_setRange_170 ?_
      refine go_aload_n C dX10_setRange_171 rfl rfl ?_
      refine go_getR (o := 1) (k2 := 65) C dX10_setRange_172 fl_X10_7 sh_64 rfl rfl ?_
      refine go_iconst C dX10_setRange_175 ?_
      refine go_iald C dX10_setRange_176 sh_65 (by decide) ⟨by decide, by decide⟩ ?_
      obtain ⟨hc21, h⟩ := chk_some h
      refine go_irem C dX10_setRange_177 hc21 ?_
      refine go_istore (ls2 := [some (rf G 64), some (.int (iI v1)), some (.int (iI v2)), none, some (.int (iI v4)), none, some (.int (iI (v6 + 1))), some (.int (iI ((v7 + 1) % ((mset M 65 ((59 + (9 * v1)) + v7) (v2 + 1)) 65 0)))), some (.int (iI t0))]) C dX10_setRange_178 (Nat.le_of_ble_eq_true rfl) rfl ?_
      refine go_goto (tgt := 95) C dX10_setRange_180 rfl ?_
      exact hk95 v1 v2 v4 (v6 + 1) ((v7 + 1) % ((mset M 65 ((59 + (9 * v1)) + v7) (v2 + 1)) 65 0)) t0 (mset M 65 ((59 + (9 * v1)) + v7) (v2 + 1)) hB20 h
    · replace h := ite_t hc17 h
      refine go_iconst C dX10_setRange_141 ?_
      refine go_goto (tgt := 146) C dX10_setRange_142 rfl ?_
      refine go_iadd C dX10_setRange_146 ?_
      refine go_istore (ls2 := [some (rf G 64), some (.int (iI v1)), some (.int (iI v2)), none, some (.int (iI v4)), none, some (.int (iI (v6 + 0))), some (.int (iI v7)), some (.int (iI t0))]) C dX10_setRange_147 (Nat.le_of_ble_eq_true rfl) rfl ?_
      refine go_aload_n C dX10_setRange_149 rfl rfl ?_
      refine go_getR (o := 1) (k2 := 65) C dX10_setRange_150 fl_X10_7 sh_64 rfl rfl ?_
      refine go_bipush C dX10_setRange_153 (by decide +kernel) ?_
      refine go_bipush C dX10_setRange_155 (by decide +kernel) ?_
      refine go_iload_n C dX10_setRange_157 rfl rfl ?_
      refine go_imul C dX10_setRange_158 ?_
      refine go_iadd C dX10_setRange_159 ?_
      refine go_iload C dX10_setRange_160 rfl ?_
      refine go_iadd C dX10_setRange_162 ?_
      refine go_iload_n C dX10_setRange_163 rfl rfl ?_
      refine go_iconst C dX10_setRange_164 ?_
      refine go_iadd C dX10_setRange_165 ?_
      obtain ⟨hc22, h⟩ := chk_some h
      obtain ⟨hc23, h⟩ := chk_some h
      refine go_iast C dX10_setRange_166 sh_65 (by decide) hc22 ?_
      have hB24 := hB15.set 65 ((59 + (9 * v1)) + v7) (x := v2 + 1) hc23
      refine go_iload C dX10_setRange_167 rfl ?_
      refine go_iconst C dX10_setRange_169 ?_
      refine go_iadd C dX10_setRange_170 ?_
      refine go_aload_n C dX10_setRange_171 rfl rfl ?_
      refine go_getR (o := 1) (k2 := 65) C dX10_setRange_172 fl_X10_7 sh_64 rfl rfl ?_
      refine go_iconst C dX10_setRange_175 ?_
      refine go_iald C dX10_setRange_176 sh_65 (by decide) ⟨by decide, by decide⟩ ?_
      obtain ⟨hc25, h⟩ := chk_some h
      refine go_irem C dX10_setRange_177 hc25 ?_
      refine go_istore (ls2 := [some (rf G 64), some (.int (iI v1)), some (.int (iI v2)), none, some (.int (iI v4)), none, some (.int (iI (v6 + 0))), some (.int (iI ((v7 + 1) % ((mset M 65 ((59 + (9 * v1)) + v7) (v2 + 1)) 65 0)))), some (.int (iI t0))]) C dX10_setRange_178 (Nat.le_of_ble_eq_true rfl) rfl ?_
      refine go_goto (tgt := 95) C dX10_setRange_180 rfl ?_
      exact hk95 v1 v2 v4 (v6 + 0) ((v7 + 1) % ((mset M 65 ((59 + (9 * v1)) + v7) (v2 + 1)) 65 0)) t0 (mset M 65 ((59 + (9 * v1)) + v7) (v2 + 1)) hB24 h
set_option maxHeartbeats 4000000 in
theorem w_X10_setRange_95 {G : gC} {X : gX} {res : Int × Mem} {F : Nat} (C : Cx G X cX10_setRange 9 RX10 2 0 0 (some .int) []) (E : Fnl G X 0 0 (.inr (some (.int (iI res.1)))) res.2) : ∀ (fu : Nat) (v1 : Int) (v2 : Int) (v4 : Int) (v6 : Int) (v7 : Int) (v8 : Int) (M : Mem), Bd M → f_X10_setRange_95 F fu v1 v2 v4 v6 v7 v8 M = some res → Go G X 9 0 0 95 [some (rf G 64), some (.int (iI v1)), some (.int (iI v2)), none, some (.int (iI v4)), none, some (.int (iI v6)), some (.int (iI v7)), some (.int (iI v8))] [] M := by
  intro fu
  induction fu with
  | zero => intro v1 v2 v4 v6 v7 v8 M hB h; exact nomatch (show (none : Option (Int × Mem)) = some res from h)
  | succ fu ih =>
    intro v1 v2 v4 v6 v7 v8 M hB h
    rw [f_X10_setRange_95] at h
    obtain ⟨⟨hp_v4, hp_v7, hp_v8⟩, h⟩ := chk_some h
    refine go_iload C dX10_setRange_95 rfl ?_
    refine go_if_eq (tgt := 183) C dX10_setRange_97 rfl hp_v8 (fun hc10 => ?_) (fun hc10 => ?_)
    · replace h := ite_t hc10 h
      refine go_iload C dX10_setRange_183 rfl ?_
      cases h
      exact go_iret C E rfl dX10_setRange_185 (Nat.le_of_ble_eq_true rfl) (Nat.le_of_ble_eq_true rfl) rfl rfl hB
    · replace h := ite_f hc10 h
      refine go_iload C dX10_setRange_100 rfl ?_
      refine go_iload C dX10_setRange_102 rfl ?_
      refine go_icmp_eq (tgt := 111) C dX10_setRange_104 rfl hp_v7 hp_v4 (fun hc11 => ?_) (fun hc11 => ?_)
      · replace h := ite_t hc11 h
        refine go_iconst C dX10_setRange_111 ?_
        refine go_weak (ls' := [some (rf G 64), some (.int (iI v1)), some (.int (iI v2)), none, some (.int (iI v4)), none, some (.int (iI v6)), some (.int (iI v7)), none]) ⟨rfl, ⟨rfl, ⟨rfl, ⟨rfl, ⟨rfl, ⟨rfl, trivial⟩⟩⟩⟩⟩⟩ ?_
        exact w_X10_setRange_112 C E ih v1 v2 v4 v6 v7 0 M hB h
      · replace h := ite_f hc11 h
        refine go_iconst C dX10_setRange_107 ?_
        refine go_goto (tgt := 112) C dX10_setRange_108 rfl ?_
        refine go_weak (ls' := [some (rf G 64), some (.int (iI v1)), some (.int (iI v2)), none, some (.int (iI v4)), none, some (.int (iI v6)), some (.int (iI v7)), none]) ⟨rfl, ⟨rfl, ⟨rfl, ⟨rfl, ⟨rfl, ⟨rfl, trivial⟩⟩⟩⟩⟩⟩ ?_
        exact w_X10_setRange_112 C E ih v1 v2 v4 v6 v7 1 M hB h
set_option maxHeartbeats 4000000 in
theorem w_X10_setRange_43 {G : gC} {X : gX} {res : Int × Mem} {F : Nat} (C : Cx G X cX10_setRange 9 RX10 2 0 0 (some .int) []) (E : Fnl G X 0 0 (.inr (some (.int (iI res.1)))) res.2) : ∀ (v1 : Int) (v2 : Int) (v3 : Int) (v4 : Int) (t0 : Int) (M : Mem), Bd M → f_X10_setRange_43 F v1 v2 v3 v4 t0 M = some res → Go G X 9 0 0 43 [some (rf G 64), some (.int (iI v1)), some (.int (iI v2)), some (.int (iI v3)), some (.int (iI v4)), none, none, none, none] [.int (iI t0)] M := by
  intro v1 v2 v3 v4 t0 M hB h
  rw [f_X10_setRange_43] at h
  obtain ⟨⟨hp_v2, hp_t0⟩, h⟩ := chk_some h
  refine go_istore (ls2 := [some (rf G 64), some (.int (iI v1)), some (.int (iI v2)), some (.int (iI v3)), some (.int (iI v4)), some (.int (iI t0)), none, none, none]) C dX10_setRange_43 (Nat.le_of_ble_eq_true rfl) rfl ?_
  refine go_aload_n C dX10_setRange_45 rfl rfl ?_
  refine go_iload C dX10_setRange_46 rfl ?_
  refine go_if_ne (tgt := 55) C dX10_setRange_48 rfl hp_t0 (fun hc4 => ?_) (fun hc4 => ?_)
  · replace h := ite_f hc4 h
    refine go_iload_n C dX10_setRange_55 rfl rfl ?_
    refine go_iconst C dX10_setRange_56 ?_
    refine go_icmp_eq (tgt := 69) C dX10_setRange_57 rfl hp_v2 (by decide) (fun hc5 => ?_) (fun hc5 => ?_)
    · replace h := ite_t hc5 h
      refine go_iconst C dX10_setRange_69 ?_
      refine go_goto (tgt := 74) C dX10_setRange_70 rfl ?_
      obtain ⟨q6, h6, h⟩ := ob_some h
      refine go_callV_i C dX10_setRange_74 (ok_X10_refused C.hl hB h6) mv_X10_67 sh_64 rfl rfl (Nat.le_of_ble_eq_true rfl) ⟨(Nat.le_of_ble_eq_true rfl), (Nat.le_of_ble_eq_true rfl)⟩ ⟨(Nat.le_of_ble_eq_true rfl), (Nat.le_of_ble_eq_true rfl)⟩ (fun hB6 => ?_)
      obtain ⟨hc7, h⟩ := chk_some h
      refine go_if_eq (tgt := 82) C dX10_setRange_77 rfl hc7 (fun hc8 => ?_) (fun hc8 => ?_)
      · replace h := ite_t hc8 h
        refine go_aload_n C dX10_setRange_82 rfl rfl ?_
        obtain ⟨q9, h9, h⟩ := ob_some h
        refine go_callV_v C dX10_setRange_83 (ok_X10_saves C.hl hB6 h9) mv_X10_74 sh_64 rfl rfl (Nat.le_of_ble_eq_true rfl) ⟨(Nat.le_of_ble_eq_true rfl), (Nat.le_of_ble_eq_true rfl)⟩ ⟨(Nat.le_of_ble_eq_true rfl), (Nat.le_of_ble_eq_true rfl)⟩ (fun hB9 => ?_)
        refine go_iconst C dX10_setRange_86 ?_
        refine go_istore (ls2 := [some (rf G 64), some (.int (iI v1)), some (.int (iI v2)), some (.int (iI v3)), some (.int (iI v4)), some (.int (iI t0)), some (.int (iI 0)), none, none]) C dX10_setRange_87 (Nat.le_of_ble_eq_true rfl) rfl ?_
        refine go_iload_n C dX10_setRange_89 rfl rfl ?_
        refine go_istore (ls2 := [some (rf G 64), some (.int (iI v1)), some (.int (iI v2)), some (.int (iI v3)), some (.int (iI v4)), some (.int (iI t0)), some (.int (iI 0)), some (.int (iI v3)), none]) C dX10_setRange_90 (Nat.le_of_ble_eq_true rfl) rfl ?_
        refine go_iconst C dX10_setRange_92 ?_
        refine go_istore (ls2 := [some (rf G 64), some (.int (iI v1)), some (.int (iI v2)), some (.int (iI v3)), some (.int (iI v4)), some (.int (iI t0)), some (.int (iI 0)), some (.int (iI v3)), some (.int (iI 1))]) C dX10_setRange_93 (Nat.le_of_ble_eq_true rfl) rfl ?_
        refine go_weak (ls' := [some (rf G 64), some (.int (iI v1)), some (.int (iI v2)), none, some (.int (iI v4)), none, some (.int (iI 0)), some (.int (iI v3)), some (.int (iI 1))]) ⟨rfl, ⟨rfl, ⟨rfl, ⟨rfl, ⟨rfl, ⟨rfl, ⟨rfl, trivial⟩⟩⟩⟩⟩⟩⟩ ?_
        exact w_X10_setRange_95 C E F v1 v2 v4 0 v3 1 q9 hB9 h
      · replace h := ite_f hc8 h
        refine go_iconst C dX10_setRange_80 ?_
        cases h
        exact go_iret C E rfl dX10_setRange_81 (Nat.le_of_ble_eq_true rfl) (Nat.le_of_ble_eq_true rfl) rfl rfl hB6
    · replace h := ite_f hc5 h
      refine go_aload_n C dX10_setRange_60 rfl rfl ?_
      refine go_iload_n C dX10_setRange_61 rfl rfl ?_
      refine go_iload_n C dX10_setRange_62 rfl rfl ?_
      obtain ⟨q26, h26, h⟩ := ob_some h
      refine go_callV_i C dX10_setRange_63 (ok_X10_isOf C.hl hB h26) mv_X10_81 sh_64 rfl rfl (Nat.le_of_ble_eq_true rfl) ⟨(Nat.le_of_ble_eq_true rfl), (Nat.le_of_ble_eq_true rfl)⟩ ⟨(Nat.le_of_ble_eq_true rfl), (Nat.le_of_ble_eq_true rfl)⟩ (fun hB26 => ?_)
      obtain ⟨hc27, h⟩ := chk_some h
      refine go_if_eq (tgt := 73) C dX10_setRange_66 rfl hc27 (fun hc28 => ?_) (fun hc28 => ?_)
      · replace h := ite_t hc28 h
        refine go_iconst C dX10_setRange_73 ?_
        obtain ⟨q29, h29, h⟩ := ob_some h
        refine go_callV_i C dX10_setRange_74 (ok_X10_refused C.hl hB26 h29) mv_X10_67 sh_64 rfl rfl (Nat.le_of_ble_eq_true rfl) ⟨(Nat.le_of_ble_eq_true rfl), (Nat.le_of_ble_eq_true rfl)⟩ ⟨(Nat.le_of_ble_eq_true rfl), (Nat.le_of_ble_eq_true rfl)⟩ (fun hB29 => ?_)
        obtain ⟨hc30, h⟩ := chk_some h
        refine go_if_eq (tgt := 82) C dX10_setRange_77 rfl hc30 (fun hc31 => ?_) (fun hc31 => ?_)
        · replace h := ite_t hc31 h
          refine go_aload_n C dX10_setRange_82 rfl rfl ?_
          obtain ⟨q32, h32, h⟩ := ob_some h
          refine go_callV_v C dX10_setRange_83 (ok_X10_saves C.hl hB29 h32) mv_X10_74 sh_64 rfl rfl (Nat.le_of_ble_eq_true rfl) ⟨(Nat.le_of_ble_eq_true rfl), (Nat.le_of_ble_eq_true rfl)⟩ ⟨(Nat.le_of_ble_eq_true rfl), (Nat.le_of_ble_eq_true rfl)⟩ (fun hB32 => ?_)
          refine go_iconst C dX10_setRange_86 ?_
          refine go_istore (ls2 := [some (rf G 64), some (.int (iI v1)), some (.int (iI v2)), some (.int (iI v3)), some (.int (iI v4)), some (.int (iI t0)), some (.int (iI 0)), none, none]) C dX10_setRange_87 (Nat.le_of_ble_eq_true rfl) rfl ?_
          refine go_iload_n C dX10_setRange_89 rfl rfl ?_
          refine go_istore (ls2 := [some (rf G 64), some (.int (iI v1)), some (.int (iI v2)), some (.int (iI v3)), some (.int (iI v4)), some (.int (iI t0)), some (.int (iI 0)), some (.int (iI v3)), none]) C dX10_setRange_90 (Nat.le_of_ble_eq_true rfl) rfl ?_
          refine go_iconst C dX10_setRange_92 ?_
          refine go_istore (ls2 := [some (rf G 64), some (.int (iI v1)), some (.int (iI v2)), some (.int (iI v3)), some (.int (iI v4)), some (.int (iI t0)), some (.int (iI 0)), some (.int (iI v3)), some (.int (iI 1))]) C dX10_setRange_93 (Nat.le_of_ble_eq_true rfl) rfl ?_
          refine go_weak (ls' := [some (rf G 64), some (.int (iI v1)), some (.int (iI v2)), none, some (.int (iI v4)), none, some (.int (iI 0)), some (.int (iI v3)), some (.int (iI 1))]) ⟨rfl, ⟨rfl, ⟨rfl, ⟨rfl, ⟨rfl, ⟨rfl, ⟨rfl, trivial⟩⟩⟩⟩⟩⟩⟩ ?_
          exact w_X10_setRange_95 C E F v1 v2 v4 0 v3 1 q32 hB32 h
        · replace h := ite_f hc31 h
          refine go_iconst C dX10_setRange_80 ?_
          cases h
          exact go_iret C E rfl dX10_setRange_81 (Nat.le_of_ble_eq_true rfl) (Nat.le_of_ble_eq_true rfl) rfl rfl hB29
      · replace h := ite_f hc28 h
        refine go_iconst C dX10_setRange_69 ?_
        refine go_goto (tgt := 74) C dX10_setRange_70 rfl ?_
        obtain ⟨q33, h33, h⟩ := ob_some h
        refine go_callV_i C dX10_setRange_74 (ok_X10_refused C.hl hB26 h33) mv_X10_67 sh_64 rfl rfl (Nat.le_of_ble_eq_true rfl) ⟨(Nat.le_of_ble_eq_true rfl), (Nat.le_of_ble_eq_true rfl)⟩ ⟨(Nat.le_of_ble_eq_true rfl), (Nat.le_of_ble_eq_true rfl)⟩ (fun hB33 => ?_)
        obtain ⟨hc34, h⟩ := chk_some h
        refine go_if_eq (tgt := 82) C dX10_setRange_77 rfl hc34 (fun hc35 => ?_) (fun hc35 => ?_)
        · replace h := ite_t hc35 h
          refine go_aload_n C dX10_setRange_82 rfl rfl ?_
          obtain ⟨q36, h36, h⟩ := ob_some h
          refine go_callV_v C dX10_setRange_83 (ok_X10_saves C.hl hB33 h36) mv_X10_74 sh_64 rfl rfl (Nat.le_of_ble_eq_true rfl) ⟨(Nat.le_of_ble_eq_true rfl), (Nat.le_of_ble_eq_true rfl)⟩ ⟨(Nat.le_of_ble_eq_true rfl), (Nat.le_of_ble_eq_true rfl)⟩ (fun hB36 => ?_)
          refine go_iconst C dX10_setRange_86 ?_
          refine go_istore (ls2 := [some (rf G 64), some (.int (iI v1)), some (.int (iI v2)), some (.int (iI v3)), some (.int (iI v4)), some (.int (iI t0)), some (.int (iI 0)), none, none]) C dX10_setRange_87 (Nat.le_of_ble_eq_true rfl) rfl ?_
          refine go_iload_n C dX10_setRange_89 rfl rfl ?_
          refine go_istore (ls2 := [some (rf G 64), some (.int (iI v1)), some (.int (iI v2)), some (.int (iI v3)), some (.int (iI v4)), some (.int (iI t0)), some (.int (iI 0)), some (.int (iI v3)), none]) C dX10_setRange_90 (Nat.le_of_ble_eq_true rfl) rfl ?_
          refine go_iconst C dX10_setRange_92 ?_
          refine go_istore (ls2 := [some (rf G 64), some (.int (iI v1)), some (.int (iI v2)), some (.int (iI v3)), some (.int (iI v4)), some (.int (iI t0)), some (.int (iI 0)), some (.int (iI v3)), some (.int (iI 1))]) C dX10_setRange_93 (Nat.le_of_ble_eq_true rfl) rfl ?_
          refine go_weak (ls' := [some (rf G 64), some (.int (iI v1)), some (.int (iI v2)), none, some (.int (iI v4)), none, some (.int (iI 0)), some (.int (iI v3)), some (.int (iI 1))]) ⟨rfl, ⟨rfl, ⟨rfl, ⟨rfl, ⟨rfl, ⟨rfl, ⟨rfl, trivial⟩⟩⟩⟩⟩⟩⟩ ?_
          exact w_X10_setRange_95 C E F v1 v2 v4 0 v3 1 q36 hB36 h
        · replace h := ite_f hc35 h
          refine go_iconst C dX10_setRange_80 ?_
          cases h
          exact go_iret C E rfl dX10_setRange_81 (Nat.le_of_ble_eq_true rfl) (Nat.le_of_ble_eq_true rfl) rfl rfl hB33
  · replace h := ite_t hc4 h
    refine go_iconst C dX10_setRange_51 ?_
    refine go_goto (tgt := 74) C dX10_setRange_52 rfl ?_
    obtain ⟨q37, h37, h⟩ := ob_some h
    refine go_callV_i C dX10_setRange_74 (ok_X10_refused C.hl hB h37) mv_X10_67 sh_64 rfl rfl (Nat.le_of_ble_eq_true rfl) ⟨(Nat.le_of_ble_eq_true rfl), (Nat.le_of_ble_eq_true rfl)⟩ ⟨(Nat.le_of_ble_eq_true rfl), (Nat.le_of_ble_eq_true rfl)⟩ (fun hB37 => ?_)
    obtain ⟨hc38, h⟩ := chk_some h
    refine go_if_eq (tgt := 82) C dX10_setRange_77 rfl hc38 (fun hc39 => ?_) (fun hc39 => ?_)
    · replace h := ite_t hc39 h
      refine go_aload_n C dX10_setRange_82 rfl rfl ?_
      obtain ⟨q40, h40, h⟩ := ob_some h
      refine go_callV_v C dX10_setRange_83 (ok_X10_saves C.hl hB37 h40) mv_X10_74 sh_64 rfl rfl (Nat.le_of_ble_eq_true rfl) ⟨(Nat.le_of_ble_eq_true rfl), (Nat.le_of_ble_eq_true rfl)⟩ ⟨(Nat.le_of_ble_eq_true rfl), (Nat.le_of_ble_eq_true rfl)⟩ (fun hB40 => ?_)
      refine go_iconst C dX10_setRange_86 ?_
      refine go_istore (ls2 := [some (rf G 64), some (.int (iI v1)), some (.int (iI v2)), some (.int (iI v3)), some (.int (iI v4)), some (.int (iI t0)), some (.int (iI 0)), none, none]) C dX10_setRange_87 (Nat.le_of_ble_eq_true rfl) rfl ?_
      refine go_iload_n C dX10_setRange_89 rfl rfl ?_
      refine go_istore (ls2 := [some (rf G 64), some (.int (iI v1)), some (.int (iI v2)), some (.int (iI v3)), some (.int (iI v4)), some (.int (iI t0)), some (.int (iI 0)), some (.int (iI v3)), none]) C dX10_setRange_90 (Nat.le_of_ble_eq_true rfl) rfl ?_
      refine go_iconst C dX10_setRange_92 ?_
      refine go_istore (ls2 := [some (rf G 64), some (.int (iI v1)), some (.int (iI v2)), some (.int (iI v3)), some (.int (iI v4)), some (.int (iI t0)), some (.int (iI 0)), some (.int (iI v3)), some (.int (iI 1))]) C dX10_setRange_93 (Nat.le_of_ble_eq_true rfl) rfl ?_
      refine go_weak (ls' := [some (rf G 64), some (.int (iI v1)), some (.int (iI v2)), none, some (.int (iI v4)), none, some (.int (iI 0)), some (.int (iI v3)), some (.int (iI 1))]) ⟨rfl, ⟨rfl, ⟨rfl, ⟨rfl, ⟨rfl, ⟨rfl, ⟨rfl, trivial⟩⟩⟩⟩⟩⟩⟩ ?_
      exact w_X10_setRange_95 C E F v1 v2 v4 0 v3 1 q40 hB40 h
    · replace h := ite_f hc39 h
      refine go_iconst C dX10_setRange_80 ?_
      cases h
      exact go_iret C E rfl dX10_setRange_81 (Nat.le_of_ble_eq_true rfl) (Nat.le_of_ble_eq_true rfl) rfl rfl hB37
