set_option maxHeartbeats 4000000 in
theorem ok_X10_setRange {G : gC} {l : Launch} (hl : l.stackTraces = false) {F : Nat} {v1 : Int} {v2 : Int} {v3 : Int} {v4 : Int} {M : Mem} (hB : Bd M) {res : Int × Mem} (h : f_X10_setRange F v1 v2 v3 v4 M = some res) : Ok G l 2 0 0 yX10_setRange (.code yX10_setRange cX10_setRange 9 (some .int)) [rf G 64, .int (iI v1), .int (iI v2), .int (iI v3), .int (iI v4)] M (.inr (some (.int (iI res.1)))) res.2 := by
  refine ok_of (ls := [some (rf G 64), some (.int (iI v1)), some (.int (iI v2)), some (.int (iI v3)), some (.int (iI v4)), none, none, none, none]) hl (by decide +kernel) (Nat.le_of_ble_eq_true rfl) ⟨rfl, ⟨rfl, ⟨rfl, ⟨rfl, ⟨rfl, trivial⟩⟩⟩⟩⟩ ?_
  intro X hX C E
  subst hX
  rw [f_X10_setRange] at h
  obtain ⟨hp_v2, h⟩ := chk_some h
  refine go_aload_n C dX10_setRange_0 rfl rfl ?_
  refine go_iload_n C dX10_setRange_1 rfl rfl ?_
  obtain ⟨q1, h1, h⟩ := ob_some h
  refine go_callV_i C dX10_setRange_2 (ok_X10_isNode C.hl hB h1) mv_X10_85 sh_64 rfl rfl (Nat.le_of_ble_eq_true rfl) ⟨(Nat.le_of_ble_eq_true rfl), (Nat.le_of_ble_eq_true rfl)⟩ ⟨(Nat.le_of_ble_eq_true rfl), (Nat.le_of_ble_eq_true rfl)⟩ (fun hB1 => ?_)
  obtain ⟨hc2, h⟩ := chk_some h
  refine go_if_eq (tgt := 42) C dX10_setRange_5 rfl hc2 (fun hc3 => ?_) (fun hc3 => ?_)
  · replace h := ite_t hc3 h
    refine go_iconst C dX10_setRange_42 ?_
    exact w_X10_setRange_43 C E v1 v2 v3 v4 0 M hB1 h
  · replace h := ite_f hc3 h
    refine go_iload_n C dX10_setRange_8 rfl rfl ?_
    refine go_iconst C dX10_setRange_9 ?_
    refine go_icmp_eq (tgt := 21) C dX10_setRange_10 rfl hp_v2 (by decide) (fun hc41 => ?_) (fun hc41 => ?_)
    · replace h := ite_t hc41 h
      refine go_aload_n C dX10_setRange_21 rfl rfl ?_
      refine go_iload_n C dX10_setRange_22 rfl rfl ?_
      obtain ⟨q42, h42, h⟩ := ob_some h
      refine go_callV_i C dX10_setRange_23 (ok_X10_isNode C.hl hB1 h42) mv_X10_85 sh_64 rfl rfl (Nat.le_of_ble_eq_true rfl) ⟨(Nat.le_of_ble_eq_true rfl), (Nat.le_of_ble_eq_true rfl)⟩ ⟨(Nat.le_of_ble_eq_true rfl), (Nat.le_of_ble_eq_true rfl)⟩ (fun hB42 => ?_)
      obtain ⟨hc43, h⟩ := chk_some h
      refine go_if_eq (tgt := 42) C dX10_setRange_26 rfl hc43 (fun hc44 => ?_) (fun hc44 => ?_)
      · replace h := ite_t hc44 h
        refine go_iconst C dX10_setRange_42 ?_
        exact w_X10_setRange_43 C E v1 v2 v3 v4 0 M hB42 h
      · replace h := ite_f hc44 h
        refine go_aload_n C dX10_setRange_29 rfl rfl ?_
        refine go_iload C dX10_setRange_30 rfl ?_
        obtain ⟨q45, h45, h⟩ := ob_some h
        refine go_callV_i C dX10_setRange_32 (ok_X10_isNode C.hl hB42 h45) mv_X10_85 sh_64 rfl rfl (Nat.le_of_ble_eq_true rfl) ⟨(Nat.le_of_ble_eq_true rfl), (Nat.le_of_ble_eq_true rfl)⟩ ⟨(Nat.le_of_ble_eq_true rfl), (Nat.le_of_ble_eq_true rfl)⟩ (fun hB45 => ?_)
        obtain ⟨hc46, h⟩ := chk_some h
        refine go_if_eq (tgt := 42) C dX10_setRange_35 rfl hc46 (fun hc47 => ?_) (fun hc47 => ?_)
        · replace h := ite_t hc47 h
          refine go_iconst C dX10_setRange_42 ?_
          exact w_X10_setRange_43 C E v1 v2 v3 v4 0 M hB45 h
        · replace h := ite_f hc47 h
          refine go_iconst C dX10_setRange_38 ?_
          refine go_goto (tgt := 43) C dX10_setRange_39 rfl ?_
          exact w_X10_setRange_43 C E v1 v2 v3 v4 1 M hB45 h
    · replace h := ite_f hc41 h
      refine go_aload_n C dX10_setRange_13 rfl rfl ?_
      refine go_iload_n C dX10_setRange_14 rfl rfl ?_
      obtain ⟨q48, h48, h⟩ := ob_some h
      refine go_callV_i C dX10_setRange_15 (ok_X10_isLink C.hl hB1 h48) mv_X10_95 sh_64 rfl rfl (Nat.le_of_ble_eq_true rfl) ⟨(Nat.le_of_ble_eq_true rfl), (Nat.le_of_ble_eq_true rfl)⟩ ⟨(Nat.le_of_ble_eq_true rfl), (Nat.le_of_ble_eq_true rfl)⟩ (fun hB48 => ?_)
      obtain ⟨hc49, h⟩ := chk_some h
      refine go_if_eq (tgt := 42) C dX10_setRange_18 rfl hc49 (fun hc50 => ?_) (fun hc50 => ?_)
      · replace h := ite_t hc50 h
        refine go_iconst C dX10_setRange_42 ?_
        exact w_X10_setRange_43 C E v1 v2 v3 v4 0 M hB48 h
      · replace h := ite_f hc50 h
        refine go_aload_n C dX10_setRange_21 rfl rfl ?_
        refine go_iload_n C dX10_setRange_22 rfl rfl ?_
        obtain ⟨q51, h51, h⟩ := ob_some h
        refine go_callV_i C dX10_setRange_23 (ok_X10_isNode C.hl hB48 h51) mv_X10_85 sh_64 rfl rfl (Nat.le_of_ble_eq_true rfl) ⟨(Nat.le_of_ble_eq_true rfl), (Nat.le_of_ble_eq_true rfl)⟩ ⟨(Nat.le_of_ble_eq_true rfl), (Nat.le_of_ble_eq_true rfl)⟩ (fun hB51 => ?_)
        obtain ⟨hc52, h⟩ := chk_some h
        refine go_if_eq (tgt := 42) C dX10_setRange_26 rfl hc52 (fun hc53 => ?_) (fun hc53 => ?_)
        · replace h := ite_t hc53 h
          refine go_iconst C dX10_setRange_42 ?_
          exact w_X10_setRange_43 C E v1 v2 v3 v4 0 M hB51 h
        · replace h := ite_f hc53 h
          refine go_aload_n C dX10_setRange_29 rfl rfl ?_
          refine go_iload C dX10_setRange_30 rfl ?_
          obtain ⟨q54, h54, h⟩ := ob_some h
          refine go_callV_i C dX10_setRange_32 (ok_X10_isNode C.hl hB51 h54) mv_X10_85 sh_64 rfl rfl (Nat.le_of_ble_eq_true rfl) ⟨(Nat.le_of_ble_eq_true rfl), (Nat.le_of_ble_eq_true rfl)⟩ ⟨(Nat.le_of_ble_eq_true rfl), (Nat.le_of_ble_eq_true rfl)⟩ (fun hB54 => ?_)
          obtain ⟨hc55, h⟩ := chk_some h
          refine go_if_eq (tgt := 42) C dX10_setRange_35 rfl hc55 (fun hc56 => ?_) (fun hc56 => ?_)
          · replace h := ite_t hc56 h
            refine go_iconst C dX10_setRange_42 ?_
            exact w_X10_setRange_43 C E v1 v2 v3 v4 0 M hB54 h
          · replace h := ite_f hc56 h
            refine go_iconst C dX10_setRange_38 ?_
            refine go_goto (tgt := 43) C dX10_setRange_39 rfl ?_
            exact w_X10_setRange_43 C E v1 v2 v3 v4 1 M hB54 h
-- IntervalRouterModel.entry(II)I
set_option maxHeartbeats 4000000 in
theorem ok_X10_entry {G : gC} {l : Launch} (hl : l.stackTraces = false) {v1 : Int} {v2 : Int} {M : Mem} (hB : Bd M) {res : Int × Mem} (h : f_X10_entry v1 v2 M = some res) : Ok G l 2 0 0 yX10_entry (.code yX10_entry cX10_entry 3 (some .int)) [rf G 64, .int (iI v1), .int (iI v2)] M (.inr (some (.int (iI res.1)))) res.2 := by
  refine ok_of (ls := [some (rf G 64), some (.int (iI v1)), some (.int (iI v2))]) hl (by decide +kernel) (Nat.le_of_ble_eq_true rfl) ⟨rfl, ⟨rfl, ⟨rfl, trivial⟩⟩⟩ ?_
  intro X hX C E
  subst hX
  rw [f_X10_entry] at h
  refine go_aload_n C dX10_entry_0 rfl rfl ?_
  refine go_aload_n C dX10_entry_1 rfl rfl ?_
  refine go_iload_n C dX10_entry_2 rfl rfl ?_
  obtain ⟨q1, h1, h⟩ := ob_some h
  refine go_callV_i C dX10_entry_3 (ok_X10_isNode C.hl hB h1) mv_X10_85 sh_64 rfl rfl (Nat.le_of_ble_eq_true rfl) ⟨(Nat.le_of_ble_eq_true rfl), (Nat.le_of_ble_eq_true rfl)⟩ ⟨(Nat.le_of_ble_eq_true rfl), (Nat.le_of_ble_eq_true rfl)⟩ (fun hB1 => ?_)
  obtain ⟨hc2, h⟩ := chk_some h
  refine go_if_eq (tgt := 21) C dX10_entry_6 rfl hc2 (fun hc3 => ?_) (fun hc3 => ?_)
  · replace h := ite_t hc3 h
    refine go_iconst C dX10_entry_21 ?_
    obtain ⟨q4, h4, h⟩ := ob_some h
    refine go_callV_i C dX10_entry_22 (ok_X10_refused C.hl hB1 h4) mv_X10_67 sh_64 rfl rfl (Nat.le_of_ble_eq_true rfl) ⟨(Nat.le_of_ble_eq_true rfl), (Nat.le_of_ble_eq_true rfl)⟩ ⟨(Nat.le_of_ble_eq_true rfl), (Nat.le_of_ble_eq_true rfl)⟩ (fun hB4 => ?_)
    obtain ⟨hc5, h⟩ := chk_some h
    refine go_if_eq (tgt := 32) C dX10_entry_25 rfl hc5 (fun hc6 => ?_) (fun hc6 => ?_)
    · replace h := ite_t hc6 h
      refine go_aload_n C dX10_entry_32 rfl rfl ?_
      refine go_iload_n C dX10_entry_33 rfl rfl ?_
      refine go_iload_n C dX10_entry_34 rfl rfl ?_
      obtain ⟨q7, h7, h⟩ := ob_some h
      refine go_callV_i C dX10_entry_35 (ok_X10_entryAt C.hl hB4 h7) mv_X10_149 sh_64 rfl rfl (Nat.le_of_ble_eq_true rfl) ⟨(Nat.le_of_ble_eq_true rfl), (Nat.le_of_ble_eq_true rfl)⟩ ⟨(Nat.le_of_ble_eq_true rfl), (Nat.le_of_ble_eq_true rfl)⟩ (fun hB7 => ?_)
      cases h
      exact go_iret C E rfl dX10_entry_38 (Nat.le_of_ble_eq_true rfl) (Nat.le_of_ble_eq_true rfl) rfl rfl hB7
    · replace h := ite_f hc6 h
      refine go_iconst C dX10_entry_28 ?_
      refine go_goto (tgt := 38) C dX10_entry_29 rfl ?_
      cases h
      exact go_iret C E rfl dX10_entry_38 (Nat.le_of_ble_eq_true rfl) (Nat.le_of_ble_eq_true rfl) rfl rfl hB4
  · replace h := ite_f hc3 h
    refine go_aload_n C dX10_entry_9 rfl rfl ?_
    refine go_iload_n C dX10_entry_10 rfl rfl ?_
    obtain ⟨q8, h8, h⟩ := ob_some h
    refine go_callV_i C dX10_entry_11 (ok_X10_isNode C.hl hB1 h8) mv_X10_85 sh_64 rfl rfl (Nat.le_of_ble_eq_true rfl) ⟨(Nat.le_of_ble_eq_true rfl), (Nat.le_of_ble_eq_true rfl)⟩ ⟨(Nat.le_of_ble_eq_true rfl), (Nat.le_of_ble_eq_true rfl)⟩ (fun hB8 => ?_)
    obtain ⟨hc9, h⟩ := chk_some h
    refine go_if_eq (tgt := 21) C dX10_entry_14 rfl hc9 (fun hc10 => ?_) (fun hc10 => ?_)
    · replace h := ite_t hc10 h
      refine go_iconst C dX10_entry_21 ?_
      obtain ⟨q11, h11, h⟩ := ob_some h
      refine go_callV_i C dX10_entry_22 (ok_X10_refused C.hl hB8 h11) mv_X10_67 sh_64 rfl rfl (Nat.le_of_ble_eq_true rfl) ⟨(Nat.le_of_ble_eq_true rfl), (Nat.le_of_ble_eq_true rfl)⟩ ⟨(Nat.le_of_ble_eq_true rfl), (Nat.le_of_ble_eq_true rfl)⟩ (fun hB11 => ?_)
      obtain ⟨hc12, h⟩ := chk_some h
      refine go_if_eq (tgt := 32) C dX10_entry_25 rfl hc12 (fun hc13 => ?_) (fun hc13 => ?_)
      · replace h := ite_t hc13 h
        refine go_aload_n C dX10_entry_32 rfl rfl ?_
        refine go_iload_n C dX10_entry_33 rfl rfl ?_
        refine go_iload_n C dX10_entry_34 rfl rfl ?_
        obtain ⟨q14, h14, h⟩ := ob_some h
        refine go_callV_i C dX10_entry_35 (ok_X10_entryAt C.hl hB11 h14) mv_X10_149 sh_64 rfl rfl (Nat.le_of_ble_eq_true rfl) ⟨(Nat.le_of_ble_eq_true rfl), (Nat.le_of_ble_eq_true rfl)⟩ ⟨(Nat.le_of_ble_eq_true rfl), (Nat.le_of_ble_eq_true rfl)⟩ (fun hB14 => ?_)
        cases h
        exact go_iret C E rfl dX10_entry_38 (Nat.le_of_ble_eq_true rfl) (Nat.le_of_ble_eq_true rfl) rfl rfl hB14
      · replace h := ite_f hc13 h
        refine go_iconst C dX10_entry_28 ?_
        refine go_goto (tgt := 38) C dX10_entry_29 rfl ?_
        cases h
        exact go_iret C E rfl dX10_entry_38 (Nat.le_of_ble_eq_true rfl) (Nat.le_of_ble_eq_true rfl) rfl rfl hB11
    · replace h := ite_f hc10 h
      refine go_iconst C dX10_entry_17 ?_
      refine go_goto (tgt := 22) C dX10_entry_18 rfl ?_
      obtain ⟨q15, h15, h⟩ := ob_some h
      refine go_callV_i C dX10_entry_22 (ok_X10_refused C.hl hB8 h15) mv_X10_67 sh_64 rfl rfl (Nat.le_of_ble_eq_true rfl) ⟨(Nat.le_of_ble_eq_true rfl), (Nat.le_of_ble_eq_true rfl)⟩ ⟨(Nat.le_of_ble_eq_true rfl), (Nat.le_of_ble_eq_true rfl)⟩ (fun hB15 => ?_)
      obtain ⟨hc16, h⟩ := chk_some h
      refine go_if_eq (tgt := 32) C dX10_entry_25 rfl hc16 (fun hc17 => ?_) (fun hc17 => ?_)
      · replace h := ite_t hc17 h
        refine go_aload_n C dX10_entry_32 rfl rfl ?_
        refine go_iload_n C dX10_entry_33 rfl rfl ?_
        refine go_iload_n C dX10_entry_34 rfl rfl ?_
        obtain ⟨q18, h18, h⟩ := ob_some h
        refine go_callV_i C dX10_entry_35 (ok_X10_entryAt C.hl hB15 h18) mv_X10_149 sh_64 rfl rfl (Nat.le_of_ble_eq_true rfl) ⟨(Nat.le_of_ble_eq_true rfl), (Nat.le_of_ble_eq_true rfl)⟩ ⟨(Nat.le_of_ble_eq_true rfl), (Nat.le_of_ble_eq_true rfl)⟩ (fun hB18 => ?_)
        cases h
        exact go_iret C E rfl dX10_entry_38 (Nat.le_of_ble_eq_true rfl) (Nat.le_of_ble_eq_true rfl) rfl rfl hB18
      · replace h := ite_f hc17 h
        refine go_iconst C dX10_entry_28 ?_
        refine go_goto (tgt := 38) C dX10_entry_29 rfl ?_
        cases h
        exact go_iret C E rfl dX10_entry_38 (Nat.le_of_ble_eq_true rfl) (Nat.le_of_ble_eq_true rfl) rfl rfl hB15
-- IntervalRouterModel.runs(II)I
set_option maxHeartbeats 4000000 in
theorem w_X10_runs_21 {G : gC} {X : gX} {res : Int × Mem} {F : Nat} (C : Cx G X cX10_runs 4 RX10 2 0 0 (some .int) []) (E : Fnl G X 0 0 (.inr (some (.int (iI res.1)))) res.2) : ∀ (v1 : Int) (v2 : Int) (t0 : Int) (M : Mem), Bd M → f_X10_runs_21 F v1 v2 t0 M = some res → Go G X 4 0 0 21 [some (rf G 64), some (.int (iI v1)), some (.int (iI v2)), none] [.int (iI t0)] M := by
  intro v1 v2 t0 M hB h
  rw [f_X10_runs_21] at h
  obtain ⟨hp_t0, h⟩ := chk_some h
  refine go_istore_n (ls2 := [some (rf G 64), some (.int (iI v1)), some (.int (iI v2)), some (.int (iI t0))]) C dX10_runs_21 rfl (Nat.le_of_ble_eq_true rfl) rfl ?_
  refine go_aload_n C dX10_runs_22 rfl rfl ?_
  refine go_iload_n C dX10_runs_23 rfl rfl ?_
  refine go_if_ne (tgt := 31) C dX10_runs_24 rfl hp_t0 (fun hc4 => ?_) (fun hc4 => ?_)
  · replace h := ite_f hc4 h
    refine go_aload_n C dX10_runs_31 rfl rfl ?_
    refine go_iload_n C dX10_runs_32 rfl rfl ?_
    refine go_iload_n C dX10_runs_33 rfl rfl ?_
    obtain ⟨q5, h5, h⟩ := ob_some h
    refine go_callV_i C dX10_runs_34 (ok_X10_isOf C.hl hB h5) mv_X10_81 sh_64 rfl rfl (Nat.le_of_ble_eq_true rfl) ⟨(Nat.le_of_ble_eq_true rfl), (Nat.le_of_ble_eq_true rfl)⟩ ⟨(Nat.le_of_ble_eq_true rfl), (Nat.le_of_ble_eq_true rfl)⟩ (fun hB5 => ?_)
    obtain ⟨hc6, h⟩ := chk_some h
    refine go_if_eq (tgt := 44) C dX10_runs_37 rfl hc6 (fun hc7 => ?_) (fun hc7 => ?_)
    · replace h := ite_t hc7 h
      refine go_iconst C dX10_runs_44 ?_
      obtain ⟨q8, h8, h⟩ := ob_some h
      refine go_callV_i C dX10_runs_45 (ok_X10_refused C.hl hB5 h8) mv_X10_67 sh_64 rfl rfl (Nat.le_of_ble_eq_true rfl) ⟨(Nat.le_of_ble_eq_true rfl), (Nat.le_of_ble_eq_true rfl)⟩ ⟨(Nat.le_of_ble_eq_true rfl), (Nat.le_of_ble_eq_true rfl)⟩ (fun hB8 => ?_)
      obtain ⟨hc9, h⟩ := chk_some h
      refine go_if_eq (tgt := 53) C dX10_runs_48 rfl hc9 (fun hc10 => ?_) (fun hc10 => ?_)
      · replace h := ite_t hc10 h
        refine go_aload_n C dX10_runs_53 rfl rfl ?_
        refine go_iload_n C dX10_runs_54 rfl rfl ?_
        obtain ⟨q11, h11, h⟩ := ob_some h
        refine go_callV_v C dX10_runs_55 (ok_X10_laysRing C.hl hB8 h11) mv_X10_165 sh_64 rfl rfl (Nat.le_of_ble_eq_true rfl) ⟨(Nat.le_of_ble_eq_true rfl), (Nat.le_of_ble_eq_true rfl)⟩ ⟨(Nat.le_of_ble_eq_true rfl), (Nat.le_of_ble_eq_true rfl)⟩ (fun hB11 => ?_)
        refine go_aload_n C dX10_runs_58 rfl rfl ?_
        refine go_iload_n C dX10_runs_59 rfl rfl ?_
        obtain ⟨q12, h12, h⟩ := ob_some h
        refine go_callV_i C dX10_runs_60 (ok_X10_runsOf C.hl hB11 h12) mv_X10_159 sh_64 rfl rfl (Nat.le_of_ble_eq_true rfl) ⟨(Nat.le_of_ble_eq_true rfl), (Nat.le_of_ble_eq_true rfl)⟩ ⟨(Nat.le_of_ble_eq_true rfl), (Nat.le_of_ble_eq_true rfl)⟩ (fun hB12 => ?_)
        cases h
        exact go_iret C E rfl dX10_runs_63 (Nat.le_of_ble_eq_true rfl) (Nat.le_of_ble_eq_true rfl) rfl rfl hB12
      · replace h := ite_f hc10 h
        refine go_iconst C dX10_runs_51 ?_
        cases h
        exact go_iret C E rfl dX10_runs_52 (Nat.le_of_ble_eq_true rfl) (Nat.le_of_ble_eq_true rfl) rfl rfl hB8
    · replace h := ite_f hc7 h
      refine go_iconst C dX10_runs_40 ?_
      refine go_goto (tgt := 45) C dX10_runs_41 rfl ?_
      obtain ⟨q13, h13, h⟩ := ob_some h
      refine go_callV_i C dX10_runs_45 (ok_X10_refused C.hl hB5 h13) mv_X10_67 sh_64 rfl rfl (Nat.le_of_ble_eq_true rfl) ⟨(Nat.le_of_ble_eq_true rfl), (Nat.le_of_ble_eq_true rfl)⟩ ⟨(Nat.le_of_ble_eq_true rfl), (Nat.le_of_ble_eq_true rfl)⟩ (fun hB13 => ?_)
      obtain ⟨hc14, h⟩ := chk_some h
      refine go_if_eq (tgt := 53) C dX10_runs_48 rfl hc14 (fun hc15 => ?_) (fun hc15 => ?_)
      · replace h := ite_t hc15 h
        refine go_aload_n C dX10_runs_53 rfl rfl ?_
        refine go_iload_n C dX10_runs_54 rfl rfl ?_
        obtain ⟨q16, h16, h⟩ := ob_some h
        refine go_callV_v C dX10_runs_55 (ok_X10_laysRing C.hl hB13 h16) mv_X10_165 sh_64 rfl rfl (Nat.le_of_ble_eq_true rfl) ⟨(Nat.le_of_ble_eq_true rfl), (Nat.le_of_ble_eq_true rfl)⟩ ⟨(Nat.le_of_ble_eq_true rfl), (Nat.le_of_ble_eq_true rfl)⟩ (fun hB16 => ?_)
        refine go_aload_n C dX10_runs_58 rfl rfl ?_
        refine go_iload_n C dX10_runs_59 rfl rfl ?_
        obtain ⟨q17, h17, h⟩ := ob_some h
        refine go_callV_i C dX10_runs_60 (ok_X10_runsOf C.hl hB16 h17) mv_X10_159 sh_64 rfl rfl (Nat.le_of_ble_eq_true rfl) ⟨(Nat.le_of_ble_eq_true rfl), (Nat.le_of_ble_eq_true rfl)⟩ ⟨(Nat.le_of_ble_eq_true rfl), (Nat.le_of_ble_eq_true rfl)⟩ (fun hB17 => ?_)
        cases h
        exact go_iret C E rfl dX10_runs_63 (Nat.le_of_ble_eq_true rfl) (Nat.le_of_ble_eq_true rfl) rfl rfl hB17
      · replace h := ite_f hc15 h
        refine go_iconst C dX10_runs_51 ?_
        cases h
        exact go_iret C E rfl dX10_runs_52 (Nat.le_of_ble_eq_true rfl) (Nat.le_of_ble_eq_true rfl) rfl rfl hB13
  · replace h := ite_t hc4 h
    refine go_iconst C dX10_runs_27 ?_
    refine go_goto (tgt := 45) C dX10_runs_28 rfl ?_
    obtain ⟨q18, h18, h⟩ := ob_some h
    refine go_callV_i C dX10_runs_45 (ok_X10_refused C.hl hB h18) mv_X10_67 sh_64 rfl rfl (Nat.le_of_ble_eq_true rfl) ⟨(Nat.le_of_ble_eq_true rfl), (Nat.le_of_ble_eq_true rfl)⟩ ⟨(Nat.le_of_ble_eq_true rfl), (Nat.le_of_ble_eq_true rfl)⟩ (fun hB18 => ?_)
    obtain ⟨hc19, h⟩ := chk_some h
    refine go_if_eq (tgt := 53) C dX10_runs_48 rfl hc19 (fun hc20 => ?_) (fun hc20 => ?_)
    · replace h := ite_t hc20 h
      refine go_aload_n C dX10_runs_53 rfl rfl ?_
      refine go_iload_n C dX10_runs_54 rfl rfl ?_
      obtain ⟨q21, h21, h⟩ := ob_some h
      refine go_callV_v C dX10_runs_55 (ok_X10_laysRing C.hl hB18 h21) mv_X10_165 sh_64 rfl rfl (Nat.le_of_ble_eq_true rfl) ⟨(Nat.le_of_ble_eq_true rfl), (Nat.le_of_ble_eq_true rfl)⟩ ⟨(Nat.le_of_ble_eq_true rfl), (Nat.le_of_ble_eq_true rfl)⟩ (fun hB21 => ?_)
      refine go_aload_n C dX10_runs_58 rfl rfl ?_
      refine go_iload_n C dX10_runs_59 rfl rfl ?_
      obtain ⟨q22, h22, h⟩ := ob_some h
      refine go_callV_i C dX10_runs_60 (ok_X10_runsOf C.hl hB21 h22) mv_X10_159 sh_64 rfl rfl (Nat.le_of_ble_eq_true rfl) ⟨(Nat.le_of_ble_eq_true rfl), (Nat.le_of_ble_eq_true rfl)⟩ ⟨(Nat.le_of_ble_eq_true rfl), (Nat.le_of_ble_eq_true rfl)⟩ (fun hB22 => ?_)
      cases h
      exact go_iret C E rfl dX10_runs_63 (Nat.le_of_ble_eq_true rfl) (Nat.le_of_ble_eq_true rfl) rfl rfl hB22
    · replace h := ite_f hc20 h
      refine go_iconst C dX10_runs_51 ?_
      cases h
      exact go_iret C E rfl dX10_runs_52 (Nat.le_of_ble_eq_true rfl) (Nat.le_of_ble_eq_true rfl) rfl rfl hB18
set_option maxHeartbeats 4000000 in
theorem ok_X10_runs {G : gC} {l : Launch} (hl : l.stackTraces = false) {F : Nat} {v1 : Int} {v2 : Int} {M : Mem} (hB : Bd M) {res : Int × Mem} (h : f_X10_runs F v1 v2 M = some res) : Ok G l 2 0 0 yX10_runs (.code yX10_runs cX10_runs 4 (some .int)) [rf G 64, .int (iI v1), .int (iI v2)] M (.inr (some (.int (iI res.1)))) res.2 := by
  refine ok_of (ls := [some (rf G 64), some (.int (iI v1)), some (.int (iI v2)), none]) hl (by decide +kernel) (Nat.le_of_ble_eq_true rfl) ⟨rfl, ⟨rfl, ⟨rfl, trivial⟩⟩⟩ ?_
  intro X hX C E
  subst hX
  rw [f_X10_runs] at h
  refine go_aload_n C dX10_runs_0 rfl rfl ?_
  refine go_iload_n C dX10_runs_1 rfl rfl ?_
  obtain ⟨q1, h1, h⟩ := ob_some h
  refine go_callV_i C dX10_runs_2 (ok_X10_isNode C.hl hB h1) mv_X10_85 sh_64 rfl rfl (Nat.le_of_ble_eq_true rfl) ⟨(Nat.le_of_ble_eq_true rfl), (Nat.le_of_ble_eq_true rfl)⟩ ⟨(Nat.le_of_ble_eq_true rfl), (Nat.le_of_ble_eq_true rfl)⟩ (fun hB1 => ?_)
  obtain ⟨hc2, h⟩ := chk_some h
  refine go_if_eq (tgt := 20) C dX10_runs_5 rfl hc2 (fun hc3 => ?_) (fun hc3 => ?_)
  · replace h := ite_t hc3 h
    refine go_iconst C dX10_runs_20 ?_
    exact w_X10_runs_21 C E v1 v2 0 M hB1 h
  · replace h := ite_f hc3 h
    refine go_aload_n C dX10_runs_8 rfl rfl ?_
    refine go_iload_n C dX10_runs_9 rfl rfl ?_
    obtain ⟨q23, h23, h⟩ := ob_some h
    refine go_callV_i C dX10_runs_10 (ok_X10_isLink C.hl hB1 h23) mv_X10_95 sh_64 rfl rfl (Nat.le_of_ble_eq_true rfl) ⟨(Nat.le_of_ble_eq_true rfl), (Nat.le_of_ble_eq_true rfl)⟩ ⟨(Nat.le_of_ble_eq_true rfl), (Nat.le_of_ble_eq_true rfl)⟩ (fun hB23 => ?_)
    obtain ⟨hc24, h⟩ := chk_some h
    refine go_if_eq (tgt := 20) C dX10_runs_13 rfl hc24 (fun hc25 => ?_) (fun hc25 => ?_)
    · replace h := ite_t hc25 h
      refine go_iconst C dX10_runs_20 ?_
      exact w_X10_runs_21 C E v1 v2 0 M hB23 h
    · replace h := ite_f hc25 h
      refine go_iconst C dX10_runs_16 ?_
      refine go_goto (tgt := 21) C dX10_runs_17 rfl ?_
      exact w_X10_runs_21 C E v1 v2 1 M hB23 h
-- IntervalRouterModel.runEnd(IIIZ)I
set_option maxHeartbeats 4000000 in
theorem w_X10_runEnd_135 {G : gC} {X : gX} {res : Int × Mem} {F : Nat} (C : Cx G X cX10_runEnd 8 RX10 2 0 0 (some .int) []) (E : Fnl G X 0 0 (.inr (some (.int (iI res.1)))) res.2) {k110 : Int → Int → Int → Int → Mem → Option (Int × Mem)} (hk110 : ∀ (v2 : Int) (v4 : Int) (v6 : Int) (v7 : Int) (M : Mem), Bd M → k110 v2 v4 v6 v7 M = some res → Go G X 8 0 0 110 [some (rf G 64), none, some (.int (iI v2)), none, some (.int (iI v4)), none, some (.int (iI v6)), some (.int (iI v7))] [] M) : ∀ (v2 : Int) (v4 : Int) (v6 : Int) (v7 : Int) (M : Mem), Bd M → f_X10_runEnd_135 F k110 v2 v4 v6 v7 M = some res → Go G X 8 0 0 135 [some (rf G 64), none, some (.int (iI v2)), none, some (.int (iI v4)), none, some (.int (iI v6)), some (.int (iI v7))] [] M := by
  intro v2 v4 v6 v7 M hB h
  rw [f_X10_runEnd_135] at h
  obtain ⟨hp_v2, h⟩ := chk_some h
  refine go_iload C dX10_runEnd_135 rfl ?_
  refine go_aload_n C dX10_runEnd_137 rfl rfl ?_
  refine go_getR (o := 6) (k2 := 70) C dX10_runEnd_138 fl_X10_25 sh_64 rfl rfl ?_
  refine go_iload C dX10_runEnd_141 rfl ?_
  obtain ⟨hc14, h⟩ := chk_some h
  refine go_iald C dX10_runEnd_143 sh_70 (by decide) hc14 ?_
  refine go_iload_n C dX10_runEnd_144 rfl rfl ?_
  refine go_icmp_ne (tgt := 161) C dX10_runEnd_145 rfl (hB 70 v6 (by decide)) hp_v2 (fun hc15 => ?_) (fun hc15 => ?_)
  · replace h := ite_f hc15 h
    refine go_iconst C dX10_runEnd_161 ?_
    refine go_isub C dX10_runEnd_162 ?_
    refine go_istore (ls2 := [some (rf G 64), none, some (.int (iI v2)), none, some (.int (iI v4)), none, some (.int (iI v6)), some (.int (iI (v7 - 0)))]) C dX10_runEnd_163 (Nat.le_of_ble_eq_true rfl) rfl ?_
    refine go_iinc (ls2 := [some (rf G 64), none, some (.int (iI v2)), none, some (.int (iI v4)), none, some (.int (iI (v6 + 1))), some (.int (iI (v7 - 0)))]) C dX10_runEnd_165 rfl (Nat.le_of_ble_eq_true rfl) rfl ?_
    refine go_goto (tgt := 110) C dX10_runEnd_168 rfl ?_
    exact hk110 v2 v4 (v6 + 1) (v7 - 0) M hB h
  · replace h := ite_t hc15 h
    refine go_aload_n C dX10_runEnd_148 rfl rfl ?_
    refine go_iload C dX10_runEnd_149 rfl ?_
    obtain ⟨q16, h16, h⟩ := ob_some h
    refine go_callV_i C dX10_runEnd_151 (ok_X10_beginsAt C.hl hB h16) mv_X10_156 sh_64 rfl rfl (Nat.le_of_ble_eq_true rfl) ⟨(Nat.le_of_ble_eq_true rfl), (Nat.le_of_ble_eq_true rfl)⟩ ⟨(Nat.le_of_ble_eq_true rfl), (Nat.le_of_ble_eq_true rfl)⟩ (fun hB16 => ?_)
    obtain ⟨hc17, h⟩ := chk_some h
    refine go_if_eq (tgt := 161) C dX10_runEnd_154 rfl hc17 (fun hc18 => ?_) (fun hc18 => ?_)
    · replace h := ite_t hc18 h
      refine go_iconst C dX10_runEnd_161 ?_
      refine go_isub C dX10_runEnd_162 ?_
      refine go_istore (ls2 := [some (rf G 64), none, some (.int (iI v2)), none, some (.int (iI v4)), none, some (.int (iI v6)), some (.int (iI (v7 - 0)))]) C dX10_runEnd_163 (Nat.le_of_ble_eq_true rfl) rfl ?_
      refine go_iinc (ls2 := [some (rf G 64), none, some (.int (iI v2)), none, some (.int (iI v4)), none, some (.int (iI (v6 + 1))), some (.int (iI (v7 - 0)))]) C dX10_runEnd_165 rfl (Nat.le_of_ble_eq_true rfl) rfl ?_
      refine go_goto (tgt := 110) C dX10_runEnd_168 rfl ?_
      exact hk110 v2 v4 (v6 + 1) (v7 - 0) M hB16 h
    · replace h := ite_f hc18 h
      refine go_iconst C dX10_runEnd_157 ?_
      refine go_goto (tgt := 162) C dX10_runEnd_158 rfl ?_
      refine go_isub C dX10_runEnd_162 ?_
      refine go_istore (ls2 := [some (rf G 64), none, some (.int (iI v2)), none, some (.int (iI v4)), none, some (.int (iI v6)), some (.int (iI (v7 - 1)))]) C dX10_runEnd_163 (Nat.le_of_ble_eq_true rfl) rfl ?_
      refine go_iinc (ls2 := [some (rf G 64), none, some (.int (iI v2)), none, some (.int (iI v4)), none, some (.int (iI (v6 + 1))), some (.int (iI (v7 - 1)))]) C dX10_runEnd_165 rfl (Nat.le_of_ble_eq_true rfl) rfl ?_
      refine go_goto (tgt := 110) C dX10_runEnd_168 rfl ?_
      exact hk110 v2 v4 (v6 + 1) (v7 - 1) M hB16 h
set_option maxHeartbeats 4000000 in
theorem w_X10_runEnd_171 {G : gC} {X : gX} {res : Int × Mem} {F : Nat} (C : Cx G X cX10_runEnd 8 RX10 2 0 0 (some .int) []) (E : Fnl G X 0 0 (.inr (some (.int (iI res.1)))) res.2) : ∀ (fu : Nat) (v2 : Int) (v4 : Int) (v6 : Int) (M : Mem), Bd M → f_X10_runEnd_171 F fu v2 v4 v6 M = some res → Go G X 8 0 0 171 [some (rf G 64), none, some (.int (iI v2)), none, some (.int (iI v4)), none, some (.int (iI v6)), none] [] M := by
  intro fu
  induction fu with
  | zero => intro v2 v4 v6 M hB h; exact nomatch (show (none : Option (Int × Mem)) = some res from h)
  | succ fu ih =>
    intro v2 v4 v6 M hB h
    rw [f_X10_runEnd_171] at h
    obtain ⟨⟨hp_v2, hp_v4⟩, h⟩ := chk_some h
    refine go_iload C dX10_runEnd_171 rfl ?_
    refine go_if_eq (tgt := 208) C dX10_runEnd_173 rfl hp_v4 (fun hc23 => ?_) (fun hc23 => ?_)
    · replace h := ite_t hc23 h
      refine go_aload_n C dX10_runEnd_208 rfl rfl ?_
      refine go_getR (o := 7) (k2 := 71) C dX10_runEnd_209 fl_X10_28 sh_64 rfl rfl ?_
      refine go_iload C dX10_runEnd_212 rfl ?_
      obtain ⟨hc24, h⟩ := chk_some h
      refine go_iald C dX10_runEnd_214 sh_71 (by decide) hc24 ?_
      cases h
      exact go_iret C E rfl dX10_runEnd_215 (Nat.le_of_ble_eq_true rfl) (Nat.le_of_ble_eq_true rfl) rfl rfl hB
    · replace h := ite_f hc23 h
      refine go_aload_n C dX10_runEnd_176 rfl rfl ?_
      refine go_getR (o := 6) (k2 := 70) C dX10_runEnd_177 fl_X10_25 sh_64 rfl rfl ?_
      refine go_iload C dX10_runEnd_180 rfl ?_
      refine go_iconst C dX10_runEnd_182 ?_
      refine go_iadd C dX10_runEnd_183 ?_
      refine go_aload_n C dX10_runEnd_184 rfl rfl ?_
      refine go_getI (z := 10) C dX10_runEnd_185 fl_X10_146 sh_64 rfl rfl ?_
      obtain ⟨hc25, h⟩ := chk_some h
      refine go_irem C dX10_runEnd_188 hc25 ?_
      obtain ⟨hc26, h⟩ := chk_some h
      refine go_iald C dX10_runEnd_189 sh_70 (by decide) hc26 ?_
      refine go_iload_n C dX10_runEnd_190 rfl rfl ?_
      refine go_icmp_ne (tgt := 208) C dX10_runEnd_191 rfl (hB 70 ((v6 + 1) % (M 64 10)) (by decide)) hp_v2 (fun hc27 => ?_) (fun hc27 => ?_)
      · replace h := ite_f hc27 h
        refine go_aload_n C dX10_runEnd_208 rfl rfl ?_
        refine go_getR (o := 7) (k2 := 71) C dX10_runEnd_209 fl_X10_28 sh_64 rfl rfl ?_
        refine go_iload C dX10_runEnd_212 rfl ?_
        obtain ⟨hc28, h⟩ := chk_some h
        refine go_iald C dX10_runEnd_214 sh_71 (by decide) hc28 ?_
        cases h
        exact go_iret C E rfl dX10_runEnd_215 (Nat.le_of_ble_eq_true rfl) (Nat.le_of_ble_eq_true rfl) rfl rfl hB
      · replace h := ite_t hc27 h
        refine go_iload C dX10_runEnd_194 rfl ?_
        refine go_iconst C dX10_runEnd_196 ?_
        refine go_iadd C dX10_runEnd_197 ?_
        refine go_aload_n C dX10_runEnd_198 rfl rfl ?_
        refine go_getI (z := 10) C dX10_runEnd_199 fl_X10_146 sh_64 rfl rfl ?_
        refine go_irem C dX10_runEnd_202 hc25 ?_
        refine go_istore (ls2 := [some (rf G 64), none, some (.int (iI v2)), none, some (.int (iI v4)), none, some (.int (iI ((v6 + 1) % (M 64 10)))), none]) C dX10_runEnd_203 (Nat.le_of_ble_eq_true rfl) rfl ?_
        refine go_goto (tgt := 171) C dX10_runEnd_205 rfl ?_
        exact ih v2 v4 ((v6 + 1) % (M 64 10)) M hB h
set_option maxHeartbeats 4000000 in
theorem w_X10_runEnd_110 {G : gC} {X : gX} {res : Int × Mem} {F : Nat} (C : Cx G X cX10_runEnd 8 RX10 2 0 0 (some .int) []) (E : Fnl G X 0 0 (.inr (some (.int (iI res.1)))) res.2) : ∀ (fu : Nat) (v2 : Int) (v4 : Int) (v6 : Int) (v7 : Int) (M : Mem), Bd M → f_X10_runEnd_110 F fu v2 v4 v6 v7 M = some res → Go G X 8 0 0 110 [some (rf G 64), none, some (.int (iI v2)), none, some (.int (iI v4)), none, some (.int (iI v6)), some (.int (iI v7))] [] M := by
  intro fu
  induction fu with
  | zero => intro v2 v4 v6 v7 M hB h; exact nomatch (show (none : Option (Int × Mem)) = some res from h)
  | succ fu ih =>
    intro v2 v4 v6 v7 M hB h
    rw [f_X10_runEnd_110] at h
    obtain ⟨⟨hp_v2, hp_v7⟩, h⟩ := chk_some h
    refine go_aload_n C dX10_runEnd_110 rfl rfl ?_
    refine go_getR (o := 6) (k2 := 70) C dX10_runEnd_111 fl_X10_25 sh_64 rfl rfl ?_
    refine go_iload C dX10_runEnd_114 rfl ?_
    obtain ⟨hc12, h⟩ := chk_some h
    refine go_iald C dX10_runEnd_116 sh_70 (by decide) hc12 ?_
    refine go_iload_n C dX10_runEnd_117 rfl rfl ?_
    refine go_icmp_ne (tgt := 135) C dX10_runEnd_118 rfl (hB 70 v6 (by decide)) hp_v2 (fun hc13 => ?_) (fun hc13 => ?_)
    · replace h := ite_f hc13 h
      exact w_X10_runEnd_135 C E ih v2 v4 v6 v7 M hB h
    · replace h := ite_t hc13 h
      refine go_aload_n C dX10_runEnd_121 rfl rfl ?_
      refine go_iload C dX10_runEnd_122 rfl ?_
      obtain ⟨q19, h19, h⟩ := ob_some h
      refine go_callV_i C dX10_runEnd_124 (ok_X10_beginsAt C.hl hB h19) mv_X10_156 sh_64 rfl rfl (Nat.le_of_ble_eq_true rfl) ⟨(Nat.le_of_ble_eq_true rfl), (Nat.le_of_ble_eq_true rfl)⟩ ⟨(Nat.le_of_ble_eq_true rfl), (Nat.le_of_ble_eq_true rfl)⟩ (fun hB19 => ?_)
      obtain ⟨hc20, h⟩ := chk_some h
      refine go_if_eq (tgt := 135) C dX10_runEnd_127 rfl hc20 (fun hc21 => ?_) (fun hc21 => ?_)
      · replace h := ite_t hc21 h
        exact w_X10_runEnd_135 C E ih v2 v4 v6 v7 M hB19 h
      · replace h := ite_f hc21 h
        refine go_iload C dX10_runEnd_130 rfl ?_
        refine go_if_le (tgt := 171) C dX10_runEnd_132 rfl hp_v7 (fun hc22 => ?_) (fun hc22 => ?_)
        · replace h := ite_t hc22 h
          refine go_weak (ls' := [some (rf G 64), none, some (.int (iI v2)), none, some (.int (iI v4)), none, some (.int (iI v6)), none]) ⟨rfl, ⟨rfl, ⟨rfl, ⟨rfl, trivial⟩⟩⟩⟩ ?_
          exact w_X10_runEnd_171 C E F v2 v4 v6 M hB19 h
        · replace h := ite_f hc22 h
          exact w_X10_runEnd_135 C E ih v2 v4 v6 v7 M hB19 h
set_option maxHeartbeats 4000000 in
theorem w_X10_runEnd_67 {G : gC} {X : gX} {res : Int × Mem} {F : Nat} (C : Cx G X cX10_runEnd 8 RX10 2 0 0 (some .int) []) (E : Fnl G X 0 0 (.inr (some (.int (iI res.1)))) res.2) : ∀ (v2 : Int) (v3 : Int) (v4 : Int) (M : Mem), Bd M → f_X10_runEnd_67 F v2 v3 v4 M = some res → Go G X 8 0 0 67 [some (rf G 64), none, some (.int (iI v2)), some (.int (iI v3)), some (.int (iI v4)), none, none, none] [rf G 64] M := by
  intro v2 v3 v4 M hB h
  rw [f_X10_runEnd_67] at h
  obtain ⟨hp_v4, h⟩ := chk_some h
  refine go_iconst C dX10_runEnd_67 ?_
  obtain ⟨q6, h6, h⟩ := ob_some h
  refine go_callV_i C dX10_runEnd_68 (ok_X10_refused C.hl hB h6) mv_X10_67 sh_64 rfl rfl (Nat.le_of_ble_eq_true rfl) ⟨(Nat.le_of_ble_eq_true rfl), (Nat.le_of_ble_eq_true rfl)⟩ ⟨(Nat.le_of_ble_eq_true rfl), (Nat.le_of_ble_eq_true rfl)⟩ (fun hB6 => ?_)
  obtain ⟨hc7, h⟩ := chk_some h
  refine go_if_eq (tgt := 76) C dX10_runEnd_71 rfl hc7 (fun hc8 => ?_) (fun hc8 => ?_)
  · replace h := ite_t hc8 h
    refine go_aload_n C dX10_runEnd_76 rfl rfl ?_
    obtain ⟨q9, h9, h⟩ := ob_some h
    refine go_callV_i C dX10_runEnd_77 (ok_X10_isRound C.hl hB6 h9) mv_X10_152 sh_64 rfl rfl (Nat.le_of_ble_eq_true rfl) ⟨(Nat.le_of_ble_eq_true rfl), (Nat.le_of_ble_eq_true rfl)⟩ ⟨(Nat.le_of_ble_eq_true rfl), (Nat.le_of_ble_eq_true rfl)⟩ (fun hB9 => ?_)
    obtain ⟨hc10, h⟩ := chk_some h
    refine go_if_eq (tgt := 104) C dX10_runEnd_80 rfl hc10 (fun hc11 => ?_) (fun hc11 => ?_)
    · replace h := ite_t hc11 h
      refine go_iconst C dX10_runEnd_104 ?_
      refine go_istore (ls2 := [some (rf G 64), none, some (.int (iI v2)), some (.int (iI v3)), some (.int (iI v4)), none, some (.int (iI 0)), none]) C dX10_runEnd_105 (Nat.le_of_ble_eq_true rfl) rfl ?_
      refine go_iload_n C dX10_runEnd_107 rfl rfl ?_
      refine go_istore (ls2 := [some (rf G 64), none, some (.int (iI v2)), some (.int (iI v3)), some (.int (iI v4)), none, some (.int (iI 0)), some (.int (iI v3))]) C dX10_runEnd_108 (Nat.le_of_ble_eq_true rfl) rfl ?_
      refine go_weak (ls' := [some (rf G 64), none, some (.int (iI v2)), none, some (.int (iI v4)), none, some (.int (iI 0)), some (.int (iI v3))]) ⟨rfl, ⟨rfl, ⟨rfl, ⟨rfl, ⟨rfl, trivial⟩⟩⟩⟩⟩ ?_
      exact w_X10_runEnd_110 C E F v2 v4 0 v3 q6.2 hB9 h
    · replace h := ite_f hc11 h
      refine go_aload_n C dX10_runEnd_83 rfl rfl ?_
      refine go_getR (o := 7) (k2 := 71) C dX10_runEnd_84 fl_X10_28 sh_64 rfl rfl ?_
      refine go_iload C dX10_runEnd_87 rfl ?_
      refine go_if_eq (tgt := 101) C dX10_runEnd_89 rfl hp_v4 (fun hc29 => ?_) (fun hc29 => ?_)
      · replace h := ite_t hc29 h
        refine go_iconst C dX10_runEnd_101 ?_
        refine go_iald C dX10_runEnd_102 sh_71 (by decide) ⟨by decide, by decide⟩ ?_
        cases h
        exact go_iret C E rfl dX10_runEnd_103 (Nat.le_of_ble_eq_true rfl) (Nat.le_of_ble_eq_true rfl) rfl rfl hB9
      · replace h := ite_f hc29 h
        refine go_aload_n C dX10_runEnd_92 rfl rfl ?_
        refine go_getI (z := 10) C dX10_runEnd_93 fl_X10_146 sh_64 rfl rfl ?_
        refine go_iconst C dX10_runEnd_96 ?_
        refine go_isub C dX10_runEnd_97 ?_
        refine go_goto (tgt := 102) C dX10_runEnd_98 rfl ?_
        obtain ⟨hc30, h⟩ := chk_some h
        refine go_iald C dX10_runEnd_102 sh_71 (by decide) hc30 ?_
        cases h
        exact go_iret C E rfl dX10_runEnd_103 (Nat.le_of_ble_eq_true rfl) (Nat.le_of_ble_eq_true rfl) rfl rfl hB9
  · replace h := ite_f hc8 h
    refine go_iconst C dX10_runEnd_74 ?_
    cases h
    exact go_iret C E rfl dX10_runEnd_75 (Nat.le_of_ble_eq_true rfl) (Nat.le_of_ble_eq_true rfl) rfl rfl hB6
set_option maxHeartbeats 4000000 in
theorem w_X10_runEnd_33 {G : gC} {X : gX} {res : Int × Mem} {F : Nat} (C : Cx G X cX10_runEnd 8 RX10 2 0 0 (some .int) []) (E : Fnl G X 0 0 (.inr (some (.int (iI res.1)))) res.2) : ∀ (v1 : Int) (v2 : Int) (v3 : Int) (v4 : Int) (v5 : Int) (M : Mem), Bd M → f_X10_runEnd_33 F v1 v2 v3 v4 v5 M = some res → Go G X 8 0 0 33 [some (rf G 64), some (.int (iI v1)), some (.int (iI v2)), some (.int (iI v3)), some (.int (iI v4)), some (.int (iI v5)), none, none] [] M := by
  intro v1 v2 v3 v4 v5 M hB h
  rw [f_X10_runEnd_33] at h
  obtain ⟨⟨hp_v4, hp_v5⟩, h⟩ := chk_some h
  refine go_aload_n C dX10_runEnd_33 rfl rfl ?_
  refine go_iload C dX10_runEnd_34 rfl ?_
  refine go_if_eq (tgt := 67) C dX10_runEnd_36 rfl hp_v5 (fun hc5 => ?_) (fun hc5 => ?_)
  · replace h := ite_t hc5 h
    refine go_weak (ls' := [some (rf G 64), none, some (.int (iI v2)), some (.int (iI v3)), some (.int (iI v4)), none, none, none]) ⟨rfl, ⟨rfl, ⟨rfl, ⟨rfl, trivial⟩⟩⟩⟩ ?_
    exact w_X10_runEnd_67 C E v2 v3 v4 M hB h
  · replace h := ite_f hc5 h
    refine go_aload_n C dX10_runEnd_39 rfl rfl ?_
    refine go_iload_n C dX10_runEnd_40 rfl rfl ?_
    refine go_iload_n C dX10_runEnd_41 rfl rfl ?_
    obtain ⟨q31, h31, h⟩ := ob_some h
    refine go_callV_i C dX10_runEnd_42 (ok_X10_isOf C.hl hB h31) mv_X10_81 sh_64 rfl rfl (Nat.le_of_ble_eq_true rfl) ⟨(Nat.le_of_ble_eq_true rfl), (Nat.le_of_ble_eq_true rfl)⟩ ⟨(Nat.le_of_ble_eq_true rfl), (Nat.le_of_ble_eq_true rfl)⟩ (fun hB31 => ?_)
    obtain ⟨hc32, h⟩ := chk_some h
    refine go_if_eq (tgt := 67) C dX10_runEnd_45 rfl hc32 (fun hc33 => ?_) (fun hc33 => ?_)
    · replace h := ite_t hc33 h
      refine go_weak (ls' := [some (rf G 64), none, some (.int (iI v2)), some (.int (iI v3)), some (.int (iI v4)), none, none, none]) ⟨rfl, ⟨rfl, ⟨rfl, ⟨rfl, trivial⟩⟩⟩⟩ ?_
      exact w_X10_runEnd_67 C E v2 v3 v4 M hB31 h
    · replace h := ite_f hc33 h
      refine go_iload_n C dX10_runEnd_48 rfl rfl ?_
      refine go_iconst C dX10_runEnd_49 ?_
      refine go_aload_n C dX10_runEnd_50 rfl rfl ?_
      refine go_iload_n C dX10_runEnd_51 rfl rfl ?_
      obtain ⟨q34, h34, h⟩ := ob_some h
      refine go_callV_i C dX10_runEnd_52 (ok_X10_runsOf C.hl hB31 h34) mv_X10_159 sh_64 rfl rfl (Nat.le_of_ble_eq_true rfl) ⟨(Nat.le_of_ble_eq_true rfl), (Nat.le_of_ble_eq_true rfl)⟩ ⟨(Nat.le_of_ble_eq_true rfl), (Nat.le_of_ble_eq_true rfl)⟩ (fun hB34 => ?_)
      refine go_iconst C dX10_runEnd_55 ?_
      refine go_isub C dX10_runEnd_56 ?_
      obtain ⟨q35, h35, h⟩ := ob_some h
      refine go_callS_i C dX10_runEnd_57 (ok_X10_within C.hl hB34 h35) ms_X10_56 rfl rfl (Nat.le_of_ble_eq_true rfl) ⟨(Nat.le_of_ble_eq_true rfl), (Nat.le_of_ble_eq_true rfl)⟩ ⟨(Nat.le_of_ble_eq_true rfl), (Nat.le_of_ble_eq_true rfl)⟩ (fun hB35 => ?_)
      obtain ⟨hc36, h⟩ := chk_some h
      refine go_if_eq (tgt := 67) C dX10_runEnd_60 rfl hc36 (fun hc37 => ?_) (fun hc37 => ?_)
      · replace h := ite_t hc37 h
        refine go_weak (ls' := [some (rf G 64), none, some (.int (iI v2)), some (.int (iI v3)), some (.int (iI v4)), none, none, none]) ⟨rfl, ⟨rfl, ⟨rfl, ⟨rfl, trivial⟩⟩⟩⟩ ?_
        exact w_X10_runEnd_67 C E v2 v3 v4 M hB35 h
      · replace h := ite_f hc37 h
        refine go_iconst C dX10_runEnd_63 ?_
        refine go_goto (tgt := 68) C dX10_runEnd_64 rfl ?_
        obtain ⟨q38, h38, h⟩ := ob_some h
        refine go_callV_i C dX10_runEnd_68 (ok_X10_refused C.hl hB35 h38) mv_X10_67 sh_64 rfl rfl (Nat.le_of_ble_eq_true rfl) ⟨(Nat.le_of_ble_eq_true rfl), (Nat.le_of_ble_eq_true rfl)⟩ ⟨(Nat.le_of_ble_eq_true rfl), (Nat.le_of_ble_eq_true rfl)⟩ (fun hB38 => ?_)
        obtain ⟨hc39, h⟩ := chk_some h
        refine go_if_eq (tgt := 76) C dX10_runEnd_71 rfl hc39 (fun hc40 => ?_) (fun hc40 => ?_)
        · replace h := ite_t hc40 h
          refine go_aload_n C dX10_runEnd_76 rfl rfl ?_
          obtain ⟨q41, h41, h⟩ := ob_some h
          refine go_callV_i C dX10_runEnd_77 (ok_X10_isRound C.hl hB38 h41) mv_X10_152 sh_64 rfl rfl (Nat.le_of_ble_eq_true rfl) ⟨(Nat.le_of_ble_eq_true rfl), (Nat.le_of_ble_eq_true rfl)⟩ ⟨(Nat.le_of_ble_eq_true rfl), (Nat.le_of_ble_eq_true rfl)⟩ (fun hB41 => ?_)
          obtain ⟨hc42, h⟩ := chk_some h
          refine go_if_eq (tgt := 104) C dX10_runEnd_80 rfl hc42 (fun hc43 => ?_) (fun hc43 => ?_)
          · replace h := ite_t hc43 h
            refine go_iconst C dX10_runEnd_104 ?_
            refine go_istore (ls2 := [some (rf G 64), some (.int (iI v1)), some (.int (iI v2)), some (.int (iI v3)), some (.int (iI v4)), some (.int (iI v5)), some (.int (iI 0)), none]) C dX10_runEnd_105 (Nat.le_of_ble_eq_true rfl) rfl ?_
            refine go_iload_n C dX10_runEnd_107 rfl rfl ?_
            refine go_istore (ls2 := [some (rf G 64), some (.int (iI v1)), some (.int (iI v2)), some (.int (iI v3)), some (.int (iI v4)), some (.int (iI v5)), some (.int (iI 0)), some (.int (iI v3))]) C dX10_runEnd_108 (Nat.le_of_ble_eq_true rfl) rfl ?_
            refine go_weak (ls' := [some (rf G 64), none, some (.int (iI v2)), none, some (.int (iI v4)), none, some (.int (iI 0)), some (.int (iI v3))]) ⟨rfl, ⟨rfl, ⟨rfl, ⟨rfl, ⟨rfl, trivial⟩⟩⟩⟩⟩ ?_
            exact w_X10_runEnd_110 C E F v2 v4 0 v3 q38.2 hB41 h
          · replace h := ite_f hc43 h
            refine go_aload_n C dX10_runEnd_83 rfl rfl ?_
            refine go_getR (o := 7) (k2 := 71) C dX10_runEnd_84 fl_X10_28 sh_64 rfl rfl ?_
            refine go_iload C dX10_runEnd_87 rfl ?_
            refine go_if_eq (tgt := 101) C dX10_runEnd_89 rfl hp_v4 (fun hc44 => ?_) (fun hc44 => ?_)
            · replace h := ite_t hc44 h
              refine go_iconst C dX10_runEnd_101 ?_
              refine go_iald C dX10_runEnd_102 sh_71 (by decide) ⟨by decide, by decide⟩ ?_
              cases h
              exact go_iret C E rfl dX10_runEnd_103 (Nat.le_of_ble_eq_true rfl) (Nat.le_of_ble_eq_true rfl) rfl rfl hB41
            · replace h := ite_f hc44 h
              refine go_aload_n C dX10_runEnd_92 rfl rfl ?_
              refine go_getI (z := 10) C dX10_runEnd_93 fl_X10_146 sh_64 rfl rfl ?_
              refine go_iconst C dX10_runEnd_96 ?_
              refine go_isub C dX10_runEnd_97 ?_
              refine go_goto (tgt := 102) C dX10_runEnd_98 rfl ?_
              obtain ⟨hc45, h⟩ := chk_some h
              refine go_iald C dX10_runEnd_102 sh_71 (by decide) hc45 ?_
              cases h
              exact go_iret C E rfl dX10_runEnd_103 (Nat.le_of_ble_eq_true rfl) (Nat.le_of_ble_eq_true rfl) rfl rfl hB41
        · replace h := ite_f hc40 h
          refine go_iconst C dX10_runEnd_74 ?_
          cases h
          exact go_iret C E rfl dX10_runEnd_75 (Nat.le_of_ble_eq_true rfl) (Nat.le_of_ble_eq_true rfl) rfl rfl hB38
set_option maxHeartbeats 4000000 in
theorem ok_X10_runEnd {G : gC} {l : Launch} (hl : l.stackTraces = false) {F : Nat} {v1 : Int} {v2 : Int} {v3 : Int} {v4 : Int} {M : Mem} (hB : Bd M) {res : Int × Mem} (h : f_X10_runEnd F v1 v2 v3 v4 M = some res) : Ok G l 2 0 0 yX10_runEnd (.code yX10_runEnd cX10_runEnd 8 (some .int)) [rf G 64, .int (iI v1), .int (iI v2), .int (iI v3), .int (iI v4)] M (.inr (some (.int (iI res.1)))) res.2 := by
  refine ok_of (ls := [some (rf G 64), some (.int (iI v1)), some (.int (iI v2)), some (.int (iI v3)), some (.int (iI v4)), none, none, none]) hl (by decide +kernel) (Nat.le_of_ble_eq_true rfl) ⟨rfl, ⟨rfl, ⟨rfl, ⟨rfl, ⟨rfl, trivial⟩⟩⟩⟩⟩ ?_
  intro X hX C E
  subst hX
  rw [f_X10_runEnd] at h
  refine go_aload_n C dX10_runEnd_0 rfl rfl ?_
  refine go_iload_n C dX10_runEnd_1 rfl rfl ?_
  obtain ⟨q1, h1, h⟩ := ob_some h
  refine go_callV_i C dX10_runEnd_2 (ok_X10_isNode C.hl hB h1) mv_X10_85 sh_64 rfl rfl (Nat.le_of_ble_eq_true rfl) ⟨(Nat.le_of_ble_eq_true rfl), (Nat.le_of_ble_eq_true rfl)⟩ ⟨(Nat.le_of_ble_eq_true rfl), (Nat.le_of_ble_eq_true rfl)⟩ (fun hB1 => ?_)
  obtain ⟨hc2, h⟩ := chk_some h
  refine go_if_eq (tgt := 20) C dX10_runEnd_5 rfl hc2 (fun hc3 => ?_) (fun hc3 => ?_)
  · replace h := ite_t hc3 h
    refine go_iconst C dX10_runEnd_20 ?_
    refine go_istore (ls2 := [some (rf G 64), some (.int (iI v1)), some (.int (iI v2)), some (.int (iI v3)), some (.int (iI v4)), some (.int (iI 0)), none, none]) C dX10_runEnd_21 (Nat.le_of_ble_eq_true rfl) rfl ?_
    refine go_iload C dX10_runEnd_23 rfl ?_
    refine go_if_eq (tgt := 33) C dX10_runEnd_25 rfl (by decide) (fun hc4 => ?_) (fun hc4 => ?_)
    · exact w_X10_runEnd_33 C E v1 v2 v3 v4 0 M hB1 h
    · exact absurd hc4 (by decide)
  · replace h := ite_f hc3 h
    refine go_aload_n C dX10_runEnd_8 rfl rfl ?_
    refine go_iload_n C dX10_runEnd_9 rfl rfl ?_
    obtain ⟨q46, h46, h⟩ := ob_some h
    refine go_callV_i C dX10_runEnd_10 (ok_X10_isLink C.hl hB1 h46) mv_X10_95 sh_64 rfl rfl (Nat.le_of_ble_eq_true rfl) ⟨(Nat.le_of_ble_eq_true rfl), (Nat.le_of_ble_eq_true rfl)⟩ ⟨(Nat.le_of_ble_eq_true rfl), (Nat.le_of_ble_eq_true rfl)⟩ (fun hB46 => ?_)
    obtain ⟨hc47, h⟩ := chk_some h
    refine go_if_eq (tgt := 20) C dX10_runEnd_13 rfl hc47 (fun hc48 => ?_) (fun hc48 => ?_)
    · replace h := ite_t hc48 h
      refine go_iconst C dX10_runEnd_20 ?_
      refine go_istore (ls2 := [some (rf G 64), some (.int (iI v1)), some (.int (iI v2)), some (.int (iI v3)), some (.int (iI v4)), some (.int (iI 0)), none, none]) C dX10_runEnd_21 (Nat.le_of_ble_eq_true rfl) rfl ?_
      refine go_iload C dX10_runEnd_23 rfl ?_
      refine go_if_eq (tgt := 33) C dX10_runEnd_25 rfl (by decide) (fun hc49 => ?_) (fun hc49 => ?_)
      · exact w_X10_runEnd_33 C E v1 v2 v3 v4 0 M hB46 h
      · exact absurd hc49 (by decide)
    · replace h := ite_f hc48 h
      refine go_iconst C dX10_runEnd_16 ?_
      refine go_goto (tgt := 21) C dX10_runEnd_17 rfl ?_
      refine go_istore (ls2 := [some (rf G 64), some (.int (iI v1)), some (.int (iI v2)), some (.int (iI v3)), some (.int (iI v4)), some (.int (iI 1)), none, none]) C dX10_runEnd_21 (Nat.le_of_ble_eq_true rfl) rfl ?_
      refine go_iload C dX10_runEnd_23 rfl ?_
      refine go_if_eq (tgt := 33) C dX10_runEnd_25 rfl (by decide) (fun hc50 => ?_) (fun hc50 => ?_)
      · exact absurd hc50 (by decide)
      · refine go_aload_n C dX10_runEnd_28 rfl rfl ?_
        refine go_iload_n C dX10_runEnd_29 rfl rfl ?_
        obtain ⟨q51, h51, h⟩ := ob_some h
        refine go_callV_v C dX10_runEnd_30 (ok_X10_laysRing C.hl hB46 h51) mv_X10_165 sh_64 rfl rfl (Nat.le_of_ble_eq_true rfl) ⟨(Nat.le_of_ble_eq_true rfl), (Nat.le_of_ble_eq_true rfl)⟩ ⟨(Nat.le_of_ble_eq_true rfl), (Nat.le_of_ble_eq_true rfl)⟩ (fun hB51 => ?_)
        exact w_X10_runEnd_33 C E v1 v2 v3 v4 1 q51 hB51 h
-- IntervalRouterModel.tableSize(I)I
set_option maxHeartbeats 4000000 in
theorem ok_X10_tableSize {G : gC} {l : Launch} (hl : l.stackTraces = false) {F : Nat} {v1 : Int} {M : Mem} (hB : Bd M) {res : Int × Mem} (h : f_X10_tableSize F v1 M = some res) : Ok G l 4 0 0 yX10_tableSize (.code yX10_tableSize cX10_tableSize 2 (some .int)) [rf G 64, .int (iI v1)] M (.inr (some (.int (iI res.1)))) res.2 := by
  refine ok_of (ls := [some (rf G 64), some (.int (iI v1))]) hl (by decide +kernel) (Nat.le_of_ble_eq_true rfl) ⟨rfl, ⟨rfl, trivial⟩⟩ ?_
  intro X hX C E
  subst hX
  rw [f_X10_tableSize] at h
  obtain ⟨hp_v1, h⟩ := chk_some h
  refine go_aload_n C dX10_tableSize_0 rfl rfl ?_
  refine go_iload_n C dX10_tableSize_1 rfl rfl ?_
  refine go_iconst C dX10_tableSize_2 ?_
  refine go_icmp_eq (tgt := 14) C dX10_tableSize_3 rfl hp_v1 (by decide) (fun hc1 => ?_) (fun hc1 => ?_)
  · replace h := ite_t hc1 h
    refine go_iconst C dX10_tableSize_14 ?_
    refine go_goto (tgt := 19) C dX10_tableSize_15 rfl ?_
    obtain ⟨q2, h2, h⟩ := ob_some h
    refine go_callV_i C dX10_tableSize_19 (ok_X10_refused C.hl hB h2) mv_X10_67 sh_64 rfl rfl (Nat.le_of_ble_eq_true rfl) ⟨(Nat.le_of_ble_eq_true rfl), (Nat.le_of_ble_eq_true rfl)⟩ ⟨(Nat.le_of_ble_eq_true rfl), (Nat.le_of_ble_eq_true rfl)⟩ (fun hB2 => ?_)
    obtain ⟨hc3, h⟩ := chk_some h
    refine go_if_eq (tgt := 27) C dX10_tableSize_22 rfl hc3 (fun hc4 => ?_) (fun hc4 => ?_)
    · replace h := ite_t hc4 h
      refine go_iload_n C dX10_tableSize_27 rfl rfl ?_
      refine go_iconst C dX10_tableSize_28 ?_
      refine go_icmp_ne (tgt := 37) C dX10_tableSize_29 rfl hp_v1 (by decide) (fun hc5 => ?_) (fun hc5 => ?_)
      · replace h := ite_f hc5 h
        refine go_aload_n C dX10_tableSize_37 rfl rfl ?_
        refine go_iload_n C dX10_tableSize_38 rfl rfl ?_
        obtain ⟨q6, h6, h⟩ := ob_some h
        refine go_callV_v C dX10_tableSize_39 (ok_X10_laysRing C.hl hB2 h6) mv_X10_165 sh_64 rfl rfl (Nat.le_of_ble_eq_true rfl) ⟨(Nat.le_of_ble_eq_true rfl), (Nat.le_of_ble_eq_true rfl)⟩ ⟨(Nat.le_of_ble_eq_true rfl), (Nat.le_of_ble_eq_true rfl)⟩ (fun hB6 => ?_)
        refine go_aload_n C dX10_tableSize_42 rfl rfl ?_
        obtain ⟨q7, h7, h⟩ := ob_some h
        refine go_callV_i C dX10_tableSize_43 (ok_X10_ringSize C.hl hB6 h7) mv_X10_172 sh_64 rfl rfl (Nat.le_of_ble_eq_true rfl) ⟨(Nat.le_of_ble_eq_true rfl), (Nat.le_of_ble_eq_true rfl)⟩ ⟨(Nat.le_of_ble_eq_true rfl), (Nat.le_of_ble_eq_true rfl)⟩ (fun hB7 => ?_)
        cases h
        exact go_iret C E rfl dX10_tableSize_46 (Nat.le_of_ble_eq_true rfl) (Nat.le_of_ble_eq_true rfl) rfl rfl hB7
      · replace h := ite_t hc5 h
        refine go_aload_n C dX10_tableSize_32 rfl rfl ?_
        obtain ⟨q8, h8, h⟩ := ob_some h
        refine go_callV_i C dX10_tableSize_33 (ok_X10_netSize C.hl hB2 h8) mv_X10_178 sh_64 rfl rfl (Nat.le_of_ble_eq_true rfl) ⟨(Nat.le_of_ble_eq_true rfl), (Nat.le_of_ble_eq_true rfl)⟩ ⟨(Nat.le_of_ble_eq_true rfl), (Nat.le_of_ble_eq_true rfl)⟩ (fun hB8 => ?_)
        cases h
        exact go_iret C E rfl dX10_tableSize_36 (Nat.le_of_ble_eq_true rfl) (Nat.le_of_ble_eq_true rfl) rfl rfl hB8
    · replace h := ite_f hc4 h
      refine go_iconst C dX10_tableSize_25 ?_
      cases h
      exact go_iret C E rfl dX10_tableSize_26 (Nat.le_of_ble_eq_true rfl) (Nat.le_of_ble_eq_true rfl) rfl rfl hB2
  · replace h := ite_f hc1 h
    refine go_aload_n C dX10_tableSize_6 rfl rfl ?_
    refine go_iload_n C dX10_tableSize_7 rfl rfl ?_
    obtain ⟨q9, h9, h⟩ := ob_some h
    refine go_callV_i C dX10_tableSize_8 (ok_X10_isNode C.hl hB h9) mv_X10_85 sh_64 rfl rfl (Nat.le_of_ble_eq_true rfl) ⟨(Nat.le_of_ble_eq_true rfl), (Nat.le_of_ble_eq_true rfl)⟩ ⟨(Nat.le_of_ble_eq_true rfl), (Nat.le_of_ble_eq_true rfl)⟩ (fun hB9 => ?_)
    obtain ⟨hc10, h⟩ := chk_some h
    refine go_if_eq (tgt := 18) C dX10_tableSize_11 rfl hc10 (fun hc11 => ?_) (fun hc11 => ?_)
    · replace h := ite_t hc11 h
      refine go_iconst C dX10_tableSize_18 ?_
      obtain ⟨q12, h12, h⟩ := ob_some h
      refine go_callV_i C dX10_tableSize_19 (ok_X10_refused C.hl hB9 h12) mv_X10_67 sh_64 rfl rfl (Nat.le_of_ble_eq_true rfl) ⟨(Nat.le_of_ble_eq_true rfl), (Nat.le_of_ble_eq_true rfl)⟩ ⟨(Nat.le_of_ble_eq_true rfl), (Nat.le_of_ble_eq_true rfl)⟩ (fun hB12 => ?_)
      obtain ⟨hc13, h⟩ := chk_some h
      refine go_if_eq (tgt := 27) C dX10_tableSize_22 rfl hc13 (fun hc14 => ?_) (fun hc14 => ?_)
      · replace h := ite_t hc14 h
        refine go_iload_n C dX10_tableSize_27 rfl rfl ?_
        refine go_iconst C dX10_tableSize_28 ?_
        refine go_icmp_ne (tgt := 37) C dX10_tableSize_29 rfl hp_v1 (by decide) (fun hc15 => ?_) (fun hc15 => ?_)
        · replace h := ite_f hc15 h
          refine go_aload_n C dX10_tableSize_37 rfl rfl ?_
          refine go_iload_n C dX10_tableSize_38 rfl rfl ?_
          obtain ⟨q16, h16, h⟩ := ob_some h
          refine go_callV_v C dX10_tableSize_39 (ok_X10_laysRing C.hl hB12 h16) mv_X10_165 sh_64 rfl rfl (Nat.le_of_ble_eq_true rfl) ⟨(Nat.le_of_ble_eq_true rfl), (Nat.le_of_ble_eq_true rfl)⟩ ⟨(Nat.le_of_ble_eq_true rfl), (Nat.le_of_ble_eq_true rfl)⟩ (fun hB16 => ?_)
          refine go_aload_n C dX10_tableSize_42 rfl rfl ?_
          obtain ⟨q17, h17, h⟩ := ob_some h
          refine go_callV_i C dX10_tableSize_43 (ok_X10_ringSize C.hl hB16 h17) mv_X10_172 sh_64 rfl rfl (Nat.le_of_ble_eq_true rfl) ⟨(Nat.le_of_ble_eq_true rfl), (Nat.le_of_ble_eq_true rfl)⟩ ⟨(Nat.le_of_ble_eq_true rfl), (Nat.le_of_ble_eq_true rfl)⟩ (fun hB17 => ?_)
          cases h
          exact go_iret C E rfl dX10_tableSize_46 (Nat.le_of_ble_eq_true rfl) (Nat.le_of_ble_eq_true rfl) rfl rfl hB17
        · replace h := ite_t hc15 h
          refine go_aload_n C dX10_tableSize_32 rfl rfl ?_
          obtain ⟨q18, h18, h⟩ := ob_some h
          refine go_callV_i C dX10_tableSize_33 (ok_X10_netSize C.hl hB12 h18) mv_X10_178 sh_64 rfl rfl (Nat.le_of_ble_eq_true rfl) ⟨(Nat.le_of_ble_eq_true rfl), (Nat.le_of_ble_eq_true rfl)⟩ ⟨(Nat.le_of_ble_eq_true rfl), (Nat.le_of_ble_eq_true rfl)⟩ (fun hB18 => ?_)
          cases h
          exact go_iret C E rfl dX10_tableSize_36 (Nat.le_of_ble_eq_true rfl) (Nat.le_of_ble_eq_true rfl) rfl rfl hB18
      · replace h := ite_f hc14 h
        refine go_iconst C dX10_tableSize_25 ?_
        cases h
        exact go_iret C E rfl dX10_tableSize_26 (Nat.le_of_ble_eq_true rfl) (Nat.le_of_ble_eq_true rfl) rfl rfl hB12
    · replace h := ite_f hc11 h
      refine go_iconst C dX10_tableSize_14 ?_
      refine go_goto (tgt := 19) C dX10_tableSize_15 rfl ?_
      obtain ⟨q19, h19, h⟩ := ob_some h
      refine go_callV_i C dX10_tableSize_19 (ok_X10_refused C.hl hB9 h19) mv_X10_67 sh_64 rfl rfl (Nat.le_of_ble_eq_true rfl) ⟨(Nat.le_of_ble_eq_true rfl), (Nat.le_of_ble_eq_true rfl)⟩ ⟨(Nat.le_of_ble_eq_true rfl), (Nat.le_of_ble_eq_true rfl)⟩ (fun hB19 => ?_)
      obtain ⟨hc20, h⟩ := chk_some h
      refine go_if_eq (tgt := 27) C dX10_tableSize_22 rfl hc20 (fun hc21 => ?_) (fun hc21 => ?_)
      · replace h := ite_t hc21 h
        refine go_iload_n C dX10_tableSize_27 rfl rfl ?_
        refine go_iconst C dX10_tableSize_28 ?_
        refine go_icmp_ne (tgt := 37) C dX10_tableSize_29 rfl hp_v1 (by decide) (fun hc22 => ?_) (fun hc22 => ?_)
        · replace h := ite_f hc22 h
          refine go_aload_n C dX10_tableSize_37 rfl rfl ?_
          refine go_iload_n C dX10_tableSize_38 rfl rfl ?_
          obtain ⟨q23, h23, h⟩ := ob_some h
          refine go_callV_v C dX10_tableSize_39 (ok_X10_laysRing C.hl hB19 h23) mv_X10_165 sh_64 rfl rfl (Nat.le_of_ble_eq_true rfl) ⟨(Nat.le_of_ble_eq_true rfl), (Nat.le_of_ble_eq_true rfl)⟩ ⟨(Nat.le_of_ble_eq_true rfl), (Nat.le_of_ble_eq_true rfl)⟩ (fun hB23 => ?_)
          refine go_aload_n C dX10_tableSize_42 rfl rfl ?_
          obtain ⟨q24, h24, h⟩ := ob_some h
          refine go_callV_i C dX10_tableSize_43 (ok_X10_ringSize C.hl hB23 h24) mv_X10_172 sh_64 rfl rfl (Nat.le_of_ble_eq_true rfl) ⟨(Nat.le_of_ble_eq_true rfl), (Nat.le_of_ble_eq_true rfl)⟩ ⟨(Nat.le_of_ble_eq_true rfl), (Nat.le_of_ble_eq_true rfl)⟩ (fun hB24 => ?_)
          cases h
          exact go_iret C E rfl dX10_tableSize_46 (Nat.le_of_ble_eq_true rfl) (Nat.le_of_ble_eq_true rfl) rfl rfl hB24
        · replace h := ite_t hc22 h
          refine go_aload_n C dX10_tableSize_32 rfl rfl ?_
          obtain ⟨q25, h25, h⟩ := ob_some h
          refine go_callV_i C dX10_tableSize_33 (ok_X10_netSize C.hl hB19 h25) mv_X10_178 sh_64 rfl rfl (Nat.le_of_ble_eq_true rfl) ⟨(Nat.le_of_ble_eq_true rfl), (Nat.le_of_ble_eq_true rfl)⟩ ⟨(Nat.le_of_ble_eq_true rfl), (Nat.le_of_ble_eq_true rfl)⟩ (fun hB25 => ?_)
          cases h
          exact go_iret C E rfl dX10_tableSize_36 (Nat.le_of_ble_eq_true rfl) (Nat.le_of_ble_eq_true rfl) rfl rfl hB25
      · replace h := ite_f hc21 h
        refine go_iconst C dX10_tableSize_25 ?_
        cases h
        exact go_iret C E rfl dX10_tableSize_26 (Nat.le_of_ble_eq_true rfl) (Nat.le_of_ble_eq_true rfl) rfl rfl hB19
-- IntervalRouterModel.mostRuns()I
set_option maxHeartbeats 4000000 in
theorem w_X10_mostRuns_4 {G : gC} {X : gX} {res : Int × Mem} {F : Nat} (C : Cx G X cX10_mostRuns 3 RX10 3 0 0 (some .int) []) (E : Fnl G X 0 0 (.inr (some (.int (iI res.1)))) res.2) : ∀ (fu : Nat) (v1 : Int) (v2 : Int) (M : Mem), Bd M → f_X10_mostRuns_4 F fu v1 v2 M = some res → Go G X 3 0 0 4 [some (rf G 64), some (.int (iI v1)), some (.int (iI v2))] [] M := by
  intro fu
  induction fu with
  | zero => intro v1 v2 M hB h; exact nomatch (show (none : Option (Int × Mem)) = some res from h)
  | succ fu ih =>
    intro v1 v2 M hB h
    rw [f_X10_mostRuns_4] at h
    obtain ⟨⟨hp_v1, hp_v2⟩, h⟩ := chk_some h
    refine go_iload_n C dX10_mostRuns_4 rfl rfl ?_
    refine go_aload_n C dX10_mostRuns_5 rfl rfl ?_
    refine go_getR (o := 1) (k2 := 65) C dX10_mostRuns_6 fl_X10_7 sh_64 rfl rfl ?_
    refine go_iconst C dX10_mostRuns_9 ?_
    refine go_iald C dX10_mostRuns_10 sh_65 (by decide) ⟨by decide, by decide⟩ ?_
    refine go_icmp_ge (tgt := 42) C dX10_mostRuns_11 rfl hp_v2 (hB 65 0 (by decide)) (fun hc1 => ?_) (fun hc1 => ?_)
    · replace h := ite_t hc1 h
      refine go_iload_n C dX10_mostRuns_42 rfl rfl ?_
      cases h
      exact go_iret C E rfl dX10_mostRuns_43 (Nat.le_of_ble_eq_true rfl) (Nat.le_of_ble_eq_true rfl) rfl rfl hB
    · replace h := ite_f hc1 h
      refine go_aload_n C dX10_mostRuns_14 rfl rfl ?_
      refine go_iload_n C dX10_mostRuns_15 rfl rfl ?_
      obtain ⟨q2, h2, h⟩ := ob_some h
      refine go_callV_v C dX10_mostRuns_16 (ok_X10_laysRing C.hl hB h2) mv_X10_165 sh_64 rfl rfl (Nat.le_of_ble_eq_true rfl) ⟨(Nat.le_of_ble_eq_true rfl), (Nat.le_of_ble_eq_true rfl)⟩ ⟨(Nat.le_of_ble_eq_true rfl), (Nat.le_of_ble_eq_true rfl)⟩ (fun hB2 => ?_)
      refine go_aload_n C dX10_mostRuns_19 rfl rfl ?_
      obtain ⟨q3, h3, h⟩ := ob_some h
      refine go_callV_i C dX10_mostRuns_20 (ok_X10_ringMost C.hl hB2 h3) mv_X10_181 sh_64 rfl rfl (Nat.le_of_ble_eq_true rfl) ⟨(Nat.le_of_ble_eq_true rfl), (Nat.le_of_ble_eq_true rfl)⟩ ⟨(Nat.le_of_ble_eq_true rfl), (Nat.le_of_ble_eq_true rfl)⟩ (fun hB3 => ?_)
      refine go_iload_n C dX10_mostRuns_23 rfl rfl ?_
      obtain ⟨hc4, h⟩ := chk_some h
      refine go_icmp_le (tgt := 34) C dX10_mostRuns_24 rfl hc4 hp_v1 (fun hc5 => ?_) (fun hc5 => ?_)
      · replace h := ite_t hc5 h
        refine go_iload_n C dX10_mostRuns_34 rfl rfl ?_
        refine go_istore_n (ls2 := [some (rf G 64), some (.int (iI v1)), some (.int (iI v2))]) C dX10_mostRuns_35 rfl (Nat.le_of_ble_eq_true rfl) rfl ?_
        refine go_iinc (ls2 := [some (rf G 64), some (.int (iI v1)), some (.int (iI (v2 + 1)))]) C dX10_mostRuns_36 rfl (Nat.le_of_ble_eq_true rfl) rfl ?_
        refine go_goto (tgt := 4) C dX10_mostRuns_39 rfl ?_
        exact ih v1 (v2 + 1) q2 hB3 h
      · replace h := ite_f hc5 h
        refine go_aload_n C dX10_mostRuns_27 rfl rfl ?_
        obtain ⟨q6, h6, h⟩ := ob_some h
        refine go_callV_i C dX10_mostRuns_28 (ok_X10_ringMost C.hl hB3 h6) mv_X10_181 sh_64 rfl rfl (Nat.le_of_ble_eq_true rfl) ⟨(Nat.le_of_ble_eq_true rfl), (Nat.le_of_ble_eq_true rfl)⟩ ⟨(Nat.le_of_ble_eq_true rfl), (Nat.le_of_ble_eq_true rfl)⟩ (fun hB6 => ?_)
        refine go_goto (tgt := 35) C dX10_mostRuns_31 rfl ?_
        refine go_istore_n (ls2 := [some (rf G 64), some (.int (iI q6)), some (.int (iI v2))]) C dX10_mostRuns_35 rfl (Nat.le_of_ble_eq_true rfl) rfl ?_
        refine go_iinc (ls2 := [some (rf G 64), some (.int (iI q6)), some (.int (iI (v2 + 1)))]) C dX10_mostRuns_36 rfl (Nat.le_of_ble_eq_true rfl) rfl ?_
        refine go_goto (tgt := 4) C dX10_mostRuns_39 rfl ?_
        exact ih q6 (v2 + 1) q2 hB6 h
set_option maxHeartbeats 4000000 in
theorem ok_X10_mostRuns {G : gC} {l : Launch} (hl : l.stackTraces = false) {F : Nat} {M : Mem} (hB : Bd M) {res : Int × Mem} (h : f_X10_mostRuns F M = some res) : Ok G l 3 0 0 yX10_mostRuns (.code yX10_mostRuns cX10_mostRuns 3 (some .int)) [rf G 64] M (.inr (some (.int (iI res.1)))) res.2 := by
  refine ok_of (ls := [some (rf G 64), none, none]) hl (by decide +kernel) (Nat.le_of_ble_eq_true rfl) ⟨rfl, trivial⟩ ?_
  intro X hX C E
  subst hX
  rw [f_X10_mostRuns] at h
  refine go_iconst C dX10_mostRuns_0 ?_
  refine go_istore_n (ls2 := [some (rf G 64), some (.int (iI 0)), none]) C dX10_mostRuns_1 rfl (Nat.le_of_ble_eq_true rfl) rfl ?_
  refine go_iconst C dX10_mostRuns_2 ?_
  refine go_istore_n (ls2 := [some (rf G 64), some (.int (iI 0)), some (.int (iI 0))]) C dX10_mostRuns_3 rfl (Nat.le_of_ble_eq_true rfl) rfl ?_
  exact w_X10_mostRuns_4 C E F 0 0 M hB h
-- IntervalRouterModel.compactness()I
set_option maxHeartbeats 4000000 in
theorem ok_X10_compactness {G : gC} {l : Launch} (hl : l.stackTraces = false) {F : Nat} {M : Mem} (hB : Bd M) {res : Int × Mem} (h : f_X10_compactness F M = some res) : Ok G l 4 0 0 yX10_compactness (.code yX10_compactness cX10_compactness 1 (some .int)) [rf G 64] M (.inr (some (.int (iI res.1)))) res.2 := by
  refine ok_of (ls := [some (rf G 64)]) hl (by decide +kernel) (Nat.le_of_ble_eq_true rfl) ⟨rfl, trivial⟩ ?_
  intro X hX C E
  subst hX
  rw [f_X10_compactness] at h
  refine go_aload_n C dX10_compactness_0 rfl rfl ?_
  refine go_iconst C dX10_compactness_1 ?_
  refine go_putI (z := 3) C dX10_compactness_2 fp_X10_52 sh_64 rfl rfl rfl rfl ?_
  have hB1 := hB.set 64 3 (x := 0) (by decide)
  refine go_aload_n C dX10_compactness_5 rfl rfl ?_
  obtain ⟨q2, h2, h⟩ := ob_some h
  refine go_callV_i C dX10_compactness_6 (ok_X10_mostRuns C.hl hB1 h2) mv_X10_184 sh_64 rfl rfl (Nat.le_of_ble_eq_true rfl) ⟨(Nat.le_of_ble_eq_true rfl), (Nat.le_of_ble_eq_true rfl)⟩ ⟨(Nat.le_of_ble_eq_true rfl), (Nat.le_of_ble_eq_true rfl)⟩ (fun hB2 => ?_)
  cases h
  exact go_iret C E rfl dX10_compactness_9 (Nat.le_of_ble_eq_true rfl) (Nat.le_of_ble_eq_true rfl) rfl rfl hB2
-- IntervalRouterModel.bestSize(I)I
set_option maxHeartbeats 4000000 in
theorem ok_X10_bestSize {G : gC} {l : Launch} (hl : l.stackTraces = false) {F : Nat} {v1 : Int} {M : Mem} (hB : Bd M) {res : Int × Mem} (h : f_X10_bestSize F v1 M = some res) : Ok G l 4 0 0 yX10_bestSize (.code yX10_bestSize cX10_bestSize 2 (some .int)) [rf G 64, .int (iI v1)] M (.inr (some (.int (iI res.1)))) res.2 := by
  refine ok_of (ls := [some (rf G 64), some (.int (iI v1))]) hl (by decide +kernel) (Nat.le_of_ble_eq_true rfl) ⟨rfl, ⟨rfl, trivial⟩⟩ ?_
  intro X hX C E
  subst hX
  rw [f_X10_bestSize] at h
  refine go_aload_n C dX10_bestSize_0 rfl rfl ?_
  refine go_aload_n C dX10_bestSize_1 rfl rfl ?_
  refine go_iload_n C dX10_bestSize_2 rfl rfl ?_
  obtain ⟨q1, h1, h⟩ := ob_some h
  refine go_callV_i C dX10_bestSize_3 (ok_X10_isNode C.hl hB h1) mv_X10_85 sh_64 rfl rfl (Nat.le_of_ble_eq_true rfl) ⟨(Nat.le_of_ble_eq_true rfl), (Nat.le_of_ble_eq_true rfl)⟩ ⟨(Nat.le_of_ble_eq_true rfl), (Nat.le_of_ble_eq_true rfl)⟩ (fun hB1 => ?_)
  obtain ⟨hc2, h⟩ := chk_some h
  refine go_if_eq (tgt := 13) C dX10_bestSize_6 rfl hc2 (fun hc3 => ?_) (fun hc3 => ?_)
  · replace h := ite_t hc3 h
    refine go_iconst C dX10_bestSize_13 ?_
    obtain ⟨q4, h4, h⟩ := ob_some h
    refine go_callV_i C dX10_bestSize_14 (ok_X10_refused C.hl hB1 h4) mv_X10_67 sh_64 rfl rfl (Nat.le_of_ble_eq_true rfl) ⟨(Nat.le_of_ble_eq_true rfl), (Nat.le_of_ble_eq_true rfl)⟩ ⟨(Nat.le_of_ble_eq_true rfl), (Nat.le_of_ble_eq_true rfl)⟩ (fun hB4 => ?_)
    obtain ⟨hc5, h⟩ := chk_some h
    refine go_if_eq (tgt := 22) C dX10_bestSize_17 rfl hc5 (fun hc6 => ?_) (fun hc6 => ?_)
    · replace h := ite_t hc6 h
      refine go_aload_n C dX10_bestSize_22 rfl rfl ?_
      obtain ⟨q7, h7, h⟩ := ob_some h
      refine go_callV_v C dX10_bestSize_23 (ok_X10_laysFar C.hl hB4 h7) mv_X10_101 sh_64 rfl rfl (Nat.le_of_ble_eq_true rfl) ⟨(Nat.le_of_ble_eq_true rfl), (Nat.le_of_ble_eq_true rfl)⟩ ⟨(Nat.le_of_ble_eq_true rfl), (Nat.le_of_ble_eq_true rfl)⟩ (fun hB7 => ?_)
      refine go_aload_n C dX10_bestSize_26 rfl rfl ?_
      refine go_iload_n C dX10_bestSize_27 rfl rfl ?_
      obtain ⟨q8, h8, h⟩ := ob_some h
      refine go_callV_v C dX10_bestSize_28 (ok_X10_laysBest C.hl hB7 h8) mv_X10_175 sh_64 rfl rfl (Nat.le_of_ble_eq_true rfl) ⟨(Nat.le_of_ble_eq_true rfl), (Nat.le_of_ble_eq_true rfl)⟩ ⟨(Nat.le_of_ble_eq_true rfl), (Nat.le_of_ble_eq_true rfl)⟩ (fun hB8 => ?_)
      refine go_aload_n C dX10_bestSize_31 rfl rfl ?_
      obtain ⟨q9, h9, h⟩ := ob_some h
      refine go_callV_i C dX10_bestSize_32 (ok_X10_ringSize C.hl hB8 h9) mv_X10_172 sh_64 rfl rfl (Nat.le_of_ble_eq_true rfl) ⟨(Nat.le_of_ble_eq_true rfl), (Nat.le_of_ble_eq_true rfl)⟩ ⟨(Nat.le_of_ble_eq_true rfl), (Nat.le_of_ble_eq_true rfl)⟩ (fun hB9 => ?_)
      cases h
      exact go_iret C E rfl dX10_bestSize_35 (Nat.le_of_ble_eq_true rfl) (Nat.le_of_ble_eq_true rfl) rfl rfl hB9
    · replace h := ite_f hc6 h
      refine go_iconst C dX10_bestSize_20 ?_
      cases h
      exact go_iret C E rfl dX10_bestSize_21 (Nat.le_of_ble_eq_true rfl) (Nat.le_of_ble_eq_true rfl) rfl rfl hB4
  · replace h := ite_f hc3 h
    refine go_iconst C dX10_bestSize_9 ?_
    refine go_goto (tgt := 14) C dX10_bestSize_10 rfl ?_
    obtain ⟨q10, h10, h⟩ := ob_some h
    refine go_callV_i C dX10_bestSize_14 (ok_X10_refused C.hl hB1 h10) mv_X10_67 sh_64 rfl rfl (Nat.le_of_ble_eq_true rfl) ⟨(Nat.le_of_ble_eq_true rfl), (Nat.le_of_ble_eq_true rfl)⟩ ⟨(Nat.le_of_ble_eq_true rfl), (Nat.le_of_ble_eq_true rfl)⟩ (fun hB10 => ?_)
    obtain ⟨hc11, h⟩ := chk_some h
    refine go_if_eq (tgt := 22) C dX10_bestSize_17 rfl hc11 (fun hc12 => ?_) (fun hc12 => ?_)
    · replace h := ite_t hc12 h
      refine go_aload_n C dX10_bestSize_22 rfl rfl ?_
      obtain ⟨q13, h13, h⟩ := ob_some h
      refine go_callV_v C dX10_bestSize_23 (ok_X10_laysFar C.hl hB10 h13) mv_X10_101 sh_64 rfl rfl (Nat.le_of_ble_eq_true rfl) ⟨(Nat.le_of_ble_eq_true rfl), (Nat.le_of_ble_eq_true rfl)⟩ ⟨(Nat.le_of_ble_eq_true rfl), (Nat.le_of_ble_eq_true rfl)⟩ (fun hB13 => ?_)
      refine go_aload_n C dX10_bestSize_26 rfl rfl ?_
      refine go_iload_n C dX10_bestSize_27 rfl rfl ?_
      obtain ⟨q14, h14, h⟩ := ob_some h
      refine go_callV_v C dX10_bestSize_28 (ok_X10_laysBest C.hl hB13 h14) mv_X10_175 sh_64 rfl rfl (Nat.le_of_ble_eq_true rfl) ⟨(Nat.le_of_ble_eq_true rfl), (Nat.le_of_ble_eq_true rfl)⟩ ⟨(Nat.le_of_ble_eq_true rfl), (Nat.le_of_ble_eq_true rfl)⟩ (fun hB14 => ?_)
      refine go_aload_n C dX10_bestSize_31 rfl rfl ?_
      obtain ⟨q15, h15, h⟩ := ob_some h
      refine go_callV_i C dX10_bestSize_32 (ok_X10_ringSize C.hl hB14 h15) mv_X10_172 sh_64 rfl rfl (Nat.le_of_ble_eq_true rfl) ⟨(Nat.le_of_ble_eq_true rfl), (Nat.le_of_ble_eq_true rfl)⟩ ⟨(Nat.le_of_ble_eq_true rfl), (Nat.le_of_ble_eq_true rfl)⟩ (fun hB15 => ?_)
      cases h
      exact go_iret C E rfl dX10_bestSize_35 (Nat.le_of_ble_eq_true rfl) (Nat.le_of_ble_eq_true rfl) rfl rfl hB15
    · replace h := ite_f hc12 h
      refine go_iconst C dX10_bestSize_20 ?_
      cases h
      exact go_iret C E rfl dX10_bestSize_21 (Nat.le_of_ble_eq_true rfl) (Nat.le_of_ble_eq_true rfl) rfl rfl hB10
-- IntervalRouterModel.checks(II)I
set_option maxHeartbeats 4000000 in
theorem ok_X10_checks {G : gC} {l : Launch} (hl : l.stackTraces = false) {F : Nat} {v1 : Int} {v2 : Int} {M : Mem} (hB : Bd M) {res : Int} (h : f_X10_checks F v1 v2 M = some res) : Ok G l 3 0 0 yX10_checks (.code yX10_checks cX10_checks 4 (some .int)) [rf G 64, .int (iI v1), .int (iI v2)] M (.inr (some (.int (iI res)))) M := by
  refine ok_of (ls := [some (rf G 64), some (.int (iI v1)), some (.int (iI v2)), none]) hl (by decide +kernel) (Nat.le_of_ble_eq_true rfl) ⟨rfl, ⟨rfl, ⟨rfl, trivial⟩⟩⟩ ?_
  intro X hX C E
  subst hX
  rw [f_X10_checks] at h
  obtain ⟨⟨hp_v1, hp_v2⟩, h⟩ := chk_some h
  refine go_iload_n C dX10_checks_0 rfl rfl ?_
  refine go_iload_n C dX10_checks_1 rfl rfl ?_
  refine go_icmp_ne (tgt := 7) C dX10_checks_2 rfl hp_v1 hp_v2 (fun hc1 => ?_) (fun hc1 => ?_)
  · replace h := ite_f hc1 h
    refine go_aload_n C dX10_checks_7 rfl rfl ?_
    refine go_iload_n C dX10_checks_8 rfl rfl ?_
    refine go_iload_n C dX10_checks_9 rfl rfl ?_
    obtain ⟨q2, h2, h⟩ := ob_some h
    refine go_callV_i C dX10_checks_10 (ok_X10_farFrom C.hl hB h2) mv_X10_104 sh_64 rfl rfl (Nat.le_of_ble_eq_true rfl) ⟨(Nat.le_of_ble_eq_true rfl), (Nat.le_of_ble_eq_true rfl)⟩ ⟨(Nat.le_of_ble_eq_true rfl), (Nat.le_of_ble_eq_true rfl)⟩ (fun hB2 => ?_)
    refine go_sipush C dX10_checks_13 (by decide +kernel) ?_
    obtain ⟨hc3, h⟩ := chk_some h
    refine go_icmp_ne (tgt := 21) C dX10_checks_16 rfl hc3 (by decide) (fun hc4 => ?_) (fun hc4 => ?_)
    · replace h := ite_f hc4 h
      refine go_aload_n C dX10_checks_21 rfl rfl ?_
      refine go_iload_n C dX10_checks_22 rfl rfl ?_
      refine go_aload_n C dX10_checks_23 rfl rfl ?_
      refine go_getR (o := 1) (k2 := 65) C dX10_checks_24 fl_X10_7 sh_64 rfl rfl ?_
      refine go_bipush C dX10_checks_27 (by decide +kernel) ?_
      refine go_iload_n C dX10_checks_29 rfl rfl ?_
      refine go_iadd C dX10_checks_30 ?_
      obtain ⟨hc5, h⟩ := chk_some h
      refine go_iald C dX10_checks_31 sh_65 (by decide) hc5 ?_
      obtain ⟨q6, h6, h⟩ := ob_some h
      refine go_callV_i C dX10_checks_32 (ok_X10_entryAt C.hl hB2 h6) mv_X10_149 sh_64 rfl rfl (Nat.le_of_ble_eq_true rfl) ⟨(Nat.le_of_ble_eq_true rfl), (Nat.le_of_ble_eq_true rfl)⟩ ⟨(Nat.le_of_ble_eq_true rfl), (Nat.le_of_ble_eq_true rfl)⟩ (fun hB6 => ?_)
      refine go_istore_n (ls2 := [some (rf G 64), some (.int (iI v1)), some (.int (iI v2)), some (.int (iI q6))]) C dX10_checks_35 rfl (Nat.le_of_ble_eq_true rfl) rfl ?_
      refine go_iload_n C dX10_checks_36 rfl rfl ?_
      refine go_iconst C dX10_checks_37 ?_
      obtain ⟨hc7, h⟩ := chk_some h
      refine go_icmp_ne (tgt := 45) C dX10_checks_38 rfl hc7 (by decide) (fun hc8 => ?_) (fun hc8 => ?_)
      · replace h := ite_f hc8 h
        refine go_aload_n C dX10_checks_45 rfl rfl ?_
        refine go_iload_n C dX10_checks_46 rfl rfl ?_
        refine go_iload_n C dX10_checks_47 rfl rfl ?_
        obtain ⟨q9, h9, h⟩ := ob_some h
        refine go_callV_i C dX10_checks_48 (ok_X10_good C.hl hB6 h9) mv_X10_110 sh_64 rfl rfl (Nat.le_of_ble_eq_true rfl) ⟨(Nat.le_of_ble_eq_true rfl), (Nat.le_of_ble_eq_true rfl)⟩ ⟨(Nat.le_of_ble_eq_true rfl), (Nat.le_of_ble_eq_true rfl)⟩ (fun hB9 => ?_)
        refine go_iload_n C dX10_checks_51 rfl rfl ?_
        obtain ⟨q10, h10, h⟩ := ob_some h
        refine go_callS_i C dX10_checks_52 (ok_X10_has C.hl hB9 h10) ms_X10_120 rfl rfl (Nat.le_of_ble_eq_true rfl) ⟨(Nat.le_of_ble_eq_true rfl), (Nat.le_of_ble_eq_true rfl)⟩ ⟨(Nat.le_of_ble_eq_true rfl), (Nat.le_of_ble_eq_true rfl)⟩ (fun hB10 => ?_)
        obtain ⟨hc11, h⟩ := chk_some h
        refine go_if_eq (tgt := 62) C dX10_checks_55 rfl hc11 (fun hc12 => ?_) (fun hc12 => ?_)
        · replace h := ite_t hc12 h
          refine go_iconst C dX10_checks_62 ?_
          cases h
          exact go_iret C E rfl dX10_checks_63 (Nat.le_of_ble_eq_true rfl) (Nat.le_of_ble_eq_true rfl) rfl rfl hB10
        · replace h := ite_f hc12 h
          refine go_iconst C dX10_checks_58 ?_
          refine go_goto (tgt := 63) C dX10_checks_59 rfl ?_
          cases h
          exact go_iret C E rfl dX10_checks_63 (Nat.le_of_ble_eq_true rfl) (Nat.le_of_ble_eq_true rfl) rfl rfl hB10
      · replace h := ite_t hc8 h
        refine go_iconst C dX10_checks_41 ?_
        refine go_goto (tgt := 63) C dX10_checks_42 rfl ?_
        cases h
        exact go_iret C E rfl dX10_checks_63 (Nat.le_of_ble_eq_true rfl) (Nat.le_of_ble_eq_true rfl) rfl rfl hB6
    · replace h := ite_t hc4 h
      refine go_iconst C dX10_checks_19 ?_
      cases h
      exact go_iret C E rfl dX10_checks_20 (Nat.le_of_ble_eq_true rfl) (Nat.le_of_ble_eq_true rfl) rfl rfl hB2
  · replace h := ite_t hc1 h
    refine go_iconst C dX10_checks_5 ?_
    cases h
    exact go_iret C E rfl dX10_checks_6 (Nat.le_of_ble_eq_true rfl) (Nat.le_of_ble_eq_true rfl) rfl rfl hB
-- IntervalRouterModel.check(II)I
set_option maxHeartbeats 4000000 in
theorem ok_X10_check {G : gC} {l : Launch} (hl : l.stackTraces = false) {F : Nat} {v1 : Int} {v2 : Int} {M : Mem} (hB : Bd M) {res : Int × Mem} (h : f_X10_check F v1 v2 M = some res) : Ok G l 4 0 0 yX10_check (.code yX10_check cX10_check 3 (some .int)) [rf G 64, .int (iI v1), .int (iI v2)] M (.inr (some (.int (iI res.1)))) res.2 := by
  refine ok_of (ls := [some (rf G 64), some (.int (iI v1)), some (.int (iI v2))]) hl (by decide +kernel) (Nat.le_of_ble_eq_true rfl) ⟨rfl, ⟨rfl, ⟨rfl, trivial⟩⟩⟩ ?_
  intro X hX C E
  subst hX
  rw [f_X10_check] at h
  refine go_aload_n C dX10_check_0 rfl rfl ?_
  refine go_aload_n C dX10_check_1 rfl rfl ?_
  refine go_iload_n C dX10_check_2 rfl rfl ?_
  obtain ⟨q1, h1, h⟩ := ob_some h
  refine go_callV_i C dX10_check_3 (ok_X10_isNode C.hl hB h1) mv_X10_85 sh_64 rfl rfl (Nat.le_of_ble_eq_true rfl) ⟨(Nat.le_of_ble_eq_true rfl), (Nat.le_of_ble_eq_true rfl)⟩ ⟨(Nat.le_of_ble_eq_true rfl), (Nat.le_of_ble_eq_true rfl)⟩ (fun hB1 => ?_)
  obtain ⟨hc2, h⟩ := chk_some h
  refine go_if_eq (tgt := 21) C dX10_check_6 rfl hc2 (fun hc3 => ?_) (fun hc3 => ?_)
  · replace h := ite_t hc3 h
    refine go_iconst C dX10_check_21 ?_
    obtain ⟨q4, h4, h⟩ := ob_some h
    refine go_callV_i C dX10_check_22 (ok_X10_refused C.hl hB1 h4) mv_X10_67 sh_64 rfl rfl (Nat.le_of_ble_eq_true rfl) ⟨(Nat.le_of_ble_eq_true rfl), (Nat.le_of_ble_eq_true rfl)⟩ ⟨(Nat.le_of_ble_eq_true rfl), (Nat.le_of_ble_eq_true rfl)⟩ (fun hB4 => ?_)
    obtain ⟨hc5, h⟩ := chk_some h
    refine go_if_eq (tgt := 30) C dX10_check_25 rfl hc5 (fun hc6 => ?_) (fun hc6 => ?_)
    · replace h := ite_t hc6 h
      refine go_aload_n C dX10_check_30 rfl rfl ?_
      obtain ⟨q7, h7, h⟩ := ob_some h
      refine go_callV_v C dX10_check_31 (ok_X10_laysFar C.hl hB4 h7) mv_X10_101 sh_64 rfl rfl (Nat.le_of_ble_eq_true rfl) ⟨(Nat.le_of_ble_eq_true rfl), (Nat.le_of_ble_eq_true rfl)⟩ ⟨(Nat.le_of_ble_eq_true rfl), (Nat.le_of_ble_eq_true rfl)⟩ (fun hB7 => ?_)
      refine go_aload_n C dX10_check_34 rfl rfl ?_
      refine go_iload_n C dX10_check_35 rfl rfl ?_
      refine go_iload_n C dX10_check_36 rfl rfl ?_
      obtain ⟨q8, h8, h⟩ := ob_some h
      refine go_callV_i C dX10_check_37 (ok_X10_checks C.hl hB7 h8) mv_X10_187 sh_64 rfl rfl (Nat.le_of_ble_eq_true rfl) ⟨(Nat.le_of_ble_eq_true rfl), (Nat.le_of_ble_eq_true rfl)⟩ ⟨(Nat.le_of_ble_eq_true rfl), (Nat.le_of_ble_eq_true rfl)⟩ (fun hB8 => ?_)
      cases h
      exact go_iret C E rfl dX10_check_40 (Nat.le_of_ble_eq_true rfl) (Nat.le_of_ble_eq_true rfl) rfl rfl hB8
    · replace h := ite_f hc6 h
      refine go_iconst C dX10_check_28 ?_
      cases h
      exact go_iret C E rfl dX10_check_29 (Nat.le_of_ble_eq_true rfl) (Nat.le_of_ble_eq_true rfl) rfl rfl hB4
  · replace h := ite_f hc3 h
    refine go_aload_n C dX10_check_9 rfl rfl ?_
    refine go_iload_n C dX10_check_10 rfl rfl ?_
    obtain ⟨q9, h9, h⟩ := ob_some h
    refine go_callV_i C dX10_check_11 (ok_X10_isNode C.hl hB1 h9) mv_X10_85 sh_64 rfl rfl (Nat.le_of_ble_eq_true rfl) ⟨(Nat.le_of_ble_eq_true rfl), (Nat.le_of_ble_eq_true rfl)⟩ ⟨(Nat.le_of_ble_eq_true rfl), (Nat.le_of_ble_eq_true rfl)⟩ (fun hB9 => ?_)
    obtain ⟨hc10, h⟩ := chk_some h
    refine go_if_eq (tgt := 21) C dX10_check_14 rfl hc10 (fun hc11 => ?_) (fun hc11 => ?_)
    · replace h := ite_t hc11 h
      refine go_iconst C dX10_check_21 ?_
      obtain ⟨q12, h12, h⟩ := ob_some h
      refine go_callV_i C dX10_check_22 (ok_X10_refused C.hl hB9 h12) mv_X10_67 sh_64 rfl rfl (Nat.le_of_ble_eq_true rfl) ⟨(Nat.le_of_ble_eq_true rfl), (Nat.le_of_ble_eq_true rfl)⟩ ⟨(Nat.le_of_ble_eq_true rfl), (Nat.le_of_ble_eq_true rfl)⟩ (fun hB12 => ?_)
      obtain ⟨hc13, h⟩ := chk_some h
      refine go_if_eq (tgt := 30) C dX10_check_25 rfl hc13 (fun hc14 => ?_) (fun hc14 => ?_)
      · replace h := ite_t hc14 h
        refine go_aload_n C dX10_check_30 rfl rfl ?_
        obtain ⟨q15, h15, h⟩ := ob_some h
        refine go_callV_v C dX10_check_31 (ok_X10_laysFar C.hl hB12 h15) mv_X10_101 sh_64 rfl rfl (Nat.le_of_ble_eq_true rfl) ⟨(Nat.le_of_ble_eq_true rfl), (Nat.le_of_ble_eq_true rfl)⟩ ⟨(Nat.le_of_ble_eq_true rfl), (Nat.le_of_ble_eq_true rfl)⟩ (fun hB15 => ?_)
        refine go_aload_n C dX10_check_34 rfl rfl ?_
        refine go_iload_n C dX10_check_35 rfl rfl ?_
        refine go_iload_n C dX10_check_36 rfl rfl ?_
        obtain ⟨q16, h16, h⟩ := ob_some h
        refine go_callV_i C dX10_check_37 (ok_X10_checks C.hl hB15 h16) mv_X10_187 sh_64 rfl rfl (Nat.le_of_ble_eq_true rfl) ⟨(Nat.le_of_ble_eq_true rfl), (Nat.le_of_ble_eq_true rfl)⟩ ⟨(Nat.le_of_ble_eq_true rfl), (Nat.le_of_ble_eq_true rfl)⟩ (fun hB16 => ?_)
        cases h
        exact go_iret C E rfl dX10_check_40 (Nat.le_of_ble_eq_true rfl) (Nat.le_of_ble_eq_true rfl) rfl rfl hB16
      · replace h := ite_f hc14 h
        refine go_iconst C dX10_check_28 ?_
        cases h
        exact go_iret C E rfl dX10_check_29 (Nat.le_of_ble_eq_true rfl) (Nat.le_of_ble_eq_true rfl) rfl rfl hB12
    · replace h := ite_f hc11 h
      refine go_iconst C dX10_check_17 ?_
      refine go_goto (tgt := 22) C dX10_check_18 rfl ?_
      obtain ⟨q17, h17, h⟩ := ob_some h
      refine go_callV_i C dX10_check_22 (ok_X10_refused C.hl hB9 h17) mv_X10_67 sh_64 rfl rfl (Nat.le_of_ble_eq_true rfl) ⟨(Nat.le_of_ble_eq_true rfl), (Nat.le_of_ble_eq_true rfl)⟩ ⟨(Nat.le_of_ble_eq_true rfl), (Nat.le_of_ble_eq_true rfl)⟩ (fun hB17 => ?_)
      obtain ⟨hc18, h⟩ := chk_some h
      refine go_if_eq (tgt := 30) C dX10_check_25 rfl hc18 (fun hc19 => ?_) (fun hc19 => ?_)
      · replace h := ite_t hc19 h
        refine go_aload_n C dX10_check_30 rfl rfl ?_
        obtain ⟨q20, h20, h⟩ := ob_some h
        refine go_callV_v C dX10_check_31 (ok_X10_laysFar C.hl hB17 h20) mv_X10_101 sh_64 rfl rfl (Nat.le_of_ble_eq_true rfl) ⟨(Nat.le_of_ble_eq_true rfl), (Nat.le_of_ble_eq_true rfl)⟩ ⟨(Nat.le_of_ble_eq_true rfl), (Nat.le_of_ble_eq_true rfl)⟩ (fun hB20 => ?_)
        refine go_aload_n C dX10_check_34 rfl rfl ?_
        refine go_iload_n C dX10_check_35 rfl rfl ?_
        refine go_iload_n C dX10_check_36 rfl rfl ?_
        obtain ⟨q21, h21, h⟩ := ob_some h
        refine go_callV_i C dX10_check_37 (ok_X10_checks C.hl hB20 h21) mv_X10_187 sh_64 rfl rfl (Nat.le_of_ble_eq_true rfl) ⟨(Nat.le_of_ble_eq_true rfl), (Nat.le_of_ble_eq_true rfl)⟩ ⟨(Nat.le_of_ble_eq_true rfl), (Nat.le_of_ble_eq_true rfl)⟩ (fun hB21 => ?_)
        cases h
        exact go_iret C E rfl dX10_check_40 (Nat.le_of_ble_eq_true rfl) (Nat.le_of_ble_eq_true rfl) rfl rfl hB21
      · replace h := ite_f hc19 h
        refine go_iconst C dX10_check_28 ?_
        cases h
        exact go_iret C E rfl dX10_check_29 (Nat.le_of_ble_eq_true rfl) (Nat.le_of_ble_eq_true rfl) rfl rfl hB17
-- IntervalRouterModel.checkedFor(I)I
set_option maxHeartbeats 4000000 in
theorem w_X10_checkedFor_17 {G : gC} {X : gX} {res : Int} {F : Nat} {M : Mem} (hB : Bd M) (C : Cx G X cX10_checkedFor 5 RX10 4 0 0 (some .int) []) (E : Fnl G X 0 0 (.inr (some (.int (iI res)))) M) {k4 : Int → Int → Int → Mem → Option (Int)} (hk4 : ∀ (v1 : Int) (v2 : Int) (v3 : Int), k4 v1 v2 v3 M = some res → Go G X 5 0 0 4 [some (rf G 64), some (.int (iI v1)), some (.int (iI v2)), some (.int (iI v3)), none] [] M) : ∀ (fu : Nat) (v1 : Int) (v2 : Int) (v3 : Int) (v4 : Int), f_X10_checkedFor_17 F k4 fu v1 v2 v3 v4 M = some res → Go G X 5 0 0 17 [some (rf G 64), some (.int (iI v1)), some (.int (iI v2)), some (.int (iI v3)), some (.int (iI v4))] [] M := by
  intro fu
  induction fu with
  | zero => intro v1 v2 v3 v4 h; exact nomatch (show (none : Option (Int)) = some res from h)
  | succ fu ih =>
    intro v1 v2 v3 v4 h
    rw [f_X10_checkedFor_17] at h
    obtain ⟨⟨hp_v1, hp_v4⟩, h⟩ := chk_some h
    refine go_iload C dX10_checkedFor_17 rfl ?_
    refine go_aload_n C dX10_checkedFor_19 rfl rfl ?_
    refine go_getR (o := 1) (k2 := 65) C dX10_checkedFor_20 fl_X10_7 sh_64 rfl rfl ?_
    refine go_iconst C dX10_checkedFor_23 ?_
    refine go_iald C dX10_checkedFor_24 sh_65 (by decide) ⟨by decide, by decide⟩ ?_
    refine go_icmp_ge (tgt := 53) C dX10_checkedFor_25 rfl hp_v4 (hB 65 0 (by decide)) (fun hc2 => ?_) (fun hc2 => ?_)
    · replace h := ite_t hc2 h
      refine go_iinc (ls2 := [some (rf G 64), some (.int (iI v1)), some (.int (iI v2)), some (.int (iI (v3 + 1))), some (.int (iI v4))]) C dX10_checkedFor_53 rfl (Nat.le_of_ble_eq_true rfl) rfl ?_
      refine go_goto (tgt := 4) C dX10_checkedFor_56 rfl ?_
      refine go_weak (ls' := [some (rf G 64), some (.int (iI v1)), some (.int (iI v2)), some (.int (iI (v3 + 1))), none]) ⟨rfl, ⟨rfl, ⟨rfl, ⟨rfl, trivial⟩⟩⟩⟩ ?_
      exact hk4 v1 v2 (v3 + 1) h
    · replace h := ite_f hc2 h
      refine go_iload_n C dX10_checkedFor_28 rfl rfl ?_
      refine go_aload_n C dX10_checkedFor_29 rfl rfl ?_
      refine go_iload_n C dX10_checkedFor_30 rfl rfl ?_
      refine go_iload C dX10_checkedFor_31 rfl ?_
      obtain ⟨q3, h3, h⟩ := ob_some h
      refine go_callV_i C dX10_checkedFor_33 (ok_X10_checks C.hl hB h3) mv_X10_187 sh_64 rfl rfl (Nat.le_of_ble_eq_true rfl) ⟨(Nat.le_of_ble_eq_true rfl), (Nat.le_of_ble_eq_true rfl)⟩ ⟨(Nat.le_of_ble_eq_true rfl), (Nat.le_of_ble_eq_true rfl)⟩ (fun hB3 => ?_)
      refine go_iload_n C dX10_checkedFor_36 rfl rfl ?_
      obtain ⟨hc4, h⟩ := chk_some h
      refine go_icmp_ne (tgt := 44) C dX10_checkedFor_37 rfl hc4 hp_v1 (fun hc5 => ?_) (fun hc5 => ?_)
      · replace h := ite_f hc5 h
        refine go_iconst C dX10_checkedFor_44 ?_
        refine go_iadd C dX10_checkedFor_45 ?_
        refine go_istore_n (ls2 := [some (rf G 64), some (.int (iI v1)), some (.int (iI (v2 + 0))), some (.int (iI v3)), some (.int (iI v4))]) C dX10_checkedFor_46 rfl (Nat.le_of_ble_eq_true rfl) rfl ?_
        refine go_iinc (ls2 := [some (rf G 64), some (.int (iI v1)), some (.int (iI (v2 + 0))), some (.int (iI v3)), some (.int (iI (v4 + 1)))]) C dX10_checkedFor_47 rfl (Nat.le_of_ble_eq_true rfl) rfl ?_
        refine go_goto (tgt := 17) C dX10_checkedFor_50 rfl ?_
        exact ih v1 (v2 + 0) v3 (v4 + 1) h
      · replace h := ite_t hc5 h
        refine go_iconst C dX10_checkedFor_40 ?_
        refine go_goto (tgt := 45) C dX10_checkedFor_41 rfl ?_
        refine go_iadd C dX10_checkedFor_45 ?_
        refine go_istore_n (ls2 := [some (rf G 64), some (.int (iI v1)), some (.int (iI (v2 + 1))), some (.int (iI v3)), some (.int (iI v4))]) C dX10_checkedFor_46 rfl (Nat.le_of_ble_eq_true rfl) rfl ?_
        refine go_iinc (ls2 := [some (rf G 64), some (.int (iI v1)), some (.int (iI (v2 + 1))), some (.int (iI v3)), some (.int (iI (v4 + 1)))]) C dX10_checkedFor_47 rfl (Nat.le_of_ble_eq_true rfl) rfl ?_
        refine go_goto (tgt := 17) C dX10_checkedFor_50 rfl ?_
        exact ih v1 (v2 + 1) v3 (v4 + 1) h
set_option maxHeartbeats 4000000 in
theorem w_X10_checkedFor_4 {G : gC} {X : gX} {res : Int} {F : Nat} {M : Mem} (hB : Bd M) (C : Cx G X cX10_checkedFor 5 RX10 4 0 0 (some .int) []) (E : Fnl G X 0 0 (.inr (some (.int (iI res)))) M) : ∀ (fu : Nat) (v1 : Int) (v2 : Int) (v3 : Int), f_X10_checkedFor_4 F fu v1 v2 v3 M = some res → Go G X 5 0 0 4 [some (rf G 64), some (.int (iI v1)), some (.int (iI v2)), some (.int (iI v3)), none] [] M := by
  intro fu
  induction fu with
  | zero => intro v1 v2 v3 h; exact nomatch (show (none : Option (Int)) = some res from h)
  | succ fu ih =>
    intro v1 v2 v3 h
    rw [f_X10_checkedFor_4] at h
    obtain ⟨hp_v3, h⟩ := chk_some h
    refine go_iload_n C dX10_checkedFor_4 rfl rfl ?_
    refine go_aload_n C dX10_checkedFor_5 rfl rfl ?_
    refine go_getR (o := 1) (k2 := 65) C dX10_checkedFor_6 fl_X10_7 sh_64 rfl rfl ?_
    refine go_iconst C dX10_checkedFor_9 ?_
    refine go_iald C dX10_checkedFor_10 sh_65 (by decide) ⟨by decide, by decide⟩ ?_
    refine go_icmp_ge (tgt := 59) C dX10_checkedFor_11 rfl hp_v3 (hB 65 0 (by decide)) (fun hc1 => ?_) (fun hc1 => ?_)
    · replace h := ite_t hc1 h
      refine go_iload_n C dX10_checkedFor_59 rfl rfl ?_
      cases h
      exact go_iret C E rfl dX10_checkedFor_60 (Nat.le_of_ble_eq_true rfl) (Nat.le_of_ble_eq_true rfl) rfl rfl hB
    · replace h := ite_f hc1 h
      refine go_iconst C dX10_checkedFor_14 ?_
      refine go_istore (ls2 := [some (rf G 64), some (.int (iI v1)), some (.int (iI v2)), some (.int (iI v3)), some (.int (iI 0))]) C dX10_checkedFor_15 (Nat.le_of_ble_eq_true rfl) rfl ?_
      exact w_X10_checkedFor_17 hB C E ih F v1 v2 v3 0 h
set_option maxHeartbeats 4000000 in
theorem ok_X10_checkedFor {G : gC} {l : Launch} (hl : l.stackTraces = false) {F : Nat} {v1 : Int} {M : Mem} (hB : Bd M) {res : Int} (h : f_X10_checkedFor F v1 M = some res) : Ok G l 4 0 0 yX10_checkedFor (.code yX10_checkedFor cX10_checkedFor 5 (some .int)) [rf G 64, .int (iI v1)] M (.inr (some (.int (iI res)))) M := by
  refine ok_of (ls := [some (rf G 64), some (.int (iI v1)), none, none, none]) hl (by decide +kernel) (Nat.le_of_ble_eq_true rfl) ⟨rfl, ⟨rfl, trivial⟩⟩ ?_
  intro X hX C E
  subst hX
  rw [f_X10_checkedFor] at h
  refine go_iconst C dX10_checkedFor_0 ?_
  refine go_istore_n (ls2 := [some (rf G 64), some (.int (iI v1)), some (.int (iI 0)), none, none]) C dX10_checkedFor_1 rfl (Nat.le_of_ble_eq_true rfl) rfl ?_
  refine go_iconst C dX10_checkedFor_2 ?_
  refine go_istore_n (ls2 := [some (rf G 64), some (.int (iI v1)), some (.int (iI 0)), some (.int (iI 0)), none]) C dX10_checkedFor_3 rfl (Nat.le_of_ble_eq_true rfl) rfl ?_
  exact w_X10_checkedFor_4 hB C E F v1 0 0 h
-- IntervalRouterModel.checked(I)I
set_option maxHeartbeats 4000000 in
theorem ok_X10_checked {G : gC} {l : Launch} (hl : l.stackTraces = false) {F : Nat} {v1 : Int} {M : Mem} (hB : Bd M) {res : Int × Mem} (h : f_X10_checked F v1 M = some res) : Ok G l 5 0 0 yX10_checked (.code yX10_checked cX10_checked 2 (some .int)) [rf G 64, .int (iI v1)] M (.inr (some (.int (iI res.1)))) res.2 := by
  refine ok_of (ls := [some (rf G 64), some (.int (iI v1))]) hl (by decide +kernel) (Nat.le_of_ble_eq_true rfl) ⟨rfl, ⟨rfl, trivial⟩⟩ ?_
  intro X hX C E
  subst hX
  rw [f_X10_checked] at h
  refine go_aload_n C dX10_checked_0 rfl rfl ?_
  refine go_iload_n C dX10_checked_1 rfl rfl ?_
  refine go_iconst C dX10_checked_2 ?_
  refine go_iconst C dX10_checked_3 ?_
  obtain ⟨q1, h1, h⟩ := ob_some h
  refine go_callS_i C dX10_checked_4 (ok_X10_within C.hl hB h1) ms_X10_56 rfl rfl (Nat.le_of_ble_eq_true rfl) ⟨(Nat.le_of_ble_eq_true rfl), (Nat.le_of_ble_eq_true rfl)⟩ ⟨(Nat.le_of_ble_eq_true rfl), (Nat.le_of_ble_eq_true rfl)⟩ (fun hB1 => ?_)
  obtain ⟨hc2, h⟩ := chk_some h
  refine go_if_eq (tgt := 14) C dX10_checked_7 rfl hc2 (fun hc3 => ?_) (fun hc3 => ?_)
  · replace h := ite_t hc3 h
    refine go_iconst C dX10_checked_14 ?_
    obtain ⟨q4, h4, h⟩ := ob_some h
    refine go_callV_i C dX10_checked_15 (ok_X10_refused C.hl hB1 h4) mv_X10_67 sh_64 rfl rfl (Nat.le_of_ble_eq_true rfl) ⟨(Nat.le_of_ble_eq_true rfl), (Nat.le_of_ble_eq_true rfl)⟩ ⟨(Nat.le_of_ble_eq_true rfl), (Nat.le_of_ble_eq_true rfl)⟩ (fun hB4 => ?_)
    obtain ⟨hc5, h⟩ := chk_some h
    refine go_if_eq (tgt := 23) C dX10_checked_18 rfl hc5 (fun hc6 => ?_) (fun hc6 => ?_)
    · replace h := ite_t hc6 h
      refine go_aload_n C dX10_checked_23 rfl rfl ?_
      obtain ⟨q7, h7, h⟩ := ob_some h
      refine go_callV_v C dX10_checked_24 (ok_X10_laysFar C.hl hB4 h7) mv_X10_101 sh_64 rfl rfl (Nat.le_of_ble_eq_true rfl) ⟨(Nat.le_of_ble_eq_true rfl), (Nat.le_of_ble_eq_true rfl)⟩ ⟨(Nat.le_of_ble_eq_true rfl), (Nat.le_of_ble_eq_true rfl)⟩ (fun hB7 => ?_)
      refine go_aload_n C dX10_checked_27 rfl rfl ?_
      refine go_iload_n C dX10_checked_28 rfl rfl ?_
      obtain ⟨q8, h8, h⟩ := ob_some h
      refine go_callV_i C dX10_checked_29 (ok_X10_checkedFor C.hl hB7 h8) mv_X10_190 sh_64 rfl rfl (Nat.le_of_ble_eq_true rfl) ⟨(Nat.le_of_ble_eq_true rfl), (Nat.le_of_ble_eq_true rfl)⟩ ⟨(Nat.le_of_ble_eq_true rfl), (Nat.le_of_ble_eq_true rfl)⟩ (fun hB8 => ?_)
      cases h
      exact go_iret C E rfl dX10_checked_32 (Nat.le_of_ble_eq_true rfl) (Nat.le_of_ble_eq_true rfl) rfl rfl hB8
    · replace h := ite_f hc6 h
      refine go_iconst C dX10_checked_21 ?_
      cases h
      exact go_iret C E rfl dX10_checked_22 (Nat.le_of_ble_eq_true rfl) (Nat.le_of_ble_eq_true rfl) rfl rfl hB4
  · replace h := ite_f hc3 h
    refine go_iconst C dX10_checked_10 ?_
    refine go_goto (tgt := 15) C dX10_checked_11 rfl ?_
    obtain ⟨q9, h9, h⟩ := ob_some h
    refine go_callV_i C dX10_checked_15 (ok_X10_refused C.hl hB1 h9) mv_X10_67 sh_64 rfl rfl (Nat.le_of_ble_eq_true rfl) ⟨(Nat.le_of_ble_eq_true rfl), (Nat.le_of_ble_eq_true rfl)⟩ ⟨(Nat.le_of_ble_eq_true rfl), (Nat.le_of_ble_eq_true rfl)⟩ (fun hB9 => ?_)
    obtain ⟨hc10, h⟩ := chk_some h
    refine go_if_eq (tgt := 23) C dX10_checked_18 rfl hc10 (fun hc11 => ?_) (fun hc11 => ?_)
    · replace h := ite_t hc11 h
      refine go_aload_n C dX10_checked_23 rfl rfl ?_
      obtain ⟨q12, h12, h⟩ := ob_some h
      refine go_callV_v C dX10_checked_24 (ok_X10_laysFar C.hl hB9 h12) mv_X10_101 sh_64 rfl rfl (Nat.le_of_ble_eq_true rfl) ⟨(Nat.le_of_ble_eq_true rfl), (Nat.le_of_ble_eq_true rfl)⟩ ⟨(Nat.le_of_ble_eq_true rfl), (Nat.le_of_ble_eq_true rfl)⟩ (fun hB12 => ?_)
      refine go_aload_n C dX10_checked_27 rfl rfl ?_
      refine go_iload_n C dX10_checked_28 rfl rfl ?_
      obtain ⟨q13, h13, h⟩ := ob_some h
      refine go_callV_i C dX10_checked_29 (ok_X10_checkedFor C.hl hB12 h13) mv_X10_190 sh_64 rfl rfl (Nat.le_of_ble_eq_true rfl) ⟨(Nat.le_of_ble_eq_true rfl), (Nat.le_of_ble_eq_true rfl)⟩ ⟨(Nat.le_of_ble_eq_true rfl), (Nat.le_of_ble_eq_true rfl)⟩ (fun hB13 => ?_)
      cases h
      exact go_iret C E rfl dX10_checked_32 (Nat.le_of_ble_eq_true rfl) (Nat.le_of_ble_eq_true rfl) rfl rfl hB13
    · replace h := ite_f hc11 h
      refine go_iconst C dX10_checked_21 ?_
      cases h
      exact go_iret C E rfl dX10_checked_22 (Nat.le_of_ble_eq_true rfl) (Nat.le_of_ble_eq_true rfl) rfl rfl hB9
-- IntervalRouterModel.lowestOther(II)I
set_option maxHeartbeats 4000000 in
theorem w_X10_lowestOther_2 {G : gC} {X : gX} {res : Int} {F : Nat} {M : Mem} (hB : Bd M) (C : Cx G X cX10_lowestOther 4 RX10 2 0 0 (some .int) []) (E : Fnl G X 0 0 (.inr (some (.int (iI res)))) M) : ∀ (fu : Nat) (v1 : Int) (v2 : Int) (v3 : Int), f_X10_lowestOther_2 F fu v1 v2 v3 M = some res → Go G X 4 0 0 2 [some (rf G 64), some (.int (iI v1)), some (.int (iI v2)), some (.int (iI v3))] [] M := by
  intro fu
  induction fu with
  | zero => intro v1 v2 v3 h; exact nomatch (show (none : Option (Int)) = some res from h)
  | succ fu ih =>
    intro v1 v2 v3 h
    rw [f_X10_lowestOther_2] at h
    obtain ⟨⟨hp_v2, hp_v3⟩, h⟩ := chk_some h
    refine go_iload_n C dX10_lowestOther_2 rfl rfl ?_
    refine go_aload_n C dX10_lowestOther_3 rfl rfl ?_
    refine go_getR (o := 1) (k2 := 65) C dX10_lowestOther_4 fl_X10_7 sh_64 rfl rfl ?_
    refine go_iconst C dX10_lowestOther_7 ?_
    refine go_iald C dX10_lowestOther_8 sh_65 (by decide) ⟨by decide, by decide⟩ ?_
    refine go_icmp_ge (tgt := 34) C dX10_lowestOther_9 rfl hp_v3 (hB 65 1 (by decide)) (fun hc1 => ?_) (fun hc1 => ?_)
    · replace h := ite_t hc1 h
      refine go_iconst C dX10_lowestOther_34 ?_
      cases h
      exact go_iret C E rfl dX10_lowestOther_35 (Nat.le_of_ble_eq_true rfl) (Nat.le_of_ble_eq_true rfl) rfl rfl hB
    · replace h := ite_f hc1 h
      refine go_iload_n C dX10_lowestOther_12 rfl rfl ?_
      refine go_iload_n C dX10_lowestOther_13 rfl rfl ?_
      refine go_icmp_eq (tgt := 28) C dX10_lowestOther_14 rfl hp_v3 hp_v2 (fun hc2 => ?_) (fun hc2 => ?_)
      · replace h := ite_t hc2 h
        refine go_iinc (ls2 := [some (rf G 64), some (.int (iI v1)), some (.int (iI v2)), some (.int (iI (v3 + 1)))]) C dX10_lowestOther_28 rfl (Nat.le_of_ble_eq_true rfl) rfl ?_
        refine go_goto (tgt := 2) C dX10_lowestOther_31 rfl ?_
        exact ih v1 v2 (v3 + 1) h
      · replace h := ite_f hc2 h
        refine go_aload_n C dX10_lowestOther_17 rfl rfl ?_
        refine go_iload_n C dX10_lowestOther_18 rfl rfl ?_
        refine go_iload_n C dX10_lowestOther_19 rfl rfl ?_
        obtain ⟨q3, h3, h⟩ := ob_some h
        refine go_callV_i C dX10_lowestOther_20 (ok_X10_isOf C.hl hB h3) mv_X10_81 sh_64 rfl rfl (Nat.le_of_ble_eq_true rfl) ⟨(Nat.le_of_ble_eq_true rfl), (Nat.le_of_ble_eq_true rfl)⟩ ⟨(Nat.le_of_ble_eq_true rfl), (Nat.le_of_ble_eq_true rfl)⟩ (fun hB3 => ?_)
        obtain ⟨hc4, h⟩ := chk_some h
        refine go_if_eq (tgt := 28) C dX10_lowestOther_23 rfl hc4 (fun hc5 => ?_) (fun hc5 => ?_)
        · replace h := ite_t hc5 h
          refine go_iinc (ls2 := [some (rf G 64), some (.int (iI v1)), some (.int (iI v2)), some (.int (iI (v3 + 1)))]) C dX10_lowestOther_28 rfl (Nat.le_of_ble_eq_true rfl) rfl ?_
          refine go_goto (tgt := 2) C dX10_lowestOther_31 rfl ?_
          exact ih v1 v2 (v3 + 1) h
        · replace h := ite_f hc5 h
          refine go_iload_n C dX10_lowestOther_26 rfl rfl ?_
          cases h
          exact go_iret C E rfl dX10_lowestOther_27 (Nat.le_of_ble_eq_true rfl) (Nat.le_of_ble_eq_true rfl) rfl rfl hB3
set_option maxHeartbeats 4000000 in
theorem ok_X10_lowestOther {G : gC} {l : Launch} (hl : l.stackTraces = false) {F : Nat} {v1 : Int} {v2 : Int} {M : Mem} (hB : Bd M) {res : Int} (h : f_X10_lowestOther F v1 v2 M = some res) : Ok G l 2 0 0 yX10_lowestOther (.code yX10_lowestOther cX10_lowestOther 4 (some .int)) [rf G 64, .int (iI v1), .int (iI v2)] M (.inr (some (.int (iI res)))) M := by
  refine ok_of (ls := [some (rf G 64), some (.int (iI v1)), some (.int (iI v2)), none]) hl (by decide +kernel) (Nat.le_of_ble_eq_true rfl) ⟨rfl, ⟨rfl, ⟨rfl, trivial⟩⟩⟩ ?_
  intro X hX C E
  subst hX
  rw [f_X10_lowestOther] at h
  refine go_iconst C dX10_lowestOther_0 ?_
  refine go_istore_n (ls2 := [some (rf G 64), some (.int (iI v1)), some (.int (iI v2)), some (.int (iI 0))]) C dX10_lowestOther_1 rfl (Nat.le_of_ble_eq_true rfl) rfl ?_
  exact w_X10_lowestOther_2 hB C E F v1 v2 0 h
-- IntervalRouterModel.goes(III)Z
set_option maxHeartbeats 4000000 in
theorem w_X10_goes_85 {G : gC} {X : gX} {res : Int × Mem} {F : Nat} (C : Cx G X cX10_goes 6 RX10 3 0 0 (some .boolean) []) (E : Fnl G X 0 0 (.inr (some (.int (iI res.1)))) res.2) {k25 : Int → Int → Int → Mem → Option (Int × Mem)} (hk25 : ∀ (v2 : Int) (v3 : Int) (v4 : Int) (M : Mem), Bd M → k25 v2 v3 v4 M = some res → Go G X 6 0 0 25 [some (rf G 64), none, some (.int (iI v2)), some (.int (iI v3)), some (.int (iI v4)), none] [] M) : ∀ (v2 : Int) (v3 : Int) (v4 : Int) (t0 : Int) (M : Mem), Bd M → f_X10_goes_85 F k25 v2 v3 v4 t0 M = some res → Go G X 6 0 0 85 [some (rf G 64), none, some (.int (iI v2)), some (.int (iI v3)), some (.int (iI v4)), none] [.int (iI t0)] M := by
  intro v2 v3 v4 t0 M hB h
  rw [f_X10_goes_85] at h
  obtain ⟨hp_t0, h⟩ := chk_some h
  refine go_istore (ls2 := [some (rf G 64), none, some (.int (iI v2)), some (.int (iI v3)), some (.int (iI v4)), some (.int (iI t0))]) C dX10_goes_85 (Nat.le_of_ble_eq_true rfl) rfl ?_
  refine go_iload C dX10_goes_87 rfl ?_
  refine go_iconst C dX10_goes_89 ?_
  refine go_icmp_ne (tgt := 95) C dX10_goes_90 rfl hp_t0 (by decide) (fun hc13 => ?_) (fun hc13 => ?_)
  · replace h := ite_f hc13 h
    refine go_aload_n C dX10_goes_95 rfl rfl ?_
    refine go_iload C dX10_goes_96 rfl ?_
    refine go_iload C dX10_goes_98 rfl ?_
    obtain ⟨q14, h14, h⟩ := ob_some h
    refine go_callV_i C dX10_goes_100 (ok_X10_otherEnd C.hl hB h14) mv_X10_107 sh_64 rfl rfl (Nat.le_of_ble_eq_true rfl) ⟨(Nat.le_of_ble_eq_true rfl), (Nat.le_of_ble_eq_true rfl)⟩ ⟨(Nat.le_of_ble_eq_true rfl), (Nat.le_of_ble_eq_true rfl)⟩ (fun hB14 => ?_)
    refine go_istore (ls2 := [some (rf G 64), none, some (.int (iI v2)), some (.int (iI v3)), some (.int (iI q14)), some (.int (iI t0))]) C dX10_goes_103 (Nat.le_of_ble_eq_true rfl) rfl ?_
    refine go_aload_n C dX10_goes_105 rfl rfl ?_
    refine go_dup C dX10_goes_106 rfl ?_
    refine go_getI (z := 15) C dX10_goes_107 fl_X10_196 sh_64 rfl rfl ?_
    refine go_iconst C dX10_goes_110 ?_
    refine go_iload C dX10_goes_111 rfl ?_
    refine go_ishl C dX10_goes_113 ?_
    refine go_ior C dX10_goes_114 ?_
    refine go_putI (z := 15) C dX10_goes_115 fp_X10_196 sh_64 rfl rfl rfl rfl ?_
    have hB15 := hB14.set 64 15 (x := bor (M 64 15) (bshl 1 t0)) (bor_R _ _)
    refine go_aload_n C dX10_goes_118 rfl rfl ?_
    refine go_dup C dX10_goes_119 rfl ?_
    refine go_getI (z := 16) C dX10_goes_120 fl_X10_199 sh_64 rfl rfl ?_
    refine go_aload_n C dX10_goes_123 rfl rfl ?_
    refine go_iload C dX10_goes_124 rfl ?_
    refine go_iconst C dX10_goes_126 ?_
    obtain ⟨q16, h16, h⟩ := ob_some h
    refine go_callV_i C dX10_goes_127 (ok_X10_part C.hl hB15 h16) mv_X10_60 sh_64 rfl rfl (Nat.le_of_ble_eq_true rfl) ⟨(Nat.le_of_ble_eq_true rfl), (Nat.le_of_ble_eq_true rfl)⟩ ⟨(Nat.le_of_ble_eq_true rfl), (Nat.le_of_ble_eq_true rfl)⟩ (fun hB16 => ?_)
    refine go_iadd C dX10_goes_130 ?_
    obtain ⟨hc17, h⟩ := chk_some h
    refine go_putI (z := 16) C dX10_goes_131 fp_X10_199 sh_64 rfl rfl rfl rfl ?_
    have hB18 := hB16.set 64 16 (x := ((mset M 64 15 (bor (M 64 15) (bshl 1 t0))) 64 16) + q16) hc17
    refine go_aload_n C dX10_goes_134 rfl rfl ?_
    refine go_getR (o := 10) (k2 := 74) C dX10_goes_135 fl_X10_37 sh_64 rfl rfl ?_
    refine go_aload_n C dX10_goes_138 rfl rfl ?_
    refine go_getI (z := 14) C dX10_goes_139 fl_X10_193 sh_64 rfl rfl ?_
    refine go_iload C dX10_goes_142 rfl ?_
    obtain ⟨hc19, h⟩ := chk_some h
    obtain ⟨hc20, h⟩ := chk_some h
    refine go_iast C dX10_goes_144 sh_74 (by decide) hc19 ?_
    have hB21 := hB18.set 74 ((mset (mset M 64 15 (bor (M 64 15) (bshl 1 t0))) 64 16 (((mset M 64 15 (bor (M 64 15) (bshl 1 t0))) 64 16) + q16)) 64 14) (x := q14) hc20
    refine go_aload_n C dX10_goes_145 rfl rfl ?_
    refine go_dup C dX10_goes_146 rfl ?_
    refine go_getI (z := 14) C dX10_goes_147 fl_X10_193 sh_64 rfl rfl ?_
    refine go_iconst C dX10_goes_150 ?_
    refine go_iadd C dX10_goes_151 ?_
    obtain ⟨hc22, h⟩ := chk_some h
    refine go_putI (z := 14) C dX10_goes_152 fp_X10_193 sh_64 rfl rfl rfl rfl ?_
    have hB23 := hB21.set 64 14 (x := ((mset (mset (mset M 64 15 (bor (M 64 15) (bshl 1 t0))) 64 16 (((mset M 64 15 (bor (M 64 15) (bshl 1 t0))) 64 16) + q16)) 74 ((mset (mset M 64 15 (bor (M 64 15) (bshl 1 t0))) 64 16 (((mset M 64 15 (bor (M 64 15) (bshl 1 t0))) 64 16) + q16)) 64 14) q14) 64 14) + 1) hc22
    refine go_goto (tgt := 25) C dX10_goes_155 rfl ?_
    refine go_weak (ls' := [some (rf G 64), none, some (.int (iI v2)), some (.int (iI v3)), some (.int (iI q14)), none]) ⟨rfl, ⟨rfl, ⟨rfl, ⟨rfl, trivial⟩⟩⟩⟩ ?_
    exact hk25 v2 v3 q14 (mset (mset (mset (mset M 64 15 (bor (M 64 15) (bshl 1 t0))) 64 16 (((mset M 64 15 (bor (M 64 15) (bshl 1 t0))) 64 16) + q16)) 74 ((mset (mset M 64 15 (bor (M 64 15) (bshl 1 t0))) 64 16 (((mset M 64 15 (bor (M 64 15) (bshl 1 t0))) 64 16) + q16)) 64 14) q14) 64 14 (((mset (mset (mset M 64 15 (bor (M 64 15) (bshl 1 t0))) 64 16 (((mset M 64 15 (bor (M 64 15) (bshl 1 t0))) 64 16) + q16)) 74 ((mset (mset M 64 15 (bor (M 64 15) (bshl 1 t0))) 64 16 (((mset M 64 15 (bor (M 64 15) (bshl 1 t0))) 64 16) + q16)) 64 14) q14) 64 14) + 1)) hB23 h
  · replace h := ite_t hc13 h
    refine go_iconst C dX10_goes_93 ?_
    cases h
    exact go_zret C E rfl dX10_goes_94 (by decide) (Nat.le_of_ble_eq_true rfl) (Nat.le_of_ble_eq_true rfl) rfl rfl hB
set_option maxHeartbeats 4000000 in
theorem w_X10_goes_25 {G : gC} {X : gX} {res : Int × Mem} {F : Nat} (C : Cx G X cX10_goes 6 RX10 3 0 0 (some .boolean) []) (E : Fnl G X 0 0 (.inr (some (.int (iI res.1)))) res.2) : ∀ (fu : Nat) (v2 : Int) (v3 : Int) (v4 : Int) (M : Mem), Bd M → f_X10_goes_25 F fu v2 v3 v4 M = some res → Go G X 6 0 0 25 [some (rf G 64), none, some (.int (iI v2)), some (.int (iI v3)), some (.int (iI v4)), none] [] M := by
  intro fu
  induction fu with
  | zero => intro v2 v3 v4 M hB h; exact nomatch (show (none : Option (Int × Mem)) = some res from h)
  | succ fu ih =>
    intro v2 v3 v4 M hB h
    rw [f_X10_goes_25] at h
    obtain ⟨⟨hp_v2, hp_v3, hp_v4⟩, h⟩ := chk_some h
    refine go_iload C dX10_goes_25 rfl ?_
    refine go_iload_n C dX10_goes_27 rfl rfl ?_
    refine go_icmp_eq (tgt := 158) C dX10_goes_28 rfl hp_v4 hp_v2 (fun hc5 => ?_) (fun hc5 => ?_)
    · replace h := ite_t hc5 h
      refine go_iload C dX10_goes_158 rfl ?_
      refine go_iload_n C dX10_goes_160 rfl rfl ?_
      refine go_icmp_ne (tgt := 168) C dX10_goes_161 rfl hp_v4 hp_v2 (fun hc6 => ?_) (fun hc6 => ?_)
      · replace h := ite_f hc6 h
        refine go_iconst C dX10_goes_168 ?_
        cases h
        exact go_zret C E rfl dX10_goes_169 (by decide) (Nat.le_of_ble_eq_true rfl) (Nat.le_of_ble_eq_true rfl) rfl rfl hB
      · replace h := ite_t hc6 h
        refine go_iconst C dX10_goes_164 ?_
        refine go_goto (tgt := 169) C dX10_goes_165 rfl ?_
        cases h
        exact go_zret C E rfl dX10_goes_169 (by decide) (Nat.le_of_ble_eq_true rfl) (Nat.le_of_ble_eq_true rfl) rfl rfl hB
    · replace h := ite_f hc5 h
      refine go_aload_n C dX10_goes_31 rfl rfl ?_
      refine go_getI (z := 14) C dX10_goes_32 fl_X10_193 sh_64 rfl rfl ?_
      refine go_aload_n C dX10_goes_35 rfl rfl ?_
      refine go_getR (o := 1) (k2 := 65) C dX10_goes_36 fl_X10_7 sh_64 rfl rfl ?_
      refine go_iconst C dX10_goes_39 ?_
      refine go_iald C dX10_goes_40 sh_65 (by decide) ⟨by decide, by decide⟩ ?_
      refine go_icmp_gt (tgt := 158) C dX10_goes_41 rfl (hB 64 14 (by decide)) (hB 65 0 (by decide)) (fun hc7 => ?_) (fun hc7 => ?_)
      · replace h := ite_t hc7 h
        refine go_iload C dX10_goes_158 rfl ?_
        refine go_iload_n C dX10_goes_160 rfl rfl ?_
        refine go_icmp_ne (tgt := 168) C dX10_goes_161 rfl hp_v4 hp_v2 (fun hc8 => ?_) (fun hc8 => ?_)
        · replace h := ite_f hc8 h
          refine go_iconst C dX10_goes_168 ?_
          cases h
          exact go_zret C E rfl dX10_goes_169 (by decide) (Nat.le_of_ble_eq_true rfl) (Nat.le_of_ble_eq_true rfl) rfl rfl hB
        · replace h := ite_t hc8 h
          refine go_iconst C dX10_goes_164 ?_
          refine go_goto (tgt := 169) C dX10_goes_165 rfl ?_
          cases h
          exact go_zret C E rfl dX10_goes_169 (by decide) (Nat.le_of_ble_eq_true rfl) (Nat.le_of_ble_eq_true rfl) rfl rfl hB
      · replace h := ite_f hc7 h
        refine go_aload_n C dX10_goes_44 rfl rfl ?_
        refine go_iload C dX10_goes_45 rfl ?_
        refine go_aload_n C dX10_goes_47 rfl rfl ?_
        refine go_getR (o := 1) (k2 := 65) C dX10_goes_48 fl_X10_7 sh_64 rfl rfl ?_
        refine go_bipush C dX10_goes_51 (by decide +kernel) ?_
        refine go_iload_n C dX10_goes_53 rfl rfl ?_
        refine go_iadd C dX10_goes_54 ?_
        obtain ⟨hc9, h⟩ := chk_some h
        refine go_iald C dX10_goes_55 sh_65 (by decide) hc9 ?_
        obtain ⟨q10, h10, h⟩ := ob_some h
        refine go_callV_i C dX10_goes_56 (ok_X10_entryAt C.hl hB h10) mv_X10_149 sh_64 rfl rfl (Nat.le_of_ble_eq_true rfl) ⟨(Nat.le_of_ble_eq_true rfl), (Nat.le_of_ble_eq_true rfl)⟩ ⟨(Nat.le_of_ble_eq_true rfl), (Nat.le_of_ble_eq_true rfl)⟩ (fun hB10 => ?_)
        refine go_istore (ls2 := [some (rf G 64), none, some (.int (iI v2)), some (.int (iI v3)), some (.int (iI v4)), some (.int (iI q10))]) C dX10_goes_59 (Nat.le_of_ble_eq_true rfl) rfl ?_
        refine go_iload C dX10_goes_61 rfl ?_
        refine go_iconst C dX10_goes_63 ?_
        obtain ⟨hc11, h⟩ := chk_some h
        refine go_icmp_eq (tgt := 83) C dX10_goes_64 rfl hc11 (by decide) (fun hc12 => ?_) (fun hc12 => ?_)
        · replace h := ite_t hc12 h
          refine go_iload C dX10_goes_83 rfl ?_
          refine go_weak (ls' := [some (rf G 64), none, some (.int (iI v2)), some (.int (iI v3)), some (.int (iI v4)), none]) ⟨rfl, ⟨rfl, ⟨rfl, ⟨rfl, trivial⟩⟩⟩⟩ ?_
          exact w_X10_goes_85 C E ih v2 v3 v4 q10 M hB10 h
        · replace h := ite_f hc12 h
          refine go_iload C dX10_goes_67 rfl ?_
          refine go_iload_n C dX10_goes_69 rfl rfl ?_
          refine go_icmp_ne (tgt := 83) C dX10_goes_70 rfl hc11 hp_v3 (fun hc24 => ?_) (fun hc24 => ?_)
          · replace h := ite_f hc24 h
            refine go_iload C dX10_goes_83 rfl ?_
            refine go_weak (ls' := [some (rf G 64), none, some (.int (iI v2)), some (.int (iI v3)), some (.int (iI v4)), none]) ⟨rfl, ⟨rfl, ⟨rfl, ⟨rfl, trivial⟩⟩⟩⟩ ?_
            exact w_X10_goes_85 C E ih v2 v3 v4 q10 M hB10 h
          · replace h := ite_t hc24 h
            refine go_aload_n C dX10_goes_73 rfl rfl ?_
            refine go_iload C dX10_goes_74 rfl ?_
            refine go_iload_n C dX10_goes_76 rfl rfl ?_
            obtain ⟨q25, h25, h⟩ := ob_some h
            refine go_callV_i C dX10_goes_77 (ok_X10_lowestOther C.hl hB10 h25) mv_X10_202 sh_64 rfl rfl (Nat.le_of_ble_eq_true rfl) ⟨(Nat.le_of_ble_eq_true rfl), (Nat.le_of_ble_eq_true rfl)⟩ ⟨(Nat.le_of_ble_eq_true rfl), (Nat.le_of_ble_eq_true rfl)⟩ (fun hB25 => ?_)
            refine go_goto (tgt := 85) C dX10_goes_80 rfl ?_
            refine go_weak (ls' := [some (rf G 64), none, some (.int (iI v2)), some (.int (iI v3)), some (.int (iI v4)), none]) ⟨rfl, ⟨rfl, ⟨rfl, ⟨rfl, trivial⟩⟩⟩⟩ ?_
            exact w_X10_goes_85 C E ih v2 v3 v4 q25 M hB25 h
set_option maxHeartbeats 4000000 in
theorem ok_X10_goes {G : gC} {l : Launch} (hl : l.stackTraces = false) {F : Nat} {v1 : Int} {v2 : Int} {v3 : Int} {M : Mem} (hB : Bd M) {res : Int × Mem} (h : f_X10_goes F v1 v2 v3 M = some res) : Ok G l 3 0 0 yX10_goes (.code yX10_goes cX10_goes 6 (some .boolean)) [rf G 64, .int (iI v1), .int (iI v2), .int (iI v3)] M (.inr (some (.int (iI res.1)))) res.2 := by
  refine ok_of (ls := [some (rf G 64), some (.int (iI v1)), some (.int (iI v2)), some (.int (iI v3)), none, none]) hl (by decide +kernel) (Nat.le_of_ble_eq_true rfl) ⟨rfl, ⟨rfl, ⟨rfl, ⟨rfl, trivial⟩⟩⟩⟩ ?_
  intro X hX C E
  subst hX
  rw [f_X10_goes] at h
  obtain ⟨hp_v1, h⟩ := chk_some h
  refine go_aload_n C dX10_goes_0 rfl rfl ?_
  refine go_getR (o := 10) (k2 := 74) C dX10_goes_1 fl_X10_37 sh_64 rfl rfl ?_
  refine go_iconst C dX10_goes_4 ?_
  refine go_iload_n C dX10_goes_5 rfl rfl ?_
  refine go_iast C dX10_goes_6 sh_74 (by decide) ⟨by decide, by decide⟩ ?_
  have hB1 := hB.set 74 0 (x := v1) hp_v1
  refine go_aload_n C dX10_goes_7 rfl rfl ?_
  refine go_iconst C dX10_goes_8 ?_
  refine go_putI (z := 14) C dX10_goes_9 fp_X10_193 sh_64 rfl rfl rfl rfl ?_
  have hB2 := hB1.set 64 14 (x := 1) (by decide)
  refine go_aload_n C dX10_goes_12 rfl rfl ?_
  refine go_iconst C dX10_goes_13 ?_
  refine go_putI (z := 15) C dX10_goes_14 fp_X10_196 sh_64 rfl rfl rfl rfl ?_
  have hB3 := hB2.set 64 15 (x := 0) (by decide)
  refine go_aload_n C dX10_goes_17 rfl rfl ?_
  refine go_iconst C dX10_goes_18 ?_
  refine go_putI (z := 16) C dX10_goes_19 fp_X10_199 sh_64 rfl rfl rfl rfl ?_
  have hB4 := hB3.set 64 16 (x := 0) (by decide)
  refine go_iload_n C dX10_goes_22 rfl rfl ?_
  refine go_istore (ls2 := [some (rf G 64), some (.int (iI v1)), some (.int (iI v2)), some (.int (iI v3)), some (.int (iI v1)), none]) C dX10_goes_23 (Nat.le_of_ble_eq_true rfl) rfl ?_
  refine go_weak (ls' := [some (rf G 64), none, some (.int (iI v2)), some (.int (iI v3)), some (.int (iI v1)), none]) ⟨rfl, ⟨rfl, ⟨rfl, ⟨rfl, trivial⟩⟩⟩⟩ ?_
  exact w_X10_goes_25 C E F v2 v3 v1 (mset (mset (mset (mset M 74 0 v1) 64 14 1) 64 15 0) 64 16 0) hB4 h
-- IntervalRouterModel.send(II)I
set_option maxHeartbeats 4000000 in
theorem ok_X10_send {G : gC} {l : Launch} (hl : l.stackTraces = false) {F : Nat} {v1 : Int} {v2 : Int} {M : Mem} (hB : Bd M) {res : Int × Mem} (h : f_X10_send F v1 v2 M = some res) : Ok G l 4 0 0 yX10_send (.code yX10_send cX10_send 3 (some .int)) [rf G 64, .int (iI v1), .int (iI v2)] M (.inr (some (.int (iI res.1)))) res.2 := by
  refine ok_of (ls := [some (rf G 64), some (.int (iI v1)), some (.int (iI v2))]) hl (by decide +kernel) (Nat.le_of_ble_eq_true rfl) ⟨rfl, ⟨rfl, ⟨rfl, trivial⟩⟩⟩ ?_
  intro X hX C E
  subst hX
  rw [f_X10_send] at h
  refine go_aload_n C dX10_send_0 rfl rfl ?_
  refine go_aload_n C dX10_send_1 rfl rfl ?_
  refine go_iload_n C dX10_send_2 rfl rfl ?_
  obtain ⟨q1, h1, h⟩ := ob_some h
  refine go_callV_i C dX10_send_3 (ok_X10_isNode C.hl hB h1) mv_X10_85 sh_64 rfl rfl (Nat.le_of_ble_eq_true rfl) ⟨(Nat.le_of_ble_eq_true rfl), (Nat.le_of_ble_eq_true rfl)⟩ ⟨(Nat.le_of_ble_eq_true rfl), (Nat.le_of_ble_eq_true rfl)⟩ (fun hB1 => ?_)
  obtain ⟨hc2, h⟩ := chk_some h
  refine go_if_eq (tgt := 21) C dX10_send_6 rfl hc2 (fun hc3 => ?_) (fun hc3 => ?_)
  · replace h := ite_t hc3 h
    refine go_iconst C dX10_send_21 ?_
    obtain ⟨q4, h4, h⟩ := ob_some h
    refine go_callV_i C dX10_send_22 (ok_X10_refused C.hl hB1 h4) mv_X10_67 sh_64 rfl rfl (Nat.le_of_ble_eq_true rfl) ⟨(Nat.le_of_ble_eq_true rfl), (Nat.le_of_ble_eq_true rfl)⟩ ⟨(Nat.le_of_ble_eq_true rfl), (Nat.le_of_ble_eq_true rfl)⟩ (fun hB4 => ?_)
    obtain ⟨hc5, h⟩ := chk_some h
    refine go_if_eq (tgt := 30) C dX10_send_25 rfl hc5 (fun hc6 => ?_) (fun hc6 => ?_)
    · replace h := ite_t hc6 h
      refine go_aload_n C dX10_send_30 rfl rfl ?_
      refine go_iload_n C dX10_send_31 rfl rfl ?_
      refine go_iload_n C dX10_send_32 rfl rfl ?_
      refine go_iconst C dX10_send_33 ?_
      obtain ⟨q7, h7, h⟩ := ob_some h
      refine go_callV_i C dX10_send_34 (ok_X10_goes C.hl hB4 h7) mv_X10_205 sh_64 rfl rfl (Nat.le_of_ble_eq_true rfl) ⟨(Nat.le_of_ble_eq_true rfl), (Nat.le_of_ble_eq_true rfl)⟩ ⟨(Nat.le_of_ble_eq_true rfl), (Nat.le_of_ble_eq_true rfl)⟩ (fun hB7 => ?_)
      obtain ⟨hc8, h⟩ := chk_some h
      refine go_if_eq (tgt := 47) C dX10_send_37 rfl hc8 (fun hc9 => ?_) (fun hc9 => ?_)
      · replace h := ite_t hc9 h
        refine go_iconst C dX10_send_47 ?_
        cases h
        exact go_iret C E rfl dX10_send_48 (Nat.le_of_ble_eq_true rfl) (Nat.le_of_ble_eq_true rfl) rfl rfl hB7
      · replace h := ite_f hc9 h
        refine go_aload_n C dX10_send_40 rfl rfl ?_
        refine go_getI (z := 16) C dX10_send_41 fl_X10_199 sh_64 rfl rfl ?_
        refine go_goto (tgt := 48) C dX10_send_44 rfl ?_
        cases h
        exact go_iret C E rfl dX10_send_48 (Nat.le_of_ble_eq_true rfl) (Nat.le_of_ble_eq_true rfl) rfl rfl hB7
    · replace h := ite_f hc6 h
      refine go_iconst C dX10_send_28 ?_
      cases h
      exact go_iret C E rfl dX10_send_29 (Nat.le_of_ble_eq_true rfl) (Nat.le_of_ble_eq_true rfl) rfl rfl hB4
  · replace h := ite_f hc3 h
    refine go_aload_n C dX10_send_9 rfl rfl ?_
    refine go_iload_n C dX10_send_10 rfl rfl ?_
    obtain ⟨q10, h10, h⟩ := ob_some h
    refine go_callV_i C dX10_send_11 (ok_X10_isNode C.hl hB1 h10) mv_X10_85 sh_64 rfl rfl (Nat.le_of_ble_eq_true rfl) ⟨(Nat.le_of_ble_eq_true rfl), (Nat.le_of_ble_eq_true rfl)⟩ ⟨(Nat.le_of_ble_eq_true rfl), (Nat.le_of_ble_eq_true rfl)⟩ (fun hB10 => ?_)
    obtain ⟨hc11, h⟩ := chk_some h
    refine go_if_eq (tgt := 21) C dX10_send_14 rfl hc11 (fun hc12 => ?_) (fun hc12 => ?_)
    · replace h := ite_t hc12 h
      refine go_iconst C dX10_send_21 ?_
      obtain ⟨q13, h13, h⟩ := ob_some h
      refine go_callV_i C dX10_send_22 (ok_X10_refused C.hl hB10 h13) mv_X10_67 sh_64 rfl rfl (Nat.le_of_ble_eq_true rfl) ⟨(Nat.le_of_ble_eq_true rfl), (Nat.le_of_ble_eq_true rfl)⟩ ⟨(Nat.le_of_ble_eq_true rfl), (Nat.le_of_ble_eq_true rfl)⟩ (fun hB13 => ?_)
      obtain ⟨hc14, h⟩ := chk_some h
      refine go_if_eq (tgt := 30) C dX10_send_25 rfl hc14 (fun hc15 => ?_) (fun hc15 => ?_)
      · replace h := ite_t hc15 h
        refine go_aload_n C dX10_send_30 rfl rfl ?_
        refine go_iload_n C dX10_send_31 rfl rfl ?_
        refine go_iload_n C dX10_send_32 rfl rfl ?_
        refine go_iconst C dX10_send_33 ?_
        obtain ⟨q16, h16, h⟩ := ob_some h
        refine go_callV_i C dX10_send_34 (ok_X10_goes C.hl hB13 h16) mv_X10_205 sh_64 rfl rfl (Nat.le_of_ble_eq_true rfl) ⟨(Nat.le_of_ble_eq_true rfl), (Nat.le_of_ble_eq_true rfl)⟩ ⟨(Nat.le_of_ble_eq_true rfl), (Nat.le_of_ble_eq_true rfl)⟩ (fun hB16 => ?_)
        obtain ⟨hc17, h⟩ := chk_some h
        refine go_if_eq (tgt := 47) C dX10_send_37 rfl hc17 (fun hc18 => ?_) (fun hc18 => ?_)
        · replace h := ite_t hc18 h
          refine go_iconst C dX10_send_47 ?_
          cases h
          exact go_iret C E rfl dX10_send_48 (Nat.le_of_ble_eq_true rfl) (Nat.le_of_ble_eq_true rfl) rfl rfl hB16
        · replace h := ite_f hc18 h
          refine go_aload_n C dX10_send_40 rfl rfl ?_
          refine go_getI (z := 16) C dX10_send_41 fl_X10_199 sh_64 rfl rfl ?_
          refine go_goto (tgt := 48) C dX10_send_44 rfl ?_
          cases h
          exact go_iret C E rfl dX10_send_48 (Nat.le_of_ble_eq_true rfl) (Nat.le_of_ble_eq_true rfl) rfl rfl hB16
      · replace h := ite_f hc15 h
        refine go_iconst C dX10_send_28 ?_
        cases h
        exact go_iret C E rfl dX10_send_29 (Nat.le_of_ble_eq_true rfl) (Nat.le_of_ble_eq_true rfl) rfl rfl hB13
    · replace h := ite_f hc12 h
      refine go_iconst C dX10_send_17 ?_
      refine go_goto (tgt := 22) C dX10_send_18 rfl ?_
      obtain ⟨q19, h19, h⟩ := ob_some h
      refine go_callV_i C dX10_send_22 (ok_X10_refused C.hl hB10 h19) mv_X10_67 sh_64 rfl rfl (Nat.le_of_ble_eq_true rfl) ⟨(Nat.le_of_ble_eq_true rfl), (Nat.le_of_ble_eq_true rfl)⟩ ⟨(Nat.le_of_ble_eq_true rfl), (Nat.le_of_ble_eq_true rfl)⟩ (fun hB19 => ?_)
      obtain ⟨hc20, h⟩ := chk_some h
      refine go_if_eq (tgt := 30) C dX10_send_25 rfl hc20 (fun hc21 => ?_) (fun hc21 => ?_)
      · replace h := ite_t hc21 h
        refine go_aload_n C dX10_send_30 rfl rfl ?_
        refine go_iload_n C dX10_send_31 rfl rfl ?_
        refine go_iload_n C dX10_send_32 rfl rfl ?_
        refine go_iconst C dX10_send_33 ?_
        obtain ⟨q22, h22, h⟩ := ob_some h
        refine go_callV_i C dX10_send_34 (ok_X10_goes C.hl hB19 h22) mv_X10_205 sh_64 rfl rfl (Nat.le_of_ble_eq_true rfl) ⟨(Nat.le_of_ble_eq_true rfl), (Nat.le_of_ble_eq_true rfl)⟩ ⟨(Nat.le_of_ble_eq_true rfl), (Nat.le_of_ble_eq_true rfl)⟩ (fun hB22 => ?_)
        obtain ⟨hc23, h⟩ := chk_some h
        refine go_if_eq (tgt := 47) C dX10_send_37 rfl hc23 (fun hc24 => ?_) (fun hc24 => ?_)
        · replace h := ite_t hc24 h
          refine go_iconst C dX10_send_47 ?_
          cases h
          exact go_iret C E rfl dX10_send_48 (Nat.le_of_ble_eq_true rfl) (Nat.le_of_ble_eq_true rfl) rfl rfl hB22
        · replace h := ite_f hc24 h
          refine go_aload_n C dX10_send_40 rfl rfl ?_
          refine go_getI (z := 16) C dX10_send_41 fl_X10_199 sh_64 rfl rfl ?_
          refine go_goto (tgt := 48) C dX10_send_44 rfl ?_
          cases h
          exact go_iret C E rfl dX10_send_48 (Nat.le_of_ble_eq_true rfl) (Nat.le_of_ble_eq_true rfl) rfl rfl hB22
      · replace h := ite_f hc21 h
        refine go_iconst C dX10_send_28 ?_
        cases h
        exact go_iret C E rfl dX10_send_29 (Nat.le_of_ble_eq_true rfl) (Nat.le_of_ble_eq_true rfl) rfl rfl hB19
-- IntervalRouterModel.wayNode(III)I
set_option maxHeartbeats 4000000 in
theorem w_X10_wayNode_30 {G : gC} {X : gX} {res : Int × Mem} {F : Nat} (C : Cx G X cX10_wayNode 5 RX10 4 0 0 (some .int) []) (E : Fnl G X 0 0 (.inr (some (.int (iI res.1)))) res.2) : ∀ (v1 : Int) (v2 : Int) (v3 : Int) (t1 : Int) (M : Mem), Bd M → f_X10_wayNode_30 F v1 v2 v3 t1 M = some res → Go G X 5 0 0 30 [some (rf G 64), some (.int (iI v1)), some (.int (iI v2)), some (.int (iI v3)), none] [.int (iI t1), rf G 64] M := by
  intro v1 v2 v3 t1 M hB h
  rw [f_X10_wayNode_30] at h
  obtain ⟨hp_v3, h⟩ := chk_some h
  obtain ⟨q4, h4, h⟩ := ob_some h
  refine go_callV_i C dX10_wayNode_30 (ok_X10_refused C.hl hB h4) mv_X10_67 sh_64 rfl rfl (Nat.le_of_ble_eq_true rfl) ⟨(Nat.le_of_ble_eq_true rfl), (Nat.le_of_ble_eq_true rfl)⟩ ⟨(Nat.le_of_ble_eq_true rfl), (Nat.le_of_ble_eq_true rfl)⟩ (fun hB4 => ?_)
  obtain ⟨hc5, h⟩ := chk_some h
  refine go_if_eq (tgt := 38) C dX10_wayNode_33 rfl hc5 (fun hc6 => ?_) (fun hc6 => ?_)
  · replace h := ite_t hc6 h
    refine go_aload_n C dX10_wayNode_38 rfl rfl ?_
    refine go_iload_n C dX10_wayNode_39 rfl rfl ?_
    refine go_iload_n C dX10_wayNode_40 rfl rfl ?_
    refine go_iconst C dX10_wayNode_41 ?_
    obtain ⟨q7, h7, h⟩ := ob_some h
    refine go_callV_i C dX10_wayNode_42 (ok_X10_goes C.hl hB4 h7) mv_X10_205 sh_64 rfl rfl (Nat.le_of_ble_eq_true rfl) ⟨(Nat.le_of_ble_eq_true rfl), (Nat.le_of_ble_eq_true rfl)⟩ ⟨(Nat.le_of_ble_eq_true rfl), (Nat.le_of_ble_eq_true rfl)⟩ (fun hB7 => ?_)
    refine go_istore (ls2 := [some (rf G 64), some (.int (iI v1)), some (.int (iI v2)), some (.int (iI v3)), some (.int (iI q7.1))]) C dX10_wayNode_45 (Nat.le_of_ble_eq_true rfl) rfl ?_
    refine go_iload_n C dX10_wayNode_47 rfl rfl ?_
    refine go_aload_n C dX10_wayNode_48 rfl rfl ?_
    refine go_getI (z := 14) C dX10_wayNode_49 fl_X10_193 sh_64 rfl rfl ?_
    refine go_icmp_ge (tgt := 64) C dX10_wayNode_52 rfl hp_v3 (hB7 64 14 (by decide)) (fun hc8 => ?_) (fun hc8 => ?_)
    · replace h := ite_t hc8 h
      refine go_iconst C dX10_wayNode_64 ?_
      cases h
      exact go_iret C E rfl dX10_wayNode_65 (Nat.le_of_ble_eq_true rfl) (Nat.le_of_ble_eq_true rfl) rfl rfl hB7
    · replace h := ite_f hc8 h
      refine go_aload_n C dX10_wayNode_55 rfl rfl ?_
      refine go_getR (o := 10) (k2 := 74) C dX10_wayNode_56 fl_X10_37 sh_64 rfl rfl ?_
      refine go_iload_n C dX10_wayNode_59 rfl rfl ?_
      obtain ⟨hc9, h⟩ := chk_some h
      refine go_iald C dX10_wayNode_60 sh_74 (by decide) hc9 ?_
      refine go_goto (tgt := 65) C dX10_wayNode_61 rfl ?_
      cases h
      exact go_iret C E rfl dX10_wayNode_65 (Nat.le_of_ble_eq_true rfl) (Nat.le_of_ble_eq_true rfl) rfl rfl hB7
  · replace h := ite_f hc6 h
    refine go_iconst C dX10_wayNode_36 ?_
    cases h
    exact go_iret C E rfl dX10_wayNode_37 (Nat.le_of_ble_eq_true rfl) (Nat.le_of_ble_eq_true rfl) rfl rfl hB4
set_option maxHeartbeats 4000000 in
theorem ok_X10_wayNode {G : gC} {l : Launch} (hl : l.stackTraces = false) {F : Nat} {v1 : Int} {v2 : Int} {v3 : Int} {M : Mem} (hB : Bd M) {res : Int × Mem} (h : f_X10_wayNode F v1 v2 v3 M = some res) : Ok G l 4 0 0 yX10_wayNode (.code yX10_wayNode cX10_wayNode 5 (some .int)) [rf G 64, .int (iI v1), .int (iI v2), .int (iI v3)] M (.inr (some (.int (iI res.1)))) res.2 := by
  refine ok_of (ls := [some (rf G 64), some (.int (iI v1)), some (.int (iI v2)), some (.int (iI v3)), none]) hl (by decide +kernel) (Nat.le_of_ble_eq_true rfl) ⟨rfl, ⟨rfl, ⟨rfl, ⟨rfl, trivial⟩⟩⟩⟩ ?_
  intro X hX C E
  subst hX
  rw [f_X10_wayNode] at h
  obtain ⟨hp_v3, h⟩ := chk_some h
  refine go_aload_n C dX10_wayNode_0 rfl rfl ?_
  refine go_aload_n C dX10_wayNode_1 rfl rfl ?_
  refine go_iload_n C dX10_wayNode_2 rfl rfl ?_
  obtain ⟨q1, h1, h⟩ := ob_some h
  refine go_callV_i C dX10_wayNode_3 (ok_X10_isNode C.hl hB h1) mv_X10_85 sh_64 rfl rfl (Nat.le_of_ble_eq_true rfl) ⟨(Nat.le_of_ble_eq_true rfl), (Nat.le_of_ble_eq_true rfl)⟩ ⟨(Nat.le_of_ble_eq_true rfl), (Nat.le_of_ble_eq_true rfl)⟩ (fun hB1 => ?_)
  obtain ⟨hc2, h⟩ := chk_some h
  refine go_if_eq (tgt := 17) C dX10_wayNode_6 rfl hc2 (fun hc3 => ?_) (fun hc3 => ?_)
  · replace h := ite_t hc3 h
    refine go_iconst C dX10_wayNode_17 ?_
    refine go_goto (tgt := 30) C dX10_wayNode_18 rfl ?_
    exact w_X10_wayNode_30 C E v1 v2 v3 1 M hB1 h
  · replace h := ite_f hc3 h
    refine go_aload_n C dX10_wayNode_9 rfl rfl ?_
    refine go_iload_n C dX10_wayNode_10 rfl rfl ?_
    obtain ⟨q10, h10, h⟩ := ob_some h
    refine go_callV_i C dX10_wayNode_11 (ok_X10_isNode C.hl hB1 h10) mv_X10_85 sh_64 rfl rfl (Nat.le_of_ble_eq_true rfl) ⟨(Nat.le_of_ble_eq_true rfl), (Nat.le_of_ble_eq_true rfl)⟩ ⟨(Nat.le_of_ble_eq_true rfl), (Nat.le_of_ble_eq_true rfl)⟩ (fun hB10 => ?_)
    obtain ⟨hc11, h⟩ := chk_some h
    refine go_if_ne (tgt := 21) C dX10_wayNode_14 rfl hc11 (fun hc12 => ?_) (fun hc12 => ?_)
    · replace h := ite_f hc12 h
      refine go_iload_n C dX10_wayNode_21 rfl rfl ?_
      refine go_if_ge (tgt := 29) C dX10_wayNode_22 rfl hp_v3 (fun hc13 => ?_) (fun hc13 => ?_)
      · replace h := ite_t hc13 h
        refine go_iconst C dX10_wayNode_29 ?_
        exact w_X10_wayNode_30 C E v1 v2 v3 0 M hB10 h
      · replace h := ite_f hc13 h
        refine go_iconst C dX10_wayNode_25 ?_
        refine go_goto (tgt := 30) C dX10_wayNode_26 rfl ?_
        exact w_X10_wayNode_30 C E v1 v2 v3 2 M hB10 h
    · replace h := ite_t hc12 h
      refine go_iconst C dX10_wayNode_17 ?_
      refine go_goto (tgt := 30) C dX10_wayNode_18 rfl ?_
      exact w_X10_wayNode_30 C E v1 v2 v3 1 M hB10 h
-- IntervalRouterModel.arrivals()I
set_option maxHeartbeats 4000000 in
theorem w_X10_arrivals_16 {G : gC} {X : gX} {res : Int × Mem} {F : Nat} (C : Cx G X cX10_arrivals 4 RX10 4 0 0 (some .int) []) (E : Fnl G X 0 0 (.inr (some (.int (iI res.1)))) res.2) {k4 : Int → Int → Mem → Option (Int × Mem)} (hk4 : ∀ (v1 : Int) (v2 : Int) (M : Mem), Bd M → k4 v1 v2 M = some res → Go G X 4 0 0 4 [some (rf G 64), some (.int (iI v1)), some (.int (iI v2)), none] [] M) : ∀ (fu : Nat) (v1 : Int) (v2 : Int) (v3 : Int) (M : Mem), Bd M → f_X10_arrivals_16 F k4 fu v1 v2 v3 M = some res → Go G X 4 0 0 16 [some (rf G 64), some (.int (iI v1)), some (.int (iI v2)), some (.int (iI v3))] [] M := by
  intro fu
  induction fu with
  | zero => intro v1 v2 v3 M hB h; exact nomatch (show (none : Option (Int × Mem)) = some res from h)
  | succ fu ih =>
    intro v1 v2 v3 M hB h
    rw [f_X10_arrivals_16] at h
    obtain ⟨⟨hp_v2, hp_v3⟩, h⟩ := chk_some h
    refine go_iload_n C dX10_arrivals_16 rfl rfl ?_
    refine go_aload_n C dX10_arrivals_17 rfl rfl ?_
    refine go_getR (o := 1) (k2 := 65) C dX10_arrivals_18 fl_X10_7 sh_64 rfl rfl ?_
    refine go_iconst C dX10_arrivals_21 ?_
    refine go_iald C dX10_arrivals_22 sh_65 (by decide) ⟨by decide, by decide⟩ ?_
    refine go_icmp_ge (tgt := 55) C dX10_arrivals_23 rfl hp_v3 (hB 65 0 (by decide)) (fun hc2 => ?_) (fun hc2 => ?_)
    · replace h := ite_t hc2 h
      refine go_iinc (ls2 := [some (rf G 64), some (.int (iI v1)), some (.int (iI (v2 + 1))), some (.int (iI v3))]) C dX10_arrivals_55 rfl (Nat.le_of_ble_eq_true rfl) rfl ?_
      refine go_goto (tgt := 4) C dX10_arrivals_58 rfl ?_
      refine go_weak (ls' := [some (rf G 64), some (.int (iI v1)), some (.int (iI (v2 + 1))), none]) ⟨rfl, ⟨rfl, ⟨rfl, trivial⟩⟩⟩ ?_
      exact hk4 v1 (v2 + 1) M hB h
    · replace h := ite_f hc2 h
      refine go_iload_n C dX10_arrivals_26 rfl rfl ?_
      refine go_iload_n C dX10_arrivals_27 rfl rfl ?_
      refine go_iload_n C dX10_arrivals_28 rfl rfl ?_
      refine go_icmp_eq (tgt := 46) C dX10_arrivals_29 rfl hp_v2 hp_v3 (fun hc3 => ?_) (fun hc3 => ?_)
      · replace h := ite_t hc3 h
        refine go_iconst C dX10_arrivals_46 ?_
        refine go_iadd C dX10_arrivals_47 ?_
        refine go_istore_n (ls2 := [some (rf G 64), some (.int (iI (v1 + 0))), some (.int (iI v2)), some (.int (iI v3))]) C dX10_arrivals_48 rfl (Nat.le_of_ble_eq_true rfl) rfl ?_
        refine go_iinc (ls2 := [some (rf G 64), some (.int (iI (v1 + 0))), some (.int (iI v2)), some (.int (iI (v3 + 1)))]) C dX10_arrivals_49 rfl (Nat.le_of_ble_eq_true rfl) rfl ?_
        refine go_goto (tgt := 16) C dX10_arrivals_52 rfl ?_
        exact ih (v1 + 0) v2 (v3 + 1) M hB h
      · replace h := ite_f hc3 h
        refine go_aload_n C dX10_arrivals_32 rfl rfl ?_
        refine go_iload_n C dX10_arrivals_33 rfl rfl ?_
        refine go_iload_n C dX10_arrivals_34 rfl rfl ?_
        refine go_iconst C dX10_arrivals_35 ?_
        obtain ⟨q4, h4, h⟩ := ob_some h
        refine go_callV_i C dX10_arrivals_36 (ok_X10_goes C.hl hB h4) mv_X10_205 sh_64 rfl rfl (Nat.le_of_ble_eq_true rfl) ⟨(Nat.le_of_ble_eq_true rfl), (Nat.le_of_ble_eq_true rfl)⟩ ⟨(Nat.le_of_ble_eq_true rfl), (Nat.le_of_ble_eq_true rfl)⟩ (fun hB4 => ?_)
        obtain ⟨hc5, h⟩ := chk_some h
        refine go_if_eq (tgt := 46) C dX10_arrivals_39 rfl hc5 (fun hc6 => ?_) (fun hc6 => ?_)
        · replace h := ite_t hc6 h
          refine go_iconst C dX10_arrivals_46 ?_
          refine go_iadd C dX10_arrivals_47 ?_
          refine go_istore_n (ls2 := [some (rf G 64), some (.int (iI (v1 + 0))), some (.int (iI v2)), some (.int (iI v3))]) C dX10_arrivals_48 rfl (Nat.le_of_ble_eq_true rfl) rfl ?_
          refine go_iinc (ls2 := [some (rf G 64), some (.int (iI (v1 + 0))), some (.int (iI v2)), some (.int (iI (v3 + 1)))]) C dX10_arrivals_49 rfl (Nat.le_of_ble_eq_true rfl) rfl ?_
          refine go_goto (tgt := 16) C dX10_arrivals_52 rfl ?_
          exact ih (v1 + 0) v2 (v3 + 1) q4.2 hB4 h
        · replace h := ite_f hc6 h
          refine go_iconst C dX10_arrivals_42 ?_
          refine go_goto (tgt := 47) C dX10_arrivals_43 rfl ?_
          refine go_iadd C dX10_arrivals_47 ?_
          refine go_istore_n (ls2 := [some (rf G 64), some (.int (iI (v1 + 1))), some (.int (iI v2)), some (.int (iI v3))]) C dX10_arrivals_48 rfl (Nat.le_of_ble_eq_true rfl) rfl ?_
          refine go_iinc (ls2 := [some (rf G 64), some (.int (iI (v1 + 1))), some (.int (iI v2)), some (.int (iI (v3 + 1)))]) C dX10_arrivals_49 rfl (Nat.le_of_ble_eq_true rfl) rfl ?_
          refine go_goto (tgt := 16) C dX10_arrivals_52 rfl ?_
          exact ih (v1 + 1) v2 (v3 + 1) q4.2 hB4 h
set_option maxHeartbeats 4000000 in
theorem w_X10_arrivals_4 {G : gC} {X : gX} {res : Int × Mem} {F : Nat} (C : Cx G X cX10_arrivals 4 RX10 4 0 0 (some .int) []) (E : Fnl G X 0 0 (.inr (some (.int (iI res.1)))) res.2) : ∀ (fu : Nat) (v1 : Int) (v2 : Int) (M : Mem), Bd M → f_X10_arrivals_4 F fu v1 v2 M = some res → Go G X 4 0 0 4 [some (rf G 64), some (.int (iI v1)), some (.int (iI v2)), none] [] M := by
  intro fu
  induction fu with
  | zero => intro v1 v2 M hB h; exact nomatch (show (none : Option (Int × Mem)) = some res from h)
  | succ fu ih =>
    intro v1 v2 M hB h
    rw [f_X10_arrivals_4] at h
    obtain ⟨hp_v2, h⟩ := chk_some h
    refine go_iload_n C dX10_arrivals_4 rfl rfl ?_
    refine go_aload_n C dX10_arrivals_5 rfl rfl ?_
    refine go_getR (o := 1) (k2 := 65) C dX10_arrivals_6 fl_X10_7 sh_64 rfl rfl ?_
    refine go_iconst C dX10_arrivals_9 ?_
    refine go_iald C dX10_arrivals_10 sh_65 (by decide) ⟨by decide, by decide⟩ ?_
    refine go_icmp_ge (tgt := 61) C dX10_arrivals_11 rfl hp_v2 (hB 65 0 (by decide)) (fun hc1 => ?_) (fun hc1 => ?_)
    · replace h := ite_t hc1 h
      refine go_iload_n C dX10_arrivals_61 rfl rfl ?_
      cases h
      exact go_iret C E rfl dX10_arrivals_62 (Nat.le_of_ble_eq_true rfl) (Nat.le_of_ble_eq_true rfl) rfl rfl hB
    · replace h := ite_f hc1 h
      refine go_iconst C dX10_arrivals_14 ?_
      refine go_istore_n (ls2 := [some (rf G 64), some (.int (iI v1)), some (.int (iI v2)), some (.int (iI 0))]) C dX10_arrivals_15 rfl (Nat.le_of_ble_eq_true rfl) rfl ?_
      exact w_X10_arrivals_16 C E ih F v1 v2 0 M hB h
set_option maxHeartbeats 4000000 in
theorem ok_X10_arrivals {G : gC} {l : Launch} (hl : l.stackTraces = false) {F : Nat} {M : Mem} (hB : Bd M) {res : Int × Mem} (h : f_X10_arrivals F M = some res) : Ok G l 4 0 0 yX10_arrivals (.code yX10_arrivals cX10_arrivals 4 (some .int)) [rf G 64] M (.inr (some (.int (iI res.1)))) res.2 := by
  refine ok_of (ls := [some (rf G 64), none, none, none]) hl (by decide +kernel) (Nat.le_of_ble_eq_true rfl) ⟨rfl, trivial⟩ ?_
  intro X hX C E
  subst hX
  rw [f_X10_arrivals] at h
  refine go_iconst C dX10_arrivals_0 ?_
  refine go_istore_n (ls2 := [some (rf G 64), some (.int (iI 0)), none, none]) C dX10_arrivals_1 rfl (Nat.le_of_ble_eq_true rfl) rfl ?_
  refine go_iconst C dX10_arrivals_2 ?_
  refine go_istore_n (ls2 := [some (rf G 64), some (.int (iI 0)), some (.int (iI 0)), none]) C dX10_arrivals_3 rfl (Nat.le_of_ble_eq_true rfl) rfl ?_
  exact w_X10_arrivals_4 C E F 0 0 M hB h
-- IntervalRouterModel.arriving()I
set_option maxHeartbeats 4000000 in
theorem ok_X10_arriving {G : gC} {l : Launch} (hl : l.stackTraces = false) {F : Nat} {M : Mem} (hB : Bd M) {res : Int × Mem} (h : f_X10_arriving F M = some res) : Ok G l 5 0 0 yX10_arriving (.code yX10_arriving cX10_arriving 1 (some .int)) [rf G 64] M (.inr (some (.int (iI res.1)))) res.2 := by
  refine ok_of (ls := [some (rf G 64)]) hl (by decide +kernel) (Nat.le_of_ble_eq_true rfl) ⟨rfl, trivial⟩ ?_
  intro X hX C E
  subst hX
  rw [f_X10_arriving] at h
  refine go_aload_n C dX10_arriving_0 rfl rfl ?_
  refine go_iconst C dX10_arriving_1 ?_
  refine go_putI (z := 3) C dX10_arriving_2 fp_X10_52 sh_64 rfl rfl rfl rfl ?_
  have hB1 := hB.set 64 3 (x := 0) (by decide)
  refine go_aload_n C dX10_arriving_5 rfl rfl ?_
  obtain ⟨q2, h2, h⟩ := ob_some h
  refine go_callV_i C dX10_arriving_6 (ok_X10_arrivals C.hl hB1 h2) mv_X10_208 sh_64 rfl rfl (Nat.le_of_ble_eq_true rfl) ⟨(Nat.le_of_ble_eq_true rfl), (Nat.le_of_ble_eq_true rfl)⟩ ⟨(Nat.le_of_ble_eq_true rfl), (Nat.le_of_ble_eq_true rfl)⟩ (fun hB2 => ?_)
  cases h
  exact go_iret C E rfl dX10_arriving_9 (Nat.le_of_ble_eq_true rfl) (Nat.le_of_ble_eq_true rfl) rfl rfl hB2
-- IntervalRouterModel.stretch()D
set_option maxHeartbeats 4000000 in
theorem w_X10_stretch_26 {G : gC} {X : gX} {res : UInt64 × Mem} {F : Nat} (C : Cx G X cX10_stretch 7 RX10 4 0 0 (some .double) []) (E : Fnl G X 0 0 (.inr (some (.double res.1))) res.2) {k13 : UInt64 → Int → Mem → Option (UInt64 × Mem)} (hk13 : ∀ (v1 : UInt64) (v3 : Int) (M : Mem), Bd M → k13 v1 v3 M = some res → Go G X 7 0 0 13 [some (rf G 64), some (.double v1), none, some (.int (iI v3)), none, none, none] [] M) : ∀ (fu : Nat) (v1 : UInt64) (v3 : Int) (v4 : Int) (M : Mem), Bd M → f_X10_stretch_26 F k13 fu v1 v3 v4 M = some res → Go G X 7 0 0 26 [some (rf G 64), some (.double v1), none, some (.int (iI v3)), some (.int (iI v4)), none, none] [] M := by
  intro fu
  induction fu with
  | zero => intro v1 v3 v4 M hB h; exact nomatch (show (none : Option (UInt64 × Mem)) = some res from h)
  | succ fu ih =>
    intro v1 v3 v4 M hB h
    rw [f_X10_stretch_26] at h
    obtain ⟨⟨hp_v3, hp_v4⟩, h⟩ := chk_some h
    refine go_iload C dX10_stretch_26 rfl ?_
    refine go_aload_n C dX10_stretch_28 rfl rfl ?_
    refine go_getR (o := 1) (k2 := 65) C dX10_stretch_29 fl_X10_7 sh_64 rfl rfl ?_
    refine go_iconst C dX10_stretch_32 ?_
    refine go_iald C dX10_stretch_33 sh_65 (by decide) ⟨by decide, by decide⟩ ?_
    refine go_icmp_ge (tgt := 90) C dX10_stretch_34 rfl hp_v4 (hB 65 0 (by decide)) (fun hc4 => ?_) (fun hc4 => ?_)
    · replace h := ite_t hc4 h
      refine go_iinc (ls2 := [some (rf G 64), some (.double v1), none, some (.int (iI (v3 + 1))), some (.int (iI v4)), none, none]) C dX10_stretch_90 rfl (Nat.le_of_ble_eq_true rfl) rfl ?_
      refine go_goto (tgt := 13) C dX10_stretch_93 rfl ?_
      refine go_weak (ls' := [some (rf G 64), some (.double v1), none, some (.int (iI (v3 + 1))), none, none, none]) ⟨rfl, ⟨rfl, ⟨rfl, trivial⟩⟩⟩ ?_
      exact hk13 v1 (v3 + 1) M hB h
    · replace h := ite_f hc4 h
      refine go_iload_n C dX10_stretch_37 rfl rfl ?_
      refine go_iload C dX10_stretch_38 rfl ?_
      refine go_icmp_eq (tgt := 84) C dX10_stretch_40 rfl hp_v3 hp_v4 (fun hc5 => ?_) (fun hc5 => ?_)
      · replace h := ite_t hc5 h
        refine go_iinc (ls2 := [some (rf G 64), some (.double v1), none, some (.int (iI v3)), some (.int (iI (v4 + 1))), none, none]) C dX10_stretch_84 rfl (Nat.le_of_ble_eq_true rfl) rfl ?_
        refine go_goto (tgt := 26) C dX10_stretch_87 rfl ?_
        exact ih v1 v3 (v4 + 1) M hB h
      · replace h := ite_f hc5 h
        refine go_aload_n C dX10_stretch_43 rfl rfl ?_
        refine go_iload_n C dX10_stretch_44 rfl rfl ?_
        refine go_iload C dX10_stretch_45 rfl ?_
        refine go_iconst C dX10_stretch_47 ?_
        obtain ⟨q6, h6, h⟩ := ob_some h
        refine go_callV_i C dX10_stretch_48 (ok_X10_goes C.hl hB h6) mv_X10_205 sh_64 rfl rfl (Nat.le_of_ble_eq_true rfl) ⟨(Nat.le_of_ble_eq_true rfl), (Nat.le_of_ble_eq_true rfl)⟩ ⟨(Nat.le_of_ble_eq_true rfl), (Nat.le_of_ble_eq_true rfl)⟩ (fun hB6 => ?_)
        obtain ⟨hc7, h⟩ := chk_some h
        refine go_if_eq (tgt := 84) C dX10_stretch_51 rfl hc7 (fun hc8 => ?_) (fun hc8 => ?_)
        · replace h := ite_t hc8 h
          refine go_iinc (ls2 := [some (rf G 64), some (.double v1), none, some (.int (iI v3)), some (.int (iI (v4 + 1))), none, none]) C dX10_stretch_84 rfl (Nat.le_of_ble_eq_true rfl) rfl ?_
          refine go_goto (tgt := 26) C dX10_stretch_87 rfl ?_
          exact ih v1 v3 (v4 + 1) q6.2 hB6 h
        · replace h := ite_f hc8 h
          refine go_aload_n C dX10_stretch_54 rfl rfl ?_
          refine go_getI (z := 16) C dX10_stretch_55 fl_X10_199 sh_64 rfl rfl ?_
          refine go_i2d C dX10_stretch_58 ?_
          refine go_aload_n C dX10_stretch_59 rfl rfl ?_
          refine go_iload_n C dX10_stretch_60 rfl rfl ?_
          refine go_iload C dX10_stretch_61 rfl ?_
          obtain ⟨q9, h9, h⟩ := ob_some h
          refine go_callV_i C dX10_stretch_63 (ok_X10_farFrom C.hl hB6 h9) mv_X10_104 sh_64 rfl rfl (Nat.le_of_ble_eq_true rfl) ⟨(Nat.le_of_ble_eq_true rfl), (Nat.le_of_ble_eq_true rfl)⟩ ⟨(Nat.le_of_ble_eq_true rfl), (Nat.le_of_ble_eq_true rfl)⟩ (fun hB9 => ?_)
          refine go_i2d C dX10_stretch_66 ?_
          obtain ⟨hc10, h⟩ := chk_some h
          refine go_ddiv C dX10_stretch_67 hc10 ?_
          refine go_dstore (ls2 := [some (rf G 64), some (.double v1), none, some (.int (iI v3)), some (.int (iI v4)), some (.double (FP.ddiv (FP.i2d (iI (q6.2 64 16))) (FP.i2d (iI q9)))), none]) C dX10_stretch_68 (Nat.le_of_ble_eq_true rfl) rfl ?_
          refine go_dload C dX10_stretch_70 rfl ?_
          refine go_dload_n C dX10_stretch_72 rfl rfl ?_
          refine go_dcmp C dX10_stretch_73 ?_
          refine go_if_le (tgt := 82) C dX10_stretch_74 rfl (iI_inR _) (fun hc11 => ?_) (fun hc11 => ?_)
          · replace h := ite_t hc11 h
            refine go_dload_n C dX10_stretch_82 rfl rfl ?_
            refine go_dstore_n (ls2 := [some (rf G 64), some (.double v1), none, some (.int (iI v3)), some (.int (iI v4)), some (.double (FP.ddiv (FP.i2d (iI (q6.2 64 16))) (FP.i2d (iI q9)))), none]) C dX10_stretch_83 rfl (Nat.le_of_ble_eq_true rfl) rfl ?_
            refine go_iinc (ls2 := [some (rf G 64), some (.double v1), none, some (.int (iI v3)), some (.int (iI (v4 + 1))), some (.double (FP.ddiv (FP.i2d (iI (q6.2 64 16))) (FP.i2d (iI q9)))), none]) C dX10_stretch_84 rfl (Nat.le_of_ble_eq_true rfl) rfl ?_
            refine go_goto (tgt := 26) C dX10_stretch_87 rfl ?_
            refine go_weak (ls' := [some (rf G 64), some (.double v1), none, some (.int (iI v3)), some (.int (iI (v4 + 1))), none, none]) ⟨rfl, ⟨rfl, ⟨rfl, ⟨rfl, trivial⟩⟩⟩⟩ ?_
            exact ih v1 v3 (v4 + 1) q6.2 hB9 h
          · replace h := ite_f hc11 h
            refine go_dload C dX10_stretch_77 rfl ?_
            refine go_goto (tgt := 83) C dX10_stretch_79 rfl ?_
            refine go_dstore_n (ls2 := [some (rf G 64), some (.double (FP.ddiv (FP.i2d (iI (q6.2 64 16))) (FP.i2d (iI q9)))), none, some (.int (iI v3)), some (.int (iI v4)), some (.double (FP.ddiv (FP.i2d (iI (q6.2 64 16))) (FP.i2d (iI q9)))), none]) C dX10_stretch_83 rfl (Nat.le_of_ble_eq_true rfl) rfl ?_
            refine go_iinc (ls2 := [some (rf G 64), some (.double (FP.ddiv (FP.i2d (iI (q6.2 64 16))) (FP.i2d (iI q9)))), none, some (.int (iI v3)), some (.int (iI (v4 + 1))), some (.double (FP.ddiv (FP.i2d (iI (q6.2 64 16))) (FP.i2d (iI q9)))), none]) C dX10_stretch_84 rfl (Nat.le_of_ble_eq_true rfl) rfl ?_
            refine go_goto (tgt := 26) C dX10_stretch_87 rfl ?_
            refine go_weak (ls' := [some (rf G 64), some (.double (FP.ddiv (FP.i2d (iI (q6.2 64 16))) (FP.i2d (iI q9)))), none, some (.int (iI v3)), some (.int (iI (v4 + 1))), none, none]) ⟨rfl, ⟨rfl, ⟨rfl, ⟨rfl, trivial⟩⟩⟩⟩ ?_
            exact ih (FP.ddiv (FP.i2d (iI (q6.2 64 16))) (FP.i2d (iI q9))) v3 (v4 + 1) q6.2 hB9 h
set_option maxHeartbeats 4000000 in
theorem w_X10_stretch_13 {G : gC} {X : gX} {res : UInt64 × Mem} {F : Nat} (C : Cx G X cX10_stretch 7 RX10 4 0 0 (some .double) []) (E : Fnl G X 0 0 (.inr (some (.double res.1))) res.2) : ∀ (fu : Nat) (v1 : UInt64) (v3 : Int) (M : Mem), Bd M → f_X10_stretch_13 F fu v1 v3 M = some res → Go G X 7 0 0 13 [some (rf G 64), some (.double v1), none, some (.int (iI v3)), none, none, none] [] M := by
  intro fu
  induction fu with
  | zero => intro v1 v3 M hB h; exact nomatch (show (none : Option (UInt64 × Mem)) = some res from h)
  | succ fu ih =>
    intro v1 v3 M hB h
    rw [f_X10_stretch_13] at h
    obtain ⟨hp_v3, h⟩ := chk_some h
    refine go_iload_n C dX10_stretch_13 rfl rfl ?_
    refine go_aload_n C dX10_stretch_14 rfl rfl ?_
    refine go_getR (o := 1) (k2 := 65) C dX10_stretch_15 fl_X10_7 sh_64 rfl rfl ?_
    refine go_iconst C dX10_stretch_18 ?_
    refine go_iald C dX10_stretch_19 sh_65 (by decide) ⟨by decide, by decide⟩ ?_
    refine go_icmp_ge (tgt := 96) C dX10_stretch_20 rfl hp_v3 (hB 65 0 (by decide)) (fun hc3 => ?_) (fun hc3 => ?_)
    · replace h := ite_t hc3 h
      refine go_dload_n C dX10_stretch_96 rfl rfl ?_
      cases h
      exact go_dret C E rfl dX10_stretch_97 (Nat.le_of_ble_eq_true rfl) (Nat.le_of_ble_eq_true rfl) rfl rfl hB
    · replace h := ite_f hc3 h
      refine go_iconst C dX10_stretch_23 ?_
      refine go_istore (ls2 := [some (rf G 64), some (.double v1), none, some (.int (iI v3)), some (.int (iI 0)), none, none]) C dX10_stretch_24 (Nat.le_of_ble_eq_true rfl) rfl ?_
      exact w_X10_stretch_26 C E ih F v1 v3 0 M hB h
set_option maxHeartbeats 4000000 in
theorem ok_X10_stretch {G : gC} {l : Launch} (hl : l.stackTraces = false) {F : Nat} {M : Mem} (hB : Bd M) {res : UInt64 × Mem} (h : f_X10_stretch F M = some res) : Ok G l 4 0 0 yX10_stretch (.code yX10_stretch cX10_stretch 7 (some .double)) [rf G 64] M (.inr (some (.double res.1))) res.2 := by
  refine ok_of (ls := [some (rf G 64), none, none, none, none, none, none]) hl (by decide +kernel) (Nat.le_of_ble_eq_true rfl) ⟨rfl, trivial⟩ ?_
  intro X hX C E
  subst hX
  rw [f_X10_stretch] at h
  refine go_aload_n C dX10_stretch_0 rfl rfl ?_
  refine go_iconst C dX10_stretch_1 ?_
  refine go_putI (z := 3) C dX10_stretch_2 fp_X10_52 sh_64 rfl rfl rfl rfl ?_
  have hB1 := hB.set 64 3 (x := 0) (by decide)
  refine go_aload_n C dX10_stretch_5 rfl rfl ?_
  obtain ⟨q2, h2, h⟩ := ob_some h
  refine go_callV_v C dX10_stretch_6 (ok_X10_laysFar C.hl hB1 h2) mv_X10_101 sh_64 rfl rfl (Nat.le_of_ble_eq_true rfl) ⟨(Nat.le_of_ble_eq_true rfl), (Nat.le_of_ble_eq_true rfl)⟩ ⟨(Nat.le_of_ble_eq_true rfl), (Nat.le_of_ble_eq_true rfl)⟩ (fun hB2 => ?_)
  refine go_dconst0 C dX10_stretch_9 ?_
  refine go_dstore_n (ls2 := [some (rf G 64), some (.double 0), none, none, none, none, none]) C dX10_stretch_10 rfl (Nat.le_of_ble_eq_true rfl) rfl ?_
  refine go_iconst C dX10_stretch_11 ?_
  refine go_istore_n (ls2 := [some (rf G 64), some (.double 0), none, some (.int (iI 0)), none, none, none]) C dX10_stretch_12 rfl (Nat.le_of_ble_eq_true rfl) rfl ?_
  exact w_X10_stretch_13 C E F 0 0 q2 hB2 h
-- IntervalRouterModel.load(I)I
set_option maxHeartbeats 4000000 in
theorem w_X10_load_39 {G : gC} {X : gX} {res : Int × Mem} {F : Nat} (C : Cx G X cX10_load 5 RX10 4 0 0 (some .int) []) (E : Fnl G X 0 0 (.inr (some (.int (iI res.1)))) res.2) {k26 : Int → Int → Int → Mem → Option (Int × Mem)} (hk26 : ∀ (v1 : Int) (v2 : Int) (v3 : Int) (M : Mem), Bd M → k26 v1 v2 v3 M = some res → Go G X 5 0 0 26 [some (rf G 64), some (.int (iI v1)), some (.int (iI v2)), some (.int (iI v3)), none] [] M) : ∀ (fu : Nat) (v1 : Int) (v2 : Int) (v3 : Int) (v4 : Int) (M : Mem), Bd M → f_X10_load_39 F k26 fu v1 v2 v3 v4 M = some res → Go G X 5 0 0 39 [some (rf G 64), some (.int (iI v1)), some (.int (iI v2)), some (.int (iI v3)), some (.int (iI v4))] [] M := by
  intro fu
  induction fu with
  | zero => intro v1 v2 v3 v4 M hB h; exact nomatch (show (none : Option (Int × Mem)) = some res from h)
  | succ fu ih =>
    intro v1 v2 v3 v4 M hB h
    rw [f_X10_load_39] at h
    obtain ⟨⟨hp_v3, hp_v4⟩, h⟩ := chk_some h
    refine go_iload C dX10_load_39 rfl ?_
    refine go_aload_n C dX10_load_41 rfl rfl ?_
    refine go_getR (o := 1) (k2 := 65) C dX10_load_42 fl_X10_7 sh_64 rfl rfl ?_
    refine go_iconst C dX10_load_45 ?_
    refine go_iald C dX10_load_46 sh_65 (by decide) ⟨by decide, by decide⟩ ?_
    refine go_icmp_ge (tgt := 92) C dX10_load_47 rfl hp_v4 (hB 65 0 (by decide)) (fun hc8 => ?_) (fun hc8 => ?_)
    · replace h := ite_t hc8 h
      refine go_iinc (ls2 := [some (rf G 64), some (.int (iI v1)), some (.int (iI v2)), some (.int (iI (v3 + 1))), some (.int (iI v4))]) C dX10_load_92 rfl (Nat.le_of_ble_eq_true rfl) rfl ?_
      refine go_goto (tgt := 26) C dX10_load_95 rfl ?_
      refine go_weak (ls' := [some (rf G 64), some (.int (iI v1)), some (.int (iI v2)), some (.int (iI (v3 + 1))), none]) ⟨rfl, ⟨rfl, ⟨rfl, ⟨rfl, trivial⟩⟩⟩⟩ ?_
      exact hk26 v1 v2 (v3 + 1) M hB h
    · replace h := ite_f hc8 h
      refine go_iload_n C dX10_load_50 rfl rfl ?_
      refine go_iload_n C dX10_load_51 rfl rfl ?_
      refine go_iload C dX10_load_52 rfl ?_
      refine go_icmp_eq (tgt := 83) C dX10_load_54 rfl hp_v3 hp_v4 (fun hc9 => ?_) (fun hc9 => ?_)
      · replace h := ite_t hc9 h
        refine go_iconst C dX10_load_83 ?_
        refine go_iadd C dX10_load_84 ?_
        refine go_istore_n (ls2 := [some (rf G 64), some (.int (iI v1)), some (.int (iI (v2 + 0))), some (.int (iI v3)), some (.int (iI v4))]) C dX10_load_85 rfl (Nat.le_of_ble_eq_true rfl) rfl ?_
        refine go_iinc (ls2 := [some (rf G 64), some (.int (iI v1)), some (.int (iI (v2 + 0))), some (.int (iI v3)), some (.int (iI (v4 + 1)))]) C dX10_load_86 rfl (Nat.le_of_ble_eq_true rfl) rfl ?_
        refine go_goto (tgt := 39) C dX10_load_89 rfl ?_
        exact ih v1 (v2 + 0) v3 (v4 + 1) M hB h
      · replace h := ite_f hc9 h
        refine go_aload_n C dX10_load_57 rfl rfl ?_
        refine go_iload_n C dX10_load_58 rfl rfl ?_
        refine go_iload C dX10_load_59 rfl ?_
        refine go_iconst C dX10_load_61 ?_
        obtain ⟨q10, h10, h⟩ := ob_some h
        refine go_callV_i C dX10_load_62 (ok_X10_goes C.hl hB h10) mv_X10_205 sh_64 rfl rfl (Nat.le_of_ble_eq_true rfl) ⟨(Nat.le_of_ble_eq_true rfl), (Nat.le_of_ble_eq_true rfl)⟩ ⟨(Nat.le_of_ble_eq_true rfl), (Nat.le_of_ble_eq_true rfl)⟩ (fun hB10 => ?_)
        obtain ⟨hc11, h⟩ := chk_some h
        refine go_if_eq (tgt := 83) C dX10_load_65 rfl hc11 (fun hc12 => ?_) (fun hc12 => ?_)
        · replace h := ite_t hc12 h
          refine go_iconst C dX10_load_83 ?_
          refine go_iadd C dX10_load_84 ?_
          refine go_istore_n (ls2 := [some (rf G 64), some (.int (iI v1)), some (.int (iI (v2 + 0))), some (.int (iI v3)), some (.int (iI v4))]) C dX10_load_85 rfl (Nat.le_of_ble_eq_true rfl) rfl ?_
          refine go_iinc (ls2 := [some (rf G 64), some (.int (iI v1)), some (.int (iI (v2 + 0))), some (.int (iI v3)), some (.int (iI (v4 + 1)))]) C dX10_load_86 rfl (Nat.le_of_ble_eq_true rfl) rfl ?_
          refine go_goto (tgt := 39) C dX10_load_89 rfl ?_
          exact ih v1 (v2 + 0) v3 (v4 + 1) q10.2 hB10 h
        · replace h := ite_f hc12 h
          refine go_aload_n C dX10_load_68 rfl rfl ?_
          refine go_getI (z := 15) C dX10_load_69 fl_X10_196 sh_64 rfl rfl ?_
          refine go_iload_n C dX10_load_72 rfl rfl ?_
          obtain ⟨q13, h13, h⟩ := ob_some h
          refine go_callS_i C dX10_load_73 (ok_X10_has C.hl hB10 h13) ms_X10_120 rfl rfl (Nat.le_of_ble_eq_true rfl) ⟨(Nat.le_of_ble_eq_true rfl), (Nat.le_of_ble_eq_true rfl)⟩ ⟨(Nat.le_of_ble_eq_true rfl), (Nat.le_of_ble_eq_true rfl)⟩ (fun hB13 => ?_)
          obtain ⟨hc14, h⟩ := chk_some h
          refine go_if_eq (tgt := 83) C dX10_load_76 rfl hc14 (fun hc15 => ?_) (fun hc15 => ?_)
          · replace h := ite_t hc15 h
            refine go_iconst C dX10_load_83 ?_
            refine go_iadd C dX10_load_84 ?_
            refine go_istore_n (ls2 := [some (rf G 64), some (.int (iI v1)), some (.int (iI (v2 + 0))), some (.int (iI v3)), some (.int (iI v4))]) C dX10_load_85 rfl (Nat.le_of_ble_eq_true rfl) rfl ?_
            refine go_iinc (ls2 := [some (rf G 64), some (.int (iI v1)), some (.int (iI (v2 + 0))), some (.int (iI v3)), some (.int (iI (v4 + 1)))]) C dX10_load_86 rfl (Nat.le_of_ble_eq_true rfl) rfl ?_
            refine go_goto (tgt := 39) C dX10_load_89 rfl ?_
            exact ih v1 (v2 + 0) v3 (v4 + 1) q10.2 hB13 h
          · replace h := ite_f hc15 h
            refine go_iconst C dX10_load_79 ?_
            refine go_goto (tgt := 84) C dX10_load_80 rfl ?_
            refine go_iadd C dX10_load_84 ?_
            refine go_istore_n (ls2 := [some (rf G 64), some (.int (iI v1)), some (.int (iI (v2 + 1))), some (.int (iI v3)), some (.int (iI v4))]) C dX10_load_85 rfl (Nat.le_of_ble_eq_true rfl) rfl ?_
            refine go_iinc (ls2 := [some (rf G 64), some (.int (iI v1)), some (.int (iI (v2 + 1))), some (.int (iI v3)), some (.int (iI (v4 + 1)))]) C dX10_load_86 rfl (Nat.le_of_ble_eq_true rfl) rfl ?_
            refine go_goto (tgt := 39) C dX10_load_89 rfl ?_
            exact ih v1 (v2 + 1) v3 (v4 + 1) q10.2 hB13 h
set_option maxHeartbeats 4000000 in
theorem w_X10_load_26 {G : gC} {X : gX} {res : Int × Mem} {F : Nat} (C : Cx G X cX10_load 5 RX10 4 0 0 (some .int) []) (E : Fnl G X 0 0 (.inr (some (.int (iI res.1)))) res.2) : ∀ (fu : Nat) (v1 : Int) (v2 : Int) (v3 : Int) (M : Mem), Bd M → f_X10_load_26 F fu v1 v2 v3 M = some res → Go G X 5 0 0 26 [some (rf G 64), some (.int (iI v1)), some (.int (iI v2)), some (.int (iI v3)), none] [] M := by
  intro fu
  induction fu with
  | zero => intro v1 v2 v3 M hB h; exact nomatch (show (none : Option (Int × Mem)) = some res from h)
  | succ fu ih =>
    intro v1 v2 v3 M hB h
    rw [f_X10_load_26] at h
    obtain ⟨hp_v3, h⟩ := chk_some h
    refine go_iload_n C dX10_load_26 rfl rfl ?_
    refine go_aload_n C dX10_load_27 rfl rfl ?_
    refine go_getR (o := 1) (k2 := 65) C dX10_load_28 fl_X10_7 sh_64 rfl rfl ?_
    refine go_iconst C dX10_load_31 ?_
    refine go_iald C dX10_load_32 sh_65 (by decide) ⟨by decide, by decide⟩ ?_
    refine go_icmp_ge (tgt := 98) C dX10_load_33 rfl hp_v3 (hB 65 0 (by decide)) (fun hc7 => ?_) (fun hc7 => ?_)
    · replace h := ite_t hc7 h
      refine go_iload_n C dX10_load_98 rfl rfl ?_
      cases h
      exact go_iret C E rfl dX10_load_99 (Nat.le_of_ble_eq_true rfl) (Nat.le_of_ble_eq_true rfl) rfl rfl hB
    · replace h := ite_f hc7 h
      refine go_iconst C dX10_load_36 ?_
      refine go_istore (ls2 := [some (rf G 64), some (.int (iI v1)), some (.int (iI v2)), some (.int (iI v3)), some (.int (iI 0))]) C dX10_load_37 (Nat.le_of_ble_eq_true rfl) rfl ?_
      exact w_X10_load_39 C E ih F v1 v2 v3 0 M hB h
set_option maxHeartbeats 4000000 in
theorem ok_X10_load {G : gC} {l : Launch} (hl : l.stackTraces = false) {F : Nat} {v1 : Int} {M : Mem} (hB : Bd M) {res : Int × Mem} (h : f_X10_load F v1 M = some res) : Ok G l 4 0 0 yX10_load (.code yX10_load cX10_load 5 (some .int)) [rf G 64, .int (iI v1)] M (.inr (some (.int (iI res.1)))) res.2 := by
  refine ok_of (ls := [some (rf G 64), some (.int (iI v1)), none, none, none]) hl (by decide +kernel) (Nat.le_of_ble_eq_true rfl) ⟨rfl, ⟨rfl, trivial⟩⟩ ?_
  intro X hX C E
  subst hX
  rw [f_X10_load] at h
  refine go_aload_n C dX10_load_0 rfl rfl ?_
  refine go_aload_n C dX10_load_1 rfl rfl ?_
  refine go_iload_n C dX10_load_2 rfl rfl ?_
  obtain ⟨q1, h1, h⟩ := ob_some h
  refine go_callV_i C dX10_load_3 (ok_X10_isLink C.hl hB h1) mv_X10_95 sh_64 rfl rfl (Nat.le_of_ble_eq_true rfl) ⟨(Nat.le_of_ble_eq_true rfl), (Nat.le_of_ble_eq_true rfl)⟩ ⟨(Nat.le_of_ble_eq_true rfl), (Nat.le_of_ble_eq_true rfl)⟩ (fun hB1 => ?_)
  obtain ⟨hc2, h⟩ := chk_some h
  refine go_if_eq (tgt := 13) C dX10_load_6 rfl hc2 (fun hc3 => ?_) (fun hc3 => ?_)
  · replace h := ite_t hc3 h
    refine go_iconst C dX10_load_13 ?_
    obtain ⟨q4, h4, h⟩ := ob_some h
    refine go_callV_i C dX10_load_14 (ok_X10_refused C.hl hB1 h4) mv_X10_67 sh_64 rfl rfl (Nat.le_of_ble_eq_true rfl) ⟨(Nat.le_of_ble_eq_true rfl), (Nat.le_of_ble_eq_true rfl)⟩ ⟨(Nat.le_of_ble_eq_true rfl), (Nat.le_of_ble_eq_true rfl)⟩ (fun hB4 => ?_)
    obtain ⟨hc5, h⟩ := chk_some h
    refine go_if_eq (tgt := 22) C dX10_load_17 rfl hc5 (fun hc6 => ?_) (fun hc6 => ?_)
    · replace h := ite_t hc6 h
      refine go_iconst C dX10_load_22 ?_
      refine go_istore_n (ls2 := [some (rf G 64), some (.int (iI v1)), some (.int (iI 0)), none, none]) C dX10_load_23 rfl (Nat.le_of_ble_eq_true rfl) rfl ?_
      refine go_iconst C dX10_load_24 ?_
      refine go_istore_n (ls2 := [some (rf G 64), some (.int (iI v1)), some (.int (iI 0)), some (.int (iI 0)), none]) C dX10_load_25 rfl (Nat.le_of_ble_eq_true rfl) rfl ?_
      exact w_X10_load_26 C E F v1 0 0 q4.2 hB4 h
    · replace h := ite_f hc6 h
      refine go_iconst C dX10_load_20 ?_
      cases h
      exact go_iret C E rfl dX10_load_21 (Nat.le_of_ble_eq_true rfl) (Nat.le_of_ble_eq_true rfl) rfl rfl hB4
  · replace h := ite_f hc3 h
    refine go_iconst C dX10_load_9 ?_
    refine go_goto (tgt := 14) C dX10_load_10 rfl ?_
    obtain ⟨q16, h16, h⟩ := ob_some h
    refine go_callV_i C dX10_load_14 (ok_X10_refused C.hl hB1 h16) mv_X10_67 sh_64 rfl rfl (Nat.le_of_ble_eq_true rfl) ⟨(Nat.le_of_ble_eq_true rfl), (Nat.le_of_ble_eq_true rfl)⟩ ⟨(Nat.le_of_ble_eq_true rfl), (Nat.le_of_ble_eq_true rfl)⟩ (fun hB16 => ?_)
    obtain ⟨hc17, h⟩ := chk_some h
    refine go_if_eq (tgt := 22) C dX10_load_17 rfl hc17 (fun hc18 => ?_) (fun hc18 => ?_)
    · replace h := ite_t hc18 h
      refine go_iconst C dX10_load_22 ?_
      refine go_istore_n (ls2 := [some (rf G 64), some (.int (iI v1)), some (.int (iI 0)), none, none]) C dX10_load_23 rfl (Nat.le_of_ble_eq_true rfl) rfl ?_
      refine go_iconst C dX10_load_24 ?_
      refine go_istore_n (ls2 := [some (rf G 64), some (.int (iI v1)), some (.int (iI 0)), some (.int (iI 0)), none]) C dX10_load_25 rfl (Nat.le_of_ble_eq_true rfl) rfl ?_
      exact w_X10_load_26 C E F v1 0 0 q16.2 hB16 h
    · replace h := ite_f hc18 h
      refine go_iconst C dX10_load_20 ?_
      cases h
      exact go_iret C E rfl dX10_load_21 (Nat.le_of_ble_eq_true rfl) (Nat.le_of_ble_eq_true rfl) rfl rfl hB16
-- IntervalRouterModel.lostWithout(I)I
set_option maxHeartbeats 4000000 in
theorem w_X10_lostWithout_39 {G : gC} {X : gX} {res : Int × Mem} {F : Nat} (C : Cx G X cX10_lostWithout 5 RX10 4 0 0 (some .int) []) (E : Fnl G X 0 0 (.inr (some (.int (iI res.1)))) res.2) {k26 : Int → Int → Int → Mem → Option (Int × Mem)} (hk26 : ∀ (v1 : Int) (v2 : Int) (v3 : Int) (M : Mem), Bd M → k26 v1 v2 v3 M = some res → Go G X 5 0 0 26 [some (rf G 64), some (.int (iI v1)), some (.int (iI v2)), some (.int (iI v3)), none] [] M) : ∀ (fu : Nat) (v1 : Int) (v2 : Int) (v3 : Int) (v4 : Int) (M : Mem), Bd M → f_X10_lostWithout_39 F k26 fu v1 v2 v3 v4 M = some res → Go G X 5 0 0 39 [some (rf G 64), some (.int (iI v1)), some (.int (iI v2)), some (.int (iI v3)), some (.int (iI v4))] [] M := by
  intro fu
  induction fu with
  | zero => intro v1 v2 v3 v4 M hB h; exact nomatch (show (none : Option (Int × Mem)) = some res from h)
  | succ fu ih =>
    intro v1 v2 v3 v4 M hB h
    rw [f_X10_lostWithout_39] at h
    obtain ⟨⟨hp_v3, hp_v4⟩, h⟩ := chk_some h
    refine go_iload C dX10_lostWithout_39 rfl ?_
    refine go_aload_n C dX10_lostWithout_41 rfl rfl ?_
    refine go_getR (o := 1) (k2 := 65) C dX10_lostWithout_42 fl_X10_7 sh_64 rfl rfl ?_
    refine go_iconst C dX10_lostWithout_45 ?_
    refine go_iald C dX10_lostWithout_46 sh_65 (by decide) ⟨by decide, by decide⟩ ?_
    refine go_icmp_ge (tgt := 92) C dX10_lostWithout_47 rfl hp_v4 (hB 65 0 (by decide)) (fun hc8 => ?_) (fun hc8 => ?_)
    · replace h := ite_t hc8 h
      refine go_iinc (ls2 := [some (rf G 64), some (.int (iI v1)), some (.int (iI v2)), some (.int (iI (v3 + 1))), some (.int (iI v4))]) C dX10_lostWithout_92 rfl (Nat.le_of_ble_eq_true rfl) rfl ?_
      refine go_goto (tgt := 26) C dX10_lostWithout_95 rfl ?_
      refine go_weak (ls' := [some (rf G 64), some (.int (iI v1)), some (.int (iI v2)), some (.int (iI (v3 + 1))), none]) ⟨rfl, ⟨rfl, ⟨rfl, ⟨rfl, trivial⟩⟩⟩⟩ ?_
      exact hk26 v1 v2 (v3 + 1) M hB h
    · replace h := ite_f hc8 h
      refine go_iload_n C dX10_lostWithout_50 rfl rfl ?_
      refine go_iload_n C dX10_lostWithout_51 rfl rfl ?_
      refine go_iload C dX10_lostWithout_52 rfl ?_
      refine go_icmp_eq (tgt := 83) C dX10_lostWithout_54 rfl hp_v3 hp_v4 (fun hc9 => ?_) (fun hc9 => ?_)
      · replace h := ite_t hc9 h
        refine go_iconst C dX10_lostWithout_83 ?_
        refine go_iadd C dX10_lostWithout_84 ?_
        refine go_istore_n (ls2 := [some (rf G 64), some (.int (iI v1)), some (.int (iI (v2 + 0))), some (.int (iI v3)), some (.int (iI v4))]) C dX10_lostWithout_85 rfl (Nat.le_of_ble_eq_true rfl) rfl ?_
        refine go_iinc (ls2 := [some (rf G 64), some (.int (iI v1)), some (.int (iI (v2 + 0))), some (.int (iI v3)), some (.int (iI (v4 + 1)))]) C dX10_lostWithout_86 rfl (Nat.le_of_ble_eq_true rfl) rfl ?_
        refine go_goto (tgt := 39) C dX10_lostWithout_89 rfl ?_
        exact ih v1 (v2 + 0) v3 (v4 + 1) M hB h
      · replace h := ite_f hc9 h
        refine go_aload_n C dX10_lostWithout_57 rfl rfl ?_
        refine go_iload_n C dX10_lostWithout_58 rfl rfl ?_
        refine go_iload C dX10_lostWithout_59 rfl ?_
        refine go_iconst C dX10_lostWithout_61 ?_
        obtain ⟨q10, h10, h⟩ := ob_some h
        refine go_callV_i C dX10_lostWithout_62 (ok_X10_goes C.hl hB h10) mv_X10_205 sh_64 rfl rfl (Nat.le_of_ble_eq_true rfl) ⟨(Nat.le_of_ble_eq_true rfl), (Nat.le_of_ble_eq_true rfl)⟩ ⟨(Nat.le_of_ble_eq_true rfl), (Nat.le_of_ble_eq_true rfl)⟩ (fun hB10 => ?_)
        obtain ⟨hc11, h⟩ := chk_some h
        refine go_if_eq (tgt := 83) C dX10_lostWithout_65 rfl hc11 (fun hc12 => ?_) (fun hc12 => ?_)
        · replace h := ite_t hc12 h
          refine go_iconst C dX10_lostWithout_83 ?_
          refine go_iadd C dX10_lostWithout_84 ?_
          refine go_istore_n (ls2 := [some (rf G 64), some (.int (iI v1)), some (.int (iI (v2 + 0))), some (.int (iI v3)), some (.int (iI v4))]) C dX10_lostWithout_85 rfl (Nat.le_of_ble_eq_true rfl) rfl ?_
          refine go_iinc (ls2 := [some (rf G 64), some (.int (iI v1)), some (.int (iI (v2 + 0))), some (.int (iI v3)), some (.int (iI (v4 + 1)))]) C dX10_lostWithout_86 rfl (Nat.le_of_ble_eq_true rfl) rfl ?_
          refine go_goto (tgt := 39) C dX10_lostWithout_89 rfl ?_
          exact ih v1 (v2 + 0) v3 (v4 + 1) q10.2 hB10 h
        · replace h := ite_f hc12 h
          refine go_aload_n C dX10_lostWithout_68 rfl rfl ?_
          refine go_iload_n C dX10_lostWithout_69 rfl rfl ?_
          refine go_iload C dX10_lostWithout_70 rfl ?_
          refine go_iload_n C dX10_lostWithout_72 rfl rfl ?_
          obtain ⟨q13, h13, h⟩ := ob_some h
          refine go_callV_i C dX10_lostWithout_73 (ok_X10_goes C.hl hB10 h13) mv_X10_205 sh_64 rfl rfl (Nat.le_of_ble_eq_true rfl) ⟨(Nat.le_of_ble_eq_true rfl), (Nat.le_of_ble_eq_true rfl)⟩ ⟨(Nat.le_of_ble_eq_true rfl), (Nat.le_of_ble_eq_true rfl)⟩ (fun hB13 => ?_)
          obtain ⟨hc14, h⟩ := chk_some h
          refine go_if_ne (tgt := 83) C dX10_lostWithout_76 rfl hc14 (fun hc15 => ?_) (fun hc15 => ?_)
          · replace h := ite_f hc15 h
            refine go_iconst C dX10_lostWithout_83 ?_
            refine go_iadd C dX10_lostWithout_84 ?_
            refine go_istore_n (ls2 := [some (rf G 64), some (.int (iI v1)), some (.int (iI (v2 + 0))), some (.int (iI v3)), some (.int (iI v4))]) C dX10_lostWithout_85 rfl (Nat.le_of_ble_eq_true rfl) rfl ?_
            refine go_iinc (ls2 := [some (rf G 64), some (.int (iI v1)), some (.int (iI (v2 + 0))), some (.int (iI v3)), some (.int (iI (v4 + 1)))]) C dX10_lostWithout_86 rfl (Nat.le_of_ble_eq_true rfl) rfl ?_
            refine go_goto (tgt := 39) C dX10_lostWithout_89 rfl ?_
            exact ih v1 (v2 + 0) v3 (v4 + 1) q13.2 hB13 h
          · replace h := ite_t hc15 h
            refine go_iconst C dX10_lostWithout_79 ?_
            refine go_goto (tgt := 84) C dX10_lostWithout_80 rfl ?_
            refine go_iadd C dX10_lostWithout_84 ?_
            refine go_istore_n (ls2 := [some (rf G 64), some (.int (iI v1)), some (.int (iI (v2 + 1))), some (.int (iI v3)), some (.int (iI v4))]) C dX10_lostWithout_85 rfl (Nat.le_of_ble_eq_true rfl) rfl ?_
            refine go_iinc (ls2 := [some (rf G 64), some (.int (iI v1)), some (.int (iI (v2 + 1))), some (.int (iI v3)), some (.int (iI (v4 + 1)))]) C dX10_lostWithout_86 rfl (Nat.le_of_ble_eq_true rfl) rfl ?_
            refine go_goto (tgt := 39) C dX10_lostWithout_89 rfl ?_
            exact ih v1 (v2 + 1) v3 (v4 + 1) q13.2 hB13 h
set_option maxHeartbeats 4000000 in
theorem w_X10_lostWithout_26 {G : gC} {X : gX} {res : Int × Mem} {F : Nat} (C : Cx G X cX10_lostWithout 5 RX10 4 0 0 (some .int) []) (E : Fnl G X 0 0 (.inr (some (.int (iI res.1)))) res.2) : ∀ (fu : Nat) (v1 : Int) (v2 : Int) (v3 : Int) (M : Mem), Bd M → f_X10_lostWithout_26 F fu v1 v2 v3 M = some res → Go G X 5 0 0 26 [some (rf G 64), some (.int (iI v1)), some (.int (iI v2)), some (.int (iI v3)), none] [] M := by
  intro fu
  induction fu with
  | zero => intro v1 v2 v3 M hB h; exact nomatch (show (none : Option (Int × Mem)) = some res from h)
  | succ fu ih =>
    intro v1 v2 v3 M hB h
    rw [f_X10_lostWithout_26] at h
    obtain ⟨hp_v3, h⟩ := chk_some h
    refine go_iload_n C dX10_lostWithout_26 rfl rfl ?_
    refine go_aload_n C dX10_lostWithout_27 rfl rfl ?_
    refine go_getR (o := 1) (k2 := 65) C dX10_lostWithout_28 fl_X10_7 sh_64 rfl rfl ?_
    refine go_iconst C dX10_lostWithout_31 ?_
    refine go_iald C dX10_lostWithout_32 sh_65 (by decide) ⟨by decide, by decide⟩ ?_
    refine go_icmp_ge (tgt := 98) C dX10_lostWithout_33 rfl hp_v3 (hB 65 0 (by decide)) (fun hc7 => ?_) (fun hc7 => ?_)
    · replace h := ite_t hc7 h
      refine go_iload_n C dX10_lostWithout_98 rfl rfl ?_
      cases h
      exact go_iret C E rfl dX10_lostWithout_99 (Nat.le_of_ble_eq_true rfl) (Nat.le_of_ble_eq_true rfl) rfl rfl hB
    · replace h := ite_f hc7 h
      refine go_iconst C dX10_lostWithout_36 ?_
      refine go_istore (ls2 := [some (rf G 64), some (.int (iI v1)), some (.int (iI v2)), some (.int (iI v3)), some (.int (iI 0))]) C dX10_lostWithout_37 (Nat.le_of_ble_eq_true rfl) rfl ?_
      exact w_X10_lostWithout_39 C E ih F v1 v2 v3 0 M hB h
set_option maxHeartbeats 4000000 in
theorem ok_X10_lostWithout {G : gC} {l : Launch} (hl : l.stackTraces = false) {F : Nat} {v1 : Int} {M : Mem} (hB : Bd M) {res : Int × Mem} (h : f_X10_lostWithout F v1 M = some res) : Ok G l 4 0 0 yX10_lostWithout (.code yX10_lostWithout cX10_lostWithout 5 (some .int)) [rf G 64, .int (iI v1)] M (.inr (some (.int (iI res.1)))) res.2 := by
  refine ok_of (ls := [some (rf G 64), some (.int (iI v1)), none, none, none]) hl (by decide +kernel) (Nat.le_of_ble_eq_true rfl) ⟨rfl, ⟨rfl, trivial⟩⟩ ?_
  intro X hX C E
  subst hX
  rw [f_X10_lostWithout] at h
  refine go_aload_n C dX10_lostWithout_0 rfl rfl ?_
  refine go_aload_n C dX10_lostWithout_1 rfl rfl ?_
  refine go_iload_n C dX10_lostWithout_2 rfl rfl ?_
  obtain ⟨q1, h1, h⟩ := ob_some h
  refine go_callV_i C dX10_lostWithout_3 (ok_X10_isLink C.hl hB h1) mv_X10_95 sh_64 rfl rfl (Nat.le_of_ble_eq_true rfl) ⟨(Nat.le_of_ble_eq_true rfl), (Nat.le_of_ble_eq_true rfl)⟩ ⟨(Nat.le_of_ble_eq_true rfl), (Nat.le_of_ble_eq_true rfl)⟩ (fun hB1 => ?_)
  obtain ⟨hc2, h⟩ := chk_some h
  refine go_if_eq (tgt := 13) C dX10_lostWithout_6 rfl hc2 (fun hc3 => ?_) (fun hc3 => ?_)
  · replace h := ite_t hc3 h
    refine go_iconst C dX10_lostWithout_13 ?_
    obtain ⟨q4, h4, h⟩ := ob_some h
    refine go_callV_i C dX10_lostWithout_14 (ok_X10_refused C.hl hB1 h4) mv_X10_67 sh_64 rfl rfl (Nat.le_of_ble_eq_true rfl) ⟨(Nat.le_of_ble_eq_true rfl), (Nat.le_of_ble_eq_true rfl)⟩ ⟨(Nat.le_of_ble_eq_true rfl), (Nat.le_of_ble_eq_true rfl)⟩ (fun hB4 => ?_)
    obtain ⟨hc5, h⟩ := chk_some h
    refine go_if_eq (tgt := 22) C dX10_lostWithout_17 rfl hc5 (fun hc6 => ?_) (fun hc6 => ?_)
    · replace h := ite_t hc6 h
      refine go_iconst C dX10_lostWithout_22 ?_
      refine go_istore_n (ls2 := [some (rf G 64), some (.int (iI v1)), some (.int (iI 0)), none, none]) C dX10_lostWithout_23 rfl (Nat.le_of_ble_eq_true rfl) rfl ?_
      refine go_iconst C dX10_lostWithout_24 ?_
      refine go_istore_n (ls2 := [some (rf G 64), some (.int (iI v1)), some (.int (iI 0)), some (.int (iI 0)), none]) C dX10_lostWithout_25 rfl (Nat.le_of_ble_eq_true rfl) rfl ?_
      exact w_X10_lostWithout_26 C E F v1 0 0 q4.2 hB4 h
    · replace h := ite_f hc6 h
      refine go_iconst C dX10_lostWithout_20 ?_
      cases h
      exact go_iret C E rfl dX10_lostWithout_21 (Nat.le_of_ble_eq_true rfl) (Nat.le_of_ble_eq_true rfl) rfl rfl hB4
  · replace h := ite_f hc3 h
    refine go_iconst C dX10_lostWithout_9 ?_
    refine go_goto (tgt := 14) C dX10_lostWithout_10 rfl ?_
    obtain ⟨q16, h16, h⟩ := ob_some h
    refine go_callV_i C dX10_lostWithout_14 (ok_X10_refused C.hl hB1 h16) mv_X10_67 sh_64 rfl rfl (Nat.le_of_ble_eq_true rfl) ⟨(Nat.le_of_ble_eq_true rfl), (Nat.le_of_ble_eq_true rfl)⟩ ⟨(Nat.le_of_ble_eq_true rfl), (Nat.le_of_ble_eq_true rfl)⟩ (fun hB16 => ?_)
    obtain ⟨hc17, h⟩ := chk_some h
    refine go_if_eq (tgt := 22) C dX10_lostWithout_17 rfl hc17 (fun hc18 => ?_) (fun hc18 => ?_)
    · replace h := ite_t hc18 h
      refine go_iconst C dX10_lostWithout_22 ?_
      refine go_istore_n (ls2 := [some (rf G 64), some (.int (iI v1)), some (.int (iI 0)), none, none]) C dX10_lostWithout_23 rfl (Nat.le_of_ble_eq_true rfl) rfl ?_
      refine go_iconst C dX10_lostWithout_24 ?_
      refine go_istore_n (ls2 := [some (rf G 64), some (.int (iI v1)), some (.int (iI 0)), some (.int (iI 0)), none]) C dX10_lostWithout_25 rfl (Nat.le_of_ble_eq_true rfl) rfl ?_
      exact w_X10_lostWithout_26 C E F v1 0 0 q16.2 hB16 h
    · replace h := ite_f hc18 h
      refine go_iconst C dX10_lostWithout_20 ?_
      cases h
      exact go_iret C E rfl dX10_lostWithout_21 (Nat.le_of_ble_eq_true rfl) (Nat.le_of_ble_eq_true rfl) rfl rfl hB16
-- IntervalRouterModel.bestCompactness()I
set_option maxHeartbeats 4000000 in
theorem ok_X10_bestCompactness {G : gC} {l : Launch} (hl : l.stackTraces = false) {F : Nat} {M : Mem} (hB : Bd M) {res : Int × Mem} (h : f_X10_bestCompactness F M = some res) : Ok G l 5 0 0 yX10_bestCompactness (.code yX10_bestCompactness cX10_bestCompactness 1 (some .int)) [rf G 64] M (.inr (some (.int (iI res.1)))) res.2 := by
  refine ok_of (ls := [some (rf G 64)]) hl (by decide +kernel) (Nat.le_of_ble_eq_true rfl) ⟨rfl, trivial⟩ ?_
  intro X hX C E
  subst hX
  rw [f_X10_bestCompactness] at h
  refine go_aload_n C dX10_bestCompactness_0 rfl rfl ?_
  refine go_aload_n C dX10_bestCompactness_1 rfl rfl ?_
  refine go_getR (o := 1) (k2 := 65) C dX10_bestCompactness_2 fl_X10_7 sh_64 rfl rfl ?_
  refine go_iconst C dX10_bestCompactness_5 ?_
  refine go_iald C dX10_bestCompactness_6 sh_65 (by decide) ⟨by decide, by decide⟩ ?_
  refine go_bipush C dX10_bestCompactness_7 (by decide +kernel) ?_
  refine go_icmp_le (tgt := 16) C dX10_bestCompactness_9 rfl (hB 65 0 (by decide)) (by decide) (fun hc1 => ?_) (fun hc1 => ?_)
  · replace h := ite_t hc1 h
    refine go_iconst C dX10_bestCompactness_16 ?_
    obtain ⟨q2, h2, h⟩ := ob_some h
    refine go_callV_i C dX10_bestCompactness_17 (ok_X10_refused C.hl hB h2) mv_X10_67 sh_64 rfl rfl (Nat.le_of_ble_eq_true rfl) ⟨(Nat.le_of_ble_eq_true rfl), (Nat.le_of_ble_eq_true rfl)⟩ ⟨(Nat.le_of_ble_eq_true rfl), (Nat.le_of_ble_eq_true rfl)⟩ (fun hB2 => ?_)
    obtain ⟨hc3, h⟩ := chk_some h
    refine go_if_eq (tgt := 27) C dX10_bestCompactness_20 rfl hc3 (fun hc4 => ?_) (fun hc4 => ?_)
    · replace h := ite_t hc4 h
      refine go_aload_n C dX10_bestCompactness_27 rfl rfl ?_
      obtain ⟨q5, h5, h⟩ := ob_some h
      refine go_callV_i C dX10_bestCompactness_28 (ok_X10_bestOf C.hl hB2 h5) mv_X10_129 sh_64 rfl rfl (Nat.le_of_ble_eq_true rfl) ⟨(Nat.le_of_ble_eq_true rfl), (Nat.le_of_ble_eq_true rfl)⟩ ⟨(Nat.le_of_ble_eq_true rfl), (Nat.le_of_ble_eq_true rfl)⟩ (fun hB5 => ?_)
      cases h
      exact go_iret C E rfl dX10_bestCompactness_31 (Nat.le_of_ble_eq_true rfl) (Nat.le_of_ble_eq_true rfl) rfl rfl hB5
    · replace h := ite_f hc4 h
      refine go_iconst C dX10_bestCompactness_23 ?_
      refine go_goto (tgt := 31) C dX10_bestCompactness_24 rfl ?_
      cases h
      exact go_iret C E rfl dX10_bestCompactness_31 (Nat.le_of_ble_eq_true rfl) (Nat.le_of_ble_eq_true rfl) rfl rfl hB2
  · replace h := ite_f hc1 h
    refine go_iconst C dX10_bestCompactness_12 ?_
    refine go_goto (tgt := 17) C dX10_bestCompactness_13 rfl ?_
    obtain ⟨q6, h6, h⟩ := ob_some h
    refine go_callV_i C dX10_bestCompactness_17 (ok_X10_refused C.hl hB h6) mv_X10_67 sh_64 rfl rfl (Nat.le_of_ble_eq_true rfl) ⟨(Nat.le_of_ble_eq_true rfl), (Nat.le_of_ble_eq_true rfl)⟩ ⟨(Nat.le_of_ble_eq_true rfl), (Nat.le_of_ble_eq_true rfl)⟩ (fun hB6 => ?_)
    obtain ⟨hc7, h⟩ := chk_some h
    refine go_if_eq (tgt := 27) C dX10_bestCompactness_20 rfl hc7 (fun hc8 => ?_) (fun hc8 => ?_)
    · replace h := ite_t hc8 h
      refine go_aload_n C dX10_bestCompactness_27 rfl rfl ?_
      obtain ⟨q9, h9, h⟩ := ob_some h
      refine go_callV_i C dX10_bestCompactness_28 (ok_X10_bestOf C.hl hB6 h9) mv_X10_129 sh_64 rfl rfl (Nat.le_of_ble_eq_true rfl) ⟨(Nat.le_of_ble_eq_true rfl), (Nat.le_of_ble_eq_true rfl)⟩ ⟨(Nat.le_of_ble_eq_true rfl), (Nat.le_of_ble_eq_true rfl)⟩ (fun hB9 => ?_)
      cases h
      exact go_iret C E rfl dX10_bestCompactness_31 (Nat.le_of_ble_eq_true rfl) (Nat.le_of_ble_eq_true rfl) rfl rfl hB9
    · replace h := ite_f hc8 h
      refine go_iconst C dX10_bestCompactness_23 ?_
      refine go_goto (tgt := 31) C dX10_bestCompactness_24 rfl ?_
      cases h
      exact go_iret C E rfl dX10_bestCompactness_31 (Nat.le_of_ble_eq_true rfl) (Nat.le_of_ble_eq_true rfl) rfl rfl hB6
-- IntervalRouterModel.labelings(I)I
set_option maxHeartbeats 4000000 in
theorem w_X10_labelings_49 {G : gC} {X : gX} {res : Int × Mem} {F : Nat} (C : Cx G X cX10_labelings 5 RX10 5 0 0 (some .int) []) (E : Fnl G X 0 0 (.inr (some (.int (iI res.1)))) res.2) : ∀ (fu : Nat) (v1 : Int) (v3 : Int) (v4 : Int) (M : Mem), Bd M → f_X10_labelings_49 F fu v1 v3 v4 M = some res → Go G X 5 0 0 49 [some (rf G 64), some (.int (iI v1)), none, some (.int (iI v3)), some (.int (iI v4))] [] M := by
  intro fu
  induction fu with
  | zero => intro v1 v3 v4 M hB h; exact nomatch (show (none : Option (Int × Mem)) = some res from h)
  | succ fu ih =>
    intro v1 v3 v4 M hB h
    rw [f_X10_labelings_49] at h
    obtain ⟨⟨hp_v1, hp_v4⟩, h⟩ := chk_some h
    refine go_iload C dX10_labelings_49 rfl ?_
    refine go_iload_n C dX10_labelings_51 rfl rfl ?_
    refine go_icmp_gt (tgt := 71) C dX10_labelings_52 rfl hp_v4 hp_v1 (fun hc9 => ?_) (fun hc9 => ?_)
    · replace h := ite_t hc9 h
      refine go_iload_n C dX10_labelings_71 rfl rfl ?_
      cases h
      exact go_iret C E rfl dX10_labelings_72 (Nat.le_of_ble_eq_true rfl) (Nat.le_of_ble_eq_true rfl) rfl rfl hB
    · replace h := ite_f hc9 h
      refine go_iload_n C dX10_labelings_55 rfl rfl ?_
      refine go_aload_n C dX10_labelings_56 rfl rfl ?_
      refine go_getR (o := 13) (k2 := 77) C dX10_labelings_57 fl_X10_46 sh_64 rfl rfl ?_
      refine go_iload C dX10_labelings_60 rfl ?_
      obtain ⟨hc10, h⟩ := chk_some h
      refine go_iald C dX10_labelings_62 sh_77 (by decide) hc10 ?_
      refine go_iadd C dX10_labelings_63 ?_
      refine go_istore_n (ls2 := [some (rf G 64), some (.int (iI v1)), none, some (.int (iI (v3 + (M 77 v4)))), some (.int (iI v4))]) C dX10_labelings_64 rfl (Nat.le_of_ble_eq_true rfl) rfl ?_
      refine go_iinc (ls2 := [some (rf G 64), some (.int (iI v1)), none, some (.int (iI (v3 + (M 77 v4)))), some (.int (iI (v4 + 1)))]) C dX10_labelings_65 rfl (Nat.le_of_ble_eq_true rfl) rfl ?_
      refine go_goto (tgt := 49) C dX10_labelings_68 rfl ?_
      exact ih v1 (v3 + (M 77 v4)) (v4 + 1) M hB h
set_option maxHeartbeats 4000000 in
theorem ok_X10_labelings {G : gC} {l : Launch} (hl : l.stackTraces = false) {F : Nat} {v1 : Int} {M : Mem} (hB : Bd M) {res : Int × Mem} (h : f_X10_labelings F v1 M = some res) : Ok G l 5 0 0 yX10_labelings (.code yX10_labelings cX10_labelings 5 (some .int)) [rf G 64, .int (iI v1)] M (.inr (some (.int (iI res.1)))) res.2 := by
  refine ok_of (ls := [some (rf G 64), some (.int (iI v1)), none, none, none]) hl (by decide +kernel) (Nat.le_of_ble_eq_true rfl) ⟨rfl, ⟨rfl, trivial⟩⟩ ?_
  intro X hX C E
  subst hX
  rw [f_X10_labelings] at h
  refine go_aload_n C dX10_labelings_0 rfl rfl ?_
  refine go_iload_n C dX10_labelings_1 rfl rfl ?_
  refine go_iconst C dX10_labelings_2 ?_
  refine go_bipush C dX10_labelings_3 (by decide +kernel) ?_
  obtain ⟨q1, h1, h⟩ := ob_some h
  refine go_callS_i C dX10_labelings_5 (ok_X10_within C.hl hB h1) ms_X10_56 rfl rfl (Nat.le_of_ble_eq_true rfl) ⟨(Nat.le_of_ble_eq_true rfl), (Nat.le_of_ble_eq_true rfl)⟩ ⟨(Nat.le_of_ble_eq_true rfl), (Nat.le_of_ble_eq_true rfl)⟩ (fun hB1 => ?_)
  obtain ⟨hc2, h⟩ := chk_some h
  refine go_if_ne (tgt := 15) C dX10_labelings_8 rfl hc2 (fun hc3 => ?_) (fun hc3 => ?_)
  · replace h := ite_f hc3 h
    refine go_aload_n C dX10_labelings_15 rfl rfl ?_
    refine go_getR (o := 1) (k2 := 65) C dX10_labelings_16 fl_X10_7 sh_64 rfl rfl ?_
    refine go_iconst C dX10_labelings_19 ?_
    refine go_iald C dX10_labelings_20 sh_65 (by decide) ⟨by decide, by decide⟩ ?_
    refine go_bipush C dX10_labelings_21 (by decide +kernel) ?_
    refine go_icmp_le (tgt := 30) C dX10_labelings_23 rfl (hB1 65 0 (by decide)) (by decide) (fun hc4 => ?_) (fun hc4 => ?_)
    · replace h := ite_t hc4 h
      refine go_iconst C dX10_labelings_30 ?_
      obtain ⟨q5, h5, h⟩ := ob_some h
      refine go_callV_i C dX10_labelings_31 (ok_X10_refused C.hl hB1 h5) mv_X10_67 sh_64 rfl rfl (Nat.le_of_ble_eq_true rfl) ⟨(Nat.le_of_ble_eq_true rfl), (Nat.le_of_ble_eq_true rfl)⟩ ⟨(Nat.le_of_ble_eq_true rfl), (Nat.le_of_ble_eq_true rfl)⟩ (fun hB5 => ?_)
      obtain ⟨hc6, h⟩ := chk_some h
      refine go_if_eq (tgt := 39) C dX10_labelings_34 rfl hc6 (fun hc7 => ?_) (fun hc7 => ?_)
      · replace h := ite_t hc7 h
        refine go_aload_n C dX10_labelings_39 rfl rfl ?_
        obtain ⟨q8, h8, h⟩ := ob_some h
        refine go_callV_i C dX10_labelings_40 (ok_X10_bestOf C.hl hB5 h8) mv_X10_129 sh_64 rfl rfl (Nat.le_of_ble_eq_true rfl) ⟨(Nat.le_of_ble_eq_true rfl), (Nat.le_of_ble_eq_true rfl)⟩ ⟨(Nat.le_of_ble_eq_true rfl), (Nat.le_of_ble_eq_true rfl)⟩ (fun hB8 => ?_)
        refine go_istore_n (ls2 := [some (rf G 64), some (.int (iI v1)), some (.int (iI q8.1)), none, none]) C dX10_labelings_43 rfl (Nat.le_of_ble_eq_true rfl) rfl ?_
        refine go_iconst C dX10_labelings_44 ?_
        refine go_istore_n (ls2 := [some (rf G 64), some (.int (iI v1)), some (.int (iI q8.1)), some (.int (iI 0)), none]) C dX10_labelings_45 rfl (Nat.le_of_ble_eq_true rfl) rfl ?_
        refine go_iconst C dX10_labelings_46 ?_
        refine go_istore (ls2 := [some (rf G 64), some (.int (iI v1)), some (.int (iI q8.1)), some (.int (iI 0)), some (.int (iI 0))]) C dX10_labelings_47 (Nat.le_of_ble_eq_true rfl) rfl ?_
        refine go_weak (ls' := [some (rf G 64), some (.int (iI v1)), none, some (.int (iI 0)), some (.int (iI 0))]) ⟨rfl, ⟨rfl, ⟨rfl, ⟨rfl, trivial⟩⟩⟩⟩ ?_
        exact w_X10_labelings_49 C E F v1 0 0 q8.2 hB8 h
      · replace h := ite_f hc7 h
        refine go_iconst C dX10_labelings_37 ?_
        cases h
        exact go_iret C E rfl dX10_labelings_38 (Nat.le_of_ble_eq_true rfl) (Nat.le_of_ble_eq_true rfl) rfl rfl hB5
    · replace h := ite_f hc4 h
      refine go_iconst C dX10_labelings_26 ?_
      refine go_goto (tgt := 31) C dX10_labelings_27 rfl ?_
      obtain ⟨q11, h11, h⟩ := ob_some h
      refine go_callV_i C dX10_labelings_31 (ok_X10_refused C.hl hB1 h11) mv_X10_67 sh_64 rfl rfl (Nat.le_of_ble_eq_true rfl) ⟨(Nat.le_of_ble_eq_true rfl), (Nat.le_of_ble_eq_true rfl)⟩ ⟨(Nat.le_of_ble_eq_true rfl), (Nat.le_of_ble_eq_true rfl)⟩ (fun hB11 => ?_)
      obtain ⟨hc12, h⟩ := chk_some h
      refine go_if_eq (tgt := 39) C dX10_labelings_34 rfl hc12 (fun hc13 => ?_) (fun hc13 => ?_)
      · replace h := ite_t hc13 h
        refine go_aload_n C dX10_labelings_39 rfl rfl ?_
        obtain ⟨q14, h14, h⟩ := ob_some h
        refine go_callV_i C dX10_labelings_40 (ok_X10_bestOf C.hl hB11 h14) mv_X10_129 sh_64 rfl rfl (Nat.le_of_ble_eq_true rfl) ⟨(Nat.le_of_ble_eq_true rfl), (Nat.le_of_ble_eq_true rfl)⟩ ⟨(Nat.le_of_ble_eq_true rfl), (Nat.le_of_ble_eq_true rfl)⟩ (fun hB14 => ?_)
        refine go_istore_n (ls2 := [some (rf G 64), some (.int (iI v1)), some (.int (iI q14.1)), none, none]) C dX10_labelings_43 rfl (Nat.le_of_ble_eq_true rfl) rfl ?_
        refine go_iconst C dX10_labelings_44 ?_
        refine go_istore_n (ls2 := [some (rf G 64), some (.int (iI v1)), some (.int (iI q14.1)), some (.int (iI 0)), none]) C dX10_labelings_45 rfl (Nat.le_of_ble_eq_true rfl) rfl ?_
        refine go_iconst C dX10_labelings_46 ?_
        refine go_istore (ls2 := [some (rf G 64), some (.int (iI v1)), some (.int (iI q14.1)), some (.int (iI 0)), some (.int (iI 0))]) C dX10_labelings_47 (Nat.le_of_ble_eq_true rfl) rfl ?_
        refine go_weak (ls' := [some (rf G 64), some (.int (iI v1)), none, some (.int (iI 0)), some (.int (iI 0))]) ⟨rfl, ⟨rfl, ⟨rfl, ⟨rfl, trivial⟩⟩⟩⟩ ?_
        exact w_X10_labelings_49 C E F v1 0 0 q14.2 hB14 h
      · replace h := ite_f hc13 h
        refine go_iconst C dX10_labelings_37 ?_
        cases h
        exact go_iret C E rfl dX10_labelings_38 (Nat.le_of_ble_eq_true rfl) (Nat.le_of_ble_eq_true rfl) rfl rfl hB11
  · replace h := ite_t hc3 h
    refine go_iconst C dX10_labelings_11 ?_
    refine go_goto (tgt := 31) C dX10_labelings_12 rfl ?_
    obtain ⟨q15, h15, h⟩ := ob_some h
    refine go_callV_i C dX10_labelings_31 (ok_X10_refused C.hl hB1 h15) mv_X10_67 sh_64 rfl rfl (Nat.le_of_ble_eq_true rfl) ⟨(Nat.le_of_ble_eq_true rfl), (Nat.le_of_ble_eq_true rfl)⟩ ⟨(Nat.le_of_ble_eq_true rfl), (Nat.le_of_ble_eq_true rfl)⟩ (fun hB15 => ?_)
    obtain ⟨hc16, h⟩ := chk_some h
    refine go_if_eq (tgt := 39) C dX10_labelings_34 rfl hc16 (fun hc17 => ?_) (fun hc17 => ?_)
    · replace h := ite_t hc17 h
      refine go_aload_n C dX10_labelings_39 rfl rfl ?_
      obtain ⟨q18, h18, h⟩ := ob_some h
      refine go_callV_i C dX10_labelings_40 (ok_X10_bestOf C.hl hB15 h18) mv_X10_129 sh_64 rfl rfl (Nat.le_of_ble_eq_true rfl) ⟨(Nat.le_of_ble_eq_true rfl), (Nat.le_of_ble_eq_true rfl)⟩ ⟨(Nat.le_of_ble_eq_true rfl), (Nat.le_of_ble_eq_true rfl)⟩ (fun hB18 => ?_)
      refine go_istore_n (ls2 := [some (rf G 64), some (.int (iI v1)), some (.int (iI q18.1)), none, none]) C dX10_labelings_43 rfl (Nat.le_of_ble_eq_true rfl) rfl ?_
      refine go_iconst C dX10_labelings_44 ?_
      refine go_istore_n (ls2 := [some (rf G 64), some (.int (iI v1)), some (.int (iI q18.1)), some (.int (iI 0)), none]) C dX10_labelings_45 rfl (Nat.le_of_ble_eq_true rfl) rfl ?_
      refine go_iconst C dX10_labelings_46 ?_
      refine go_istore (ls2 := [some (rf G 64), some (.int (iI v1)), some (.int (iI q18.1)), some (.int (iI 0)), some (.int (iI 0))]) C dX10_labelings_47 (Nat.le_of_ble_eq_true rfl) rfl ?_
      refine go_weak (ls' := [some (rf G 64), some (.int (iI v1)), none, some (.int (iI 0)), some (.int (iI 0))]) ⟨rfl, ⟨rfl, ⟨rfl, ⟨rfl, trivial⟩⟩⟩⟩ ?_
      exact w_X10_labelings_49 C E F v1 0 0 q18.2 hB18 h
    · replace h := ite_f hc17 h
      refine go_iconst C dX10_labelings_37 ?_
      cases h
      exact go_iret C E rfl dX10_labelings_38 (Nat.le_of_ble_eq_true rfl) (Nat.le_of_ble_eq_true rfl) rfl rfl hB15
-- IntervalRouterModel.append(I)I
set_option maxHeartbeats 4000000 in
theorem ok_X10_append {G : gC} {l : Launch} (hl : l.stackTraces = false) {v1 : Int} {M : Mem} (hB : Bd M) {res : Int × Mem} (h : f_X10_append v1 M = some res) : Ok G l 1 0 0 yX10_append (.code yX10_append cX10_append 2 (some .int)) [rf G 64, .int (iI v1)] M (.inr (some (.int (iI res.1)))) res.2 := by
  refine ok_of (ls := [some (rf G 64), some (.int (iI v1))]) hl (by decide +kernel) (Nat.le_of_ble_eq_true rfl) ⟨rfl, ⟨rfl, trivial⟩⟩ ?_
  intro X hX C E
  subst hX
  rw [f_X10_append] at h
  obtain ⟨hp_v1, h⟩ := chk_some h
  refine go_aload_n C dX10_append_0 rfl rfl ?_
  refine go_iload_n C dX10_append_1 rfl rfl ?_
  refine go_iconst C dX10_append_2 ?_
  refine go_bipush C dX10_append_3 (by decide +kernel) ?_
  obtain ⟨q1, h1, h⟩ := ob_some h
  refine go_callS_i C dX10_append_5 (ok_X10_within C.hl hB h1) ms_X10_56 rfl rfl (Nat.le_of_ble_eq_true rfl) ⟨(Nat.le_of_ble_eq_true rfl), (Nat.le_of_ble_eq_true rfl)⟩ ⟨(Nat.le_of_ble_eq_true rfl), (Nat.le_of_ble_eq_true rfl)⟩ (fun hB1 => ?_)
  obtain ⟨hc2, h⟩ := chk_some h
  refine go_if_ne (tgt := 15) C dX10_append_8 rfl hc2 (fun hc3 => ?_) (fun hc3 => ?_)
  · replace h := ite_f hc3 h
    refine go_aload_n C dX10_append_15 rfl rfl ?_
    refine go_getI (z := 5) C dX10_append_16 fl_X10_214 sh_64 rfl rfl ?_
    refine go_bipush C dX10_append_19 (by decide +kernel) ?_
    refine go_icmp_ne (tgt := 28) C dX10_append_21 rfl (hB1 64 5 (by decide)) (by decide) (fun hc4 => ?_) (fun hc4 => ?_)
    · replace h := ite_f hc4 h
      refine go_iconst C dX10_append_28 ?_
      obtain ⟨q5, h5, h⟩ := ob_some h
      refine go_callV_i C dX10_append_29 (ok_X10_refused C.hl hB1 h5) mv_X10_67 sh_64 rfl rfl (Nat.le_of_ble_eq_true rfl) ⟨(Nat.le_of_ble_eq_true rfl), (Nat.le_of_ble_eq_true rfl)⟩ ⟨(Nat.le_of_ble_eq_true rfl), (Nat.le_of_ble_eq_true rfl)⟩ (fun hB5 => ?_)
      obtain ⟨hc6, h⟩ := chk_some h
      refine go_if_eq (tgt := 37) C dX10_append_32 rfl hc6 (fun hc7 => ?_) (fun hc7 => ?_)
      · replace h := ite_t hc7 h
        refine go_aload_n C dX10_append_37 rfl rfl ?_
        refine go_getR (o := 3) (k2 := 67) C dX10_append_38 fl_X10_16 sh_64 rfl rfl ?_
        refine go_aload_n C dX10_append_41 rfl rfl ?_
        refine go_getI (z := 5) C dX10_append_42 fl_X10_214 sh_64 rfl rfl ?_
        refine go_iload_n C dX10_append_45 rfl rfl ?_
        obtain ⟨hc8, h⟩ := chk_some h
        refine go_iast C dX10_append_46 sh_67 (by decide) hc8 ?_
        have hB9 := hB5.set 67 (q5.2 64 5) (x := v1) hp_v1
        refine go_aload_n C dX10_append_47 rfl rfl ?_
        refine go_dup C dX10_append_48 rfl ?_
        refine go_getI (z := 5) C dX10_append_49 fl_X10_214 sh_64 rfl rfl ?_
        refine go_iconst C dX10_append_52 ?_
        refine go_iadd C dX10_append_53 ?_
        obtain ⟨hc10, h⟩ := chk_some h
        refine go_putI (z := 5) C dX10_append_54 fp_X10_214 sh_64 rfl rfl rfl rfl ?_
        have hB11 := hB9.set 64 5 (x := ((mset q5.2 67 (q5.2 64 5) v1) 64 5) + 1) hc10
        refine go_aload_n C dX10_append_57 rfl rfl ?_
        refine go_getI (z := 5) C dX10_append_58 fl_X10_214 sh_64 rfl rfl ?_
        cases h
        exact go_iret C E rfl dX10_append_61 (Nat.le_of_ble_eq_true rfl) (Nat.le_of_ble_eq_true rfl) rfl rfl hB11
      · replace h := ite_f hc7 h
        refine go_iconst C dX10_append_35 ?_
        cases h
        exact go_iret C E rfl dX10_append_36 (Nat.le_of_ble_eq_true rfl) (Nat.le_of_ble_eq_true rfl) rfl rfl hB5
    · replace h := ite_t hc4 h
      refine go_iconst C dX10_append_24 ?_
      refine go_goto (tgt := 29) C dX10_append_25 rfl ?_
      obtain ⟨q12, h12, h⟩ := ob_some h
      refine go_callV_i C dX10_append_29 (ok_X10_refused C.hl hB1 h12) mv_X10_67 sh_64 rfl rfl (Nat.le_of_ble_eq_true rfl) ⟨(Nat.le_of_ble_eq_true rfl), (Nat.le_of_ble_eq_true rfl)⟩ ⟨(Nat.le_of_ble_eq_true rfl), (Nat.le_of_ble_eq_true rfl)⟩ (fun hB12 => ?_)
      obtain ⟨hc13, h⟩ := chk_some h
      refine go_if_eq (tgt := 37) C dX10_append_32 rfl hc13 (fun hc14 => ?_) (fun hc14 => ?_)
      · replace h := ite_t hc14 h
        refine go_aload_n C dX10_append_37 rfl rfl ?_
        refine go_getR (o := 3) (k2 := 67) C dX10_append_38 fl_X10_16 sh_64 rfl rfl ?_
        refine go_aload_n C dX10_append_41 rfl rfl ?_
        refine go_getI (z := 5) C dX10_append_42 fl_X10_214 sh_64 rfl rfl ?_
        refine go_iload_n C dX10_append_45 rfl rfl ?_
        obtain ⟨hc15, h⟩ := chk_some h
        refine go_iast C dX10_append_46 sh_67 (by decide) hc15 ?_
        have hB16 := hB12.set 67 (q12.2 64 5) (x := v1) hp_v1
        refine go_aload_n C dX10_append_47 rfl rfl ?_
        refine go_dup C dX10_append_48 rfl ?_
        refine go_getI (z := 5) C dX10_append_49 fl_X10_214 sh_64 rfl rfl ?_
        refine go_iconst C dX10_append_52 ?_
        refine go_iadd C dX10_append_53 ?_
        obtain ⟨hc17, h⟩ := chk_some h
        refine go_putI (z := 5) C dX10_append_54 fp_X10_214 sh_64 rfl rfl rfl rfl ?_
        have hB18 := hB16.set 64 5 (x := ((mset q12.2 67 (q12.2 64 5) v1) 64 5) + 1) hc17
        refine go_aload_n C dX10_append_57 rfl rfl ?_
        refine go_getI (z := 5) C dX10_append_58 fl_X10_214 sh_64 rfl rfl ?_
        cases h
        exact go_iret C E rfl dX10_append_61 (Nat.le_of_ble_eq_true rfl) (Nat.le_of_ble_eq_true rfl) rfl rfl hB18
      · replace h := ite_f hc14 h
        refine go_iconst C dX10_append_35 ?_
        cases h
        exact go_iret C E rfl dX10_append_36 (Nat.le_of_ble_eq_true rfl) (Nat.le_of_ble_eq_true rfl) rfl rfl hB12
  · replace h := ite_t hc3 h
    refine go_iconst C dX10_append_11 ?_
    refine go_goto (tgt := 29) C dX10_append_12 rfl ?_
    obtain ⟨q19, h19, h⟩ := ob_some h
    refine go_callV_i C dX10_append_29 (ok_X10_refused C.hl hB1 h19) mv_X10_67 sh_64 rfl rfl (Nat.le_of_ble_eq_true rfl) ⟨(Nat.le_of_ble_eq_true rfl), (Nat.le_of_ble_eq_true rfl)⟩ ⟨(Nat.le_of_ble_eq_true rfl), (Nat.le_of_ble_eq_true rfl)⟩ (fun hB19 => ?_)
    obtain ⟨hc20, h⟩ := chk_some h
    refine go_if_eq (tgt := 37) C dX10_append_32 rfl hc20 (fun hc21 => ?_) (fun hc21 => ?_)
    · replace h := ite_t hc21 h
      refine go_aload_n C dX10_append_37 rfl rfl ?_
      refine go_getR (o := 3) (k2 := 67) C dX10_append_38 fl_X10_16 sh_64 rfl rfl ?_
      refine go_aload_n C dX10_append_41 rfl rfl ?_
      refine go_getI (z := 5) C dX10_append_42 fl_X10_214 sh_64 rfl rfl ?_
      refine go_iload_n C dX10_append_45 rfl rfl ?_
      obtain ⟨hc22, h⟩ := chk_some h
      refine go_iast C dX10_append_46 sh_67 (by decide) hc22 ?_
      have hB23 := hB19.set 67 (q19.2 64 5) (x := v1) hp_v1
      refine go_aload_n C dX10_append_47 rfl rfl ?_
      refine go_dup C dX10_append_48 rfl ?_
      refine go_getI (z := 5) C dX10_append_49 fl_X10_214 sh_64 rfl rfl ?_
      refine go_iconst C dX10_append_52 ?_
      refine go_iadd C dX10_append_53 ?_
      obtain ⟨hc24, h⟩ := chk_some h
      refine go_putI (z := 5) C dX10_append_54 fp_X10_214 sh_64 rfl rfl rfl rfl ?_
      have hB25 := hB23.set 64 5 (x := ((mset q19.2 67 (q19.2 64 5) v1) 64 5) + 1) hc24
      refine go_aload_n C dX10_append_57 rfl rfl ?_
      refine go_getI (z := 5) C dX10_append_58 fl_X10_214 sh_64 rfl rfl ?_
      cases h
      exact go_iret C E rfl dX10_append_61 (Nat.le_of_ble_eq_true rfl) (Nat.le_of_ble_eq_true rfl) rfl rfl hB25
    · replace h := ite_f hc21 h
      refine go_iconst C dX10_append_35 ?_
      cases h
      exact go_iret C E rfl dX10_append_36 (Nat.le_of_ble_eq_true rfl) (Nat.le_of_ble_eq_true rfl) rfl rfl hB19
-- IntervalRouterModel.clearText()I
set_option maxHeartbeats 4000000 in
theorem ok_X10_clearText {G : gC} {l : Launch} (hl : l.stackTraces = false) {M : Mem} (hB : Bd M) {res : Int × Mem} (h : f_X10_clearText M = some res) : Ok G l 0 0 0 yX10_clearText (.code yX10_clearText cX10_clearText 2 (some .int)) [rf G 64] M (.inr (some (.int (iI res.1)))) res.2 := by
  refine ok_of (ls := [some (rf G 64), none]) hl (by decide +kernel) (Nat.le_of_ble_eq_true rfl) ⟨rfl, trivial⟩ ?_
  intro X hX C E
  subst hX
  rw [f_X10_clearText] at h
  refine go_aload_n C dX10_clearText_0 rfl rfl ?_
  refine go_iconst C dX10_clearText_1 ?_
  refine go_putI (z := 3) C dX10_clearText_2 fp_X10_52 sh_64 rfl rfl rfl rfl ?_
  have hB1 := hB.set 64 3 (x := 0) (by decide)
  refine go_aload_n C dX10_clearText_5 rfl rfl ?_
  refine go_getI (z := 5) C dX10_clearText_6 fl_X10_214 sh_64 rfl rfl ?_
  refine go_istore_n (ls2 := [some (rf G 64), some (.int (iI ((mset M 64 3 0) 64 5)))]) C dX10_clearText_9 rfl (Nat.le_of_ble_eq_true rfl) rfl ?_
  refine go_aload_n C dX10_clearText_10 rfl rfl ?_
  refine go_iconst C dX10_clearText_11 ?_
  refine go_putI (z := 5) C dX10_clearText_12 fp_X10_214 sh_64 rfl rfl rfl rfl ?_
  have hB2 := hB1.set 64 5 (x := 0) (by decide)
  refine go_iload_n C dX10_clearText_15 rfl rfl ?_
  cases h
  exact go_iret C E rfl dX10_clearText_16 (Nat.le_of_ble_eq_true rfl) (Nat.le_of_ble_eq_true rfl) rfl rfl hB2
-- IntervalRouterModel.isAt(II)Z
set_option maxHeartbeats 4000000 in
theorem ok_X10_isAt {G : gC} {l : Launch} (hl : l.stackTraces = false) {v1 : Int} {v2 : Int} {M : Mem} (hB : Bd M) {res : Int} (h : f_X10_isAt v1 v2 M = some res) : Ok G l 1 0 0 yX10_isAt (.code yX10_isAt cX10_isAt 3 (some .boolean)) [rf G 64, .int (iI v1), .int (iI v2)] M (.inr (some (.int (iI res)))) M := by
  refine ok_of (ls := [some (rf G 64), some (.int (iI v1)), some (.int (iI v2))]) hl (by decide +kernel) (Nat.le_of_ble_eq_true rfl) ⟨rfl, ⟨rfl, ⟨rfl, trivial⟩⟩⟩ ?_
  intro X hX C E
  subst hX
  rw [f_X10_isAt] at h
  refine go_aload_n C dX10_isAt_0 rfl rfl ?_
  refine go_getI (z := 20) C dX10_isAt_1 fl_X10_217 sh_64 rfl rfl ?_
  refine go_aload_n C dX10_isAt_4 rfl rfl ?_
  refine go_getI (z := 5) C dX10_isAt_5 fl_X10_214 sh_64 rfl rfl ?_
  refine go_icmp_ge (tgt := 32) C dX10_isAt_8 rfl (hB 64 20 (by decide)) (hB 64 5 (by decide)) (fun hc1 => ?_) (fun hc1 => ?_)
  · replace h := ite_t hc1 h
    refine go_iconst C dX10_isAt_32 ?_
    cases h
    exact go_zret C E rfl dX10_isAt_33 (by decide) (Nat.le_of_ble_eq_true rfl) (Nat.le_of_ble_eq_true rfl) rfl rfl hB
  · replace h := ite_f hc1 h
    refine go_aload_n C dX10_isAt_11 rfl rfl ?_
    refine go_getR (o := 3) (k2 := 67) C dX10_isAt_12 fl_X10_16 sh_64 rfl rfl ?_
    refine go_aload_n C dX10_isAt_15 rfl rfl ?_
    refine go_getI (z := 20) C dX10_isAt_16 fl_X10_217 sh_64 rfl rfl ?_
    obtain ⟨hc2, h⟩ := chk_some h
    refine go_iald C dX10_isAt_19 sh_67 (by decide) hc2 ?_
    refine go_iload_n C dX10_isAt_20 rfl rfl ?_
    refine go_iload_n C dX10_isAt_21 rfl rfl ?_
    obtain ⟨q3, h3, h⟩ := ob_some h
    refine go_callS_i C dX10_isAt_22 (ok_X10_within C.hl hB h3) ms_X10_56 rfl rfl (Nat.le_of_ble_eq_true rfl) ⟨(Nat.le_of_ble_eq_true rfl), (Nat.le_of_ble_eq_true rfl)⟩ ⟨(Nat.le_of_ble_eq_true rfl), (Nat.le_of_ble_eq_true rfl)⟩ (fun hB3 => ?_)
    obtain ⟨hc4, h⟩ := chk_some h
    refine go_if_eq (tgt := 32) C dX10_isAt_25 rfl hc4 (fun hc5 => ?_) (fun hc5 => ?_)
    · replace h := ite_t hc5 h
      refine go_iconst C dX10_isAt_32 ?_
      cases h
      exact go_zret C E rfl dX10_isAt_33 (by decide) (Nat.le_of_ble_eq_true rfl) (Nat.le_of_ble_eq_true rfl) rfl rfl hB3
    · replace h := ite_f hc5 h
      refine go_iconst C dX10_isAt_28 ?_
      refine go_goto (tgt := 33) C dX10_isAt_29 rfl ?_
      cases h
      exact go_zret C E rfl dX10_isAt_33 (by decide) (Nat.le_of_ble_eq_true rfl) (Nat.le_of_ble_eq_true rfl) rfl rfl hB3
-- IntervalRouterModel.takes(II)I
set_option maxHeartbeats 4000000 in
theorem ok_X10_takes {G : gC} {l : Launch} (hl : l.stackTraces = false) {v1 : Int} {v2 : Int} {M : Mem} (hB : Bd M) {res : Int × Mem} (h : f_X10_takes v1 v2 M = some res) : Ok G l 2 0 0 yX10_takes (.code yX10_takes cX10_takes 3 (some .int)) [rf G 64, .int (iI v1), .int (iI v2)] M (.inr (some (.int (iI res.1)))) res.2 := by
  refine ok_of (ls := [some (rf G 64), some (.int (iI v1)), some (.int (iI v2))]) hl (by decide +kernel) (Nat.le_of_ble_eq_true rfl) ⟨rfl, ⟨rfl, ⟨rfl, trivial⟩⟩⟩ ?_
  intro X hX C E
  subst hX
  rw [f_X10_takes] at h
  refine go_aload_n C dX10_takes_0 rfl rfl ?_
  refine go_bipush C dX10_takes_1 (by decide +kernel) ?_
  refine go_iload_n C dX10_takes_3 rfl rfl ?_
  refine go_iadd C dX10_takes_4 ?_
  refine go_bipush C dX10_takes_5 (by decide +kernel) ?_
  refine go_iload_n C dX10_takes_7 rfl rfl ?_
  refine go_iadd C dX10_takes_8 ?_
  obtain ⟨q1, h1, h⟩ := ob_some h
  refine go_callV_i C dX10_takes_9 (ok_X10_isAt C.hl hB h1) mv_X10_220 sh_64 rfl rfl (Nat.le_of_ble_eq_true rfl) ⟨(Nat.le_of_ble_eq_true rfl), (Nat.le_of_ble_eq_true rfl)⟩ ⟨(Nat.le_of_ble_eq_true rfl), (Nat.le_of_ble_eq_true rfl)⟩ (fun hB1 => ?_)
  obtain ⟨hc2, h⟩ := chk_some h
  refine go_if_ne (tgt := 17) C dX10_takes_12 rfl hc2 (fun hc3 => ?_) (fun hc3 => ?_)
  · replace h := ite_f hc3 h
    refine go_aload_n C dX10_takes_17 rfl rfl ?_
    refine go_dup C dX10_takes_18 rfl ?_
    refine go_getI (z := 20) C dX10_takes_19 fl_X10_217 sh_64 rfl rfl ?_
    refine go_iconst C dX10_takes_22 ?_
    refine go_iadd C dX10_takes_23 ?_
    obtain ⟨hc4, h⟩ := chk_some h
    refine go_putI (z := 20) C dX10_takes_24 fp_X10_217 sh_64 rfl rfl rfl rfl ?_
    have hB5 := hB1.set 64 20 (x := (M 64 20) + 1) hc4
    refine go_aload_n C dX10_takes_27 rfl rfl ?_
    refine go_getR (o := 3) (k2 := 67) C dX10_takes_28 fl_X10_16 sh_64 rfl rfl ?_
    refine go_aload_n C dX10_takes_31 rfl rfl ?_
    refine go_getI (z := 20) C dX10_takes_32 fl_X10_217 sh_64 rfl rfl ?_
    refine go_iconst C dX10_takes_35 ?_
    refine go_isub C dX10_takes_36 ?_
    obtain ⟨hc6, h⟩ := chk_some h
    refine go_iald C dX10_takes_37 sh_67 (by decide) hc6 ?_
    refine go_bipush C dX10_takes_38 (by decide +kernel) ?_
    refine go_isub C dX10_takes_40 ?_
    cases h
    exact go_iret C E rfl dX10_takes_41 (Nat.le_of_ble_eq_true rfl) (Nat.le_of_ble_eq_true rfl) rfl rfl hB5
  · replace h := ite_t hc3 h
    refine go_iconst C dX10_takes_15 ?_
    cases h
    exact go_iret C E rfl dX10_takes_16 (Nat.le_of_ble_eq_true rfl) (Nat.le_of_ble_eq_true rfl) rfl rfl hB1
-- IntervalRouterModel.reads()Z
set_option maxHeartbeats 4000000 in
theorem w_X10_reads_51 {G : gC} {X : gX} {res : Int × Mem} {F : Nat} (C : Cx G X cX10_reads 4 RX10 3 0 0 (some .boolean) []) (E : Fnl G X 0 0 (.inr (some (.int (iI res.1)))) res.2) : ∀ (t0 : Int) (M : Mem), Bd M → f_X10_reads_51 F t0 M = some res → Go G X 4 0 0 51 [some (rf G 64), none, none, none] [.int (iI t0)] M := by
  intro t0 M hB h
  rw [f_X10_reads_51] at h
  obtain ⟨hp_t0, h⟩ := chk_some h
  refine go_istore_n (ls2 := [some (rf G 64), some (.int (iI t0)), none, none]) C dX10_reads_51 rfl (Nat.le_of_ble_eq_true rfl) rfl ?_
  refine go_iload_n C dX10_reads_52 rfl rfl ?_
  refine go_iconst C dX10_reads_53 ?_
  refine go_icmp_ne (tgt := 59) C dX10_reads_54 rfl hp_t0 (by decide) (fun hc8 => ?_) (fun hc8 => ?_)
  · replace h := ite_f hc8 h
    refine go_aload_n C dX10_reads_59 rfl rfl ?_
    refine go_iconst C dX10_reads_60 ?_
    refine go_aload_n C dX10_reads_61 rfl rfl ?_
    refine go_getR (o := 1) (k2 := 65) C dX10_reads_62 fl_X10_7 sh_64 rfl rfl ?_
    refine go_iconst C dX10_reads_65 ?_
    refine go_iald C dX10_reads_66 sh_65 (by decide) ⟨by decide, by decide⟩ ?_
    refine go_iconst C dX10_reads_67 ?_
    refine go_isub C dX10_reads_68 ?_
    obtain ⟨q9, h9, h⟩ := ob_some h
    refine go_callV_i C dX10_reads_69 (ok_X10_takes C.hl hB h9) mv_X10_223 sh_64 rfl rfl (Nat.le_of_ble_eq_true rfl) ⟨(Nat.le_of_ble_eq_true rfl), (Nat.le_of_ble_eq_true rfl)⟩ ⟨(Nat.le_of_ble_eq_true rfl), (Nat.le_of_ble_eq_true rfl)⟩ (fun hB9 => ?_)
    refine go_istore_n (ls2 := [some (rf G 64), some (.int (iI t0)), some (.int (iI q9.1)), none]) C dX10_reads_72 rfl (Nat.le_of_ble_eq_true rfl) rfl ?_
    refine go_iload_n C dX10_reads_73 rfl rfl ?_
    refine go_iconst C dX10_reads_74 ?_
    obtain ⟨hc10, h⟩ := chk_some h
    refine go_icmp_ne (tgt := 80) C dX10_reads_75 rfl hc10 (by decide) (fun hc11 => ?_) (fun hc11 => ?_)
    · replace h := ite_f hc11 h
      refine go_iload_n C dX10_reads_80 rfl rfl ?_
      refine go_iload_n C dX10_reads_81 rfl rfl ?_
      refine go_icmp_eq (tgt := 94) C dX10_reads_82 rfl hc10 hp_t0 (fun hc12 => ?_) (fun hc12 => ?_)
      · replace h := ite_t hc12 h
        refine go_aload_n C dX10_reads_94 rfl rfl ?_
        refine go_dup C dX10_reads_95 rfl ?_
        refine go_getI (z := 20) C dX10_reads_96 fl_X10_217 sh_64 rfl rfl ?_
        refine go_iconst C dX10_reads_99 ?_
        refine go_isub C dX10_reads_100 ?_
        obtain ⟨hc13, h⟩ := chk_some h
        refine go_putI (z := 20) C dX10_reads_101 fp_X10_217 sh_64 rfl rfl rfl rfl ?_
        have hB14 := hB9.set 64 20 (x := (q9.2 64 20) - 1) hc13
        refine go_iconst C dX10_reads_104 ?_
        cases h
        exact go_zret C E rfl dX10_reads_105 (by decide) (Nat.le_of_ble_eq_true rfl) (Nat.le_of_ble_eq_true rfl) rfl rfl hB14
      · replace h := ite_f hc12 h
        refine go_aload_n C dX10_reads_85 rfl rfl ?_
        refine go_iload_n C dX10_reads_86 rfl rfl ?_
        refine go_iload_n C dX10_reads_87 rfl rfl ?_
        obtain ⟨q15, h15, h⟩ := ob_some h
        refine go_callV_i C dX10_reads_88 (ok_X10_areJoined C.hl hB9 h15) mv_X10_88 sh_64 rfl rfl (Nat.le_of_ble_eq_true rfl) ⟨(Nat.le_of_ble_eq_true rfl), (Nat.le_of_ble_eq_true rfl)⟩ ⟨(Nat.le_of_ble_eq_true rfl), (Nat.le_of_ble_eq_true rfl)⟩ (fun hB15 => ?_)
        obtain ⟨hc16, h⟩ := chk_some h
        refine go_if_eq (tgt := 106) C dX10_reads_91 rfl hc16 (fun hc17 => ?_) (fun hc17 => ?_)
        · replace h := ite_t hc17 h
          refine go_aload_n C dX10_reads_106 rfl rfl ?_
          refine go_iconst C dX10_reads_107 ?_
          refine go_bipush C dX10_reads_108 (by decide +kernel) ?_
          obtain ⟨q18, h18, h⟩ := ob_some h
          refine go_callV_i C dX10_reads_110 (ok_X10_takes C.hl hB15 h18) mv_X10_223 sh_64 rfl rfl (Nat.le_of_ble_eq_true rfl) ⟨(Nat.le_of_ble_eq_true rfl), (Nat.le_of_ble_eq_true rfl)⟩ ⟨(Nat.le_of_ble_eq_true rfl), (Nat.le_of_ble_eq_true rfl)⟩ (fun hB18 => ?_)
          refine go_istore_n (ls2 := [some (rf G 64), some (.int (iI t0)), some (.int (iI q9.1)), some (.int (iI q18.1))]) C dX10_reads_113 rfl (Nat.le_of_ble_eq_true rfl) rfl ?_
          refine go_iload_n C dX10_reads_114 rfl rfl ?_
          refine go_iconst C dX10_reads_115 ?_
          obtain ⟨hc19, h⟩ := chk_some h
          refine go_icmp_eq (tgt := 126) C dX10_reads_116 rfl hc19 (by decide) (fun hc20 => ?_) (fun hc20 => ?_)
          · replace h := ite_t hc20 h
            refine go_iload_n C dX10_reads_126 rfl rfl ?_
            refine go_iconst C dX10_reads_127 ?_
            refine go_icmp_eq (tgt := 135) C dX10_reads_128 rfl hc19 (by decide) (fun hc21 => ?_) (fun hc21 => ?_)
            · replace h := ite_t hc21 h
              refine go_iconst C dX10_reads_135 ?_
              cases h
              exact go_zret C E rfl dX10_reads_136 (by decide) (Nat.le_of_ble_eq_true rfl) (Nat.le_of_ble_eq_true rfl) rfl rfl hB18
            · replace h := ite_f hc21 h
              refine go_iconst C dX10_reads_131 ?_
              refine go_goto (tgt := 136) C dX10_reads_132 rfl ?_
              cases h
              exact go_zret C E rfl dX10_reads_136 (by decide) (Nat.le_of_ble_eq_true rfl) (Nat.le_of_ble_eq_true rfl) rfl rfl hB18
          · replace h := ite_f hc20 h
            refine go_aload_n C dX10_reads_119 rfl rfl ?_
            refine go_iload_n C dX10_reads_120 rfl rfl ?_
            refine go_iload_n C dX10_reads_121 rfl rfl ?_
            refine go_iload_n C dX10_reads_122 rfl rfl ?_
            obtain ⟨q22, h22, h⟩ := ob_some h
            refine go_callV_v C dX10_reads_123 (ok_X10_joins C.hl hB18 h22) mv_X10_91 sh_64 rfl rfl (Nat.le_of_ble_eq_true rfl) ⟨(Nat.le_of_ble_eq_true rfl), (Nat.le_of_ble_eq_true rfl)⟩ ⟨(Nat.le_of_ble_eq_true rfl), (Nat.le_of_ble_eq_true rfl)⟩ (fun hB22 => ?_)
            refine go_iload_n C dX10_reads_126 rfl rfl ?_
            refine go_iconst C dX10_reads_127 ?_
            refine go_icmp_eq (tgt := 135) C dX10_reads_128 rfl hc19 (by decide) (fun hc23 => ?_) (fun hc23 => ?_)
            · replace h := ite_t hc23 h
              refine go_iconst C dX10_reads_135 ?_
              cases h
              exact go_zret C E rfl dX10_reads_136 (by decide) (Nat.le_of_ble_eq_true rfl) (Nat.le_of_ble_eq_true rfl) rfl rfl hB22
            · replace h := ite_f hc23 h
              refine go_iconst C dX10_reads_131 ?_
              refine go_goto (tgt := 136) C dX10_reads_132 rfl ?_
              cases h
              exact go_zret C E rfl dX10_reads_136 (by decide) (Nat.le_of_ble_eq_true rfl) (Nat.le_of_ble_eq_true rfl) rfl rfl hB22
        · replace h := ite_f hc17 h
          refine go_aload_n C dX10_reads_94 rfl rfl ?_
          refine go_dup C dX10_reads_95 rfl ?_
          refine go_getI (z := 20) C dX10_reads_96 fl_X10_217 sh_64 rfl rfl ?_
          refine go_iconst C dX10_reads_99 ?_
          refine go_isub C dX10_reads_100 ?_
          obtain ⟨hc24, h⟩ := chk_some h
          refine go_putI (z := 20) C dX10_reads_101 fp_X10_217 sh_64 rfl rfl rfl rfl ?_
          have hB25 := hB15.set 64 20 (x := (q9.2 64 20) - 1) hc24
          refine go_iconst C dX10_reads_104 ?_
          cases h
          exact go_zret C E rfl dX10_reads_105 (by decide) (Nat.le_of_ble_eq_true rfl) (Nat.le_of_ble_eq_true rfl) rfl rfl hB25
    · replace h := ite_t hc11 h
      refine go_iconst C dX10_reads_78 ?_
      cases h
      exact go_zret C E rfl dX10_reads_79 (by decide) (Nat.le_of_ble_eq_true rfl) (Nat.le_of_ble_eq_true rfl) rfl rfl hB9
  · replace h := ite_t hc8 h
    refine go_iconst C dX10_reads_57 ?_
    cases h
    exact go_zret C E rfl dX10_reads_58 (by decide) (Nat.le_of_ble_eq_true rfl) (Nat.le_of_ble_eq_true rfl) rfl rfl hB
