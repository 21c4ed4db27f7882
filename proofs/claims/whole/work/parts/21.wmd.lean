set_option maxHeartbeats 4000000 in
theorem ok_X10_reads {G : gC} {l : Launch} (hl : l.stackTraces = false) {F : Nat} {M : Mem} (hB : Bd M) {res : Int × Mem} (h : f_X10_reads F M = some res) : Ok G l 3 0 0 yX10_reads (.code yX10_reads cX10_reads 4 (some .boolean)) [rf G 64] M (.inr (some (.int (iI res.1)))) res.2 := by
  refine ok_of (ls := [some (rf G 64), none, none, none]) hl (by decide +kernel) (Nat.le_of_ble_eq_true rfl) ⟨rfl, trivial⟩ ?_
  intro X hX C E
  subst hX
  rw [f_X10_reads] at h
  refine go_aload_n C dX10_reads_0 rfl rfl ?_
  refine go_bipush C dX10_reads_1 (by decide +kernel) ?_
  refine go_bipush C dX10_reads_3 (by decide +kernel) ?_
  obtain ⟨q1, h1, h⟩ := ob_some h
  refine go_callV_i C dX10_reads_5 (ok_X10_isAt C.hl hB h1) mv_X10_220 sh_64 rfl rfl (Nat.le_of_ble_eq_true rfl) ⟨(Nat.le_of_ble_eq_true rfl), (Nat.le_of_ble_eq_true rfl)⟩ ⟨(Nat.le_of_ble_eq_true rfl), (Nat.le_of_ble_eq_true rfl)⟩ (fun hB1 => ?_)
  obtain ⟨hc2, h⟩ := chk_some h
  refine go_if_ne (tgt := 13) C dX10_reads_8 rfl hc2 (fun hc3 => ?_) (fun hc3 => ?_)
  · replace h := ite_f hc3 h
    refine go_aload_n C dX10_reads_13 rfl rfl ?_
    refine go_dup C dX10_reads_14 rfl ?_
    refine go_getI (z := 20) C dX10_reads_15 fl_X10_217 sh_64 rfl rfl ?_
    refine go_iconst C dX10_reads_18 ?_
    refine go_iadd C dX10_reads_19 ?_
    obtain ⟨hc4, h⟩ := chk_some h
    refine go_putI (z := 20) C dX10_reads_20 fp_X10_217 sh_64 rfl rfl rfl rfl ?_
    have hB5 := hB1.set 64 20 (x := (M 64 20) + 1) hc4
    refine go_aload_n C dX10_reads_23 rfl rfl ?_
    refine go_getR (o := 1) (k2 := 65) C dX10_reads_24 fl_X10_7 sh_64 rfl rfl ?_
    refine go_iconst C dX10_reads_27 ?_
    refine go_iald C dX10_reads_28 sh_65 (by decide) ⟨by decide, by decide⟩ ?_
    refine go_bipush C dX10_reads_29 (by decide +kernel) ?_
    refine go_icmp_ne (tgt := 38) C dX10_reads_31 rfl (hB5 65 1 (by decide)) (by decide) (fun hc6 => ?_) (fun hc6 => ?_)
    · replace h := ite_f hc6 h
      refine go_aload_n C dX10_reads_38 rfl rfl ?_
      refine go_iconst C dX10_reads_39 ?_
      refine go_aload_n C dX10_reads_40 rfl rfl ?_
      refine go_getR (o := 1) (k2 := 65) C dX10_reads_41 fl_X10_7 sh_64 rfl rfl ?_
      refine go_iconst C dX10_reads_44 ?_
      refine go_iald C dX10_reads_45 sh_65 (by decide) ⟨by decide, by decide⟩ ?_
      refine go_iconst C dX10_reads_46 ?_
      refine go_isub C dX10_reads_47 ?_
      obtain ⟨q7, h7, h⟩ := ob_some h
      refine go_callV_i C dX10_reads_48 (ok_X10_takes C.hl hB5 h7) mv_X10_223 sh_64 rfl rfl (Nat.le_of_ble_eq_true rfl) ⟨(Nat.le_of_ble_eq_true rfl), (Nat.le_of_ble_eq_true rfl)⟩ ⟨(Nat.le_of_ble_eq_true rfl), (Nat.le_of_ble_eq_true rfl)⟩ (fun hB7 => ?_)
      exact w_X10_reads_51 C E q7.1 q7.2 hB7 h
    · replace h := ite_t hc6 h
      refine go_iconst C dX10_reads_34 ?_
      refine go_goto (tgt := 51) C dX10_reads_35 rfl ?_
      exact w_X10_reads_51 C E (-1) (mset M 64 20 ((M 64 20) + 1)) hB5 h
  · replace h := ite_t hc3 h
    refine go_iconst C dX10_reads_11 ?_
    cases h
    exact go_zret C E rfl dX10_reads_12 (by decide) (Nat.le_of_ble_eq_true rfl) (Nat.le_of_ble_eq_true rfl) rfl rfl hB1
-- IntervalRouterModel.parse()I
set_option maxHeartbeats 4000000 in
theorem w_X10_parse_149 {G : gC} {X : gX} {res : Int × Mem} {F : Nat} (C : Cx G X cX10_parse 5 RX10 4 0 0 (some .int) []) (E : Fnl G X 0 0 (.inr (some (.int (iI res.1)))) res.2) : ∀ (fu : Nat) (v3 : Int) (M : Mem), Bd M → f_X10_parse_149 F fu v3 M = some res → Go G X 5 0 0 149 [some (rf G 64), none, none, some (.int (iI v3)), none] [] M := by
  intro fu
  induction fu with
  | zero => intro v3 M hB h; exact nomatch (show (none : Option (Int × Mem)) = some res from h)
  | succ fu ih =>
    intro v3 M hB h
    rw [f_X10_parse_149] at h
    obtain ⟨hp_v3, h⟩ := chk_some h
    refine go_iload_n C dX10_parse_149 rfl rfl ?_
    refine go_sipush C dX10_parse_150 (by decide +kernel) ?_
    refine go_icmp_ge (tgt := 174) C dX10_parse_153 rfl hp_v3 (by decide) (fun hc12 => ?_) (fun hc12 => ?_)
    · replace h := ite_t hc12 h
      refine go_aload_n C dX10_parse_174 rfl rfl ?_
      refine go_getR (o := 1) (k2 := 65) C dX10_parse_175 fl_X10_7 sh_64 rfl rfl ?_
      refine go_iconst C dX10_parse_178 ?_
      refine go_iald C dX10_parse_179 sh_65 (by decide) ⟨by decide, by decide⟩ ?_
      cases h
      exact go_iret C E rfl dX10_parse_180 (Nat.le_of_ble_eq_true rfl) (Nat.le_of_ble_eq_true rfl) rfl rfl hB
    · replace h := ite_f hc12 h
      refine go_aload_n C dX10_parse_156 rfl rfl ?_
      refine go_getR (o := 1) (k2 := 65) C dX10_parse_157 fl_X10_7 sh_64 rfl rfl ?_
      refine go_iload_n C dX10_parse_160 rfl rfl ?_
      refine go_aload_n C dX10_parse_161 rfl rfl ?_
      refine go_getR (o := 14) (k2 := 78) C dX10_parse_162 fl_X10_49 sh_64 rfl rfl ?_
      refine go_iload_n C dX10_parse_165 rfl rfl ?_
      obtain ⟨hc13, h⟩ := chk_some h
      refine go_iald C dX10_parse_166 sh_78 (by decide) hc13 ?_
      refine go_iast C dX10_parse_167 sh_65 (by decide) hc13 ?_
      have hB14 := hB.set 65 v3 (x := M 78 v3) (hB 78 v3 (by decide))
      refine go_iinc (ls2 := [some (rf G 64), none, none, some (.int (iI (v3 + 1))), none]) C dX10_parse_168 rfl (Nat.le_of_ble_eq_true rfl) rfl ?_
      refine go_goto (tgt := 149) C dX10_parse_171 rfl ?_
      exact ih (v3 + 1) (mset M 65 v3 (M 78 v3)) hB14 h
set_option maxHeartbeats 4000000 in
theorem w_X10_parse_90 {G : gC} {X : gX} {res : Int × Mem} {F : Nat} (C : Cx G X cX10_parse 5 RX10 4 0 0 (some .int) []) (E : Fnl G X 0 0 (.inr (some (.int (iI res.1)))) res.2) : ∀ (fu : Nat) (v2 : Int) (v3 : Int) (M : Mem), Bd M → f_X10_parse_90 F fu v2 v3 M = some res → Go G X 5 0 0 90 [some (rf G 64), none, some (.int (iI v2)), some (.int (iI v3)), none] [] M := by
  intro fu
  induction fu with
  | zero => intro v2 v3 M hB h; exact nomatch (show (none : Option (Int × Mem)) = some res from h)
  | succ fu ih =>
    intro v2 v3 M hB h
    rw [f_X10_parse_90] at h
    obtain ⟨⟨hp_v2, hp_v3⟩, h⟩ := chk_some h
    refine go_iload_n C dX10_parse_90 rfl rfl ?_
    refine go_sipush C dX10_parse_91 (by decide +kernel) ?_
    refine go_icmp_ge (tgt := 131) C dX10_parse_94 rfl hp_v3 (by decide) (fun hc9 => ?_) (fun hc9 => ?_)
    · replace h := ite_t hc9 h
      refine go_iload_n C dX10_parse_131 rfl rfl ?_
      refine go_if_ne (tgt := 143) C dX10_parse_132 rfl hp_v2 (fun hc10 => ?_) (fun hc10 => ?_)
      · replace h := ite_f hc10 h
        refine go_aload_n C dX10_parse_143 rfl rfl ?_
        obtain ⟨q11, h11, h⟩ := ob_some h
        refine go_callV_v C dX10_parse_144 (ok_X10_saves C.hl hB h11) mv_X10_74 sh_64 rfl rfl (Nat.le_of_ble_eq_true rfl) ⟨(Nat.le_of_ble_eq_true rfl), (Nat.le_of_ble_eq_true rfl)⟩ ⟨(Nat.le_of_ble_eq_true rfl), (Nat.le_of_ble_eq_true rfl)⟩ (fun hB11 => ?_)
        refine go_iconst C dX10_parse_147 ?_
        refine go_istore_n (ls2 := [some (rf G 64), none, some (.int (iI v2)), some (.int (iI 0)), none]) C dX10_parse_148 rfl (Nat.le_of_ble_eq_true rfl) rfl ?_
        refine go_weak (ls' := [some (rf G 64), none, none, some (.int (iI 0)), none]) ⟨rfl, ⟨rfl, trivial⟩⟩ ?_
        exact w_X10_parse_149 C E F 0 q11 hB11 h
      · replace h := ite_t hc10 h
        refine go_bipush C dX10_parse_135 (by decide +kernel) ?_
        refine go_aload_n C dX10_parse_137 rfl rfl ?_
        refine go_getI (z := 20) C dX10_parse_138 fl_X10_217 sh_64 rfl rfl ?_
        refine go_isub C dX10_parse_141 ?_
        cases h
        exact go_iret C E rfl dX10_parse_142 (Nat.le_of_ble_eq_true rfl) (Nat.le_of_ble_eq_true rfl) rfl rfl hB
    · replace h := ite_f hc9 h
      refine go_aload_n C dX10_parse_97 rfl rfl ?_
      refine go_getR (o := 1) (k2 := 65) C dX10_parse_98 fl_X10_7 sh_64 rfl rfl ?_
      refine go_iload_n C dX10_parse_101 rfl rfl ?_
      obtain ⟨hc15, h⟩ := chk_some h
      refine go_iald C dX10_parse_102 sh_65 (by decide) hc15 ?_
      refine go_istore (ls2 := [some (rf G 64), none, some (.int (iI v2)), some (.int (iI v3)), some (.int (iI (M 65 v3)))]) C dX10_parse_103 (Nat.le_of_ble_eq_true rfl) rfl ?_
      refine go_aload_n C dX10_parse_105 rfl rfl ?_
      refine go_getR (o := 1) (k2 := 65) C dX10_parse_106 fl_X10_7 sh_64 rfl rfl ?_
      refine go_iload_n C dX10_parse_109 rfl rfl ?_
      refine go_aload_n C dX10_parse_110 rfl rfl ?_
      refine go_getR (o := 14) (k2 := 78) C dX10_parse_111 fl_X10_49 sh_64 rfl rfl ?_
      refine go_iload_n C dX10_parse_114 rfl rfl ?_
      refine go_iald C dX10_parse_115 sh_78 (by decide) hc15 ?_
      refine go_iast C dX10_parse_116 sh_65 (by decide) hc15 ?_
      have hB16 := hB.set 65 v3 (x := M 78 v3) (hB 78 v3 (by decide))
      refine go_aload_n C dX10_parse_117 rfl rfl ?_
      refine go_getR (o := 14) (k2 := 78) C dX10_parse_118 fl_X10_49 sh_64 rfl rfl ?_
      refine go_iload_n C dX10_parse_121 rfl rfl ?_
      refine go_iload C dX10_parse_122 rfl ?_
      refine go_iast C dX10_parse_124 sh_78 (by decide) hc15 ?_
      have hB17 := hB16.set 78 v3 (x := M 65 v3) (hB 65 v3 (by decide))
      refine go_iinc (ls2 := [some (rf G 64), none, some (.int (iI v2)), some (.int (iI (v3 + 1))), some (.int (iI (M 65 v3)))]) C dX10_parse_125 rfl (Nat.le_of_ble_eq_true rfl) rfl ?_
      refine go_goto (tgt := 90) C dX10_parse_128 rfl ?_
      refine go_weak (ls' := [some (rf G 64), none, some (.int (iI v2)), some (.int (iI (v3 + 1))), none]) ⟨rfl, ⟨rfl, ⟨rfl, trivial⟩⟩⟩ ?_
      exact ih v2 (v3 + 1) (mset (mset M 65 v3 (M 78 v3)) 78 v3 (M 65 v3)) hB17 h
set_option maxHeartbeats 4000000 in
theorem w_X10_parse_65 {G : gC} {X : gX} {res : Int × Mem} {F : Nat} (C : Cx G X cX10_parse 5 RX10 4 0 0 (some .int) []) (E : Fnl G X 0 0 (.inr (some (.int (iI res.1)))) res.2) : ∀ (fu : Nat) (v2 : Int) (M : Mem), Bd M → f_X10_parse_65 F fu v2 M = some res → Go G X 5 0 0 65 [some (rf G 64), none, some (.int (iI v2)), none, none] [] M := by
  intro fu
  induction fu with
  | zero => intro v2 M hB h; exact nomatch (show (none : Option (Int × Mem)) = some res from h)
  | succ fu ih =>
    intro v2 M hB h
    rw [f_X10_parse_65] at h
    obtain ⟨hp_v2, h⟩ := chk_some h
    refine go_iload_n C dX10_parse_65 rfl rfl ?_
    refine go_if_eq (tgt := 88) C dX10_parse_66 rfl hp_v2 (fun hc8 => ?_) (fun hc8 => ?_)
    · replace h := ite_t hc8 h
      refine go_iconst C dX10_parse_88 ?_
      refine go_istore_n (ls2 := [some (rf G 64), none, some (.int (iI v2)), some (.int (iI 0)), none]) C dX10_parse_89 rfl (Nat.le_of_ble_eq_true rfl) rfl ?_
      exact w_X10_parse_90 C E F v2 0 M hB h
    · replace h := ite_f hc8 h
      refine go_aload_n C dX10_parse_69 rfl rfl ?_
      refine go_getI (z := 20) C dX10_parse_70 fl_X10_217 sh_64 rfl rfl ?_
      refine go_aload_n C dX10_parse_73 rfl rfl ?_
      refine go_getI (z := 5) C dX10_parse_74 fl_X10_214 sh_64 rfl rfl ?_
      refine go_icmp_ge (tgt := 88) C dX10_parse_77 rfl (hB 64 20 (by decide)) (hB 64 5 (by decide)) (fun hc18 => ?_) (fun hc18 => ?_)
      · replace h := ite_t hc18 h
        refine go_iconst C dX10_parse_88 ?_
        refine go_istore_n (ls2 := [some (rf G 64), none, some (.int (iI v2)), some (.int (iI 0)), none]) C dX10_parse_89 rfl (Nat.le_of_ble_eq_true rfl) rfl ?_
        exact w_X10_parse_90 C E F v2 0 M hB h
      · replace h := ite_f hc18 h
        refine go_aload_n C dX10_parse_80 rfl rfl ?_
        obtain ⟨q19, h19, h⟩ := ob_some h
        refine go_callV_i C dX10_parse_81 (ok_X10_reads C.hl hB h19) mv_X10_226 sh_64 rfl rfl (Nat.le_of_ble_eq_true rfl) ⟨(Nat.le_of_ble_eq_true rfl), (Nat.le_of_ble_eq_true rfl)⟩ ⟨(Nat.le_of_ble_eq_true rfl), (Nat.le_of_ble_eq_true rfl)⟩ (fun hB19 => ?_)
        refine go_istore_n (ls2 := [some (rf G 64), none, some (.int (iI q19.1)), none, none]) C dX10_parse_84 rfl (Nat.le_of_ble_eq_true rfl) rfl ?_
        refine go_goto (tgt := 65) C dX10_parse_85 rfl ?_
        exact ih q19.1 q19.2 hB19 h
set_option maxHeartbeats 4000000 in
theorem w_X10_parse_7 {G : gC} {X : gX} {res : Int × Mem} {F : Nat} (C : Cx G X cX10_parse 5 RX10 4 0 0 (some .int) []) (E : Fnl G X 0 0 (.inr (some (.int (iI res.1)))) res.2) : ∀ (fu : Nat) (v1 : Int) (M : Mem), Bd M → f_X10_parse_7 F fu v1 M = some res → Go G X 5 0 0 7 [some (rf G 64), some (.int (iI v1)), none, none, none] [] M := by
  intro fu
  induction fu with
  | zero => intro v1 M hB h; exact nomatch (show (none : Option (Int × Mem)) = some res from h)
  | succ fu ih =>
    intro v1 M hB h
    rw [f_X10_parse_7] at h
    obtain ⟨hp_v1, h⟩ := chk_some h
    refine go_iload_n C dX10_parse_7 rfl rfl ?_
    refine go_sipush C dX10_parse_8 (by decide +kernel) ?_
    refine go_icmp_ge (tgt := 32) C dX10_parse_11 rfl hp_v1 (by decide) (fun hc2 => ?_) (fun hc2 => ?_)
    · replace h := ite_t hc2 h
      refine go_aload_n C dX10_parse_32 rfl rfl ?_
      refine go_iconst C dX10_parse_33 ?_
      refine go_putI (z := 20) C dX10_parse_34 fp_X10_217 sh_64 rfl rfl rfl rfl ?_
      have hB3 := hB.set 64 20 (x := 0) (by decide)
      refine go_aload_n C dX10_parse_37 rfl rfl ?_
      refine go_iconst C dX10_parse_38 ?_
      refine go_bipush C dX10_parse_39 (by decide +kernel) ?_
      obtain ⟨q4, h4, h⟩ := ob_some h
      refine go_callV_i C dX10_parse_41 (ok_X10_takes C.hl hB3 h4) mv_X10_223 sh_64 rfl rfl (Nat.le_of_ble_eq_true rfl) ⟨(Nat.le_of_ble_eq_true rfl), (Nat.le_of_ble_eq_true rfl)⟩ ⟨(Nat.le_of_ble_eq_true rfl), (Nat.le_of_ble_eq_true rfl)⟩ (fun hB4 => ?_)
      refine go_istore_n (ls2 := [some (rf G 64), some (.int (iI q4.1)), none, none, none]) C dX10_parse_44 rfl (Nat.le_of_ble_eq_true rfl) rfl ?_
      refine go_iload_n C dX10_parse_45 rfl rfl ?_
      refine go_iconst C dX10_parse_46 ?_
      obtain ⟨hc5, h⟩ := chk_some h
      refine go_icmp_eq (tgt := 54) C dX10_parse_47 rfl hc5 (by decide) (fun hc6 => ?_) (fun hc6 => ?_)
      · replace h := ite_t hc6 h
        refine go_iconst C dX10_parse_54 ?_
        refine go_istore_n (ls2 := [some (rf G 64), some (.int (iI q4.1)), some (.int (iI 0)), none, none]) C dX10_parse_55 rfl (Nat.le_of_ble_eq_true rfl) rfl ?_
        refine go_iload_n C dX10_parse_56 rfl rfl ?_
        refine go_if_eq (tgt := 65) C dX10_parse_57 rfl (by decide) (fun hc7 => ?_) (fun hc7 => ?_)
        · refine go_weak (ls' := [some (rf G 64), none, some (.int (iI 0)), none, none]) ⟨rfl, ⟨rfl, trivial⟩⟩ ?_
          exact w_X10_parse_65 C E F 0 q4.2 hB4 h
        · exact absurd hc7 (by decide)
      · replace h := ite_f hc6 h
        refine go_iconst C dX10_parse_50 ?_
        refine go_goto (tgt := 55) C dX10_parse_51 rfl ?_
        refine go_istore_n (ls2 := [some (rf G 64), some (.int (iI q4.1)), some (.int (iI 1)), none, none]) C dX10_parse_55 rfl (Nat.le_of_ble_eq_true rfl) rfl ?_
        refine go_iload_n C dX10_parse_56 rfl rfl ?_
        refine go_if_eq (tgt := 65) C dX10_parse_57 rfl (by decide) (fun hc20 => ?_) (fun hc20 => ?_)
        · exact absurd hc20 (by decide)
        · refine go_aload_n C dX10_parse_60 rfl rfl ?_
          refine go_iload_n C dX10_parse_61 rfl rfl ?_
          obtain ⟨q21, h21, h⟩ := ob_some h
          refine go_callV_v C dX10_parse_62 (ok_X10_begins C.hl hB4 h21) mv_X10_77 sh_64 rfl rfl (Nat.le_of_ble_eq_true rfl) ⟨(Nat.le_of_ble_eq_true rfl), (Nat.le_of_ble_eq_true rfl)⟩ ⟨(Nat.le_of_ble_eq_true rfl), (Nat.le_of_ble_eq_true rfl)⟩ (fun hB21 => ?_)
          refine go_weak (ls' := [some (rf G 64), none, some (.int (iI 1)), none, none]) ⟨rfl, ⟨rfl, trivial⟩⟩ ?_
          exact w_X10_parse_65 C E F 1 q21 hB21 h
    · replace h := ite_f hc2 h
      refine go_aload_n C dX10_parse_14 rfl rfl ?_
      refine go_getR (o := 14) (k2 := 78) C dX10_parse_15 fl_X10_49 sh_64 rfl rfl ?_
      refine go_iload_n C dX10_parse_18 rfl rfl ?_
      refine go_aload_n C dX10_parse_19 rfl rfl ?_
      refine go_getR (o := 1) (k2 := 65) C dX10_parse_20 fl_X10_7 sh_64 rfl rfl ?_
      refine go_iload_n C dX10_parse_23 rfl rfl ?_
      obtain ⟨hc22, h⟩ := chk_some h
      refine go_iald C dX10_parse_24 sh_65 (by decide) hc22 ?_
      refine go_iast C dX10_parse_25 sh_78 (by decide) hc22 ?_
      have hB23 := hB.set 78 v1 (x := M 65 v1) (hB 65 v1 (by decide))
      refine go_iinc (ls2 := [some (rf G 64), some (.int (iI (v1 + 1))), none, none, none]) C dX10_parse_26 rfl (Nat.le_of_ble_eq_true rfl) rfl ?_
      refine go_goto (tgt := 7) C dX10_parse_29 rfl ?_
      exact ih (v1 + 1) (mset M 78 v1 (M 65 v1)) hB23 h
set_option maxHeartbeats 4000000 in
theorem ok_X10_parse {G : gC} {l : Launch} (hl : l.stackTraces = false) {F : Nat} {M : Mem} (hB : Bd M) {res : Int × Mem} (h : f_X10_parse F M = some res) : Ok G l 4 0 0 yX10_parse (.code yX10_parse cX10_parse 5 (some .int)) [rf G 64] M (.inr (some (.int (iI res.1)))) res.2 := by
  refine ok_of (ls := [some (rf G 64), none, none, none, none]) hl (by decide +kernel) (Nat.le_of_ble_eq_true rfl) ⟨rfl, trivial⟩ ?_
  intro X hX C E
  subst hX
  rw [f_X10_parse] at h
  refine go_aload_n C dX10_parse_0 rfl rfl ?_
  refine go_iconst C dX10_parse_1 ?_
  refine go_putI (z := 3) C dX10_parse_2 fp_X10_52 sh_64 rfl rfl rfl rfl ?_
  have hB1 := hB.set 64 3 (x := 0) (by decide)
  refine go_iconst C dX10_parse_5 ?_
  refine go_istore_n (ls2 := [some (rf G 64), some (.int (iI 0)), none, none, none]) C dX10_parse_6 rfl (Nat.le_of_ble_eq_true rfl) rfl ?_
  exact w_X10_parse_7 C E F 0 (mset M 64 3 0) hB1 h
-- IntervalRouterModel.mix(I)V
set_option maxHeartbeats 4000000 in
theorem ok_X10_mix {G : gC} {l : Launch} (hl : l.stackTraces = false) {v1 : Int} {M : Mem} (hB : Bd M) {res : Mem} (h : f_X10_mix v1 M = some res) : Ok G l 0 0 0 yX10_mix (.code yX10_mix cX10_mix 2 none) [rf G 64, .int (iI v1)] M (.inr none) res := by
  refine ok_of (ls := [some (rf G 64), some (.int (iI v1))]) hl (by decide +kernel) (Nat.le_of_ble_eq_true rfl) ⟨rfl, ⟨rfl, trivial⟩⟩ ?_
  intro X hX C E
  subst hX
  rw [f_X10_mix] at h
  obtain ⟨hp_v1, h⟩ := chk_some h
  refine go_aload_n C dX10_mix_0 rfl rfl ?_
  refine go_ldc2 (v := 31) C dX10_mix_1 gt_1466 ?_
  refine go_aload_n C dX10_mix_4 rfl rfl ?_
  refine go_getL (z := 22) (k2 := 1064) C dX10_mix_5 fl_X10_231 sh_64 rfl rfl rfl ?_
  refine go_lmul C dX10_mix_8 ?_
  refine go_iload_n C dX10_mix_9 rfl rfl ?_
  refine go_i2l C dX10_mix_10 hp_v1 ?_
  refine go_ladd C dX10_mix_11 ?_
  refine go_putL (z := 22) (k2 := 1064) C dX10_mix_12 fp_X10_231 sh_64 rfl rfl rfl ?_
  have hB1 := hB.setL 64 22 ((31 * (M 1064 22)) + v1)
  cases h
  exact go_vret C E rfl dX10_mix_15 (Nat.le_of_ble_eq_true rfl) (Nat.le_of_ble_eq_true rfl) rfl rfl hB1
-- IntervalRouterModel.digest()J
set_option maxHeartbeats 4000000 in
theorem w_X10_digest_171 {G : gC} {X : gX} {res : Int × Mem} {F : Nat} (C : Cx G X cX10_digest 3 RX10 5 0 0 (some .long) []) (E : Fnl G X 0 0 (.inr (some (.long (lI res.1)))) res.2) : ∀ (fu : Nat) (v1 : Int) (M : Mem), Bd M → f_X10_digest_171 F fu v1 M = some res → Go G X 3 0 0 171 [some (rf G 64), some (.int (iI v1)), none] [] M := by
  intro fu
  induction fu with
  | zero => intro v1 M hB h; exact nomatch (show (none : Option (Int × Mem)) = some res from h)
  | succ fu ih =>
    intro v1 M hB h
    rw [f_X10_digest_171] at h
    obtain ⟨hp_v1, h⟩ := chk_some h
    refine go_iload_n C dX10_digest_171 rfl rfl ?_
    refine go_iconst C dX10_digest_172 ?_
    refine go_icmp_ge (tgt := 191) C dX10_digest_173 rfl hp_v1 (by decide) (fun hc15 => ?_) (fun hc15 => ?_)
    · replace h := ite_t hc15 h
      refine go_aload_n C dX10_digest_191 rfl rfl ?_
      refine go_aload_n C dX10_digest_192 rfl rfl ?_
      obtain ⟨q16, h16, h⟩ := ob_some h
      refine go_callV_i C dX10_digest_193 (ok_X10_arrivals C.hl hB h16) mv_X10_208 sh_64 rfl rfl (Nat.le_of_ble_eq_true rfl) ⟨(Nat.le_of_ble_eq_true rfl), (Nat.le_of_ble_eq_true rfl)⟩ ⟨(Nat.le_of_ble_eq_true rfl), (Nat.le_of_ble_eq_true rfl)⟩ (fun hB16 => ?_)
      obtain ⟨q17, h17, h⟩ := ob_some h
      refine go_callV_v C dX10_digest_196 (ok_X10_mix C.hl hB16 h17) mv_X10_237 sh_64 rfl rfl (Nat.le_of_ble_eq_true rfl) ⟨(Nat.le_of_ble_eq_true rfl), (Nat.le_of_ble_eq_true rfl)⟩ ⟨(Nat.le_of_ble_eq_true rfl), (Nat.le_of_ble_eq_true rfl)⟩ (fun hB17 => ?_)
      refine go_aload_n C dX10_digest_199 rfl rfl ?_
      refine go_aload_n C dX10_digest_200 rfl rfl ?_
      refine go_getI (z := 2) C dX10_digest_201 fl_X10_64 sh_64 rfl rfl ?_
      obtain ⟨q18, h18, h⟩ := ob_some h
      refine go_callV_v C dX10_digest_204 (ok_X10_mix C.hl hB17 h18) mv_X10_237 sh_64 rfl rfl (Nat.le_of_ble_eq_true rfl) ⟨(Nat.le_of_ble_eq_true rfl), (Nat.le_of_ble_eq_true rfl)⟩ ⟨(Nat.le_of_ble_eq_true rfl), (Nat.le_of_ble_eq_true rfl)⟩ (fun hB18 => ?_)
      refine go_aload_n C dX10_digest_207 rfl rfl ?_
      refine go_getL (z := 22) (k2 := 1064) C dX10_digest_208 fl_X10_231 sh_64 rfl rfl rfl ?_
      cases h
      exact go_lret C E rfl dX10_digest_211 (Nat.le_of_ble_eq_true rfl) (Nat.le_of_ble_eq_true rfl) rfl rfl hB18
    · replace h := ite_f hc15 h
      refine go_aload_n C dX10_digest_176 rfl rfl ?_
      refine go_aload_n C dX10_digest_177 rfl rfl ?_
      refine go_iload_n C dX10_digest_178 rfl rfl ?_
      obtain ⟨q19, h19, h⟩ := ob_some h
      refine go_callV_i C dX10_digest_179 (ok_X10_checkedFor C.hl hB h19) mv_X10_190 sh_64 rfl rfl (Nat.le_of_ble_eq_true rfl) ⟨(Nat.le_of_ble_eq_true rfl), (Nat.le_of_ble_eq_true rfl)⟩ ⟨(Nat.le_of_ble_eq_true rfl), (Nat.le_of_ble_eq_true rfl)⟩ (fun hB19 => ?_)
      obtain ⟨q20, h20, h⟩ := ob_some h
      refine go_callV_v C dX10_digest_182 (ok_X10_mix C.hl hB19 h20) mv_X10_237 sh_64 rfl rfl (Nat.le_of_ble_eq_true rfl) ⟨(Nat.le_of_ble_eq_true rfl), (Nat.le_of_ble_eq_true rfl)⟩ ⟨(Nat.le_of_ble_eq_true rfl), (Nat.le_of_ble_eq_true rfl)⟩ (fun hB20 => ?_)
      refine go_iinc (ls2 := [some (rf G 64), some (.int (iI (v1 + 1))), none]) C dX10_digest_185 rfl (Nat.le_of_ble_eq_true rfl) rfl ?_
      refine go_goto (tgt := 171) C dX10_digest_188 rfl ?_
      exact ih (v1 + 1) q20 hB20 h
set_option maxHeartbeats 4000000 in
theorem w_X10_digest_121 {G : gC} {X : gX} {res : Int × Mem} {F : Nat} (C : Cx G X cX10_digest 3 RX10 5 0 0 (some .long) []) (E : Fnl G X 0 0 (.inr (some (.long (lI res.1)))) res.2) {k109 : Int → Mem → Option (Int × Mem)} (hk109 : ∀ (v1 : Int) (M : Mem), Bd M → k109 v1 M = some res → Go G X 3 0 0 109 [some (rf G 64), some (.int (iI v1)), none] [] M) : ∀ (fu : Nat) (v1 : Int) (v2 : Int) (M : Mem), Bd M → f_X10_digest_121 F k109 fu v1 v2 M = some res → Go G X 3 0 0 121 [some (rf G 64), some (.int (iI v1)), some (.int (iI v2))] [] M := by
  intro fu
  induction fu with
  | zero => intro v1 v2 M hB h; exact nomatch (show (none : Option (Int × Mem)) = some res from h)
  | succ fu ih =>
    intro v1 v2 M hB h
    rw [f_X10_digest_121] at h
    obtain ⟨hp_v2, h⟩ := chk_some h
    refine go_iload_n C dX10_digest_121 rfl rfl ?_
    refine go_aload_n C dX10_digest_122 rfl rfl ?_
    refine go_getR (o := 1) (k2 := 65) C dX10_digest_123 fl_X10_7 sh_64 rfl rfl ?_
    refine go_iconst C dX10_digest_126 ?_
    refine go_iald C dX10_digest_127 sh_65 (by decide) ⟨by decide, by decide⟩ ?_
    refine go_icmp_ge (tgt := 147) C dX10_digest_128 rfl hp_v2 (hB 65 0 (by decide)) (fun hc21 => ?_) (fun hc21 => ?_)
    · replace h := ite_t hc21 h
      refine go_iinc (ls2 := [some (rf G 64), some (.int (iI (v1 + 1))), some (.int (iI v2))]) C dX10_digest_147 rfl (Nat.le_of_ble_eq_true rfl) rfl ?_
      refine go_goto (tgt := 109) C dX10_digest_150 rfl ?_
      refine go_weak (ls' := [some (rf G 64), some (.int (iI (v1 + 1))), none]) ⟨rfl, ⟨rfl, trivial⟩⟩ ?_
      exact hk109 (v1 + 1) M hB h
    · replace h := ite_f hc21 h
      refine go_aload_n C dX10_digest_131 rfl rfl ?_
      refine go_aload_n C dX10_digest_132 rfl rfl ?_
      refine go_iload_n C dX10_digest_133 rfl rfl ?_
      refine go_iload_n C dX10_digest_134 rfl rfl ?_
      obtain ⟨q22, h22, h⟩ := ob_some h
      refine go_callV_i C dX10_digest_135 (ok_X10_entryAt C.hl hB h22) mv_X10_149 sh_64 rfl rfl (Nat.le_of_ble_eq_true rfl) ⟨(Nat.le_of_ble_eq_true rfl), (Nat.le_of_ble_eq_true rfl)⟩ ⟨(Nat.le_of_ble_eq_true rfl), (Nat.le_of_ble_eq_true rfl)⟩ (fun hB22 => ?_)
      obtain ⟨q23, h23, h⟩ := ob_some h
      refine go_callV_v C dX10_digest_138 (ok_X10_mix C.hl hB22 h23) mv_X10_237 sh_64 rfl rfl (Nat.le_of_ble_eq_true rfl) ⟨(Nat.le_of_ble_eq_true rfl), (Nat.le_of_ble_eq_true rfl)⟩ ⟨(Nat.le_of_ble_eq_true rfl), (Nat.le_of_ble_eq_true rfl)⟩ (fun hB23 => ?_)
      refine go_iinc (ls2 := [some (rf G 64), some (.int (iI v1)), some (.int (iI (v2 + 1)))]) C dX10_digest_141 rfl (Nat.le_of_ble_eq_true rfl) rfl ?_
      refine go_goto (tgt := 121) C dX10_digest_144 rfl ?_
      exact ih v1 (v2 + 1) q23 hB23 h
set_option maxHeartbeats 4000000 in
theorem w_X10_digest_109 {G : gC} {X : gX} {res : Int × Mem} {F : Nat} (C : Cx G X cX10_digest 3 RX10 5 0 0 (some .long) []) (E : Fnl G X 0 0 (.inr (some (.long (lI res.1)))) res.2) : ∀ (fu : Nat) (v1 : Int) (M : Mem), Bd M → f_X10_digest_109 F fu v1 M = some res → Go G X 3 0 0 109 [some (rf G 64), some (.int (iI v1)), none] [] M := by
  intro fu
  induction fu with
  | zero => intro v1 M hB h; exact nomatch (show (none : Option (Int × Mem)) = some res from h)
  | succ fu ih =>
    intro v1 M hB h
    rw [f_X10_digest_109] at h
    obtain ⟨hp_v1, h⟩ := chk_some h
    refine go_iload_n C dX10_digest_109 rfl rfl ?_
    refine go_aload_n C dX10_digest_110 rfl rfl ?_
    refine go_getR (o := 1) (k2 := 65) C dX10_digest_111 fl_X10_7 sh_64 rfl rfl ?_
    refine go_iconst C dX10_digest_114 ?_
    refine go_iald C dX10_digest_115 sh_65 (by decide) ⟨by decide, by decide⟩ ?_
    refine go_icmp_ge (tgt := 153) C dX10_digest_116 rfl hp_v1 (hB 65 0 (by decide)) (fun hc10 => ?_) (fun hc10 => ?_)
    · replace h := ite_t hc10 h
      refine go_aload_n C dX10_digest_153 rfl rfl ?_
      refine go_aload_n C dX10_digest_154 rfl rfl ?_
      obtain ⟨q11, h11, h⟩ := ob_some h
      refine go_callV_i C dX10_digest_155 (ok_X10_netSize C.hl hB h11) mv_X10_178 sh_64 rfl rfl (Nat.le_of_ble_eq_true rfl) ⟨(Nat.le_of_ble_eq_true rfl), (Nat.le_of_ble_eq_true rfl)⟩ ⟨(Nat.le_of_ble_eq_true rfl), (Nat.le_of_ble_eq_true rfl)⟩ (fun hB11 => ?_)
      obtain ⟨q12, h12, h⟩ := ob_some h
      refine go_callV_v C dX10_digest_158 (ok_X10_mix C.hl hB11 h12) mv_X10_237 sh_64 rfl rfl (Nat.le_of_ble_eq_true rfl) ⟨(Nat.le_of_ble_eq_true rfl), (Nat.le_of_ble_eq_true rfl)⟩ ⟨(Nat.le_of_ble_eq_true rfl), (Nat.le_of_ble_eq_true rfl)⟩ (fun hB12 => ?_)
      refine go_aload_n C dX10_digest_161 rfl rfl ?_
      refine go_aload_n C dX10_digest_162 rfl rfl ?_
      obtain ⟨q13, h13, h⟩ := ob_some h
      refine go_callV_i C dX10_digest_163 (ok_X10_mostRuns C.hl hB12 h13) mv_X10_184 sh_64 rfl rfl (Nat.le_of_ble_eq_true rfl) ⟨(Nat.le_of_ble_eq_true rfl), (Nat.le_of_ble_eq_true rfl)⟩ ⟨(Nat.le_of_ble_eq_true rfl), (Nat.le_of_ble_eq_true rfl)⟩ (fun hB13 => ?_)
      obtain ⟨q14, h14, h⟩ := ob_some h
      refine go_callV_v C dX10_digest_166 (ok_X10_mix C.hl hB13 h14) mv_X10_237 sh_64 rfl rfl (Nat.le_of_ble_eq_true rfl) ⟨(Nat.le_of_ble_eq_true rfl), (Nat.le_of_ble_eq_true rfl)⟩ ⟨(Nat.le_of_ble_eq_true rfl), (Nat.le_of_ble_eq_true rfl)⟩ (fun hB14 => ?_)
      refine go_iconst C dX10_digest_169 ?_
      refine go_istore_n (ls2 := [some (rf G 64), some (.int (iI 0)), none]) C dX10_digest_170 rfl (Nat.le_of_ble_eq_true rfl) rfl ?_
      exact w_X10_digest_171 C E F 0 q14 hB14 h
    · replace h := ite_f hc10 h
      refine go_iconst C dX10_digest_119 ?_
      refine go_istore_n (ls2 := [some (rf G 64), some (.int (iI v1)), some (.int (iI 0))]) C dX10_digest_120 rfl (Nat.le_of_ble_eq_true rfl) rfl ?_
      exact w_X10_digest_121 C E ih F v1 0 M hB h
set_option maxHeartbeats 4000000 in
theorem w_X10_digest_78 {G : gC} {X : gX} {res : Int × Mem} {F : Nat} (C : Cx G X cX10_digest 3 RX10 5 0 0 (some .long) []) (E : Fnl G X 0 0 (.inr (some (.long (lI res.1)))) res.2) : ∀ (fu : Nat) (v1 : Int) (M : Mem), Bd M → f_X10_digest_78 F fu v1 M = some res → Go G X 3 0 0 78 [some (rf G 64), some (.int (iI v1)), none] [] M := by
  intro fu
  induction fu with
  | zero => intro v1 M hB h; exact nomatch (show (none : Option (Int × Mem)) = some res from h)
  | succ fu ih =>
    intro v1 M hB h
    rw [f_X10_digest_78] at h
    obtain ⟨hp_v1, h⟩ := chk_some h
    refine go_iload_n C dX10_digest_78 rfl rfl ?_
    refine go_aload_n C dX10_digest_79 rfl rfl ?_
    refine go_getR (o := 1) (k2 := 65) C dX10_digest_80 fl_X10_7 sh_64 rfl rfl ?_
    refine go_iconst C dX10_digest_83 ?_
    refine go_iald C dX10_digest_84 sh_65 (by decide) ⟨by decide, by decide⟩ ?_
    refine go_icmp_ge (tgt := 107) C dX10_digest_85 rfl hp_v1 (hB 65 0 (by decide)) (fun hc9 => ?_) (fun hc9 => ?_)
    · replace h := ite_t hc9 h
      refine go_iconst C dX10_digest_107 ?_
      refine go_istore_n (ls2 := [some (rf G 64), some (.int (iI 0)), none]) C dX10_digest_108 rfl (Nat.le_of_ble_eq_true rfl) rfl ?_
      exact w_X10_digest_109 C E F 0 M hB h
    · replace h := ite_f hc9 h
      refine go_aload_n C dX10_digest_88 rfl rfl ?_
      refine go_aload_n C dX10_digest_89 rfl rfl ?_
      refine go_getR (o := 1) (k2 := 65) C dX10_digest_90 fl_X10_7 sh_64 rfl rfl ?_
      refine go_bipush C dX10_digest_93 (by decide +kernel) ?_
      refine go_iload_n C dX10_digest_95 rfl rfl ?_
      refine go_iadd C dX10_digest_96 ?_
      obtain ⟨hc24, h⟩ := chk_some h
      refine go_iald C dX10_digest_97 sh_65 (by decide) hc24 ?_
      obtain ⟨q25, h25, h⟩ := ob_some h
      refine go_callV_v C dX10_digest_98 (ok_X10_mix C.hl hB h25) mv_X10_237 sh_64 rfl rfl (Nat.le_of_ble_eq_true rfl) ⟨(Nat.le_of_ble_eq_true rfl), (Nat.le_of_ble_eq_true rfl)⟩ ⟨(Nat.le_of_ble_eq_true rfl), (Nat.le_of_ble_eq_true rfl)⟩ (fun hB25 => ?_)
      refine go_iinc (ls2 := [some (rf G 64), some (.int (iI (v1 + 1))), none]) C dX10_digest_101 rfl (Nat.le_of_ble_eq_true rfl) rfl ?_
      refine go_goto (tgt := 78) C dX10_digest_104 rfl ?_
      exact ih (v1 + 1) q25 hB25 h
set_option maxHeartbeats 4000000 in
theorem w_X10_digest_46 {G : gC} {X : gX} {res : Int × Mem} {F : Nat} (C : Cx G X cX10_digest 3 RX10 5 0 0 (some .long) []) (E : Fnl G X 0 0 (.inr (some (.long (lI res.1)))) res.2) : ∀ (fu : Nat) (v1 : Int) (M : Mem), Bd M → f_X10_digest_46 F fu v1 M = some res → Go G X 3 0 0 46 [some (rf G 64), some (.int (iI v1)), none] [] M := by
  intro fu
  induction fu with
  | zero => intro v1 M hB h; exact nomatch (show (none : Option (Int × Mem)) = some res from h)
  | succ fu ih =>
    intro v1 M hB h
    rw [f_X10_digest_46] at h
    obtain ⟨hp_v1, h⟩ := chk_some h
    refine go_iload_n C dX10_digest_46 rfl rfl ?_
    refine go_iconst C dX10_digest_47 ?_
    refine go_aload_n C dX10_digest_48 rfl rfl ?_
    refine go_getR (o := 1) (k2 := 65) C dX10_digest_49 fl_X10_7 sh_64 rfl rfl ?_
    refine go_iconst C dX10_digest_52 ?_
    refine go_iald C dX10_digest_53 sh_65 (by decide) ⟨by decide, by decide⟩ ?_
    refine go_imul C dX10_digest_54 ?_
    obtain ⟨hc7, h⟩ := chk_some h
    refine go_icmp_ge (tgt := 76) C dX10_digest_55 rfl hp_v1 hc7 (fun hc8 => ?_) (fun hc8 => ?_)
    · replace h := ite_t hc8 h
      refine go_iconst C dX10_digest_76 ?_
      refine go_istore_n (ls2 := [some (rf G 64), some (.int (iI 0)), none]) C dX10_digest_77 rfl (Nat.le_of_ble_eq_true rfl) rfl ?_
      exact w_X10_digest_78 C E F 0 M hB h
    · replace h := ite_f hc8 h
      refine go_aload_n C dX10_digest_58 rfl rfl ?_
      refine go_aload_n C dX10_digest_59 rfl rfl ?_
      refine go_getR (o := 1) (k2 := 65) C dX10_digest_60 fl_X10_7 sh_64 rfl rfl ?_
      refine go_iconst C dX10_digest_63 ?_
      refine go_iload_n C dX10_digest_64 rfl rfl ?_
      refine go_iadd C dX10_digest_65 ?_
      obtain ⟨hc26, h⟩ := chk_some h
      refine go_iald C dX10_digest_66 sh_65 (by decide) hc26 ?_
      obtain ⟨q27, h27, h⟩ := ob_some h
      refine go_callV_v C dX10_digest_67 (ok_X10_mix C.hl hB h27) mv_X10_237 sh_64 rfl rfl (Nat.le_of_ble_eq_true rfl) ⟨(Nat.le_of_ble_eq_true rfl), (Nat.le_of_ble_eq_true rfl)⟩ ⟨(Nat.le_of_ble_eq_true rfl), (Nat.le_of_ble_eq_true rfl)⟩ (fun hB27 => ?_)
      refine go_iinc (ls2 := [some (rf G 64), some (.int (iI (v1 + 1))), none]) C dX10_digest_70 rfl (Nat.le_of_ble_eq_true rfl) rfl ?_
      refine go_goto (tgt := 46) C dX10_digest_73 rfl ?_
      exact ih (v1 + 1) q27 hB27 h
set_option maxHeartbeats 4000000 in
theorem ok_X10_digest {G : gC} {l : Launch} (hl : l.stackTraces = false) {F : Nat} {M : Mem} (hB : Bd M) {res : Int × Mem} (h : f_X10_digest F M = some res) : Ok G l 5 0 0 yX10_digest (.code yX10_digest cX10_digest 3 (some .long)) [rf G 64] M (.inr (some (.long (lI res.1)))) res.2 := by
  refine ok_of (ls := [some (rf G 64), none, none]) hl (by decide +kernel) (Nat.le_of_ble_eq_true rfl) ⟨rfl, trivial⟩ ?_
  intro X hX C E
  subst hX
  rw [f_X10_digest] at h
  refine go_aload_n C dX10_digest_0 rfl rfl ?_
  refine go_iconst C dX10_digest_1 ?_
  refine go_putI (z := 3) C dX10_digest_2 fp_X10_52 sh_64 rfl rfl rfl rfl ?_
  have hB1 := hB.set 64 3 (x := 0) (by decide)
  refine go_aload_n C dX10_digest_5 rfl rfl ?_
  obtain ⟨q2, h2, h⟩ := ob_some h
  refine go_callV_v C dX10_digest_6 (ok_X10_laysFar C.hl hB1 h2) mv_X10_101 sh_64 rfl rfl (Nat.le_of_ble_eq_true rfl) ⟨(Nat.le_of_ble_eq_true rfl), (Nat.le_of_ble_eq_true rfl)⟩ ⟨(Nat.le_of_ble_eq_true rfl), (Nat.le_of_ble_eq_true rfl)⟩ (fun hB2 => ?_)
  refine go_aload_n C dX10_digest_9 rfl rfl ?_
  refine go_ldc2 (v := 3083) C dX10_digest_10 gt_1461 ?_
  refine go_putL (z := 22) (k2 := 1064) C dX10_digest_13 fp_X10_231 sh_64 rfl rfl rfl ?_
  have hB3 := hB2.setL 64 22 3083
  refine go_aload_n C dX10_digest_16 rfl rfl ?_
  refine go_aload_n C dX10_digest_17 rfl rfl ?_
  refine go_getI (z := 5) C dX10_digest_18 fl_X10_214 sh_64 rfl rfl ?_
  obtain ⟨q4, h4, h⟩ := ob_some h
  refine go_callV_v C dX10_digest_21 (ok_X10_mix C.hl hB3 h4) mv_X10_237 sh_64 rfl rfl (Nat.le_of_ble_eq_true rfl) ⟨(Nat.le_of_ble_eq_true rfl), (Nat.le_of_ble_eq_true rfl)⟩ ⟨(Nat.le_of_ble_eq_true rfl), (Nat.le_of_ble_eq_true rfl)⟩ (fun hB4 => ?_)
  refine go_aload_n C dX10_digest_24 rfl rfl ?_
  refine go_aload_n C dX10_digest_25 rfl rfl ?_
  refine go_getR (o := 1) (k2 := 65) C dX10_digest_26 fl_X10_7 sh_64 rfl rfl ?_
  refine go_iconst C dX10_digest_29 ?_
  refine go_iald C dX10_digest_30 sh_65 (by decide) ⟨by decide, by decide⟩ ?_
  obtain ⟨q5, h5, h⟩ := ob_some h
  refine go_callV_v C dX10_digest_31 (ok_X10_mix C.hl hB4 h5) mv_X10_237 sh_64 rfl rfl (Nat.le_of_ble_eq_true rfl) ⟨(Nat.le_of_ble_eq_true rfl), (Nat.le_of_ble_eq_true rfl)⟩ ⟨(Nat.le_of_ble_eq_true rfl), (Nat.le_of_ble_eq_true rfl)⟩ (fun hB5 => ?_)
  refine go_aload_n C dX10_digest_34 rfl rfl ?_
  refine go_aload_n C dX10_digest_35 rfl rfl ?_
  refine go_getR (o := 1) (k2 := 65) C dX10_digest_36 fl_X10_7 sh_64 rfl rfl ?_
  refine go_iconst C dX10_digest_39 ?_
  refine go_iald C dX10_digest_40 sh_65 (by decide) ⟨by decide, by decide⟩ ?_
  obtain ⟨q6, h6, h⟩ := ob_some h
  refine go_callV_v C dX10_digest_41 (ok_X10_mix C.hl hB5 h6) mv_X10_237 sh_64 rfl rfl (Nat.le_of_ble_eq_true rfl) ⟨(Nat.le_of_ble_eq_true rfl), (Nat.le_of_ble_eq_true rfl)⟩ ⟨(Nat.le_of_ble_eq_true rfl), (Nat.le_of_ble_eq_true rfl)⟩ (fun hB6 => ?_)
  refine go_iconst C dX10_digest_44 ?_
  refine go_istore_n (ls2 := [some (rf G 64), some (.int (iI 0)), none]) C dX10_digest_45 rfl (Nat.le_of_ble_eq_true rfl) rfl ?_
  exact w_X10_digest_46 C E F 0 q6 hB6 h
