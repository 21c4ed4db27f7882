/-! the pure functions, read off the bytecode -/
-- IntervalRouterModel.thrown()I
def f_X10_thrown (M : Mem) : Option (Int) :=
  some (M 64 3)
-- IntervalRouterModel.refused(I)Z
def f_X10_refused (v1 : Int) (M : Mem) : Option (Int × Mem) :=
  chk (inR v1) <|
  if v1 ≤ 0 then
    some (0, mset M 64 3 v1)
  else
    some (1, mset M 64 3 v1)
-- IntervalRouterModel.within(III)Z
def f_X10_within (v0 : Int) (v1 : Int) (v2 : Int) (M : Mem) : Option (Int) :=
  chk (inR v0 ∧ inR v1 ∧ inR v2) <|
  if v0 < v1 then
    some (0)
  else
    if v2 < v0 then
      some (0)
    else
      some (1)
-- IntervalRouterModel.has(II)Z
def f_X10_has (v0 : Int) (v1 : Int) (M : Mem) : Option (Int) :=
  if band (bshr v0 v1) 1 = 1 then
    some (1)
  else
    some (0)
-- IntervalRouterModel.isNode(I)Z
def f_X10_isNode (v1 : Int) (M : Mem) : Option (Int) :=
  ob (f_X10_within v1 0 ((M 65 0) - 1) M) fun q1 =>
  chk (bit01 q1) <|
  some (q1)
-- IntervalRouterModel.isLink(I)Z
def f_X10_isLink (v1 : Int) (M : Mem) : Option (Int) :=
  ob (f_X10_within v1 0 ((M 65 1) - 1) M) fun q1 =>
  chk (bit01 q1) <|
  some (q1)
-- IntervalRouterModel.part(II)I
def f_X10_part (v1 : Int) (v2 : Int) (M : Mem) : Option (Int) :=
  chk (0 ≤ (2 + (3 * v1)) + v2 ∧ (2 + (3 * v1)) + v2 < 140) <|
  some (M 65 ((2 + (3 * v1)) + v2))
-- IntervalRouterModel.isOf(II)Z
def f_X10_isOf (v1 : Int) (v2 : Int) (M : Mem) : Option (Int) :=
  chk (inR v2) <|
  ob (f_X10_part v1 0 M) fun q1 =>
  chk (inR q1) <|
  if q1 = v2 then
    some (1)
  else
    ob (f_X10_part v1 1 M) fun q4 =>
    chk (inR q4) <|
    if q4 = v2 then
      some (1)
    else
      some (0)
-- IntervalRouterModel.otherEnd(II)I
def f_X10_otherEnd (v1 : Int) (v2 : Int) (M : Mem) : Option (Int) :=
  chk (inR v2) <|
  ob (f_X10_part v1 0 M) fun q1 =>
  chk (inR q1) <|
  if q1 = v2 then
    ob (f_X10_part v1 1 M) fun q5 =>
    some (q5)
  else
    ob (f_X10_part v1 0 M) fun q4 =>
    some (q4)
-- IntervalRouterModel.entryAt(II)I
def f_X10_entryAt (v1 : Int) (v2 : Int) (M : Mem) : Option (Int) :=
  chk (0 ≤ (59 + (9 * v1)) + v2 ∧ (59 + (9 * v1)) + v2 < 140) <|
  some ((M 65 ((59 + (9 * v1)) + v2)) - 1)
-- IntervalRouterModel.saves()V
def f_X10_saves_51 (F : Nat) : Nat → Int → Mem → Option (Mem)
  | 0, _, _ => none
  | fu + 1, v1, M =>
    chk (inR v1) <|
    if 140 ≤ v1 then
      chk (inR ((M 64 2) + 1)) <|
      some (mset M 64 2 ((M 64 2) + 1))
    else
      chk (0 ≤ v1 ∧ v1 < 140) <|
      chk (0 ≤ (140 * (M 64 2)) + v1 ∧ (140 * (M 64 2)) + v1 < 560) <|
      f_X10_saves_51 F fu (v1 + 1) (mset M 66 ((140 * (M 64 2)) + v1) (M 65 v1))
def f_X10_saves_10 (F : Nat) : Nat → Int → Mem → Option (Mem)
  | 0, _, _ => none
  | fu + 1, v1, M =>
    chk (inR v1) <|
    if 420 ≤ v1 then
      chk (inR ((M 64 2) - 1)) <|
      f_X10_saves_51 F F 0 (mset M 64 2 ((M 64 2) - 1))
    else
      chk (0 ≤ v1 + 140 ∧ v1 + 140 < 560) <|
      chk (0 ≤ v1 ∧ v1 < 560) <|
      f_X10_saves_10 F fu (v1 + 1) (mset M 66 v1 (M 66 (v1 + 140)))
def f_X10_saves (F : Nat) (M : Mem) : Option (Mem) :=
  if M 64 2 = 4 then
    f_X10_saves_10 F F 0 M
  else
    f_X10_saves_51 F F 0 M
-- IntervalRouterModel.undo()I
def f_X10_undo_33 (F : Nat) : Nat → Int → Mem → Option (Int × Mem)
  | 0, _, _ => none
  | fu + 1, v1, M =>
    chk (inR v1) <|
    if 140 ≤ v1 then
      some (M 64 2, M)
    else
      chk (0 ≤ (140 * (M 64 2)) + v1 ∧ (140 * (M 64 2)) + v1 < 560) <|
      chk (0 ≤ v1 ∧ v1 < 140) <|
      f_X10_undo_33 F fu (v1 + 1) (mset M 65 v1 (M 66 ((140 * (M 64 2)) + v1)))
def f_X10_undo (F : Nat) (M : Mem) : Option (Int × Mem) :=
  if M 64 2 = 0 then
    ob (f_X10_refused 1 M) fun q11 =>
    chk (inR q11.1) <|
    if q11.1 = 0 then
      chk (inR ((q11.2 64 2) - 1)) <|
      f_X10_undo_33 F F 0 (mset q11.2 64 2 ((q11.2 64 2) - 1))
    else
      some (0, q11.2)
  else
    ob (f_X10_refused 0 M) fun q2 =>
    chk (inR q2.1) <|
    if q2.1 = 0 then
      chk (inR ((q2.2 64 2) - 1)) <|
      f_X10_undo_33 F F 0 (mset q2.2 64 2 ((q2.2 64 2) - 1))
    else
      some (0, q2.2)
-- IntervalRouterModel.empties()V
def f_X10_empties_3 (F : Nat) : Nat → Int → Mem → Option (Mem)
  | 0, _, _ => none
  | fu + 1, v1, M =>
    chk (inR v1) <|
    if 140 ≤ v1 then
      some M
    else
      chk (0 ≤ v1 ∧ v1 < 140) <|
      f_X10_empties_3 F fu (v1 + 1) (mset M 65 v1 0)
def f_X10_empties (F : Nat) (M : Mem) : Option (Mem) :=
  f_X10_empties_3 F F 59 M
-- IntervalRouterModel.begins(I)V
def f_X10_begins_16 (F : Nat) : Nat → Int → Mem → Option (Mem)
  | 0, _, _ => none
  | fu + 1, v2, M =>
    chk (inR v2) <|
    if 9 ≤ v2 then
      ob (f_X10_empties F M) fun q4 =>
      some q4
    else
      chk (0 ≤ 50 + v2 ∧ 50 + v2 < 140) <|
      f_X10_begins_16 F fu (v2 + 1) (mset M 65 (50 + v2) v2)
def f_X10_begins (F : Nat) (v1 : Int) (M : Mem) : Option (Mem) :=
  chk (inR v1) <|
  f_X10_begins_16 F F 0 (mset (mset M 65 0 v1) 65 1 0)
-- IntervalRouterModel.begin(I)I
def f_X10_begin (F : Nat) (v1 : Int) (M : Mem) : Option (Int × Mem) :=
  ob (f_X10_within v1 0 9 M) fun q1 =>
  chk (inR q1) <|
  if q1 = 0 then
    ob (f_X10_refused 1 M) fun q4 =>
    chk (inR q4.1) <|
    if q4.1 = 0 then
      ob (f_X10_saves F q4.2) fun q7 =>
      ob (f_X10_begins F v1 q7) fun q8 =>
      some (q7 65 1, q8)
    else
      some (0, q4.2)
  else
    ob (f_X10_refused 0 M) fun q9 =>
    chk (inR q9.1) <|
    if q9.1 = 0 then
      ob (f_X10_saves F q9.2) fun q12 =>
      ob (f_X10_begins F v1 q12) fun q13 =>
      some (q12 65 1, q13)
    else
      some (0, q9.2)
-- IntervalRouterModel.areJoined(II)Z
def f_X10_areJoined_5 (F : Nat) : Nat → Int → Int → Int → Int → Mem → Option (Int)
  | 0, _, _, _, _, _ => none
  | fu + 1, v1, v2, v3, v4, M =>
    chk (inR v3 ∧ inR v4) <|
    if M 65 1 ≤ v4 then
      chk (bit01 v3) <|
      some (v3)
    else
      if v3 = 0 then
        ob (f_X10_isOf v4 v1 M) fun q4 =>
        chk (inR q4) <|
        if q4 = 0 then
          f_X10_areJoined_5 F fu v1 v2 0 (v4 + 1) M
        else
          ob (f_X10_isOf v4 v2 M) fun q7 =>
          chk (inR q7) <|
          if q7 = 0 then
            f_X10_areJoined_5 F fu v1 v2 0 (v4 + 1) M
          else
            f_X10_areJoined_5 F fu v1 v2 1 (v4 + 1) M
      else
        f_X10_areJoined_5 F fu v1 v2 1 (v4 + 1) M
def f_X10_areJoined (F : Nat) (v1 : Int) (v2 : Int) (M : Mem) : Option (Int) :=
  f_X10_areJoined_5 F F v1 v2 0 0 M
-- IntervalRouterModel.joins(III)V
def f_X10_joins (v1 : Int) (v2 : Int) (v3 : Int) (M : Mem) : Option (Mem) :=
  chk (inR v1 ∧ inR v2 ∧ inR v3) <|
  chk (0 ≤ 2 + (3 * (M 65 1)) ∧ 2 + (3 * (M 65 1)) < 140) <|
  chk (0 ≤ (2 + (3 * (M 65 1))) + 1 ∧ (2 + (3 * (M 65 1))) + 1 < 140) <|
  chk (0 ≤ (2 + (3 * (M 65 1))) + 2 ∧ (2 + (3 * (M 65 1))) + 2 < 140) <|
  chk (inR (((mset (mset (mset M 65 (2 + (3 * (M 65 1))) v1) 65 ((2 + (3 * (M 65 1))) + 1) v2) 65 ((2 + (3 * (M 65 1))) + 2) v3) 65 1) + 1)) <|
  some (mset (mset (mset (mset M 65 (2 + (3 * (M 65 1))) v1) 65 ((2 + (3 * (M 65 1))) + 1) v2) 65 ((2 + (3 * (M 65 1))) + 2) v3) 65 1 (((mset (mset (mset M 65 (2 + (3 * (M 65 1))) v1) 65 ((2 + (3 * (M 65 1))) + 1) v2) 65 ((2 + (3 * (M 65 1))) + 2) v3) 65 1) + 1))
-- IntervalRouterModel.addLink(III)I
def f_X10_addLink_94 (F : Nat) (v1 : Int) (v2 : Int) (v3 : Int) (t1 : Int) (M : Mem) : Option (Int × Mem) :=
  ob (f_X10_refused t1 M) fun q7 =>
  chk (inR q7.1) <|
  if q7.1 = 0 then
    ob (f_X10_saves F q7.2) fun q10 =>
    ob (f_X10_joins v1 v2 v3 q10) fun q11 =>
    ob (f_X10_empties F q11) fun q12 =>
    some ((q12 65 1) - 1, q12)
  else
    some (0, q7.2)
def f_X10_addLink_56 (F : Nat) (v1 : Int) (v2 : Int) (v3 : Int) (v4 : Int) (M : Mem) : Option (Int × Mem) :=
  chk (inR v4) <|
  if v4 = 0 then
    f_X10_addLink_94 F v1 v2 v3 1 M
  else
    f_X10_addLink_94 F v1 v2 v3 2 M
def f_X10_addLink_21 (F : Nat) (v1 : Int) (v2 : Int) (v3 : Int) (t0 : Int) (M : Mem) : Option (Int × Mem) :=
  chk (inR v1 ∧ inR v2 ∧ inR t0) <|
  if t0 = 0 then
    f_X10_addLink_56 F v1 v2 v3 t0 M
  else
    if v1 = v2 then
      f_X10_addLink_56 F v1 v2 v3 t0 M
    else
      ob (f_X10_within v3 1 9 M) fun q14 =>
      chk (inR q14) <|
      if q14 = 0 then
        f_X10_addLink_56 F v1 v2 v3 t0 M
      else
        ob (f_X10_areJoined F v1 v2 M) fun q17 =>
        chk (inR q17) <|
        if q17 = 0 then
          if t0 = 0 then
            f_X10_addLink_94 F v1 v2 v3 1 M
          else
            if M 65 1 = 16 then
              f_X10_addLink_94 F v1 v2 v3 3 M
            else
              f_X10_addLink_94 F v1 v2 v3 0 M
        else
          f_X10_addLink_56 F v1 v2 v3 t0 M
def f_X10_addLink (F : Nat) (v1 : Int) (v2 : Int) (v3 : Int) (M : Mem) : Option (Int × Mem) :=
  ob (f_X10_isNode v1 M) fun q1 =>
  chk (inR q1) <|
  if q1 = 0 then
    f_X10_addLink_21 F v1 v2 v3 0 M
  else
    ob (f_X10_isNode v2 M) fun q23 =>
    chk (inR q23) <|
    if q23 = 0 then
      f_X10_addLink_21 F v1 v2 v3 0 M
    else
      f_X10_addLink_21 F v1 v2 v3 1 M
-- IntervalRouterModel.removeLink(I)I
def f_X10_removeLink_42 (F : Nat) : Nat → Int → Mem → Option (Int × Mem)
  | 0, _, _ => none
  | fu + 1, v2, M =>
    chk (inR v2) <|
    chk (inR (2 + (3 * (M 65 1)))) <|
    if 2 + (3 * (M 65 1)) ≤ v2 then
      ob (f_X10_empties F M) fun q12 =>
      some (q12 65 1, q12)
    else
      chk (0 ≤ v2 + 3 ∧ v2 + 3 < 140) <|
      chk (0 ≤ v2 ∧ v2 < 140) <|
      f_X10_removeLink_42 F fu (v2 + 1) (mset M 65 v2 (M 65 (v2 + 3)))
def f_X10_removeLink (F : Nat) (v1 : Int) (M : Mem) : Option (Int × Mem) :=
  ob (f_X10_isLink v1 M) fun q1 =>
  chk (inR q1) <|
  if q1 = 0 then
    ob (f_X10_refused 1 M) fun q4 =>
    chk (inR q4.1) <|
    if q4.1 = 0 then
      ob (f_X10_saves F q4.2) fun q7 =>
      chk (inR ((q7 65 1) - 1)) <|
      f_X10_removeLink_42 F F (2 + (3 * v1)) (mset q7 65 1 ((q7 65 1) - 1))
    else
      some (0, q4.2)
  else
    ob (f_X10_refused 0 M) fun q16 =>
    chk (inR q16.1) <|
    if q16.1 = 0 then
      ob (f_X10_saves F q16.2) fun q19 =>
      chk (inR ((q19 65 1) - 1)) <|
      f_X10_removeLink_42 F F (2 + (3 * v1)) (mset q19 65 1 ((q19 65 1) - 1))
    else
      some (0, q16.2)
-- IntervalRouterModel.setLength(II)I
def f_X10_setLength_28 (F : Nat) (v1 : Int) (v2 : Int) (t1 : Int) (M : Mem) : Option (Int × Mem) :=
  chk (inR v2) <|
  ob (f_X10_refused t1 M) fun q7 =>
  chk (inR q7.1) <|
  if q7.1 = 0 then
    ob (f_X10_saves F q7.2) fun q10 =>
    ob (f_X10_part v1 2 q10) fun q11 =>
    chk (0 ≤ (2 + (3 * v1)) + 2 ∧ (2 + (3 * v1)) + 2 < 140) <|
    ob (f_X10_empties F (mset q10 65 ((2 + (3 * v1)) + 2) v2)) fun q14 =>
    some (q11, q14)
  else
    some (0, q7.2)
def f_X10_setLength (F : Nat) (v1 : Int) (v2 : Int) (M : Mem) : Option (Int × Mem) :=
  ob (f_X10_isLink v1 M) fun q1 =>
  chk (inR q1) <|
  if q1 = 0 then
    f_X10_setLength_28 F v1 v2 1 M
  else
    ob (f_X10_within v2 1 9 M) fun q4 =>
    chk (inR q4) <|
    if q4 = 0 then
      f_X10_setLength_28 F v1 v2 2 M
    else
      f_X10_setLength_28 F v1 v2 0 M
-- IntervalRouterModel.size(Z)I
def f_X10_size (v1 : Int) (M : Mem) : Option (Int × Mem) :=
  chk (inR v1) <|
  if v1 = 0 then
    some ((mset M 64 3 0) 65 0, mset M 64 3 0)
  else
    some ((mset M 64 3 0) 65 1, mset M 64 3 0)
-- IntervalRouterModel.link(II)I
def f_X10_link (v1 : Int) (v2 : Int) (M : Mem) : Option (Int × Mem) :=
  ob (f_X10_isLink v1 M) fun q1 =>
  chk (inR q1) <|
  if q1 = 0 then
    ob (f_X10_refused 1 M) fun q15 =>
    chk (inR q15.1) <|
    if q15.1 = 0 then
      ob (f_X10_part v1 v2 q15.2) fun q18 =>
      some (q18, q15.2)
    else
      some (0, q15.2)
  else
    ob (f_X10_within v2 0 2 M) fun q4 =>
    chk (inR q4) <|
    if q4 = 0 then
      ob (f_X10_refused 2 M) fun q7 =>
      chk (inR q7.1) <|
      if q7.1 = 0 then
        ob (f_X10_part v1 v2 q7.2) fun q10 =>
        some (q10, q7.2)
      else
        some (0, q7.2)
    else
      ob (f_X10_refused 0 M) fun q11 =>
      chk (inR q11.1) <|
      if q11.1 = 0 then
        ob (f_X10_part v1 v2 q11.2) fun q14 =>
        some (q14, q11.2)
      else
        some (0, q11.2)
-- IntervalRouterModel.eases(III)Z
def f_X10_eases (v1 : Int) (v2 : Int) (v3 : Int) (M : Mem) : Option (Int × Mem) :=
  chk (0 ≤ v1 ∧ v1 < 81) <|
  chk (0 ≤ v2 ∧ v2 < 81) <|
  chk (inR ((M 68 v1) + v3)) <|
  if M 68 v2 ≤ (M 68 v1) + v3 then
    some (0, mset M 68 v2 (M 68 v2))
  else
    some (1, mset M 68 v2 ((M 68 v1) + v3))
-- IntervalRouterModel.laysFar()V
def f_X10_laysFar_114 (F : Nat) (k60 : Int → Int → Int → Mem → Option (Mem)) (v2 : Int) (v3 : Int) (t0 : Int) (M : Mem) : Option (Mem) :=
  chk (inR t0) <|
  ob (f_X10_part v2 1 M) fun q11 =>
  ob (f_X10_part v2 0 M) fun q12 =>
  ob (f_X10_part v2 2 M) fun q13 =>
  ob (f_X10_eases ((9 * v3) + q11) ((9 * v3) + q12) q13 M) fun q14 =>
  chk (inR q14.1) <|
  if q14.1 = 0 then
    if t0 = 0 then
      k60 0 v2 (v3 + 1) q14.2
    else
      k60 1 v2 (v3 + 1) q14.2
  else
    k60 1 v2 (v3 + 1) q14.2
def f_X10_laysFar_60 (F : Nat) (k48 : Int → Int → Mem → Option (Mem)) : Nat → Int → Int → Int → Mem → Option (Mem)
  | 0, _, _, _, _ => none
  | fu + 1, v1, v2, v3, M =>
    chk (inR v1 ∧ inR v3) <|
    if M 65 0 ≤ v3 then
      k48 v1 (v2 + 1) M
    else
      ob (f_X10_part v2 0 M) fun q5 =>
      ob (f_X10_part v2 1 M) fun q6 =>
      ob (f_X10_part v2 2 M) fun q7 =>
      ob (f_X10_eases ((9 * v3) + q5) ((9 * v3) + q6) q7 M) fun q8 =>
      chk (inR q8.1) <|
      if q8.1 = 0 then
        if v1 = 0 then
          f_X10_laysFar_114 F (f_X10_laysFar_60 F k48 fu) v2 v3 0 q8.2
        else
          f_X10_laysFar_114 F (f_X10_laysFar_60 F k48 fu) v2 v3 1 q8.2
      else
        f_X10_laysFar_114 F (f_X10_laysFar_60 F k48 fu) v2 v3 1 q8.2
def f_X10_laysFar_48 (F : Nat) (k40 : Int → Mem → Option (Mem)) : Nat → Int → Int → Mem → Option (Mem)
  | 0, _, _, _ => none
  | fu + 1, v1, v2, M =>
    chk (inR v2) <|
    if M 65 1 ≤ v2 then
      k40 v1 M
    else
      f_X10_laysFar_60 F (f_X10_laysFar_48 F k40 fu) F v1 v2 0 M
def f_X10_laysFar_40 (F : Nat) : Nat → Int → Mem → Option (Mem)
  | 0, _, _ => none
  | fu + 1, v1, M =>
    chk (inR v1) <|
    if v1 = 0 then
      some M
    else
      f_X10_laysFar_48 F (f_X10_laysFar_40 F fu) F 0 0 M
def f_X10_laysFar_2 (F : Nat) : Nat → Int → Mem → Option (Mem)
  | 0, _, _ => none
  | fu + 1, v1, M =>
    chk (inR v1) <|
    if 81 ≤ v1 then
      f_X10_laysFar_40 F F 1 M
    else
      chk ((inR v1 ∧ inR 9) ∧ (0 : Int) ≤ v1 ∧ (0 : Int) < 9) <|
      chk (inR (v1 / 9)) <|
      chk (inR (v1 % 9)) <|
      if v1 / 9 = v1 % 9 then
        chk (0 ≤ v1 ∧ v1 < 81) <|
        f_X10_laysFar_2 F fu (v1 + 1) (mset M 68 v1 0)
      else
        chk (0 ≤ v1 ∧ v1 < 81) <|
        f_X10_laysFar_2 F fu (v1 + 1) (mset M 68 v1 1000)
def f_X10_laysFar (F : Nat) (M : Mem) : Option (Mem) :=
  f_X10_laysFar_2 F F 0 M
-- IntervalRouterModel.farFrom(II)I
def f_X10_farFrom (v1 : Int) (v2 : Int) (M : Mem) : Option (Int) :=
  chk (0 ≤ (9 * v1) + v2 ∧ (9 * v1) + v2 < 81) <|
  some (M 68 ((9 * v1) + v2))
-- IntervalRouterModel.distance(II)I
def f_X10_distance (F : Nat) (v1 : Int) (v2 : Int) (M : Mem) : Option (Int × Mem) :=
  ob (f_X10_isNode v1 M) fun q1 =>
  chk (inR q1) <|
  if q1 = 0 then
    ob (f_X10_refused 1 M) fun q4 =>
    chk (inR q4.1) <|
    if q4.1 = 0 then
      ob (f_X10_laysFar F q4.2) fun q7 =>
      ob (f_X10_farFrom v1 v2 q7) fun q8 =>
      chk (inR q8) <|
      if q8 = 1000 then
        some ((-1), q7)
      else
        ob (f_X10_farFrom v1 v2 q7) fun q11 =>
        some (q11, q7)
    else
      some (0, q4.2)
  else
    ob (f_X10_isNode v2 M) fun q12 =>
    chk (inR q12) <|
    if q12 = 0 then
      ob (f_X10_refused 1 M) fun q15 =>
      chk (inR q15.1) <|
      if q15.1 = 0 then
        ob (f_X10_laysFar F q15.2) fun q18 =>
        ob (f_X10_farFrom v1 v2 q18) fun q19 =>
        chk (inR q19) <|
        if q19 = 1000 then
          some ((-1), q18)
        else
          ob (f_X10_farFrom v1 v2 q18) fun q22 =>
          some (q22, q18)
      else
        some (0, q15.2)
    else
      ob (f_X10_refused 0 M) fun q23 =>
      chk (inR q23.1) <|
      if q23.1 = 0 then
        ob (f_X10_laysFar F q23.2) fun q26 =>
        ob (f_X10_farFrom v1 v2 q26) fun q27 =>
        chk (inR q27) <|
        if q27 = 1000 then
          some ((-1), q26)
        else
          ob (f_X10_farFrom v1 v2 q26) fun q30 =>
          some (q30, q26)
      else
        some (0, q23.2)
-- IntervalRouterModel.good(II)I
def f_X10_good_5 (F : Nat) : Nat → Int → Int → Int → Int → Mem → Option (Int)
  | 0, _, _, _, _, _ => none
  | fu + 1, v1, v2, v3, v4, M =>
    chk (inR v1 ∧ inR v2 ∧ inR v4) <|
    if M 65 1 ≤ v4 then
      some (v3)
    else
      if v1 = v2 then
        some (v3)
      else
        ob (f_X10_farFrom v1 v2 M) fun q3 =>
        chk (inR q3) <|
        if 1000 ≤ q3 then
          some (v3)
        else
          ob (f_X10_isOf v4 v1 M) fun q6 =>
          chk (inR q6) <|
          if q6 = 0 then
            f_X10_good_5 F fu v1 v2 (bor v3 0) (v4 + 1) M
          else
            ob (f_X10_part v4 2 M) fun q10 =>
            ob (f_X10_otherEnd v4 v1 M) fun q11 =>
            ob (f_X10_farFrom q11 v2 M) fun q12 =>
            ob (f_X10_farFrom v1 v2 M) fun q13 =>
            chk (inR (q10 + q12)) <|
            chk (inR q13) <|
            if q10 + q12 = q13 then
              f_X10_good_5 F fu v1 v2 (bor v3 (bshl 1 v4)) (v4 + 1) M
            else
              f_X10_good_5 F fu v1 v2 (bor v3 0) (v4 + 1) M
def f_X10_good (F : Nat) (v1 : Int) (v2 : Int) (M : Mem) : Option (Int) :=
  f_X10_good_5 F F v1 v2 0 0 M
-- IntervalRouterModel.goodLinks(II)I
def f_X10_goodLinks (F : Nat) (v1 : Int) (v2 : Int) (M : Mem) : Option (Int × Mem) :=
  ob (f_X10_isNode v1 M) fun q1 =>
  chk (inR q1) <|
  if q1 = 0 then
    ob (f_X10_refused 1 M) fun q4 =>
    chk (inR q4.1) <|
    if q4.1 = 0 then
      ob (f_X10_laysFar F q4.2) fun q7 =>
      ob (f_X10_good F v1 v2 q7) fun q8 =>
      some (q8, q7)
    else
      some (0, q4.2)
  else
    ob (f_X10_isNode v2 M) fun q9 =>
    chk (inR q9) <|
    if q9 = 0 then
      ob (f_X10_refused 1 M) fun q12 =>
      chk (inR q12.1) <|
      if q12.1 = 0 then
        ob (f_X10_laysFar F q12.2) fun q15 =>
        ob (f_X10_good F v1 v2 q15) fun q16 =>
        some (q16, q15)
      else
        some (0, q12.2)
    else
      ob (f_X10_refused 0 M) fun q17 =>
      chk (inR q17.1) <|
      if q17.1 = 0 then
        ob (f_X10_laysFar F q17.2) fun q20 =>
        ob (f_X10_good F v1 v2 q20) fun q21 =>
        some (q21, q20)
      else
        some (0, q17.2)
-- IntervalRouterModel.degree(I)I
def f_X10_degree_4 (F : Nat) : Nat → Int → Int → Int → Mem → Option (Int)
  | 0, _, _, _, _ => none
  | fu + 1, v1, v2, v3, M =>
    chk (inR v3) <|
    if M 65 1 ≤ v3 then
      some (v2)
    else
      ob (f_X10_isOf v3 v1 M) fun q2 =>
      chk (inR q2) <|
      if q2 = 0 then
        f_X10_degree_4 F fu v1 (v2 + 0) (v3 + 1) M
      else
        f_X10_degree_4 F fu v1 (v2 + 1) (v3 + 1) M
def f_X10_degree (F : Nat) (v1 : Int) (M : Mem) : Option (Int) :=
  f_X10_degree_4 F F v1 0 0 M
-- IntervalRouterModel.kind()I
def f_X10_kind_42 (F : Nat) : Nat → Int → Int → Int → Mem → Option (Int × Mem)
  | 0, _, _, _, _ => none
  | fu + 1, v1, v2, v3, M =>
    chk (inR v1 ∧ inR v2 ∧ inR v3) <|
    if M 65 0 ≤ v3 then
      if v1 = 0 then
        some (0, M)
      else
        chk (inR ((M 65 0) - 1)) <|
        if M 65 1 = (M 65 0) - 1 then
          some (1, M)
        else
          if v2 = 0 then
            some (3, M)
          else
            some (2, M)
    else
      if v1 = 0 then
        if v2 = 0 then
          f_X10_kind_42 F fu 0 0 (v3 + 1) M
        else
          ob (f_X10_degree F v3 M) fun q12 =>
          chk (inR q12) <|
          if q12 = 2 then
            f_X10_kind_42 F fu 0 1 (v3 + 1) M
          else
            f_X10_kind_42 F fu 0 0 (v3 + 1) M
      else
        ob (f_X10_farFrom 0 v3 M) fun q15 =>
        chk (inR q15) <|
        if 1000 ≤ q15 then
          if v2 = 0 then
            f_X10_kind_42 F fu 0 0 (v3 + 1) M
          else
            ob (f_X10_degree F v3 M) fun q19 =>
            chk (inR q19) <|
            if q19 = 2 then
              f_X10_kind_42 F fu 0 1 (v3 + 1) M
            else
              f_X10_kind_42 F fu 0 0 (v3 + 1) M
        else
          if v2 = 0 then
            f_X10_kind_42 F fu 1 0 (v3 + 1) M
          else
            ob (f_X10_degree F v3 M) fun q23 =>
            chk (inR q23) <|
            if q23 = 2 then
              f_X10_kind_42 F fu 1 1 (v3 + 1) M
            else
              f_X10_kind_42 F fu 1 0 (v3 + 1) M
def f_X10_kind (F : Nat) (M : Mem) : Option (Int × Mem) :=
  ob (f_X10_laysFar F (mset M 64 3 0)) fun q2 =>
  if q2 65 0 ≤ 0 then
    if q2 65 0 ≤ 2 then
      f_X10_kind_42 F F 0 0 0 q2
    else
      f_X10_kind_42 F F 0 1 0 q2
  else
    if q2 65 0 ≤ 2 then
      f_X10_kind_42 F F 1 0 0 q2
    else
      f_X10_kind_42 F F 1 1 0 q2
-- IntervalRouterModel.label(I)I
def f_X10_label (v1 : Int) (M : Mem) : Option (Int × Mem) :=
  ob (f_X10_isNode v1 M) fun q1 =>
  chk (inR q1) <|
  if q1 = 0 then
    ob (f_X10_refused 1 M) fun q4 =>
    chk (inR q4.1) <|
    if q4.1 = 0 then
      chk (0 ≤ 50 + v1 ∧ 50 + v1 < 140) <|
      some (q4.2 65 (50 + v1), q4.2)
    else
      some (0, q4.2)
  else
    ob (f_X10_refused 0 M) fun q8 =>
    chk (inR q8.1) <|
    if q8.1 = 0 then
      chk (0 ≤ 50 + v1 ∧ 50 + v1 < 140) <|
      some (q8.2 65 (50 + v1), q8.2)
    else
      some (0, q8.2)
-- IntervalRouterModel.nodeOf(I)I
def f_X10_nodeOf_2 (F : Nat) : Nat → Int → Int → Mem → Option (Int)
  | 0, _, _, _ => none
  | fu + 1, v1, v2, M =>
    chk (inR v1) <|
    chk (0 ≤ 50 + v2 ∧ 50 + v2 < 140) <|
    if M 65 (50 + v2) = v1 then
      some (v2)
    else
      f_X10_nodeOf_2 F fu v1 (v2 + 1) M
def f_X10_nodeOf (F : Nat) (v1 : Int) (M : Mem) : Option (Int) :=
  f_X10_nodeOf_2 F F v1 0 M
-- IntervalRouterModel.nodeWith(I)I
def f_X10_nodeWith (F : Nat) (v1 : Int) (M : Mem) : Option (Int × Mem) :=
  ob (f_X10_isNode v1 M) fun q1 =>
  chk (inR q1) <|
  if q1 = 0 then
    ob (f_X10_refused 1 M) fun q4 =>
    chk (inR q4.1) <|
    if q4.1 = 0 then
      ob (f_X10_nodeOf F v1 q4.2) fun q7 =>
      some (q7, q4.2)
    else
      some (0, q4.2)
  else
    ob (f_X10_refused 0 M) fun q8 =>
    chk (inR q8.1) <|
    if q8.1 = 0 then
      ob (f_X10_nodeOf F v1 q8.2) fun q11 =>
      some (q11, q8.2)
    else
      some (0, q8.2)
-- IntervalRouterModel.visits(I)V
def f_X10_visits_158 (F : Nat) : Nat → Int → Int → Int → Mem → Option (Mem)
  | 0, _, _, _, _ => none
  | fu + 1, v2, v3, v5, M =>
    chk (inR v3 ∧ inR v5) <|
    if M 65 0 ≤ v5 then
      some M
    else
      ob (f_X10_has v2 v5 M) fun q6 =>
      chk (inR q6) <|
      if q6 = 0 then
        chk (0 ≤ 50 + v5 ∧ 50 + v5 < 140) <|
        f_X10_visits_158 F fu v2 (v3 + 1) (v5 + 1) (mset M 65 (50 + v5) v3)
      else
        f_X10_visits_158 F fu v2 v3 (v5 + 1) M
def f_X10_visits_55 (F : Nat) (k26 : Int → Int → Int → Mem → Option (Mem)) : Nat → Int → Int → Int → Int → Int → Int → Mem → Option (Mem)
  | 0, _, _, _, _, _, _, _ => none
  | fu + 1, v2, v3, v4, v5, v6, v7, M =>
    chk (inR v3 ∧ inR v6 ∧ inR v7) <|
    if v7 < 0 then
      if v6 = (-1) then
        k26 v2 v3 (v4 + (-1)) M
      else
        chk (0 ≤ 50 + v6 ∧ 50 + v6 < 140) <|
        chk (0 ≤ v4 ∧ v4 < 9) <|
        k26 (bor v2 (bshl 1 v6)) (v3 + 1) (v4 + 1) (mset (mset M 65 (50 + v6) v3) 69 v4 v6)
    else
      ob (f_X10_isOf v7 v5 M) fun q18 =>
      chk (inR q18) <|
      if q18 = 0 then
        f_X10_visits_55 F k26 fu v2 v3 v4 v5 v6 (v7 + (-1)) M
      else
        ob (f_X10_otherEnd v7 v5 M) fun q21 =>
        ob (f_X10_has v2 q21 M) fun q22 =>
        chk (inR q22) <|
        if q22 = 0 then
          ob (f_X10_otherEnd v7 v5 M) fun q25 =>
          f_X10_visits_55 F k26 fu v2 v3 v4 v5 q25 (v7 + (-1)) M
        else
          f_X10_visits_55 F k26 fu v2 v3 v4 v5 v6 (v7 + (-1)) M
def f_X10_visits_26 (F : Nat) : Nat → Int → Int → Int → Mem → Option (Mem)
  | 0, _, _, _, _ => none
  | fu + 1, v2, v3, v4, M =>
    chk (inR v4) <|
    if v4 ≤ 0 then
      f_X10_visits_158 F F v2 v3 0 M
    else
      chk (0 ≤ v4 - 1 ∧ v4 - 1 < 9) <|
      f_X10_visits_55 F (f_X10_visits_26 F fu) F v2 v3 v4 (M 69 (v4 - 1)) (-1) ((M 65 1) - 1) M
def f_X10_visits (F : Nat) (v1 : Int) (M : Mem) : Option (Mem) :=
  chk (inR v1) <|
  chk (0 ≤ 50 + v1 ∧ 50 + v1 < 140) <|
  f_X10_visits_26 F F (bshl 1 v1) 1 1 (mset (mset M 69 0 v1) 65 (50 + v1) 0)
-- IntervalRouterModel.ranks(I)V
def f_X10_ranks_21 (F : Nat) (k6 : Int → Int → Mem → Option (Mem)) : Nat → Int → Int → Int → Int → Mem → Option (Mem)
  | 0, _, _, _, _, _ => none
  | fu + 1, v1, v2, v3, v4, M =>
    chk (inR v2 ∧ inR v3 ∧ inR v4) <|
    if M 65 0 ≤ v4 then
      chk (0 ≤ 50 + v2 ∧ 50 + v2 < 140) <|
      k6 v1 (v2 + 1) (mset M 65 (50 + v2) v3)
    else
      ob (f_X10_farFrom v1 v4 M) fun q6 =>
      ob (f_X10_farFrom v1 v2 M) fun q7 =>
      chk (inR q6) <|
      chk (inR q7) <|
      if q6 < q7 then
        f_X10_ranks_21 F k6 fu v1 v2 (v3 + 1) (v4 + 1) M
      else
        ob (f_X10_farFrom v1 v4 M) fun q11 =>
        ob (f_X10_farFrom v1 v2 M) fun q12 =>
        chk (inR q11) <|
        chk (inR q12) <|
        if q11 = q12 then
          if v2 ≤ v4 then
            f_X10_ranks_21 F k6 fu v1 v2 (v3 + 0) (v4 + 1) M
          else
            f_X10_ranks_21 F k6 fu v1 v2 (v3 + 1) (v4 + 1) M
        else
          f_X10_ranks_21 F k6 fu v1 v2 (v3 + 0) (v4 + 1) M
def f_X10_ranks_6 (F : Nat) : Nat → Int → Int → Mem → Option (Mem)
  | 0, _, _, _ => none
  | fu + 1, v1, v2, M =>
    chk (inR v2) <|
    if M 65 0 ≤ v2 then
      some M
    else
      f_X10_ranks_21 F (f_X10_ranks_6 F fu) F v1 v2 0 0 M
def f_X10_ranks (F : Nat) (v1 : Int) (M : Mem) : Option (Mem) :=
  ob (f_X10_laysFar F M) fun q1 =>
  f_X10_ranks_6 F F v1 0 q1
-- IntervalRouterModel.laysRing(I)V
def f_X10_laysRing_7 (F : Nat) : Nat → Int → Int → Mem → Option (Mem)
  | 0, _, _, _ => none
  | fu + 1, v1, v2, M =>
    chk (inR v2) <|
    if M 65 0 ≤ v2 then
      some M
    else
      chk (0 ≤ 50 + v1 ∧ 50 + v1 < 140) <|
      if v2 = M 65 (50 + v1) then
        f_X10_laysRing_7 F fu v1 (v2 + 1) M
      else
        chk (0 ≤ M 64 10 ∧ M 64 10 < 8) <|
        ob (f_X10_entryAt v1 v2 (mset M 71 (M 64 10) v2)) fun q7 =>
        chk (0 ≤ (mset M 71 (M 64 10) v2) 64 10 ∧ (mset M 71 (M 64 10) v2) 64 10 < 8) <|
        chk (inR q7) <|
        chk (inR (((mset (mset M 71 (M 64 10) v2) 70 ((mset M 71 (M 64 10) v2) 64 10) q7) 64 10) + 1)) <|
        f_X10_laysRing_7 F fu v1 (v2 + 1) (mset (mset (mset M 71 (M 64 10) v2) 70 ((mset M 71 (M 64 10) v2) 64 10) q7) 64 10 (((mset (mset M 71 (M 64 10) v2) 70 ((mset M 71 (M 64 10) v2) 64 10) q7) 64 10) + 1))
def f_X10_laysRing (F : Nat) (v1 : Int) (M : Mem) : Option (Mem) :=
  f_X10_laysRing_7 F F v1 0 (mset M 64 10 0)
-- IntervalRouterModel.cost(II)I
def f_X10_cost (v0 : Int) (v1 : Int) (M : Mem) : Option (Int) :=
  chk (inR v0 ∧ inR v1) <|
  if v1 = 16 then
    some (0)
  else
    if v1 = v0 then
      some (0)
    else
      some (1)
-- IntervalRouterModel.laysRest(I)V
def f_X10_laysRest_60 (F : Nat) (k46 : Int → Int → Mem → Option (Mem)) : Nat → Int → Int → Int → Int → Mem → Option (Mem)
  | 0, _, _, _, _, _ => none
  | fu + 1, v2, v3, v4, v5, M =>
    chk (inR v4 ∧ inR v5) <|
    if 16 < v5 then
      chk (0 ≤ (17 * v2) + v3 ∧ (17 * v2) + v3 < 153) <|
      k46 v2 (v3 + 1) (mset M 73 ((17 * v2) + v3) v4)
    else
      chk (0 ≤ v2 ∧ v2 < 8) <|
      ob (f_X10_has (M 72 v2) v5 M) fun q8 =>
      chk (inR q8) <|
      if q8 = 0 then
        if v4 ≤ 1000 then
          f_X10_laysRest_60 F k46 fu v2 v3 v4 (v5 + 1) M
        else
          f_X10_laysRest_60 F k46 fu v2 v3 1000 (v5 + 1) M
      else
        ob (f_X10_cost v3 v5 M) fun q12 =>
        chk (0 ≤ (17 * (v2 + 1)) + v5 ∧ (17 * (v2 + 1)) + v5 < 153) <|
        chk (inR (q12 + (M 73 ((17 * (v2 + 1)) + v5)))) <|
        if v4 ≤ q12 + (M 73 ((17 * (v2 + 1)) + v5)) then
          f_X10_laysRest_60 F k46 fu v2 v3 v4 (v5 + 1) M
        else
          f_X10_laysRest_60 F k46 fu v2 v3 (q12 + (M 73 ((17 * (v2 + 1)) + v5))) (v5 + 1) M
def f_X10_laysRest_46 (F : Nat) (k40 : Int → Mem → Option (Mem)) : Nat → Int → Int → Mem → Option (Mem)
  | 0, _, _, _ => none
  | fu + 1, v2, v3, M =>
    chk (inR v3) <|
    if 16 < v3 then
      k40 (v2 + (-1)) M
    else
      f_X10_laysRest_60 F (f_X10_laysRest_46 F k40 fu) F v2 v3 1000 0 M
def f_X10_laysRest_40 (F : Nat) : Nat → Int → Mem → Option (Mem)
  | 0, _, _ => none
  | fu + 1, v2, M =>
    chk (inR v2) <|
    if v2 ≤ 0 then
      some M
    else
      f_X10_laysRest_46 F (f_X10_laysRest_40 F fu) F v2 0 M
def f_X10_laysRest_2 (F : Nat) : Nat → Int → Int → Mem → Option (Mem)
  | 0, _, _, _ => none
  | fu + 1, v1, v2, M =>
    chk (inR v2) <|
    if 16 < v2 then
      f_X10_laysRest_40 F F ((M 64 10) - 1) M
    else
      ob (f_X10_cost v2 v1 M) fun q16 =>
      chk (0 ≤ (17 * (M 64 10)) + v2 ∧ (17 * (M 64 10)) + v2 < 153) <|
      chk (inR q16) <|
      f_X10_laysRest_2 F fu v1 (v2 + 1) (mset M 73 ((17 * (M 64 10)) + v2) q16)
def f_X10_laysRest (F : Nat) (v1 : Int) (M : Mem) : Option (Mem) :=
  f_X10_laysRest_2 F F v1 0 M
-- IntervalRouterModel.laysBest(I)V
def f_X10_laysBest_278 (F : Nat) : Nat → Int → Mem → Option (Mem)
  | 0, _, _ => none
  | fu + 1, v4, M =>
    chk (inR v4) <|
    if M 64 10 ≤ v4 then
      some M
    else
      chk (0 ≤ v4 ∧ v4 < 8) <|
      if M 70 v4 = 16 then
        f_X10_laysBest_278 F fu (v4 + 1) (mset M 70 v4 (-1))
      else
        f_X10_laysBest_278 F fu (v4 + 1) (mset M 70 v4 (M 70 v4))
def f_X10_laysBest_186 (F : Nat) (k174 : Int → Mem → Option (Mem)) : Nat → Int → Int → Mem → Option (Mem)
  | 0, _, _, _ => none
  | fu + 1, v4, v5, M =>
    chk (inR v5) <|
    chk (0 ≤ v4 ∧ v4 < 8) <|
    ob (f_X10_has (M 72 v4) v5 M) fun q12 =>
    chk (inR q12) <|
    if q12 = 0 then
      f_X10_laysBest_186 F k174 fu v4 (v5 + 1) M
    else
      chk (0 ≤ v4 - 1 ∧ v4 - 1 < 8) <|
      ob (f_X10_cost (M 70 (v4 - 1)) v5 M) fun q16 =>
      chk (0 ≤ (17 * (v4 + 1)) + v5 ∧ (17 * (v4 + 1)) + v5 < 153) <|
      chk (0 ≤ (17 * v4) + (M 70 (v4 - 1)) ∧ (17 * v4) + (M 70 (v4 - 1)) < 153) <|
      chk (inR (q16 + (M 73 ((17 * (v4 + 1)) + v5)))) <|
      if q16 + (M 73 ((17 * (v4 + 1)) + v5)) = M 73 ((17 * v4) + (M 70 (v4 - 1))) then
        k174 (v4 + 1) (mset M 70 v4 v5)
      else
        f_X10_laysBest_186 F k174 fu v4 (v5 + 1) M
def f_X10_laysBest_174 (F : Nat) : Nat → Int → Mem → Option (Mem)
  | 0, _, _ => none
  | fu + 1, v4, M =>
    chk (inR v4) <|
    if M 64 10 ≤ v4 then
      f_X10_laysBest_278 F F 0 M
    else
      f_X10_laysBest_186 F (f_X10_laysBest_174 F fu) F v4 0 M
def f_X10_laysBest_62 (F : Nat) : Nat → Int → Int → Int → Mem → Option (Mem)
  | 0, _, _, _, _ => none
  | fu + 1, v2, v3, v4, M =>
    chk (inR v2 ∧ inR v3 ∧ inR v4) <|
    if 16 < v4 then
      if M 64 10 ≤ 0 then
        f_X10_laysBest_174 F F 1 M
      else
        ob (f_X10_laysRest F v2 M) fun q22 =>
        f_X10_laysBest_174 F F 1 (mset q22 70 0 v2)
    else
      if M 64 10 ≤ 0 then
        if M 64 10 ≤ 0 then
          f_X10_laysBest_174 F F 1 M
        else
          ob (f_X10_laysRest F v2 M) fun q26 =>
          f_X10_laysBest_174 F F 1 (mset q26 70 0 v2)
      else
        ob (f_X10_has (M 72 0) v4 M) fun q28 =>
        chk (inR q28) <|
        if q28 = 0 then
          f_X10_laysBest_62 F fu v2 v3 (v4 + 1) M
        else
          ob (f_X10_laysRest F v4 M) fun q31 =>
          chk (0 ≤ 17 + v4 ∧ 17 + v4 < 153) <|
          if v3 ≤ q31 73 (17 + v4) then
            if v3 ≤ q31 73 (17 + v4) then
              f_X10_laysBest_62 F fu v2 v3 (v4 + 1) q31
            else
              f_X10_laysBest_62 F fu v2 (q31 73 (17 + v4)) (v4 + 1) q31
          else
            if v3 ≤ q31 73 (17 + v4) then
              f_X10_laysBest_62 F fu v4 v3 (v4 + 1) q31
            else
              f_X10_laysBest_62 F fu v4 (q31 73 (17 + v4)) (v4 + 1) q31
def f_X10_laysBest_7 (F : Nat) : Nat → Int → Int → Mem → Option (Mem)
  | 0, _, _, _ => none
  | fu + 1, v1, v2, M =>
    chk (inR v2) <|
    if M 64 10 ≤ v2 then
      f_X10_laysBest_62 F F (-1) 1000 0 M
    else
      chk (0 ≤ v2 ∧ v2 < 8) <|
      ob (f_X10_nodeOf F (M 71 v2) M) fun q37 =>
      ob (f_X10_good F v1 q37 M) fun q38 =>
      chk (inR q38) <|
      if q38 = 0 then
        f_X10_laysBest_7 F fu v1 (v2 + 1) (mset M 72 v2 65536)
      else
        f_X10_laysBest_7 F fu v1 (v2 + 1) (mset M 72 v2 q38)
def f_X10_laysBest (F : Nat) (v1 : Int) (M : Mem) : Option (Mem) :=
  ob (f_X10_laysRing F v1 M) fun q1 =>
  f_X10_laysBest_7 F F v1 0 q1
-- IntervalRouterModel.isRound()Z
def f_X10_isRound_15 (F : Nat) : Nat → Int → Int → Mem → Option (Int)
  | 0, _, _, _ => none
  | fu + 1, v1, v2, M =>
    chk (inR v1 ∧ inR v2) <|
    if M 64 10 ≤ v2 then
      chk (bit01 v1) <|
      some (v1)
    else
      if v1 = 0 then
        f_X10_isRound_15 F fu 0 (v2 + 1) M
      else
        chk (0 ≤ v2 ∧ v2 < 8) <|
        if M 70 v2 = M 70 0 then
          f_X10_isRound_15 F fu 1 (v2 + 1) M
        else
          f_X10_isRound_15 F fu 0 (v2 + 1) M
def f_X10_isRound (F : Nat) (M : Mem) : Option (Int) :=
  if M 64 10 ≤ 0 then
    f_X10_isRound_15 F F 0 1 M
  else
    f_X10_isRound_15 F F 1 1 M
-- IntervalRouterModel.beginsAt(I)Z
def f_X10_beginsAt (v1 : Int) (M : Mem) : Option (Int) :=
  chk (0 ≤ v1 ∧ v1 < 8) <|
  chk ((inR ((v1 + (M 64 10)) - 1) ∧ inR (M 64 10)) ∧ (0 : Int) ≤ (v1 + (M 64 10)) - 1 ∧ (0 : Int) < M 64 10) <|
  chk (0 ≤ ((v1 + (M 64 10)) - 1) % (M 64 10) ∧ ((v1 + (M 64 10)) - 1) % (M 64 10) < 8) <|
  if M 70 v1 = M 70 (((v1 + (M 64 10)) - 1) % (M 64 10)) then
    some (0)
  else
    some (1)
-- IntervalRouterModel.runsOf(I)I
def f_X10_runsOf_27 (F : Nat) : Nat → Int → Int → Int → Mem → Option (Int)
  | 0, _, _, _, _ => none
  | fu + 1, v1, v2, v3, M =>
    chk (inR v1 ∧ inR v3) <|
    if M 64 10 ≤ v3 then
      some (v2)
    else
      chk (0 ≤ v3 ∧ v3 < 8) <|
      if M 70 v3 = v1 then
        ob (f_X10_beginsAt v3 M) fun q7 =>
        chk (inR q7) <|
        if q7 = 0 then
          f_X10_runsOf_27 F fu v1 (v2 + 0) (v3 + 1) M
        else
          f_X10_runsOf_27 F fu v1 (v2 + 1) (v3 + 1) M
      else
        f_X10_runsOf_27 F fu v1 (v2 + 0) (v3 + 1) M
def f_X10_runsOf (F : Nat) (v1 : Int) (M : Mem) : Option (Int) :=
  chk (inR v1) <|
  ob (f_X10_isRound F M) fun q1 =>
  chk (inR q1) <|
  if q1 = 0 then
    f_X10_runsOf_27 F F v1 0 0 M
  else
    if M 70 0 = v1 then
      some (1)
    else
      some (0)
-- IntervalRouterModel.ringMost()I
def f_X10_ringMost_4 (F : Nat) : Nat → Int → Int → Mem → Option (Int)
  | 0, _, _, _ => none
  | fu + 1, v1, v2, M =>
    chk (inR v1 ∧ inR v2) <|
    if M 65 1 ≤ v2 then
      some (v1)
    else
      ob (f_X10_runsOf F v2 M) fun q2 =>
      chk (inR q2) <|
      if q2 ≤ v1 then
        f_X10_ringMost_4 F fu v1 (v2 + 1) M
      else
        ob (f_X10_runsOf F v2 M) fun q5 =>
        f_X10_ringMost_4 F fu q5 (v2 + 1) M
def f_X10_ringMost (F : Nat) (M : Mem) : Option (Int) :=
  f_X10_ringMost_4 F F 0 0 M
-- IntervalRouterModel.ringSize()I
def f_X10_ringSize_4 (F : Nat) : Nat → Int → Int → Mem → Option (Int)
  | 0, _, _, _ => none
  | fu + 1, v1, v2, M =>
    chk (inR v2) <|
    if M 65 1 ≤ v2 then
      some (v1)
    else
      ob (f_X10_runsOf F v2 M) fun q2 =>
      f_X10_ringSize_4 F fu (v1 + q2) (v2 + 1) M
def f_X10_ringSize (F : Nat) (M : Mem) : Option (Int) :=
  f_X10_ringSize_4 F F 0 0 M
-- IntervalRouterModel.swaps(II)V
def f_X10_swaps (v1 : Int) (v2 : Int) (M : Mem) : Option (Mem) :=
  chk (0 ≤ 50 + v1 ∧ 50 + v1 < 140) <|
  chk (0 ≤ 50 + v2 ∧ 50 + v2 < 140) <|
  some (mset (mset M 65 (50 + v1) (M 65 (50 + v2))) 65 (50 + v2) (M 65 (50 + v1)))
-- IntervalRouterModel.follows()Z
def f_X10_follows_104 (F : Nat) : Nat → Int → Int → Mem → Option (Int × Mem)
  | 0, _, _, _ => none
  | fu + 1, v3, v4, M =>
    chk (inR v3 ∧ inR v4) <|
    if v4 ≤ v3 then
      some (1, M)
    else
      ob (f_X10_swaps v3 v4 M) fun q8 =>
      f_X10_follows_104 F fu (v3 + 1) (v4 + (-1)) q8
def f_X10_follows_57 (F : Nat) : Nat → Int → Int → Mem → Option (Int × Mem)
  | 0, _, _, _ => none
  | fu + 1, v1, v2, M =>
    chk (0 ≤ 50 + v2 ∧ 50 + v2 < 140) <|
    chk (0 ≤ 50 + v1 ∧ 50 + v1 < 140) <|
    if M 65 (50 + v1) ≤ M 65 (50 + v2) then
      ob (f_X10_swaps v1 v2 M) fun q6 =>
      f_X10_follows_104 F F (v1 + 1) ((q6 65 0) - 1) q6
    else
      f_X10_follows_57 F fu v1 (v2 + (-1)) M
def f_X10_follows_9 (F : Nat) : Nat → Int → Mem → Option (Int × Mem)
  | 0, _, _ => none
  | fu + 1, v1, M =>
    chk (inR v1) <|
    if v1 < 0 then
      if 0 ≤ v1 then
        f_X10_follows_57 F F v1 ((M 65 0) - 1) M
      else
        some (0, M)
    else
      chk (0 ≤ 50 + v1 ∧ 50 + v1 < 140) <|
      chk (0 ≤ (50 + v1) + 1 ∧ (50 + v1) + 1 < 140) <|
      if M 65 (50 + v1) ≤ M 65 ((50 + v1) + 1) then
        if 0 ≤ v1 then
          f_X10_follows_57 F F v1 ((M 65 0) - 1) M
        else
          some (0, M)
      else
        f_X10_follows_9 F fu (v1 + (-1)) M
def f_X10_follows (F : Nat) (M : Mem) : Option (Int × Mem) :=
  f_X10_follows_9 F F ((M 65 0) - 2) M
-- IntervalRouterModel.bestOf()I
def f_X10_bestOf_248 (F : Nat) : Nat → Int → Int → Mem → Option (Int × Mem)
  | 0, _, _, _ => none
  | fu + 1, v1, v4, M =>
    chk (inR v4) <|
    if 9 ≤ v4 then
      some (v1, M)
    else
      chk (0 ≤ v4 ∧ v4 < 9) <|
      chk (0 ≤ 50 + v4 ∧ 50 + v4 < 140) <|
      f_X10_bestOf_248 F fu v1 (v4 + 1) (mset M 65 (50 + v4) (M 76 v4))
def f_X10_bestOf_213 (F : Nat) (k74 : Int → Int → Int → Mem → Option (Int × Mem)) (v1 : Int) (v2 : Int) (v4 : Int) (v5 : Int) (v6 : Int) (M : Mem) : Option (Int × Mem) :=
  chk (inR v6) <|
  if v6 = 0 then
    if v6 = 0 then
      ob (f_X10_follows F M) fun q17 =>
      k74 v1 v2 q17.1 q17.2
    else
      ob (f_X10_follows F M) fun q18 =>
      k74 v1 v5 q18.1 q18.2
  else
    if v6 = 0 then
      ob (f_X10_follows F M) fun q20 =>
      k74 v4 v2 q20.1 q20.2
    else
      ob (f_X10_follows F M) fun q21 =>
      k74 v4 v5 q21.1 q21.2
def f_X10_bestOf_178 (F : Nat) (k74 : Int → Int → Int → Mem → Option (Int × Mem)) : Nat → Int → Int → Int → Int → Int → Int → Mem → Option (Int × Mem)
  | 0, _, _, _, _, _, _, _ => none
  | fu + 1, v1, v2, v4, v5, v6, v7, M =>
    chk (inR v6 ∧ inR v7) <|
    if 9 ≤ v7 then
      f_X10_bestOf_213 F k74 v1 v2 v4 v5 v6 M
    else
      if v6 = 0 then
        f_X10_bestOf_213 F k74 v1 v2 v4 v5 v6 M
      else
        chk (0 ≤ 50 + v7 ∧ 50 + v7 < 140) <|
        chk (0 ≤ v7 ∧ v7 < 9) <|
        f_X10_bestOf_178 F k74 fu v1 v2 v4 v5 v6 (v7 + 1) (mset M 75 v7 (M 65 (50 + v7)))
def f_X10_bestOf_87 (F : Nat) (k74 : Int → Int → Int → Mem → Option (Int × Mem)) : Nat → Int → Int → Int → Int → Int → Mem → Option (Int × Mem)
  | 0, _, _, _, _, _, _ => none
  | fu + 1, v1, v2, v4, v5, v6, M =>
    chk (inR v1 ∧ inR v2 ∧ inR v4 ∧ inR v5 ∧ inR v6) <|
    if M 65 0 ≤ v6 then
      chk (0 ≤ v4 ∧ v4 < 10) <|
      chk (inR ((M 77 v4) + 1)) <|
      if v4 < v1 then
        f_X10_bestOf_178 F k74 F v1 v2 v4 v5 1 0 (mset M 77 v4 ((M 77 v4) + 1))
      else
        if v4 = v1 then
          if v2 ≤ v5 then
            f_X10_bestOf_178 F k74 F v1 v2 v4 v5 0 0 (mset M 77 v4 ((M 77 v4) + 1))
          else
            f_X10_bestOf_178 F k74 F v1 v2 v4 v5 1 0 (mset M 77 v4 ((M 77 v4) + 1))
        else
          f_X10_bestOf_178 F k74 F v1 v2 v4 v5 0 0 (mset M 77 v4 ((M 77 v4) + 1))
    else
      ob (f_X10_laysBest F v6 M) fun q28 =>
      ob (f_X10_ringMost F q28) fun q29 =>
      chk (inR q29) <|
      if q29 ≤ v4 then
        ob (f_X10_ringSize F q28) fun q32 =>
        f_X10_bestOf_87 F k74 fu v1 v2 v4 (v5 + q32) (v6 + 1) q28
      else
        ob (f_X10_ringMost F q28) fun q33 =>
        ob (f_X10_ringSize F q28) fun q34 =>
        f_X10_bestOf_87 F k74 fu v1 v2 q33 (v5 + q34) (v6 + 1) q28
def f_X10_bestOf_74 (F : Nat) : Nat → Int → Int → Int → Mem → Option (Int × Mem)
  | 0, _, _, _, _ => none
  | fu + 1, v1, v2, v3, M =>
    chk (inR v3) <|
    if v3 = 0 then
      f_X10_bestOf_248 F F v1 0 M
    else
      f_X10_bestOf_87 F (f_X10_bestOf_74 F fu) F v1 v2 0 0 0 M
def f_X10_bestOf_27 (F : Nat) : Nat → Int → Mem → Option (Int × Mem)
  | 0, _, _ => none
  | fu + 1, v1, M =>
    chk (inR v1) <|
    if 9 ≤ v1 then
      f_X10_bestOf_74 F F 1000 1000 1 M
    else
      chk (0 ≤ 50 + v1 ∧ 50 + v1 < 140) <|
      chk (0 ≤ v1 ∧ v1 < 9) <|
      f_X10_bestOf_27 F fu (v1 + 1) (mset (mset M 76 v1 (M 65 (50 + v1))) 65 (50 + v1) v1)
def f_X10_bestOf_6 (F : Nat) : Nat → Int → Mem → Option (Int × Mem)
  | 0, _, _ => none
  | fu + 1, v1, M =>
    chk (inR v1) <|
    if 10 ≤ v1 then
      f_X10_bestOf_27 F F 0 M
    else
      chk (0 ≤ v1 ∧ v1 < 10) <|
      f_X10_bestOf_6 F fu (v1 + 1) (mset M 77 v1 0)
def f_X10_bestOf (F : Nat) (M : Mem) : Option (Int × Mem) :=
  ob (f_X10_laysFar F M) fun q1 =>
  f_X10_bestOf_6 F F 0 q1
-- IntervalRouterModel.setLabels(II)I
def f_X10_setLabels_102 (F : Nat) : Nat → Int → Int → Mem → Option (Int × Mem)
  | 0, _, _, _ => none
  | fu + 1, v1, v4, M =>
    chk (inR v1 ∧ inR v4) <|
    if M 65 0 ≤ v4 then
      ob (f_X10_empties F M) fun q16 =>
      chk (0 ≤ (50 + (q16 65 0)) - 1 ∧ (50 + (q16 65 0)) - 1 < 140) <|
      some (q16 65 ((50 + (q16 65 0)) - 1), q16)
    else
      if v1 = 3 then
        chk (0 ≤ v4 ∧ v4 < 9) <|
        chk (0 ≤ 50 + v4 ∧ 50 + v4 < 140) <|
        f_X10_setLabels_102 F fu v1 (v4 + 1) (mset M 65 (50 + v4) (M 75 v4))
      else
        chk (0 ≤ 50 + v4 ∧ 50 + v4 < 140) <|
        f_X10_setLabels_102 F fu v1 (v4 + 1) (mset M 65 (50 + v4) v4)
def f_X10_setLabels_47 (F : Nat) (v1 : Int) (v2 : Int) (t1 : Int) (M : Mem) : Option (Int × Mem) :=
  chk (inR v1) <|
  ob (f_X10_refused t1 M) fun q8 =>
  chk (inR q8.1) <|
  if q8.1 = 0 then
    ob (f_X10_saves F q8.2) fun q11 =>
    if v1 = 1 then
      ob (f_X10_visits F v2 q11) fun q28 =>
      ob (f_X10_empties F q28) fun q29 =>
      chk (0 ≤ (50 + (q29 65 0)) - 1 ∧ (50 + (q29 65 0)) - 1 < 140) <|
      some (q29 65 ((50 + (q29 65 0)) - 1), q29)
    else
      if v1 = 2 then
        ob (f_X10_ranks F v2 q11) fun q25 =>
        ob (f_X10_empties F q25) fun q26 =>
        chk (0 ≤ (50 + (q26 65 0)) - 1 ∧ (50 + (q26 65 0)) - 1 < 140) <|
        some (q26 65 ((50 + (q26 65 0)) - 1), q26)
      else
        if v1 = 3 then
          ob (f_X10_bestOf F q11) fun q24 =>
          f_X10_setLabels_102 F F v1 0 q24.2
        else
          f_X10_setLabels_102 F F v1 0 q11
  else
    some (0, q8.2)
def f_X10_setLabels (F : Nat) (v1 : Int) (v2 : Int) (M : Mem) : Option (Int × Mem) :=
  chk (inR v1) <|
  ob (f_X10_within v1 0 3 M) fun q1 =>
  chk (inR q1) <|
  if q1 = 0 then
    f_X10_setLabels_47 F v1 v2 1 M
  else
    ob (f_X10_isNode v2 M) fun q4 =>
    chk (inR q4) <|
    if q4 = 0 then
      f_X10_setLabels_47 F v1 v2 2 M
    else
      if v1 = 3 then
        if M 65 0 ≤ 6 then
          f_X10_setLabels_47 F v1 v2 0 M
        else
          f_X10_setLabels_47 F v1 v2 3 M
      else
        f_X10_setLabels_47 F v1 v2 0 M
-- IntervalRouterModel.swapLabels(II)I
def f_X10_swapLabels (F : Nat) (v1 : Int) (v2 : Int) (M : Mem) : Option (Int × Mem) :=
  ob (f_X10_isNode v1 M) fun q1 =>
  chk (inR q1) <|
  if q1 = 0 then
    ob (f_X10_refused 1 M) fun q4 =>
    chk (inR q4.1) <|
    if q4.1 = 0 then
      ob (f_X10_saves F q4.2) fun q7 =>
      ob (f_X10_swaps v1 v2 q7) fun q8 =>
      ob (f_X10_empties F q8) fun q9 =>
      chk (0 ≤ 50 + v1 ∧ 50 + v1 < 140) <|
      some (q9 65 (50 + v1), q9)
    else
      some (0, q4.2)
  else
    ob (f_X10_isNode v2 M) fun q11 =>
    chk (inR q11) <|
    if q11 = 0 then
      ob (f_X10_refused 1 M) fun q14 =>
      chk (inR q14.1) <|
      if q14.1 = 0 then
        ob (f_X10_saves F q14.2) fun q17 =>
        ob (f_X10_swaps v1 v2 q17) fun q18 =>
        ob (f_X10_empties F q18) fun q19 =>
        chk (0 ≤ 50 + v1 ∧ 50 + v1 < 140) <|
        some (q19 65 (50 + v1), q19)
      else
        some (0, q14.2)
    else
      ob (f_X10_refused 0 M) fun q21 =>
      chk (inR q21.1) <|
      if q21.1 = 0 then
        ob (f_X10_saves F q21.2) fun q24 =>
        ob (f_X10_swaps v1 v2 q24) fun q25 =>
        ob (f_X10_empties F q25) fun q26 =>
        chk (0 ≤ 50 + v1 ∧ 50 + v1 < 140) <|
        some (q26 65 (50 + v1), q26)
      else
        some (0, q21.2)
-- IntervalRouterModel.turn(I)I
def f_X10_turn_43 (F : Nat) : Nat → Int → Int → Mem → Option (Int × Mem)
  | 0, _, _, _ => none
  | fu + 1, v1, v2, M =>
    chk (inR v2) <|
    if M 65 0 ≤ v2 then
      ob (f_X10_empties F M) fun q10 =>
      some (q10 65 50, q10)
    else
      chk (0 ≤ 50 + v2 ∧ 50 + v2 < 140) <|
      chk ((inR ((M 65 (50 + v2)) + v1) ∧ inR (M 65 0)) ∧ (0 : Int) ≤ (M 65 (50 + v2)) + v1 ∧ (0 : Int) < M 65 0) <|
      chk (inR (((M 65 (50 + v2)) + v1) % (M 65 0))) <|
      f_X10_turn_43 F fu v1 (v2 + 1) (mset M 65 (50 + v2) (((M 65 (50 + v2)) + v1) % (M 65 0)))
def f_X10_turn (F : Nat) (v1 : Int) (M : Mem) : Option (Int × Mem) :=
  ob (f_X10_within v1 0 9 M) fun q1 =>
  chk (inR q1) <|
  if q1 = 0 then
    ob (f_X10_refused 1 M) fun q19 =>
    chk (inR q19.1) <|
    if q19.1 = 0 then
      ob (f_X10_saves F q19.2) fun q22 =>
      f_X10_turn_43 F F v1 0 q22
    else
      some (0, q19.2)
  else
    if M 65 0 = 0 then
      ob (f_X10_refused 2 M) fun q15 =>
      chk (inR q15.1) <|
      if q15.1 = 0 then
        ob (f_X10_saves F q15.2) fun q18 =>
        f_X10_turn_43 F F v1 0 q18
      else
        some (0, q15.2)
    else
      ob (f_X10_refused 0 M) fun q5 =>
      chk (inR q5.1) <|
      if q5.1 = 0 then
        ob (f_X10_saves F q5.2) fun q8 =>
        f_X10_turn_43 F F v1 0 q8
      else
        some (0, q5.2)
-- IntervalRouterModel.shuffle(I)I
def f_X10_shuffle_69 (F : Nat) : Nat → Int → Int → Mem → Option (Int × Mem)
  | 0, _, _, _ => none
  | fu + 1, v2, v4, M =>
    chk (inR v4) <|
    if v4 ≤ 0 then
      ob (f_X10_empties F M) fun q10 =>
      if q10 65 0 = 0 then
        some ((-1), q10)
      else
        some (q10 65 50, q10)
    else
      chk ((inL ((1103515245 * v2) + 12345) ∧ inL 2147483648) ∧ (0 : Int) ≤ (1103515245 * v2) + 12345 ∧ (0 : Int) < 2147483648) <|
      chk ((inL (((1103515245 * v2) + 12345) % 2147483648) ∧ inL 65536) ∧ (0 : Int) ≤ ((1103515245 * v2) + 12345) % 2147483648 ∧ (0 : Int) < 65536) <|
      chk ((inR ((((1103515245 * v2) + 12345) % 2147483648) / 65536) ∧ inR (v4 + 1)) ∧ (0 : Int) ≤ (((1103515245 * v2) + 12345) % 2147483648) / 65536 ∧ (0 : Int) < v4 + 1) <|
      ob (f_X10_swaps v4 (((((1103515245 * v2) + 12345) % 2147483648) / 65536) % (v4 + 1)) M) fun q15 =>
      f_X10_shuffle_69 F fu (((1103515245 * v2) + 12345) % 2147483648) (v4 + (-1)) q15
def f_X10_shuffle_30 (F : Nat) : Nat → Int → Int → Mem → Option (Int × Mem)
  | 0, _, _, _ => none
  | fu + 1, v1, v2, M =>
    chk (inR v1 ∧ inR v2) <|
    if M 65 0 ≤ v2 then
      f_X10_shuffle_69 F F v1 ((M 65 0) - 1) M
    else
      chk (0 ≤ 50 + v2 ∧ 50 + v2 < 140) <|
      f_X10_shuffle_30 F fu v1 (v2 + 1) (mset M 65 (50 + v2) v2)
def f_X10_shuffle (F : Nat) (v1 : Int) (M : Mem) : Option (Int × Mem) :=
  ob (f_X10_within v1 0 999999 M) fun q1 =>
  chk (inR q1) <|
  if q1 = 0 then
    ob (f_X10_refused 1 M) fun q4 =>
    chk (inR q4.1) <|
    if q4.1 = 0 then
      ob (f_X10_saves F q4.2) fun q7 =>
      f_X10_shuffle_30 F F v1 0 q7
    else
      some (0, q4.2)
  else
    ob (f_X10_refused 0 M) fun q18 =>
    chk (inR q18.1) <|
    if q18.1 = 0 then
      ob (f_X10_saves F q18.2) fun q21 =>
      f_X10_shuffle_30 F F v1 0 q21
    else
      some (0, q18.2)
-- IntervalRouterModel.netSize()I
def f_X10_netSize_4 (F : Nat) : Nat → Int → Int → Mem → Option (Int × Mem)
  | 0, _, _, _ => none
  | fu + 1, v1, v2, M =>
    chk (inR v2) <|
    if M 65 0 ≤ v2 then
      some (v1, M)
    else
      ob (f_X10_laysRing F v2 M) fun q2 =>
      ob (f_X10_ringSize F q2) fun q3 =>
      f_X10_netSize_4 F fu (v1 + q3) (v2 + 1) q2
def f_X10_netSize (F : Nat) (M : Mem) : Option (Int × Mem) :=
  f_X10_netSize_4 F F 0 0 M
-- IntervalRouterModel.makeTables()I
def f_X10_makeTables_32 (F : Nat) (k15 : Int → Mem → Option (Int × Mem)) : Nat → Int → Int → Mem → Option (Int × Mem)
  | 0, _, _, _ => none
  | fu + 1, v1, v2, M =>
    chk (inR v2) <|
    if M 64 10 ≤ v2 then
      k15 (v1 + 1) M
    else
      chk (0 ≤ v2 ∧ v2 < 8) <|
      chk (0 ≤ (59 + (9 * v1)) + (M 71 v2) ∧ (59 + (9 * v1)) + (M 71 v2) < 140) <|
      chk (inR ((M 70 v2) + 1)) <|
      f_X10_makeTables_32 F k15 fu v1 (v2 + 1) (mset M 65 ((59 + (9 * v1)) + (M 71 v2)) ((M 70 v2) + 1))
def f_X10_makeTables_15 (F : Nat) : Nat → Int → Mem → Option (Int × Mem)
  | 0, _, _ => none
  | fu + 1, v1, M =>
    chk (inR v1) <|
    if M 65 0 ≤ v1 then
      ob (f_X10_netSize F M) fun q5 =>
      some (q5.1, q5.2)
    else
      ob (f_X10_laysBest F v1 M) fun q6 =>
      f_X10_makeTables_32 F (f_X10_makeTables_15 F fu) F v1 0 q6
def f_X10_makeTables (F : Nat) (M : Mem) : Option (Int × Mem) :=
  ob (f_X10_saves F (mset M 64 3 0)) fun q2 =>
  ob (f_X10_laysFar F q2) fun q3 =>
  f_X10_makeTables_15 F F 0 q3
-- IntervalRouterModel.setRange(IIII)I
def f_X10_setRange_112 (F : Nat) (k95 : Int → Int → Int → Int → Int → Int → Mem → Option (Int × Mem)) (v1 : Int) (v2 : Int) (v4 : Int) (v6 : Int) (v7 : Int) (t0 : Int) (M : Mem) : Option (Int × Mem) :=
  chk (inR v2 ∧ inR v7) <|
  chk (0 ≤ 50 + v1 ∧ 50 + v1 < 140) <|
  if v7 = M 65 (50 + v1) then
    chk ((inR (v7 + 1) ∧ inR (M 65 0)) ∧ (0 : Int) ≤ v7 + 1 ∧ (0 : Int) < M 65 0) <|
    k95 v1 v2 v4 v6 ((v7 + 1) % (M 65 0)) t0 M
  else
    ob (f_X10_entryAt v1 v7 M) fun q15 =>
    chk (inR q15) <|
    if q15 = v2 then
      chk (0 ≤ (59 + (9 * v1)) + v7 ∧ (59 + (9 * v1)) + v7 < 140) <|
      chk (inR (v2 + 1)) <|
      chk ((inR (v7 + 1) ∧ inR ((mset M 65 ((59 + (9 * v1)) + v7) (v2 + 1)) 65 0)) ∧ (0 : Int) ≤ v7 + 1 ∧ (0 : Int) < (mset M 65 ((59 + (9 * v1)) + v7) (v2 + 1)) 65 0) <|
      k95 v1 v2 v4 (v6 + 0) ((v7 + 1) % ((mset M 65 ((59 + (9 * v1)) + v7) (v2 + 1)) 65 0)) t0 (mset M 65 ((59 + (9 * v1)) + v7) (v2 + 1))
    else
      chk (0 ≤ (59 + (9 * v1)) + v7 ∧ (59 + (9 * v1)) + v7 < 140) <|
      chk (inR (v2 + 1)) <|
      chk ((inR (v7 + 1) ∧ inR ((mset M 65 ((59 + (9 * v1)) + v7) (v2 + 1)) 65 0)) ∧ (0 : Int) ≤ v7 + 1 ∧ (0 : Int) < (mset M 65 ((59 + (9 * v1)) + v7) (v2 + 1)) 65 0) <|
      k95 v1 v2 v4 (v6 + 1) ((v7 + 1) % ((mset M 65 ((59 + (9 * v1)) + v7) (v2 + 1)) 65 0)) t0 (mset M 65 ((59 + (9 * v1)) + v7) (v2 + 1))
def f_X10_setRange_95 (F : Nat) : Nat → Int → Int → Int → Int → Int → Int → Mem → Option (Int × Mem)
  | 0, _, _, _, _, _, _, _ => none
  | fu + 1, v1, v2, v4, v6, v7, v8, M =>
    chk (inR v4 ∧ inR v7 ∧ inR v8) <|
    if v8 = 0 then
      some (v6, M)
    else
      if v7 = v4 then
        f_X10_setRange_112 F (f_X10_setRange_95 F fu) v1 v2 v4 v6 v7 0 M
      else
        f_X10_setRange_112 F (f_X10_setRange_95 F fu) v1 v2 v4 v6 v7 1 M
def f_X10_setRange_43 (F : Nat) (v1 : Int) (v2 : Int) (v3 : Int) (v4 : Int) (t0 : Int) (M : Mem) : Option (Int × Mem) :=
  chk (inR v2 ∧ inR t0) <|
  if t0 = 0 then
    ob (f_X10_refused 1 M) fun q37 =>
    chk (inR q37.1) <|
    if q37.1 = 0 then
      ob (f_X10_saves F q37.2) fun q40 =>
      f_X10_setRange_95 F F v1 v2 v4 0 v3 1 q40
    else
      some (0, q37.2)
  else
    if v2 = (-1) then
      ob (f_X10_refused 0 M) fun q6 =>
      chk (inR q6.1) <|
      if q6.1 = 0 then
        ob (f_X10_saves F q6.2) fun q9 =>
        f_X10_setRange_95 F F v1 v2 v4 0 v3 1 q9
      else
        some (0, q6.2)
    else
      ob (f_X10_isOf v2 v1 M) fun q26 =>
      chk (inR q26) <|
      if q26 = 0 then
        ob (f_X10_refused 2 M) fun q29 =>
        chk (inR q29.1) <|
        if q29.1 = 0 then
          ob (f_X10_saves F q29.2) fun q32 =>
          f_X10_setRange_95 F F v1 v2 v4 0 v3 1 q32
        else
          some (0, q29.2)
      else
        ob (f_X10_refused 0 M) fun q33 =>
        chk (inR q33.1) <|
        if q33.1 = 0 then
          ob (f_X10_saves F q33.2) fun q36 =>
          f_X10_setRange_95 F F v1 v2 v4 0 v3 1 q36
        else
          some (0, q33.2)
def f_X10_setRange (F : Nat) (v1 : Int) (v2 : Int) (v3 : Int) (v4 : Int) (M : Mem) : Option (Int × Mem) :=
  chk (inR v2) <|
  ob (f_X10_isNode v1 M) fun q1 =>
  chk (inR q1) <|
  if q1 = 0 then
    f_X10_setRange_43 F v1 v2 v3 v4 0 M
  else
    if v2 = (-1) then
      ob (f_X10_isNode v3 M) fun q42 =>
      chk (inR q42) <|
      if q42 = 0 then
        f_X10_setRange_43 F v1 v2 v3 v4 0 M
      else
        ob (f_X10_isNode v4 M) fun q45 =>
        chk (inR q45) <|
        if q45 = 0 then
          f_X10_setRange_43 F v1 v2 v3 v4 0 M
        else
          f_X10_setRange_43 F v1 v2 v3 v4 1 M
    else
      ob (f_X10_isLink v2 M) fun q48 =>
      chk (inR q48) <|
      if q48 = 0 then
        f_X10_setRange_43 F v1 v2 v3 v4 0 M
      else
        ob (f_X10_isNode v3 M) fun q51 =>
        chk (inR q51) <|
        if q51 = 0 then
          f_X10_setRange_43 F v1 v2 v3 v4 0 M
        else
          ob (f_X10_isNode v4 M) fun q54 =>
          chk (inR q54) <|
          if q54 = 0 then
            f_X10_setRange_43 F v1 v2 v3 v4 0 M
          else
            f_X10_setRange_43 F v1 v2 v3 v4 1 M
-- IntervalRouterModel.entry(II)I
def f_X10_entry (v1 : Int) (v2 : Int) (M : Mem) : Option (Int × Mem) :=
  ob (f_X10_isNode v1 M) fun q1 =>
  chk (inR q1) <|
  if q1 = 0 then
    ob (f_X10_refused 1 M) fun q4 =>
    chk (inR q4.1) <|
    if q4.1 = 0 then
      ob (f_X10_entryAt v1 v2 q4.2) fun q7 =>
      some (q7, q4.2)
    else
      some (0, q4.2)
  else
    ob (f_X10_isNode v2 M) fun q8 =>
    chk (inR q8) <|
    if q8 = 0 then
      ob (f_X10_refused 1 M) fun q11 =>
      chk (inR q11.1) <|
      if q11.1 = 0 then
        ob (f_X10_entryAt v1 v2 q11.2) fun q14 =>
        some (q14, q11.2)
      else
        some (0, q11.2)
    else
      ob (f_X10_refused 0 M) fun q15 =>
      chk (inR q15.1) <|
      if q15.1 = 0 then
        ob (f_X10_entryAt v1 v2 q15.2) fun q18 =>
        some (q18, q15.2)
      else
        some (0, q15.2)
-- IntervalRouterModel.runs(II)I
def f_X10_runs_21 (F : Nat) (v1 : Int) (v2 : Int) (t0 : Int) (M : Mem) : Option (Int × Mem) :=
  chk (inR t0) <|
  if t0 = 0 then
    ob (f_X10_refused 1 M) fun q18 =>
    chk (inR q18.1) <|
    if q18.1 = 0 then
      ob (f_X10_laysRing F v1 q18.2) fun q21 =>
      ob (f_X10_runsOf F v2 q21) fun q22 =>
      some (q22, q21)
    else
      some (0, q18.2)
  else
    ob (f_X10_isOf v2 v1 M) fun q5 =>
    chk (inR q5) <|
    if q5 = 0 then
      ob (f_X10_refused 2 M) fun q8 =>
      chk (inR q8.1) <|
      if q8.1 = 0 then
        ob (f_X10_laysRing F v1 q8.2) fun q11 =>
        ob (f_X10_runsOf F v2 q11) fun q12 =>
        some (q12, q11)
      else
        some (0, q8.2)
    else
      ob (f_X10_refused 0 M) fun q13 =>
      chk (inR q13.1) <|
      if q13.1 = 0 then
        ob (f_X10_laysRing F v1 q13.2) fun q16 =>
        ob (f_X10_runsOf F v2 q16) fun q17 =>
        some (q17, q16)
      else
        some (0, q13.2)
def f_X10_runs (F : Nat) (v1 : Int) (v2 : Int) (M : Mem) : Option (Int × Mem) :=
  ob (f_X10_isNode v1 M) fun q1 =>
  chk (inR q1) <|
  if q1 = 0 then
    f_X10_runs_21 F v1 v2 0 M
  else
    ob (f_X10_isLink v2 M) fun q23 =>
    chk (inR q23) <|
    if q23 = 0 then
      f_X10_runs_21 F v1 v2 0 M
    else
      f_X10_runs_21 F v1 v2 1 M
-- IntervalRouterModel.runEnd(IIIZ)I
def f_X10_runEnd_135 (F : Nat) (k110 : Int → Int → Int → Int → Mem → Option (Int × Mem)) (v2 : Int) (v4 : Int) (v6 : Int) (v7 : Int) (M : Mem) : Option (Int × Mem) :=
  chk (inR v2) <|
  chk (0 ≤ v6 ∧ v6 < 8) <|
  if M 70 v6 = v2 then
    ob (f_X10_beginsAt v6 M) fun q16 =>
    chk (inR q16) <|
    if q16 = 0 then
      k110 v2 v4 (v6 + 1) (v7 - 0) M
    else
      k110 v2 v4 (v6 + 1) (v7 - 1) M
  else
    k110 v2 v4 (v6 + 1) (v7 - 0) M
def f_X10_runEnd_171 (F : Nat) : Nat → Int → Int → Int → Mem → Option (Int × Mem)
  | 0, _, _, _, _ => none
  | fu + 1, v2, v4, v6, M =>
    chk (inR v2 ∧ inR v4) <|
    if v4 = 0 then
      chk (0 ≤ v6 ∧ v6 < 8) <|
      some (M 71 v6, M)
    else
      chk ((inR (v6 + 1) ∧ inR (M 64 10)) ∧ (0 : Int) ≤ v6 + 1 ∧ (0 : Int) < M 64 10) <|
      chk (0 ≤ (v6 + 1) % (M 64 10) ∧ (v6 + 1) % (M 64 10) < 8) <|
      if M 70 ((v6 + 1) % (M 64 10)) = v2 then
        f_X10_runEnd_171 F fu v2 v4 ((v6 + 1) % (M 64 10)) M
      else
        chk (0 ≤ v6 ∧ v6 < 8) <|
        some (M 71 v6, M)
def f_X10_runEnd_110 (F : Nat) : Nat → Int → Int → Int → Int → Mem → Option (Int × Mem)
  | 0, _, _, _, _, _ => none
  | fu + 1, v2, v4, v6, v7, M =>
    chk (inR v2 ∧ inR v7) <|
    chk (0 ≤ v6 ∧ v6 < 8) <|
    if M 70 v6 = v2 then
      ob (f_X10_beginsAt v6 M) fun q19 =>
      chk (inR q19) <|
      if q19 = 0 then
        f_X10_runEnd_135 F (f_X10_runEnd_110 F fu) v2 v4 v6 v7 M
      else
        if v7 ≤ 0 then
          f_X10_runEnd_171 F F v2 v4 v6 M
        else
          f_X10_runEnd_135 F (f_X10_runEnd_110 F fu) v2 v4 v6 v7 M
    else
      f_X10_runEnd_135 F (f_X10_runEnd_110 F fu) v2 v4 v6 v7 M
def f_X10_runEnd_67 (F : Nat) (v2 : Int) (v3 : Int) (v4 : Int) (M : Mem) : Option (Int × Mem) :=
  chk (inR v4) <|
  ob (f_X10_refused 1 M) fun q6 =>
  chk (inR q6.1) <|
  if q6.1 = 0 then
    ob (f_X10_isRound F q6.2) fun q9 =>
    chk (inR q9) <|
    if q9 = 0 then
      f_X10_runEnd_110 F F v2 v4 0 v3 q6.2
    else
      if v4 = 0 then
        some (q6.2 71 0, q6.2)
      else
        chk (0 ≤ (q6.2 64 10) - 1 ∧ (q6.2 64 10) - 1 < 8) <|
        some (q6.2 71 ((q6.2 64 10) - 1), q6.2)
  else
    some (0, q6.2)
def f_X10_runEnd_33 (F : Nat) (v1 : Int) (v2 : Int) (v3 : Int) (v4 : Int) (v5 : Int) (M : Mem) : Option (Int × Mem) :=
  chk (inR v4 ∧ inR v5) <|
  if v5 = 0 then
    f_X10_runEnd_67 F v2 v3 v4 M
  else
    ob (f_X10_isOf v2 v1 M) fun q31 =>
    chk (inR q31) <|
    if q31 = 0 then
      f_X10_runEnd_67 F v2 v3 v4 M
    else
      ob (f_X10_runsOf F v2 M) fun q34 =>
      ob (f_X10_within v3 0 (q34 - 1) M) fun q35 =>
      chk (inR q35) <|
      if q35 = 0 then
        f_X10_runEnd_67 F v2 v3 v4 M
      else
        ob (f_X10_refused 0 M) fun q38 =>
        chk (inR q38.1) <|
        if q38.1 = 0 then
          ob (f_X10_isRound F q38.2) fun q41 =>
          chk (inR q41) <|
          if q41 = 0 then
            f_X10_runEnd_110 F F v2 v4 0 v3 q38.2
          else
            if v4 = 0 then
              some (q38.2 71 0, q38.2)
            else
              chk (0 ≤ (q38.2 64 10) - 1 ∧ (q38.2 64 10) - 1 < 8) <|
              some (q38.2 71 ((q38.2 64 10) - 1), q38.2)
        else
          some (0, q38.2)
def f_X10_runEnd (F : Nat) (v1 : Int) (v2 : Int) (v3 : Int) (v4 : Int) (M : Mem) : Option (Int × Mem) :=
  ob (f_X10_isNode v1 M) fun q1 =>
  chk (inR q1) <|
  if q1 = 0 then
    f_X10_runEnd_33 F v1 v2 v3 v4 0 M
  else
    ob (f_X10_isLink v2 M) fun q46 =>
    chk (inR q46) <|
    if q46 = 0 then
      f_X10_runEnd_33 F v1 v2 v3 v4 0 M
    else
      ob (f_X10_laysRing F v1 M) fun q51 =>
      f_X10_runEnd_33 F v1 v2 v3 v4 1 q51
-- IntervalRouterModel.tableSize(I)I
def f_X10_tableSize (F : Nat) (v1 : Int) (M : Mem) : Option (Int × Mem) :=
  chk (inR v1) <|
  if v1 = (-1) then
    ob (f_X10_refused 0 M) fun q2 =>
    chk (inR q2.1) <|
    if q2.1 = 0 then
      if v1 = (-1) then
        ob (f_X10_netSize F q2.2) fun q8 =>
        some (q8.1, q8.2)
      else
        ob (f_X10_laysRing F v1 q2.2) fun q6 =>
        ob (f_X10_ringSize F q6) fun q7 =>
        some (q7, q6)
    else
      some (0, q2.2)
  else
    ob (f_X10_isNode v1 M) fun q9 =>
    chk (inR q9) <|
    if q9 = 0 then
      ob (f_X10_refused 1 M) fun q12 =>
      chk (inR q12.1) <|
      if q12.1 = 0 then
        if v1 = (-1) then
          ob (f_X10_netSize F q12.2) fun q18 =>
          some (q18.1, q18.2)
        else
          ob (f_X10_laysRing F v1 q12.2) fun q16 =>
          ob (f_X10_ringSize F q16) fun q17 =>
          some (q17, q16)
      else
        some (0, q12.2)
    else
      ob (f_X10_refused 0 M) fun q19 =>
      chk (inR q19.1) <|
      if q19.1 = 0 then
        if v1 = (-1) then
          ob (f_X10_netSize F q19.2) fun q25 =>
          some (q25.1, q25.2)
        else
          ob (f_X10_laysRing F v1 q19.2) fun q23 =>
          ob (f_X10_ringSize F q23) fun q24 =>
          some (q24, q23)
      else
        some (0, q19.2)
-- IntervalRouterModel.mostRuns()I
def f_X10_mostRuns_4 (F : Nat) : Nat → Int → Int → Mem → Option (Int × Mem)
  | 0, _, _, _ => none
  | fu + 1, v1, v2, M =>
    chk (inR v1 ∧ inR v2) <|
    if M 65 0 ≤ v2 then
      some (v1, M)
    else
      ob (f_X10_laysRing F v2 M) fun q2 =>
      ob (f_X10_ringMost F q2) fun q3 =>
      chk (inR q3) <|
      if q3 ≤ v1 then
        f_X10_mostRuns_4 F fu v1 (v2 + 1) q2
      else
        ob (f_X10_ringMost F q2) fun q6 =>
        f_X10_mostRuns_4 F fu q6 (v2 + 1) q2
def f_X10_mostRuns (F : Nat) (M : Mem) : Option (Int × Mem) :=
  f_X10_mostRuns_4 F F 0 0 M
-- IntervalRouterModel.compactness()I
def f_X10_compactness (F : Nat) (M : Mem) : Option (Int × Mem) :=
  ob (f_X10_mostRuns F (mset M 64 3 0)) fun q2 =>
  some (q2.1, q2.2)
-- IntervalRouterModel.bestSize(I)I
def f_X10_bestSize (F : Nat) (v1 : Int) (M : Mem) : Option (Int × Mem) :=
  ob (f_X10_isNode v1 M) fun q1 =>
  chk (inR q1) <|
  if q1 = 0 then
    ob (f_X10_refused 1 M) fun q4 =>
    chk (inR q4.1) <|
    if q4.1 = 0 then
      ob (f_X10_laysFar F q4.2) fun q7 =>
      ob (f_X10_laysBest F v1 q7) fun q8 =>
      ob (f_X10_ringSize F q8) fun q9 =>
      some (q9, q8)
    else
      some (0, q4.2)
  else
    ob (f_X10_refused 0 M) fun q10 =>
    chk (inR q10.1) <|
    if q10.1 = 0 then
      ob (f_X10_laysFar F q10.2) fun q13 =>
      ob (f_X10_laysBest F v1 q13) fun q14 =>
      ob (f_X10_ringSize F q14) fun q15 =>
      some (q15, q14)
    else
      some (0, q10.2)
-- IntervalRouterModel.checks(II)I
def f_X10_checks (F : Nat) (v1 : Int) (v2 : Int) (M : Mem) : Option (Int) :=
  chk (inR v1 ∧ inR v2) <|
  if v1 = v2 then
    some (0)
  else
    ob (f_X10_farFrom v1 v2 M) fun q2 =>
    chk (inR q2) <|
    if q2 = 1000 then
      some (4)
    else
      chk (0 ≤ 50 + v2 ∧ 50 + v2 < 140) <|
      ob (f_X10_entryAt v1 (M 65 (50 + v2)) M) fun q6 =>
      chk (inR q6) <|
      if q6 = (-1) then
        some (3)
      else
        ob (f_X10_good F v1 v2 M) fun q9 =>
        ob (f_X10_has q9 q6 M) fun q10 =>
        chk (inR q10) <|
        if q10 = 0 then
          some (2)
        else
          some (1)
-- IntervalRouterModel.check(II)I
def f_X10_check (F : Nat) (v1 : Int) (v2 : Int) (M : Mem) : Option (Int × Mem) :=
  ob (f_X10_isNode v1 M) fun q1 =>
  chk (inR q1) <|
  if q1 = 0 then
    ob (f_X10_refused 1 M) fun q4 =>
    chk (inR q4.1) <|
    if q4.1 = 0 then
      ob (f_X10_laysFar F q4.2) fun q7 =>
      ob (f_X10_checks F v1 v2 q7) fun q8 =>
      some (q8, q7)
    else
      some (0, q4.2)
  else
    ob (f_X10_isNode v2 M) fun q9 =>
    chk (inR q9) <|
    if q9 = 0 then
      ob (f_X10_refused 1 M) fun q12 =>
      chk (inR q12.1) <|
      if q12.1 = 0 then
        ob (f_X10_laysFar F q12.2) fun q15 =>
        ob (f_X10_checks F v1 v2 q15) fun q16 =>
        some (q16, q15)
      else
        some (0, q12.2)
    else
      ob (f_X10_refused 0 M) fun q17 =>
      chk (inR q17.1) <|
      if q17.1 = 0 then
        ob (f_X10_laysFar F q17.2) fun q20 =>
        ob (f_X10_checks F v1 v2 q20) fun q21 =>
        some (q21, q20)
      else
        some (0, q17.2)
-- IntervalRouterModel.checkedFor(I)I
def f_X10_checkedFor_17 (F : Nat) (k4 : Int → Int → Int → Mem → Option (Int)) : Nat → Int → Int → Int → Int → Mem → Option (Int)
  | 0, _, _, _, _, _ => none
  | fu + 1, v1, v2, v3, v4, M =>
    chk (inR v1 ∧ inR v4) <|
    if M 65 0 ≤ v4 then
      k4 v1 v2 (v3 + 1) M
    else
      ob (f_X10_checks F v3 v4 M) fun q3 =>
      chk (inR q3) <|
      if q3 = v1 then
        f_X10_checkedFor_17 F k4 fu v1 (v2 + 1) v3 (v4 + 1) M
      else
        f_X10_checkedFor_17 F k4 fu v1 (v2 + 0) v3 (v4 + 1) M
def f_X10_checkedFor_4 (F : Nat) : Nat → Int → Int → Int → Mem → Option (Int)
  | 0, _, _, _, _ => none
  | fu + 1, v1, v2, v3, M =>
    chk (inR v3) <|
    if M 65 0 ≤ v3 then
      some (v2)
    else
      f_X10_checkedFor_17 F (f_X10_checkedFor_4 F fu) F v1 v2 v3 0 M
def f_X10_checkedFor (F : Nat) (v1 : Int) (M : Mem) : Option (Int) :=
  f_X10_checkedFor_4 F F v1 0 0 M
-- IntervalRouterModel.checked(I)I
def f_X10_checked (F : Nat) (v1 : Int) (M : Mem) : Option (Int × Mem) :=
  ob (f_X10_within v1 0 4 M) fun q1 =>
  chk (inR q1) <|
  if q1 = 0 then
    ob (f_X10_refused 1 M) fun q4 =>
    chk (inR q4.1) <|
    if q4.1 = 0 then
      ob (f_X10_laysFar F q4.2) fun q7 =>
      ob (f_X10_checkedFor F v1 q7) fun q8 =>
      some (q8, q7)
    else
      some (0, q4.2)
  else
    ob (f_X10_refused 0 M) fun q9 =>
    chk (inR q9.1) <|
    if q9.1 = 0 then
      ob (f_X10_laysFar F q9.2) fun q12 =>
      ob (f_X10_checkedFor F v1 q12) fun q13 =>
      some (q13, q12)
    else
      some (0, q9.2)
-- IntervalRouterModel.lowestOther(II)I
def f_X10_lowestOther_2 (F : Nat) : Nat → Int → Int → Int → Mem → Option (Int)
  | 0, _, _, _, _ => none
  | fu + 1, v1, v2, v3, M =>
    chk (inR v2 ∧ inR v3) <|
    if M 65 1 ≤ v3 then
      some ((-1))
    else
      if v3 = v2 then
        f_X10_lowestOther_2 F fu v1 v2 (v3 + 1) M
      else
        ob (f_X10_isOf v3 v1 M) fun q3 =>
        chk (inR q3) <|
        if q3 = 0 then
          f_X10_lowestOther_2 F fu v1 v2 (v3 + 1) M
        else
          some (v3)
def f_X10_lowestOther (F : Nat) (v1 : Int) (v2 : Int) (M : Mem) : Option (Int) :=
  f_X10_lowestOther_2 F F v1 v2 0 M
-- IntervalRouterModel.goes(III)Z
def f_X10_goes_85 (F : Nat) (k25 : Int → Int → Int → Mem → Option (Int × Mem)) (v2 : Int) (v3 : Int) (v4 : Int) (t0 : Int) (M : Mem) : Option (Int × Mem) :=
  chk (inR t0) <|
  if t0 = (-1) then
    some (0, M)
  else
    ob (f_X10_otherEnd t0 v4 M) fun q14 =>
    ob (f_X10_part t0 2 (mset M 64 15 (bor (M 64 15) (bshl 1 t0)))) fun q16 =>
    chk (inR (((mset M 64 15 (bor (M 64 15) (bshl 1 t0))) 64 16) + q16)) <|
    chk (0 ≤ (mset (mset M 64 15 (bor (M 64 15) (bshl 1 t0))) 64 16 (((mset M 64 15 (bor (M 64 15) (bshl 1 t0))) 64 16) + q16)) 64 14 ∧ (mset (mset M 64 15 (bor (M 64 15) (bshl 1 t0))) 64 16 (((mset M 64 15 (bor (M 64 15) (bshl 1 t0))) 64 16) + q16)) 64 14 < 10) <|
    chk (inR q14) <|
    chk (inR (((mset (mset (mset M 64 15 (bor (M 64 15) (bshl 1 t0))) 64 16 (((mset M 64 15 (bor (M 64 15) (bshl 1 t0))) 64 16) + q16)) 74 ((mset (mset M 64 15 (bor (M 64 15) (bshl 1 t0))) 64 16 (((mset M 64 15 (bor (M 64 15) (bshl 1 t0))) 64 16) + q16)) 64 14) q14) 64 14) + 1)) <|
    k25 v2 v3 q14 (mset (mset (mset (mset M 64 15 (bor (M 64 15) (bshl 1 t0))) 64 16 (((mset M 64 15 (bor (M 64 15) (bshl 1 t0))) 64 16) + q16)) 74 ((mset (mset M 64 15 (bor (M 64 15) (bshl 1 t0))) 64 16 (((mset M 64 15 (bor (M 64 15) (bshl 1 t0))) 64 16) + q16)) 64 14) q14) 64 14 (((mset (mset (mset M 64 15 (bor (M 64 15) (bshl 1 t0))) 64 16 (((mset M 64 15 (bor (M 64 15) (bshl 1 t0))) 64 16) + q16)) 74 ((mset (mset M 64 15 (bor (M 64 15) (bshl 1 t0))) 64 16 (((mset M 64 15 (bor (M 64 15) (bshl 1 t0))) 64 16) + q16)) 64 14) q14) 64 14) + 1))
def f_X10_goes_25 (F : Nat) : Nat → Int → Int → Int → Mem → Option (Int × Mem)
  | 0, _, _, _, _ => none
  | fu + 1, v2, v3, v4, M =>
    chk (inR v2 ∧ inR v3 ∧ inR v4) <|
    if v4 = v2 then
      if v4 = v2 then
        some (1, M)
      else
        some (0, M)
    else
      if M 65 0 < M 64 14 then
        if v4 = v2 then
          some (1, M)
        else
          some (0, M)
      else
        chk (0 ≤ 50 + v2 ∧ 50 + v2 < 140) <|
        ob (f_X10_entryAt v4 (M 65 (50 + v2)) M) fun q10 =>
        chk (inR q10) <|
        if q10 = (-1) then
          f_X10_goes_85 F (f_X10_goes_25 F fu) v2 v3 v4 q10 M
        else
          if q10 = v3 then
            ob (f_X10_lowestOther F v4 v3 M) fun q25 =>
            f_X10_goes_85 F (f_X10_goes_25 F fu) v2 v3 v4 q25 M
          else
            f_X10_goes_85 F (f_X10_goes_25 F fu) v2 v3 v4 q10 M
def f_X10_goes (F : Nat) (v1 : Int) (v2 : Int) (v3 : Int) (M : Mem) : Option (Int × Mem) :=
  chk (inR v1) <|
  f_X10_goes_25 F F v2 v3 v1 (mset (mset (mset (mset M 74 0 v1) 64 14 1) 64 15 0) 64 16 0)
-- IntervalRouterModel.send(II)I
def f_X10_send (F : Nat) (v1 : Int) (v2 : Int) (M : Mem) : Option (Int × Mem) :=
  ob (f_X10_isNode v1 M) fun q1 =>
  chk (inR q1) <|
  if q1 = 0 then
    ob (f_X10_refused 1 M) fun q4 =>
    chk (inR q4.1) <|
    if q4.1 = 0 then
      ob (f_X10_goes F v1 v2 (-1) q4.2) fun q7 =>
      chk (inR q7.1) <|
      if q7.1 = 0 then
        some ((-1), q7.2)
      else
        some (q7.2 64 16, q7.2)
    else
      some (0, q4.2)
  else
    ob (f_X10_isNode v2 M) fun q10 =>
    chk (inR q10) <|
    if q10 = 0 then
      ob (f_X10_refused 1 M) fun q13 =>
      chk (inR q13.1) <|
      if q13.1 = 0 then
        ob (f_X10_goes F v1 v2 (-1) q13.2) fun q16 =>
        chk (inR q16.1) <|
        if q16.1 = 0 then
          some ((-1), q16.2)
        else
          some (q16.2 64 16, q16.2)
      else
        some (0, q13.2)
    else
      ob (f_X10_refused 0 M) fun q19 =>
      chk (inR q19.1) <|
      if q19.1 = 0 then
        ob (f_X10_goes F v1 v2 (-1) q19.2) fun q22 =>
        chk (inR q22.1) <|
        if q22.1 = 0 then
          some ((-1), q22.2)
        else
          some (q22.2 64 16, q22.2)
      else
        some (0, q19.2)
-- IntervalRouterModel.wayNode(III)I
def f_X10_wayNode_30 (F : Nat) (v1 : Int) (v2 : Int) (v3 : Int) (t1 : Int) (M : Mem) : Option (Int × Mem) :=
  chk (inR v3) <|
  ob (f_X10_refused t1 M) fun q4 =>
  chk (inR q4.1) <|
  if q4.1 = 0 then
    ob (f_X10_goes F v1 v2 (-1) q4.2) fun q7 =>
    if q7.2 64 14 ≤ v3 then
      some ((-1), q7.2)
    else
      chk (0 ≤ v3 ∧ v3 < 10) <|
      some (q7.2 74 v3, q7.2)
  else
    some (0, q4.2)
def f_X10_wayNode (F : Nat) (v1 : Int) (v2 : Int) (v3 : Int) (M : Mem) : Option (Int × Mem) :=
  chk (inR v3) <|
  ob (f_X10_isNode v1 M) fun q1 =>
  chk (inR q1) <|
  if q1 = 0 then
    f_X10_wayNode_30 F v1 v2 v3 1 M
  else
    ob (f_X10_isNode v2 M) fun q10 =>
    chk (inR q10) <|
    if q10 = 0 then
      f_X10_wayNode_30 F v1 v2 v3 1 M
    else
      if 0 ≤ v3 then
        f_X10_wayNode_30 F v1 v2 v3 0 M
      else
        f_X10_wayNode_30 F v1 v2 v3 2 M
-- IntervalRouterModel.arrivals()I
def f_X10_arrivals_16 (F : Nat) (k4 : Int → Int → Mem → Option (Int × Mem)) : Nat → Int → Int → Int → Mem → Option (Int × Mem)
  | 0, _, _, _, _ => none
  | fu + 1, v1, v2, v3, M =>
    chk (inR v2 ∧ inR v3) <|
    if M 65 0 ≤ v3 then
      k4 v1 (v2 + 1) M
    else
      if v2 = v3 then
        f_X10_arrivals_16 F k4 fu (v1 + 0) v2 (v3 + 1) M
      else
        ob (f_X10_goes F v2 v3 (-1) M) fun q4 =>
        chk (inR q4.1) <|
        if q4.1 = 0 then
          f_X10_arrivals_16 F k4 fu (v1 + 0) v2 (v3 + 1) q4.2
        else
          f_X10_arrivals_16 F k4 fu (v1 + 1) v2 (v3 + 1) q4.2
def f_X10_arrivals_4 (F : Nat) : Nat → Int → Int → Mem → Option (Int × Mem)
  | 0, _, _, _ => none
  | fu + 1, v1, v2, M =>
    chk (inR v2) <|
    if M 65 0 ≤ v2 then
      some (v1, M)
    else
      f_X10_arrivals_16 F (f_X10_arrivals_4 F fu) F v1 v2 0 M
def f_X10_arrivals (F : Nat) (M : Mem) : Option (Int × Mem) :=
  f_X10_arrivals_4 F F 0 0 M
-- IntervalRouterModel.arriving()I
def f_X10_arriving (F : Nat) (M : Mem) : Option (Int × Mem) :=
  ob (f_X10_arrivals F (mset M 64 3 0)) fun q2 =>
  some (q2.1, q2.2)
-- IntervalRouterModel.stretch()D
def f_X10_stretch_26 (F : Nat) (k13 : UInt64 → Int → Mem → Option (UInt64 × Mem)) : Nat → UInt64 → Int → Int → Mem → Option (UInt64 × Mem)
  | 0, _, _, _, _ => none
  | fu + 1, v1, v3, v4, M =>
    chk (inR v3 ∧ inR v4) <|
    if M 65 0 ≤ v4 then
      k13 v1 (v3 + 1) M
    else
      if v3 = v4 then
        f_X10_stretch_26 F k13 fu v1 v3 (v4 + 1) M
      else
        ob (f_X10_goes F v3 v4 (-1) M) fun q6 =>
        chk (inR q6.1) <|
        if q6.1 = 0 then
          f_X10_stretch_26 F k13 fu v1 v3 (v4 + 1) q6.2
        else
          ob (f_X10_farFrom v3 v4 q6.2) fun q9 =>
          chk (notNaN (FP.ddiv (FP.i2d (iI (q6.2 64 16))) (FP.i2d (iI q9)))) <|
          if (Op.cmpValue (FP.dcmp (FP.ddiv (FP.i2d (iI (q6.2 64 16))) (FP.i2d (iI q9))) v1) .l).toInt ≤ 0 then
            f_X10_stretch_26 F k13 fu v1 v3 (v4 + 1) q6.2
          else
            f_X10_stretch_26 F k13 fu (FP.ddiv (FP.i2d (iI (q6.2 64 16))) (FP.i2d (iI q9))) v3 (v4 + 1) q6.2
def f_X10_stretch_13 (F : Nat) : Nat → UInt64 → Int → Mem → Option (UInt64 × Mem)
  | 0, _, _, _ => none
  | fu + 1, v1, v3, M =>
    chk (inR v3) <|
    if M 65 0 ≤ v3 then
      some (v1, M)
    else
      f_X10_stretch_26 F (f_X10_stretch_13 F fu) F v1 v3 0 M
def f_X10_stretch (F : Nat) (M : Mem) : Option (UInt64 × Mem) :=
  ob (f_X10_laysFar F (mset M 64 3 0)) fun q2 =>
  f_X10_stretch_13 F F 0 0 q2
-- IntervalRouterModel.load(I)I
def f_X10_load_39 (F : Nat) (k26 : Int → Int → Int → Mem → Option (Int × Mem)) : Nat → Int → Int → Int → Int → Mem → Option (Int × Mem)
  | 0, _, _, _, _, _ => none
  | fu + 1, v1, v2, v3, v4, M =>
    chk (inR v3 ∧ inR v4) <|
    if M 65 0 ≤ v4 then
      k26 v1 v2 (v3 + 1) M
    else
      if v3 = v4 then
        f_X10_load_39 F k26 fu v1 (v2 + 0) v3 (v4 + 1) M
      else
        ob (f_X10_goes F v3 v4 (-1) M) fun q10 =>
        chk (inR q10.1) <|
        if q10.1 = 0 then
          f_X10_load_39 F k26 fu v1 (v2 + 0) v3 (v4 + 1) q10.2
        else
          ob (f_X10_has (q10.2 64 15) v1 q10.2) fun q13 =>
          chk (inR q13) <|
          if q13 = 0 then
            f_X10_load_39 F k26 fu v1 (v2 + 0) v3 (v4 + 1) q10.2
          else
            f_X10_load_39 F k26 fu v1 (v2 + 1) v3 (v4 + 1) q10.2
def f_X10_load_26 (F : Nat) : Nat → Int → Int → Int → Mem → Option (Int × Mem)
  | 0, _, _, _, _ => none
  | fu + 1, v1, v2, v3, M =>
    chk (inR v3) <|
    if M 65 0 ≤ v3 then
      some (v2, M)
    else
      f_X10_load_39 F (f_X10_load_26 F fu) F v1 v2 v3 0 M
def f_X10_load (F : Nat) (v1 : Int) (M : Mem) : Option (Int × Mem) :=
  ob (f_X10_isLink v1 M) fun q1 =>
  chk (inR q1) <|
  if q1 = 0 then
    ob (f_X10_refused 1 M) fun q4 =>
    chk (inR q4.1) <|
    if q4.1 = 0 then
      f_X10_load_26 F F v1 0 0 q4.2
    else
      some (0, q4.2)
  else
    ob (f_X10_refused 0 M) fun q16 =>
    chk (inR q16.1) <|
    if q16.1 = 0 then
      f_X10_load_26 F F v1 0 0 q16.2
    else
      some (0, q16.2)
-- IntervalRouterModel.lostWithout(I)I
def f_X10_lostWithout_39 (F : Nat) (k26 : Int → Int → Int → Mem → Option (Int × Mem)) : Nat → Int → Int → Int → Int → Mem → Option (Int × Mem)
  | 0, _, _, _, _, _ => none
  | fu + 1, v1, v2, v3, v4, M =>
    chk (inR v3 ∧ inR v4) <|
    if M 65 0 ≤ v4 then
      k26 v1 v2 (v3 + 1) M
    else
      if v3 = v4 then
        f_X10_lostWithout_39 F k26 fu v1 (v2 + 0) v3 (v4 + 1) M
      else
        ob (f_X10_goes F v3 v4 (-1) M) fun q10 =>
        chk (inR q10.1) <|
        if q10.1 = 0 then
          f_X10_lostWithout_39 F k26 fu v1 (v2 + 0) v3 (v4 + 1) q10.2
        else
          ob (f_X10_goes F v3 v4 v1 q10.2) fun q13 =>
          chk (inR q13.1) <|
          if q13.1 = 0 then
            f_X10_lostWithout_39 F k26 fu v1 (v2 + 1) v3 (v4 + 1) q13.2
          else
            f_X10_lostWithout_39 F k26 fu v1 (v2 + 0) v3 (v4 + 1) q13.2
def f_X10_lostWithout_26 (F : Nat) : Nat → Int → Int → Int → Mem → Option (Int × Mem)
  | 0, _, _, _, _ => none
  | fu + 1, v1, v2, v3, M =>
    chk (inR v3) <|
    if M 65 0 ≤ v3 then
      some (v2, M)
    else
      f_X10_lostWithout_39 F (f_X10_lostWithout_26 F fu) F v1 v2 v3 0 M
def f_X10_lostWithout (F : Nat) (v1 : Int) (M : Mem) : Option (Int × Mem) :=
  ob (f_X10_isLink v1 M) fun q1 =>
  chk (inR q1) <|
  if q1 = 0 then
    ob (f_X10_refused 1 M) fun q4 =>
    chk (inR q4.1) <|
    if q4.1 = 0 then
      f_X10_lostWithout_26 F F v1 0 0 q4.2
    else
      some (0, q4.2)
  else
    ob (f_X10_refused 0 M) fun q16 =>
    chk (inR q16.1) <|
    if q16.1 = 0 then
      f_X10_lostWithout_26 F F v1 0 0 q16.2
    else
      some (0, q16.2)
-- IntervalRouterModel.bestCompactness()I
def f_X10_bestCompactness (F : Nat) (M : Mem) : Option (Int × Mem) :=
  if M 65 0 ≤ 6 then
    ob (f_X10_refused 0 M) fun q2 =>
    chk (inR q2.1) <|
    if q2.1 = 0 then
      ob (f_X10_bestOf F q2.2) fun q5 =>
      some (q5.1, q5.2)
    else
      some (0, q2.2)
  else
    ob (f_X10_refused 1 M) fun q6 =>
    chk (inR q6.1) <|
    if q6.1 = 0 then
      ob (f_X10_bestOf F q6.2) fun q9 =>
      some (q9.1, q9.2)
    else
      some (0, q6.2)
-- IntervalRouterModel.labelings(I)I
def f_X10_labelings_49 (F : Nat) : Nat → Int → Int → Int → Mem → Option (Int × Mem)
  | 0, _, _, _, _ => none
  | fu + 1, v1, v3, v4, M =>
    chk (inR v1 ∧ inR v4) <|
    if v1 < v4 then
      some (v3, M)
    else
      chk (0 ≤ v4 ∧ v4 < 10) <|
      f_X10_labelings_49 F fu v1 (v3 + (M 77 v4)) (v4 + 1) M
def f_X10_labelings (F : Nat) (v1 : Int) (M : Mem) : Option (Int × Mem) :=
  ob (f_X10_within v1 0 9 M) fun q1 =>
  chk (inR q1) <|
  if q1 = 0 then
    ob (f_X10_refused 1 M) fun q15 =>
    chk (inR q15.1) <|
    if q15.1 = 0 then
      ob (f_X10_bestOf F q15.2) fun q18 =>
      f_X10_labelings_49 F F v1 0 0 q18.2
    else
      some (0, q15.2)
  else
    if M 65 0 ≤ 6 then
      ob (f_X10_refused 0 M) fun q5 =>
      chk (inR q5.1) <|
      if q5.1 = 0 then
        ob (f_X10_bestOf F q5.2) fun q8 =>
        f_X10_labelings_49 F F v1 0 0 q8.2
      else
        some (0, q5.2)
    else
      ob (f_X10_refused 2 M) fun q11 =>
      chk (inR q11.1) <|
      if q11.1 = 0 then
        ob (f_X10_bestOf F q11.2) fun q14 =>
        f_X10_labelings_49 F F v1 0 0 q14.2
      else
        some (0, q11.2)
-- IntervalRouterModel.append(I)I
def f_X10_append (v1 : Int) (M : Mem) : Option (Int × Mem) :=
  chk (inR v1) <|
  ob (f_X10_within v1 0 127 M) fun q1 =>
  chk (inR q1) <|
  if q1 = 0 then
    ob (f_X10_refused 1 M) fun q19 =>
    chk (inR q19.1) <|
    if q19.1 = 0 then
      chk (0 ≤ q19.2 64 5 ∧ q19.2 64 5 < 100) <|
      chk (inR (((mset q19.2 67 (q19.2 64 5) v1) 64 5) + 1)) <|
      some ((mset (mset q19.2 67 (q19.2 64 5) v1) 64 5 (((mset q19.2 67 (q19.2 64 5) v1) 64 5) + 1)) 64 5, mset (mset q19.2 67 (q19.2 64 5) v1) 64 5 (((mset q19.2 67 (q19.2 64 5) v1) 64 5) + 1))
    else
      some (0, q19.2)
  else
    if M 64 5 = 100 then
      ob (f_X10_refused 2 M) fun q12 =>
      chk (inR q12.1) <|
      if q12.1 = 0 then
        chk (0 ≤ q12.2 64 5 ∧ q12.2 64 5 < 100) <|
        chk (inR (((mset q12.2 67 (q12.2 64 5) v1) 64 5) + 1)) <|
        some ((mset (mset q12.2 67 (q12.2 64 5) v1) 64 5 (((mset q12.2 67 (q12.2 64 5) v1) 64 5) + 1)) 64 5, mset (mset q12.2 67 (q12.2 64 5) v1) 64 5 (((mset q12.2 67 (q12.2 64 5) v1) 64 5) + 1))
      else
        some (0, q12.2)
    else
      ob (f_X10_refused 0 M) fun q5 =>
      chk (inR q5.1) <|
      if q5.1 = 0 then
        chk (0 ≤ q5.2 64 5 ∧ q5.2 64 5 < 100) <|
        chk (inR (((mset q5.2 67 (q5.2 64 5) v1) 64 5) + 1)) <|
        some ((mset (mset q5.2 67 (q5.2 64 5) v1) 64 5 (((mset q5.2 67 (q5.2 64 5) v1) 64 5) + 1)) 64 5, mset (mset q5.2 67 (q5.2 64 5) v1) 64 5 (((mset q5.2 67 (q5.2 64 5) v1) 64 5) + 1))
      else
        some (0, q5.2)
-- IntervalRouterModel.clearText()I
def f_X10_clearText (M : Mem) : Option (Int × Mem) :=
  some ((mset M 64 3 0) 64 5, mset (mset M 64 3 0) 64 5 0)
-- IntervalRouterModel.isAt(II)Z
def f_X10_isAt (v1 : Int) (v2 : Int) (M : Mem) : Option (Int) :=
  if M 64 5 ≤ M 64 20 then
    some (0)
  else
    chk (0 ≤ M 64 20 ∧ M 64 20 < 100) <|
    ob (f_X10_within (M 67 (M 64 20)) v1 v2 M) fun q3 =>
    chk (inR q3) <|
    if q3 = 0 then
      some (0)
    else
      some (1)
-- IntervalRouterModel.takes(II)I
def f_X10_takes (v1 : Int) (v2 : Int) (M : Mem) : Option (Int × Mem) :=
  ob (f_X10_isAt (48 + v1) (48 + v2) M) fun q1 =>
  chk (inR q1) <|
  if q1 = 0 then
    some ((-1), M)
  else
    chk (inR ((M 64 20) + 1)) <|
    chk (0 ≤ ((mset M 64 20 ((M 64 20) + 1)) 64 20) - 1 ∧ ((mset M 64 20 ((M 64 20) + 1)) 64 20) - 1 < 100) <|
    some (((mset M 64 20 ((M 64 20) + 1)) 67 (((mset M 64 20 ((M 64 20) + 1)) 64 20) - 1)) - 48, mset M 64 20 ((M 64 20) + 1))
-- IntervalRouterModel.reads()Z
def f_X10_reads_51 (F : Nat) (t0 : Int) (M : Mem) : Option (Int × Mem) :=
  chk (inR t0) <|
  if t0 = (-1) then
    some (0, M)
  else
    ob (f_X10_takes 0 ((M 65 0) - 1) M) fun q9 =>
    chk (inR q9.1) <|
    if q9.1 = (-1) then
      some (0, q9.2)
    else
      if q9.1 = t0 then
        chk (inR ((q9.2 64 20) - 1)) <|
        some (0, mset q9.2 64 20 ((q9.2 64 20) - 1))
      else
        ob (f_X10_areJoined F t0 q9.1 q9.2) fun q15 =>
        chk (inR q15) <|
        if q15 = 0 then
          ob (f_X10_takes 1 9 q9.2) fun q18 =>
          chk (inR q18.1) <|
          if q18.1 = (-1) then
            if q18.1 = (-1) then
              some (0, q18.2)
            else
              some (1, q18.2)
          else
            ob (f_X10_joins t0 q9.1 q18.1 q18.2) fun q22 =>
            if q18.1 = (-1) then
              some (0, q22)
            else
              some (1, q22)
        else
          chk (inR ((q9.2 64 20) - 1)) <|
          some (0, mset q9.2 64 20 ((q9.2 64 20) - 1))
def f_X10_reads (F : Nat) (M : Mem) : Option (Int × Mem) :=
  ob (f_X10_isAt 59 59 M) fun q1 =>
  chk (inR q1) <|
  if q1 = 0 then
    some (0, M)
  else
    chk (inR ((M 64 20) + 1)) <|
    if (mset M 64 20 ((M 64 20) + 1)) 65 1 = 16 then
      f_X10_reads_51 F (-1) (mset M 64 20 ((M 64 20) + 1))
    else
      ob (f_X10_takes 0 (((mset M 64 20 ((M 64 20) + 1)) 65 0) - 1) (mset M 64 20 ((M 64 20) + 1))) fun q7 =>
      f_X10_reads_51 F q7.1 q7.2
-- IntervalRouterModel.parse()I
def f_X10_parse_149 (F : Nat) : Nat → Int → Mem → Option (Int × Mem)
  | 0, _, _ => none
  | fu + 1, v3, M =>
    chk (inR v3) <|
    if 140 ≤ v3 then
      some (M 65 1, M)
    else
      chk (0 ≤ v3 ∧ v3 < 140) <|
      f_X10_parse_149 F fu (v3 + 1) (mset M 65 v3 (M 78 v3))
def f_X10_parse_90 (F : Nat) : Nat → Int → Int → Mem → Option (Int × Mem)
  | 0, _, _, _ => none
  | fu + 1, v2, v3, M =>
    chk (inR v2 ∧ inR v3) <|
    if 140 ≤ v3 then
      if v2 = 0 then
        some ((-10) - (M 64 20), M)
      else
        ob (f_X10_saves F M) fun q11 =>
        f_X10_parse_149 F F 0 q11
    else
      chk (0 ≤ v3 ∧ v3 < 140) <|
      f_X10_parse_90 F fu v2 (v3 + 1) (mset (mset M 65 v3 (M 78 v3)) 78 v3 (M 65 v3))
def f_X10_parse_65 (F : Nat) : Nat → Int → Mem → Option (Int × Mem)
  | 0, _, _ => none
  | fu + 1, v2, M =>
    chk (inR v2) <|
    if v2 = 0 then
      f_X10_parse_90 F F v2 0 M
    else
      if M 64 5 ≤ M 64 20 then
        f_X10_parse_90 F F v2 0 M
      else
        ob (f_X10_reads F M) fun q19 =>
        f_X10_parse_65 F fu q19.1 q19.2
def f_X10_parse_7 (F : Nat) : Nat → Int → Mem → Option (Int × Mem)
  | 0, _, _ => none
  | fu + 1, v1, M =>
    chk (inR v1) <|
    if 140 ≤ v1 then
      ob (f_X10_takes 0 9 (mset M 64 20 0)) fun q4 =>
      chk (inR q4.1) <|
      if q4.1 = (-1) then
        f_X10_parse_65 F F 0 q4.2
      else
        ob (f_X10_begins F q4.1 q4.2) fun q21 =>
        f_X10_parse_65 F F 1 q21
    else
      chk (0 ≤ v1 ∧ v1 < 140) <|
      f_X10_parse_7 F fu (v1 + 1) (mset M 78 v1 (M 65 v1))
def f_X10_parse (F : Nat) (M : Mem) : Option (Int × Mem) :=
  f_X10_parse_7 F F 0 (mset M 64 3 0)
-- IntervalRouterModel.mix(I)V
def f_X10_mix (v1 : Int) (M : Mem) : Option (Mem) :=
  chk (inR v1) <|
  some (mset M 1064 22 ((31 * (M 1064 22)) + v1))
-- IntervalRouterModel.digest()J
def f_X10_digest_171 (F : Nat) : Nat → Int → Mem → Option (Int × Mem)
  | 0, _, _ => none
  | fu + 1, v1, M =>
    chk (inR v1) <|
    if 5 ≤ v1 then
      ob (f_X10_arrivals F M) fun q16 =>
      ob (f_X10_mix q16.1 q16.2) fun q17 =>
      ob (f_X10_mix (q17 64 2) q17) fun q18 =>
      some (q18 1064 22, q18)
    else
      ob (f_X10_checkedFor F v1 M) fun q19 =>
      ob (f_X10_mix q19 M) fun q20 =>
      f_X10_digest_171 F fu (v1 + 1) q20
def f_X10_digest_121 (F : Nat) (k109 : Int → Mem → Option (Int × Mem)) : Nat → Int → Int → Mem → Option (Int × Mem)
  | 0, _, _, _ => none
  | fu + 1, v1, v2, M =>
    chk (inR v2) <|
    if M 65 0 ≤ v2 then
      k109 (v1 + 1) M
    else
      ob (f_X10_entryAt v1 v2 M) fun q22 =>
      ob (f_X10_mix q22 M) fun q23 =>
      f_X10_digest_121 F k109 fu v1 (v2 + 1) q23
def f_X10_digest_109 (F : Nat) : Nat → Int → Mem → Option (Int × Mem)
  | 0, _, _ => none
  | fu + 1, v1, M =>
    chk (inR v1) <|
    if M 65 0 ≤ v1 then
      ob (f_X10_netSize F M) fun q11 =>
      ob (f_X10_mix q11.1 q11.2) fun q12 =>
      ob (f_X10_mostRuns F q12) fun q13 =>
      ob (f_X10_mix q13.1 q13.2) fun q14 =>
      f_X10_digest_171 F F 0 q14
    else
      f_X10_digest_121 F (f_X10_digest_109 F fu) F v1 0 M
def f_X10_digest_78 (F : Nat) : Nat → Int → Mem → Option (Int × Mem)
  | 0, _, _ => none
  | fu + 1, v1, M =>
    chk (inR v1) <|
    if M 65 0 ≤ v1 then
      f_X10_digest_109 F F 0 M
    else
      chk (0 ≤ 50 + v1 ∧ 50 + v1 < 140) <|
      ob (f_X10_mix (M 65 (50 + v1)) M) fun q25 =>
      f_X10_digest_78 F fu (v1 + 1) q25
def f_X10_digest_46 (F : Nat) : Nat → Int → Mem → Option (Int × Mem)
  | 0, _, _ => none
  | fu + 1, v1, M =>
    chk (inR v1) <|
    chk (inR (3 * (M 65 1))) <|
    if 3 * (M 65 1) ≤ v1 then
      f_X10_digest_78 F F 0 M
    else
      chk (0 ≤ 2 + v1 ∧ 2 + v1 < 140) <|
      ob (f_X10_mix (M 65 (2 + v1)) M) fun q27 =>
      f_X10_digest_46 F fu (v1 + 1) q27
def f_X10_digest (F : Nat) (M : Mem) : Option (Int × Mem) :=
  ob (f_X10_laysFar F (mset M 64 3 0)) fun q2 =>
  ob (f_X10_mix ((mset q2 1064 22 3083) 64 5) (mset q2 1064 22 3083)) fun q4 =>
  ob (f_X10_mix (q4 65 0) q4) fun q5 =>
  ob (f_X10_mix (q5 65 1) q5) fun q6 =>
  f_X10_digest_46 F F 0 q6
