/-! the pure functions, read off the bytecode -/
-- IntervalRouter$History.dropOldest()V
def f_X0_dropOldest_9 (F : Nat) : Nat → Nat → Int → Mem → Option (Mem)
  | 0, _, _, _ => none
  | fu + 1, a1, v2, M =>
    chk (inR (v2 + 1)) <|
    if 4 ≤ v2 + 1 then
      chk (shT[a1]? = some (.inl 6)) <|
      chk (inR (((mset M 14 3 ((a1 : Nat) : Int)) 13 0) - 1)) <|
      some (mset (mset M 14 3 ((a1 : Nat) : Int)) 13 0 (((mset M 14 3 ((a1 : Nat) : Int)) 13 0) - 1))
    else
      chk (0 ≤ v2 + 1 ∧ v2 + 1 < 4) <|
      chk (0 ≤ v2 ∧ v2 < 4) <|
      chk (shT[(M 14 (v2 + 1)).toNat]? = some (.inl 6)) <|
      f_X0_dropOldest_9 F fu a1 (v2 + 1) (mset M 14 v2 (((M 14 (v2 + 1)).toNat : Nat) : Int))
def f_X0_dropOldest (F : Nat) (M : Mem) : Option (Mem) :=
  f_X0_dropOldest_9 F F ((M 14 0).toNat) 0 M
-- IntervalRouter$State.copyFrom(LIntervalRouter$State;)V
def f_X6_copyFrom (r : Nat) (o : Nat) (M : Mem) : Option (Mem) :=
  some (mcpy (mcpy (mcpy (mcpy (mcpy (mset (mset M r 0 (M o 0)) r 1 ((mset M r 0 (M o 0)) o 1)) (o + 1) 0 (r + 1) 0 16) (o + 2) 0 (r + 2) 0 16) (o + 3) 0 (r + 3) 0 16) (o + 4) 0 (r + 4) 0 9) (o + 5) 0 (r + 5) 0 81)
-- IntervalRouter$History.save(LIntervalRouter$State;)V
def f_X0_save (F : Nat) (M : Mem) : Option (Mem) :=
  if M 13 0 = 4 then
    ob (f_X0_dropOldest F M) fun q7 =>
    chk (0 ≤ q7 13 0 ∧ q7 13 0 < 4) <|
    chk (shT[(q7 14 (q7 13 0)).toNat]? = some (.inl 6)) <|
    ob (f_X6_copyFrom ((q7 14 (q7 13 0)).toNat) 1 q7) fun q10 =>
    chk (inR ((q10 13 0) + 1)) <|
    some (mset q10 13 0 ((q10 13 0) + 1))
  else
    chk (0 ≤ M 13 0 ∧ M 13 0 < 4) <|
    chk (shT[(M 14 (M 13 0)).toNat]? = some (.inl 6)) <|
    ob (f_X6_copyFrom ((M 14 (M 13 0)).toNat) 1 M) fun q4 =>
    chk (inR ((q4 13 0) + 1)) <|
    some (mset q4 13 0 ((q4 13 0) + 1))
-- IntervalRouter$History.restore(LIntervalRouter$State;)V
def f_X0_restore (M : Mem) : Option (Mem) :=
  chk (inR ((M 13 0) - 1)) <|
  chk (0 ≤ (mset M 13 0 ((M 13 0) - 1)) 13 0 ∧ (mset M 13 0 ((M 13 0) - 1)) 13 0 < 4) <|
  chk (shT[((mset M 13 0 ((M 13 0) - 1)) 14 ((mset M 13 0 ((M 13 0) - 1)) 13 0)).toNat]? = some (.inl 6)) <|
  ob (f_X6_copyFrom 1 (((mset M 13 0 ((M 13 0) - 1)) 14 ((mset M 13 0 ((M 13 0) - 1)) 13 0)).toNat) (mset M 13 0 ((M 13 0) - 1))) fun q5 =>
  some q5
-- IntervalRouter$State.touches(II)Z
def f_X6_touches (r : Nat) (v1 : Int) (v2 : Int) (M : Mem) : Option (Int) :=
  chk (inR v2) <|
  chk (0 ≤ v1 ∧ v1 < 16) <|
  if M (r + 1) v1 = v2 then
    some (1)
  else
    if M (r + 2) v1 = v2 then
      some (1)
    else
      some (0)
-- IntervalRouter$State.otherEnd(II)I
def f_X6_otherEnd (r : Nat) (v1 : Int) (v2 : Int) (M : Mem) : Option (Int) :=
  chk (inR v2) <|
  chk (0 ≤ v1 ∧ v1 < 16) <|
  if M (r + 1) v1 = v2 then
    some (M (r + 2) v1)
  else
    some (M (r + 1) v1)
-- IntervalRouter$Labeler.firstUnlabeled(LIntervalRouter$State;I)I
def f_X1_firstUnlabeled_2 (F : Nat) : Nat → Int → Int → Mem → Option (Int)
  | 0, _, _, _ => none
  | fu + 1, v1, v2, M =>
    chk (inR v2) <|
    if M 1 1 ≤ v2 then
      some ((-1))
    else
      ob (f_X6_touches 1 v2 v1 M) fun q2 =>
      chk (inR q2) <|
      if q2 = 0 then
        f_X1_firstUnlabeled_2 F fu v1 (v2 + 1) M
      else
        ob (f_X6_otherEnd 1 v2 v1 M) fun q5 =>
        chk (0 ≤ q5 ∧ q5 < 9) <|
        if M 5 q5 = (-1) then
          ob (f_X6_otherEnd 1 v2 v1 M) fun q8 =>
          some (q8)
        else
          f_X1_firstUnlabeled_2 F fu v1 (v2 + 1) M
def f_X1_firstUnlabeled (F : Nat) (v1 : Int) (M : Mem) : Option (Int) :=
  f_X1_firstUnlabeled_2 F F v1 0 M
-- IntervalRouter$Labeler.labelTheRest(LIntervalRouter$State;I)V
def f_X1_labelTheRest_4 (F : Nat) : Nat → Int → Int → Mem → Option (Mem)
  | 0, _, _, _ => none
  | fu + 1, v2, v3, M =>
    chk (inR v2 ∧ inR v3) <|
    if M 1 0 ≤ v3 then
      some M
    else
      chk (0 ≤ v3 ∧ v3 < 9) <|
      if M 5 v3 = (-1) then
        f_X1_labelTheRest_4 F fu (v2 + 1) (v3 + 1) (mset M 5 v3 v2)
      else
        f_X1_labelTheRest_4 F fu v2 (v3 + 1) M
def f_X1_labelTheRest (F : Nat) (v1 : Int) (M : Mem) : Option (Mem) :=
  f_X1_labelTheRest_4 F F v1 0 M
-- IntervalRouter$Labeler.depthFirst(LIntervalRouter$State;I)V
def f_X1_depthFirst_45 (F : Nat) : Nat → Int → Int → Int → Mem → Option (Mem)
  | 0, _, _, _, _ => none
  | fu + 1, v3, v4, v5, M =>
    chk (inR v3 ∧ inR v4 ∧ inR v5) <|
    if 18 ≤ v5 then
      ob (f_X1_labelTheRest F v3 M) fun q6 =>
      some q6
    else
      if v4 = (-1) then
        ob (f_X1_labelTheRest F v3 M) fun q8 =>
        some q8
      else
        ob (f_X1_firstUnlabeled F v4 M) fun q9 =>
        chk (inR q9) <|
        if q9 = (-1) then
          chk (0 ≤ v4 ∧ v4 < 9) <|
          f_X1_depthFirst_45 F fu v3 (M 61 v4) (v5 + 1) M
        else
          chk (0 ≤ q9 ∧ q9 < 9) <|
          f_X1_depthFirst_45 F fu (v3 + 1) q9 (v5 + 1) (mset (mset M 61 q9 v4) 5 q9 v3)
def f_X1_depthFirst_2 (F : Nat) : Nat → Int → Int → Mem → Option (Mem)
  | 0, _, _, _ => none
  | fu + 1, v2, v3, M =>
    chk (inR v3) <|
    if M 1 0 ≤ v3 then
      chk (0 ≤ v2 ∧ v2 < 9) <|
      f_X1_depthFirst_45 F F 1 v2 0 (mset (mset M 5 v2 0) 61 v2 (-1))
    else
      chk (0 ≤ v3 ∧ v3 < 9) <|
      f_X1_depthFirst_2 F fu v2 (v3 + 1) (mset M 5 v3 (-1))
def f_X1_depthFirst (F : Nat) (v2 : Int) (M : Mem) : Option (Mem) :=
  f_X1_depthFirst_2 F F v2 0 M
-- IntervalRouter$Ways.between(II)I
def f_X8_between (v1 : Int) (v2 : Int) (M : Mem) : Option (Int) :=
  chk (0 ≤ (v1 * 9) + v2 ∧ (v1 * 9) + v2 < 81) <|
  some (M 40 ((v1 * 9) + v2))
-- IntervalRouter$Labeler.byRank(LIntervalRouter$State;LIntervalRouter$Ways;I)V
def f_X1_byRank_18 (F : Nat) (k3 : Int → Int → Mem → Option (Mem)) : Nat → Int → Int → Int → Int → Mem → Option (Mem)
  | 0, _, _, _, _, _ => none
  | fu + 1, v3, v4, v5, v6, M =>
    chk (inR v4 ∧ inR v5 ∧ inR v6) <|
    if M 1 0 ≤ v6 then
      chk (0 ≤ v4 ∧ v4 < 9) <|
      k3 v3 (v4 + 1) (mset M 5 v4 v5)
    else
      ob (f_X8_between v3 v6 M) fun q5 =>
      ob (f_X8_between v3 v4 M) fun q6 =>
      chk (inR (q5 - q6)) <|
      if q5 - q6 < 0 then
        f_X1_byRank_18 F k3 fu v3 v4 (v5 + 1) (v6 + 1) M
      else
        if q5 - q6 = 0 then
          if v4 ≤ v6 then
            f_X1_byRank_18 F k3 fu v3 v4 v5 (v6 + 1) M
          else
            f_X1_byRank_18 F k3 fu v3 v4 (v5 + 1) (v6 + 1) M
        else
          f_X1_byRank_18 F k3 fu v3 v4 v5 (v6 + 1) M
def f_X1_byRank_3 (F : Nat) : Nat → Int → Int → Mem → Option (Mem)
  | 0, _, _, _ => none
  | fu + 1, v3, v4, M =>
    chk (inR v4) <|
    if M 1 0 ≤ v4 then
      some M
    else
      f_X1_byRank_18 F (f_X1_byRank_3 F fu) F v3 v4 0 0 M
def f_X1_byRank (F : Nat) (v3 : Int) (M : Mem) : Option (Mem) :=
  f_X1_byRank_3 F F v3 0 M
-- IntervalRouter$State.resetLabels()V
def f_X6_resetLabels_2 (F : Nat) (r : Nat) : Nat → Int → Mem → Option (Mem)
  | 0, _, _ => none
  | fu + 1, v1, M =>
    chk (inR v1) <|
    if M r 0 ≤ v1 then
      some M
    else
      chk (0 ≤ v1 ∧ v1 < 9) <|
      f_X6_resetLabels_2 F r fu (v1 + 1) (mset M (r + 4) v1 v1)
def f_X6_resetLabels (F : Nat) (r : Nat) (M : Mem) : Option (Mem) :=
  f_X6_resetLabels_2 F r F 0 M
-- IntervalRouter$State.exchangeLabels(II)V
def f_X6_exchangeLabels (r : Nat) (v1 : Int) (v2 : Int) (M : Mem) : Option (Mem) :=
  chk (0 ≤ v1 ∧ v1 < 9) <|
  chk (0 ≤ v2 ∧ v2 < 9) <|
  some (mset (mset M (r + 4) v1 (M (r + 4) v2)) (r + 4) v2 (M (r + 4) v1))
-- IntervalRouter$Labeler.atRandom(LIntervalRouter$State;I)V
def f_X1_atRandom_15 (F : Nat) : Nat → Int → Int → Mem → Option (Mem)
  | 0, _, _, _ => none
  | fu + 1, v3, v5, M =>
    chk (inR v5) <|
    if v5 < 1 then
      some M
    else
      chk ((inL ((1103515245 * v3) + 12345) ∧ inL 2147483648) ∧ (0 : Int) ≤ (1103515245 * v3) + 12345 ∧ (0 : Int) < 2147483648) <|
      chk ((inL (((1103515245 * v3) + 12345) % 2147483648) ∧ inL 65536) ∧ (0 : Int) ≤ ((1103515245 * v3) + 12345) % 2147483648 ∧ (0 : Int) < 65536) <|
      chk (inR (v5 + 1)) <|
      chk ((inL ((((1103515245 * v3) + 12345) % 2147483648) / 65536) ∧ inL (v5 + 1)) ∧ (0 : Int) ≤ (((1103515245 * v3) + 12345) % 2147483648) / 65536 ∧ (0 : Int) < v5 + 1) <|
      ob (f_X6_exchangeLabels 1 v5 (((((1103515245 * v3) + 12345) % 2147483648) / 65536) % (v5 + 1)) M) fun q7 =>
      f_X1_atRandom_15 F fu (((1103515245 * v3) + 12345) % 2147483648) (v5 + (-1)) q7
def f_X1_atRandom (F : Nat) (v2 : Int) (M : Mem) : Option (Mem) :=
  chk (inR v2) <|
  ob (f_X6_resetLabels F 1 M) fun q1 =>
  f_X1_atRandom_15 F F v2 ((q1 1 0) - 1) q1
-- IntervalRouter$State.entryAt(II)I
def f_X6_entryAt (r : Nat) (v1 : Int) (v2 : Int) (M : Mem) : Option (Int) :=
  chk (0 ≤ (v1 * 9) + v2 ∧ (v1 * 9) + v2 < 81) <|
  some (M (r + 5) ((v1 * 9) + v2))
-- IntervalRouter$State.lowestLinkBut(II)I
def f_X6_lowestLinkBut_2 (F : Nat) (r : Nat) : Nat → Int → Int → Int → Mem → Option (Int)
  | 0, _, _, _, _ => none
  | fu + 1, v1, v2, v3, M =>
    chk (inR v1 ∧ inR v3) <|
    if M r 1 ≤ v3 then
      some ((-1))
    else
      if v3 = v1 then
        f_X6_lowestLinkBut_2 F r fu v1 v2 (v3 + 1) M
      else
        ob (f_X6_touches r v3 v2 M) fun q3 =>
        chk (inR q3) <|
        if q3 = 0 then
          f_X6_lowestLinkBut_2 F r fu v1 v2 (v3 + 1) M
        else
          some (v3)
def f_X6_lowestLinkBut (F : Nat) (r : Nat) (v1 : Int) (v2 : Int) (M : Mem) : Option (Int) :=
  f_X6_lowestLinkBut_2 F r F v1 v2 0 M
-- IntervalRouter$Letter.travel(LIntervalRouter$State;III)V
def f_X2_travel_75 (F : Nat) (k23 : Int → Int → Int → Int → Mem → Option (Mem)) (v3 : Int) (v4 : Int) (v5 : Int) (v6 : Int) (v7 : Int) (M : Mem) : Option (Mem) :=
  chk (inR v3 ∧ inR v5 ∧ inR v7) <|
  if v7 = (-1) then
    if v5 = v3 then
      some (mset M 57 0 1)
    else
      some (mset M 57 0 0)
  else
    ob (f_X6_otherEnd 1 v7 v5 M) fun q17 =>
    chk (0 ≤ v6 ∧ v6 < 9) <|
    chk (0 ≤ v6 + 1 ∧ v6 + 1 < 10) <|
    chk (inR q17) <|
    chk (inR (((mset (mset M 59 v6 v7) 58 (v6 + 1) q17) 57 2) + 1)) <|
    chk (0 ≤ v7 ∧ v7 < 16) <|
    chk (inR (((mset (mset (mset M 59 v6 v7) 58 (v6 + 1) q17) 57 2 (((mset (mset M 59 v6 v7) 58 (v6 + 1) q17) 57 2) + 1)) 57 1) + ((mset (mset (mset M 59 v6 v7) 58 (v6 + 1) q17) 57 2 (((mset (mset M 59 v6 v7) 58 (v6 + 1) q17) 57 2) + 1)) 4 v7))) <|
    k23 v3 v4 q17 (v6 + 1) (mset (mset (mset (mset M 59 v6 v7) 58 (v6 + 1) q17) 57 2 (((mset (mset M 59 v6 v7) 58 (v6 + 1) q17) 57 2) + 1)) 57 1 (((mset (mset (mset M 59 v6 v7) 58 (v6 + 1) q17) 57 2 (((mset (mset M 59 v6 v7) 58 (v6 + 1) q17) 57 2) + 1)) 57 1) + ((mset (mset (mset M 59 v6 v7) 58 (v6 + 1) q17) 57 2 (((mset (mset M 59 v6 v7) 58 (v6 + 1) q17) 57 2) + 1)) 4 v7)))
def f_X2_travel_23 (F : Nat) : Nat → Int → Int → Int → Int → Mem → Option (Mem)
  | 0, _, _, _, _, _ => none
  | fu + 1, v3, v4, v5, v6, M =>
    chk (inR v3 ∧ inR v4 ∧ inR v5 ∧ inR v6) <|
    if M 1 0 ≤ v6 then
      if v5 = v3 then
        some (mset M 57 0 1)
      else
        some (mset M 57 0 0)
    else
      if v5 = v3 then
        if v5 = v3 then
          some (mset M 57 0 1)
        else
          some (mset M 57 0 0)
      else
        chk (0 ≤ v3 ∧ v3 < 9) <|
        ob (f_X6_entryAt 1 v5 (M 5 v3) M) fun q13 =>
        chk (inR q13) <|
        if q13 = (-1) then
          f_X2_travel_75 F (f_X2_travel_23 F fu) v3 v4 v5 v6 q13 M
        else
          if q13 = v4 then
            ob (f_X6_lowestLinkBut F 1 v4 v5 M) fun q32 =>
            f_X2_travel_75 F (f_X2_travel_23 F fu) v3 v4 v5 v6 q32 M
          else
            f_X2_travel_75 F (f_X2_travel_23 F fu) v3 v4 v5 v6 q13 M
def f_X2_travel (F : Nat) (v2 : Int) (v3 : Int) (v4 : Int) (M : Mem) : Option (Mem) :=
  chk (inR v2) <|
  f_X2_travel_23 F F v3 v4 v2 0 (mset (mset (mset M 58 0 v2) 57 2 1) 57 1 0)
-- IntervalRouter$Letter.wentOver(I)Z
def f_X2_wentOver_2 (F : Nat) : Nat → Int → Int → Mem → Option (Int)
  | 0, _, _, _ => none
  | fu + 1, v1, v2, M =>
    chk (inR v1 ∧ inR v2) <|
    chk (inR ((M 57 2) - 1)) <|
    if (M 57 2) - 1 ≤ v2 then
      some (0)
    else
      chk (0 ≤ v2 ∧ v2 < 9) <|
      if M 59 v2 = v1 then
        some (1)
      else
        f_X2_wentOver_2 F fu v1 (v2 + 1) M
def f_X2_wentOver (F : Nat) (v1 : Int) (M : Mem) : Option (Int) :=
  f_X2_wentOver_2 F F v1 0 M
-- IntervalRouter$NetworkText.put(I)V
def f_X3_put (v1 : Int) (M : Mem) : Option (Mem) :=
  chk (inR v1) <|
  chk (0 ≤ M 62 0 ∧ M 62 0 < 100) <|
  chk (inR (((mset M 63 (M 62 0) v1) 62 0) + 1)) <|
  some (mset (mset M 63 (M 62 0) v1) 62 0 (((mset M 63 (M 62 0) v1) 62 0) + 1))
-- IntervalRouter$NetworkText.digitAt(I)I
def f_X3_digitAt (v1 : Int) (M : Mem) : Option (Int) :=
  chk (inR v1) <|
  if M 62 0 ≤ v1 then
    some ((-1))
  else
    chk (0 ≤ v1 ∧ v1 < 100) <|
    if M 63 v1 < 48 then
      some ((-1))
    else
      if M 63 v1 ≤ 57 then
        some ((M 63 v1) - 48)
      else
        some ((-1))
-- java/util/Arrays.fill([II)V
def f_J7_fill_53178_5 (F : Nat) (a : Nat) : Nat → Int → Int → Int → Mem → Option (Mem)
  | 0, _, _, _, _ => none
  | fu + 1, v1, v2, v3, M =>
    chk (inR v1 ∧ inR v2 ∧ inR v3) <|
    if v3 ≤ v2 then
      some M
    else
      chk (0 ≤ v2 ∧ v2 < (alen a : Int)) <|
      f_J7_fill_53178_5 F a fu v1 (v2 + 1) v3 (mset M a v2 v1)
def f_J7_fill_53178 (F : Nat) (a : Nat) (v1 : Int) (M : Mem) : Option (Mem) :=
  f_J7_fill_53178_5 F a F v1 0 (alen a : Int) M
-- IntervalRouter$State.clearEntries()V
def f_X6_clearEntries (F : Nat) (r : Nat) (M : Mem) : Option (Mem) :=
  ob (f_J7_fill_53178 F (r + 5) (-1) M) fun q1 =>
  some q1
-- IntervalRouter$State.start(I)V
def f_X6_start (F : Nat) (r : Nat) (v1 : Int) (M : Mem) : Option (Mem) :=
  chk (inR v1) <|
  ob (f_X6_resetLabels F r (mset (mset M r 0 v1) r 1 0)) fun q3 =>
  ob (f_X6_clearEntries F r q3) fun q4 =>
  some q4
-- IntervalRouter$State.joined(II)Z
def f_X6_joined_2 (F : Nat) (r : Nat) : Nat → Int → Int → Int → Mem → Option (Int)
  | 0, _, _, _, _ => none
  | fu + 1, v1, v2, v3, M =>
    chk (inR v2 ∧ inR v3) <|
    if M r 1 ≤ v3 then
      some (0)
    else
      ob (f_X6_touches r v3 v1 M) fun q2 =>
      chk (inR q2) <|
      if q2 = 0 then
        f_X6_joined_2 F r fu v1 v2 (v3 + 1) M
      else
        ob (f_X6_otherEnd r v3 v1 M) fun q5 =>
        chk (inR q5) <|
        if q5 = v2 then
          some (1)
        else
          f_X6_joined_2 F r fu v1 v2 (v3 + 1) M
def f_X6_joined (F : Nat) (r : Nat) (v1 : Int) (v2 : Int) (M : Mem) : Option (Int) :=
  f_X6_joined_2 F r F v1 v2 0 M
-- IntervalRouter$State.join(III)V
def f_X6_join (r : Nat) (v1 : Int) (v2 : Int) (v3 : Int) (M : Mem) : Option (Mem) :=
  chk (inR v1 ∧ inR v2 ∧ inR v3) <|
  chk (0 ≤ M r 1 ∧ M r 1 < 16) <|
  chk (0 ≤ (mset M (r + 1) (M r 1) v1) r 1 ∧ (mset M (r + 1) (M r 1) v1) r 1 < 16) <|
  chk (0 ≤ (mset (mset M (r + 1) (M r 1) v1) (r + 2) ((mset M (r + 1) (M r 1) v1) r 1) v2) r 1 ∧ (mset (mset M (r + 1) (M r 1) v1) (r + 2) ((mset M (r + 1) (M r 1) v1) r 1) v2) r 1 < 16) <|
  chk (inR (((mset (mset (mset M (r + 1) (M r 1) v1) (r + 2) ((mset M (r + 1) (M r 1) v1) r 1) v2) (r + 3) ((mset (mset M (r + 1) (M r 1) v1) (r + 2) ((mset M (r + 1) (M r 1) v1) r 1) v2) r 1) v3) r 1) + 1)) <|
  some (mset (mset (mset (mset M (r + 1) (M r 1) v1) (r + 2) ((mset M (r + 1) (M r 1) v1) r 1) v2) (r + 3) ((mset (mset M (r + 1) (M r 1) v1) (r + 2) ((mset M (r + 1) (M r 1) v1) r 1) v2) r 1) v3) r 1 (((mset (mset (mset M (r + 1) (M r 1) v1) (r + 2) ((mset M (r + 1) (M r 1) v1) r 1) v2) (r + 3) ((mset (mset M (r + 1) (M r 1) v1) (r + 2) ((mset M (r + 1) (M r 1) v1) r 1) v2) r 1) v3) r 1) + 1))
-- IntervalRouter$NetworkText.readLink(LIntervalRouter$State;I)I
def f_X3_readLink (F : Nat) (v2 : Int) (M : Mem) : Option (Int × Mem) :=
  chk (0 ≤ v2 ∧ v2 < 100) <|
  if M 63 v2 = 59 then
    ob (f_X3_digitAt (v2 + 1) M) fun q3 =>
    chk (inR q3) <|
    if q3 = (-1) then
      some (v2 + 1, M)
    else
      if M 7 0 ≤ q3 then
        some (v2 + 1, M)
      else
        if M 7 1 < 16 then
          ob (f_X3_digitAt (v2 + 2) M) fun q8 =>
          chk (inR q8) <|
          if q8 = (-1) then
            some (v2 + 2, M)
          else
            if M 7 0 ≤ q8 then
              some (v2 + 2, M)
            else
              if q8 = q3 then
                some (v2 + 2, M)
              else
                ob (f_X6_joined F 7 q3 q8 M) fun q13 =>
                chk (inR q13) <|
                if q13 = 0 then
                  ob (f_X3_digitAt (v2 + 3) M) fun q16 =>
                  chk (inR q16) <|
                  if 1 ≤ q16 then
                    ob (f_X6_join 7 q3 q8 q16 M) fun q19 =>
                    some ((-1), q19)
                  else
                    some (v2 + 3, M)
                else
                  some (v2 + 2, M)
        else
          some (v2 + 1, M)
  else
    some (v2, M)
-- IntervalRouter$NetworkText.readInto(LIntervalRouter$State;)I
def f_X3_readInto_20 (F : Nat) : Nat → Int → Mem → Option (Int × Mem)
  | 0, _, _ => none
  | fu + 1, v3, M =>
    chk (inR v3) <|
    if M 62 0 ≤ v3 then
      some ((-1), M)
    else
      ob (f_X3_readLink F v3 M) fun q6 =>
      chk (inR q6.1) <|
      if q6.1 = (-1) then
        f_X3_readInto_20 F fu (v3 + 4) q6.2
      else
        some (q6.1, q6.2)
def f_X3_readInto (F : Nat) (M : Mem) : Option (Int × Mem) :=
  ob (f_X3_digitAt 0 M) fun q1 =>
  chk (inR q1) <|
  if q1 = (-1) then
    some (0, M)
  else
    ob (f_X6_start F 7 q1 M) fun q4 =>
    f_X3_readInto_20 F F 1 q4
-- IntervalRouter$Ring.labelAt(II)I
def f_X4_labelAt (v0 : Int) (v1 : Int) (M : Mem) : Option (Int) :=
  chk (inR v0 ∧ inR v1) <|
  if v1 ≤ v0 then
    some (v0 + 1)
  else
    some (v0)
-- IntervalRouter$Ring.read(LIntervalRouter$State;I)V
def f_X4_read_12 (F : Nat) (r : Nat) : Nat → Int → Int → Mem → Option (Mem)
  | 0, _, _, _ => none
  | fu + 1, v2, v3, M =>
    chk (inR v3) <|
    if M r 0 ≤ v3 then
      some M
    else
      chk (0 ≤ v2 ∧ v2 < 9) <|
      ob (f_X4_labelAt v3 (M 5 v2) M) fun q5 =>
      ob (f_X6_entryAt 1 v2 q5 M) fun q6 =>
      chk (0 ≤ v3 ∧ v3 < 9) <|
      chk (inR q6) <|
      f_X4_read_12 F r fu v2 (v3 + 1) (mset M (r + 1) v3 q6)
def f_X4_read (F : Nat) (r : Nat) (v2 : Int) (M : Mem) : Option (Mem) :=
  chk (inR ((M 1 0) - 1)) <|
  f_X4_read_12 F r F v2 0 (mset M r 0 ((M 1 0) - 1))
-- IntervalRouter$Ring.allEqual()Z
def f_X4_allEqual_2 (F : Nat) (r : Nat) : Nat → Int → Mem → Option (Int)
  | 0, _, _ => none
  | fu + 1, v1, M =>
    chk (inR v1) <|
    if M r 0 ≤ v1 then
      some (1)
    else
      chk (0 ≤ v1 ∧ v1 < 9) <|
      if M (r + 1) v1 = M (r + 1) 0 then
        f_X4_allEqual_2 F r fu (v1 + 1) M
      else
        some (0)
def f_X4_allEqual (F : Nat) (r : Nat) (M : Mem) : Option (Int) :=
  f_X4_allEqual_2 F r F 1 M
-- IntervalRouter$Ring.runBeginsAt(I)Z
def f_X4_runBeginsAt (F : Nat) (r : Nat) (v1 : Int) (M : Mem) : Option (Int) :=
  chk (inR v1) <|
  chk (0 ≤ v1 ∧ v1 < 9) <|
  if M (r + 1) v1 = (-1) then
    some (0)
  else
    if v1 = 0 then
      chk (0 ≤ (M r 0) - 1 ∧ (M r 0) - 1 < 9) <|
      if M (r + 1) ((M r 0) - 1) = M (r + 1) v1 then
        if v1 = 0 then
          ob (f_X4_allEqual F r M) fun q13 =>
          chk (inR q13) <|
          if q13 = 0 then
            some (0)
          else
            some (1)
        else
          some (0)
      else
        some (1)
    else
      chk (0 ≤ v1 - 1 ∧ v1 - 1 < 9) <|
      if M (r + 1) (v1 - 1) = M (r + 1) v1 then
        if v1 = 0 then
          ob (f_X4_allEqual F r M) fun q7 =>
          chk (inR q7) <|
          if q7 = 0 then
            some (0)
          else
            some (1)
        else
          some (0)
      else
        some (1)
-- IntervalRouter$Ring.runsOf(I)I
def f_X4_runsOf_4 (F : Nat) (r : Nat) : Nat → Int → Int → Int → Mem → Option (Int)
  | 0, _, _, _, _ => none
  | fu + 1, v1, v2, v3, M =>
    chk (inR v1 ∧ inR v3) <|
    if M r 0 ≤ v3 then
      some (v2)
    else
      chk (0 ≤ v3 ∧ v3 < 9) <|
      if M (r + 1) v3 = v1 then
        ob (f_X4_runBeginsAt F r v3 M) fun q4 =>
        chk (inR q4) <|
        if q4 = 0 then
          f_X4_runsOf_4 F r fu v1 v2 (v3 + 1) M
        else
          f_X4_runsOf_4 F r fu v1 (v2 + 1) (v3 + 1) M
      else
        f_X4_runsOf_4 F r fu v1 v2 (v3 + 1) M
def f_X4_runsOf (F : Nat) (r : Nat) (v1 : Int) (M : Mem) : Option (Int) :=
  f_X4_runsOf_4 F r F v1 0 0 M
-- IntervalRouter$Ring.allRuns()I
def f_X4_allRuns_4 (F : Nat) (r : Nat) : Nat → Int → Int → Mem → Option (Int)
  | 0, _, _, _ => none
  | fu + 1, v1, v2, M =>
    chk (inR v2) <|
    if M r 0 ≤ v2 then
      some (v1)
    else
      ob (f_X4_runBeginsAt F r v2 M) fun q2 =>
      chk (inR q2) <|
      if q2 = 0 then
        f_X4_allRuns_4 F r fu v1 (v2 + 1) M
      else
        f_X4_allRuns_4 F r fu (v1 + 1) (v2 + 1) M
def f_X4_allRuns (F : Nat) (r : Nat) (M : Mem) : Option (Int) :=
  f_X4_allRuns_4 F r F 0 0 M
-- IntervalRouter$Ring.mostRuns()I
def f_X4_mostRuns_4 (F : Nat) (r : Nat) : Nat → Int → Int → Mem → Option (Int)
  | 0, _, _, _ => none
  | fu + 1, v1, v2, M =>
    chk (inR v1 ∧ inR v2) <|
    if M r 0 ≤ v2 then
      some (v1)
    else
      chk (0 ≤ v2 ∧ v2 < 9) <|
      ob (f_X4_runsOf F r (M (r + 1) v2) M) fun q3 =>
      chk (inR q3) <|
      f_X4_mostRuns_4 F r fu (imax v1 q3) (v2 + 1) M
def f_X4_mostRuns (F : Nat) (r : Nat) (M : Mem) : Option (Int) :=
  f_X4_mostRuns_4 F r F 0 0 M
-- IntervalRouter$Ring.beginningOf(II)I
def f_X4_beginningOf_5 (F : Nat) (r : Nat) : Nat → Int → Int → Int → Int → Mem → Option (Int)
  | 0, _, _, _, _, _ => none
  | fu + 1, v1, v2, v3, v4, M =>
    chk (inR v1 ∧ inR v2 ∧ inR v3 ∧ inR v4) <|
    if M r 0 ≤ v4 then
      some ((-1))
    else
      chk (0 ≤ v4 ∧ v4 < 9) <|
      if M (r + 1) v4 = v1 then
        ob (f_X4_runBeginsAt F r v4 M) fun q4 =>
        chk (inR q4) <|
        if q4 = 0 then
          f_X4_beginningOf_5 F r fu v1 v2 v3 (v4 + 1) M
        else
          if v3 = v2 then
            some (v4)
          else
            f_X4_beginningOf_5 F r fu v1 v2 (v3 + 1) (v4 + 1) M
      else
        f_X4_beginningOf_5 F r fu v1 v2 v3 (v4 + 1) M
def f_X4_beginningOf (F : Nat) (r : Nat) (v1 : Int) (v2 : Int) (M : Mem) : Option (Int) :=
  f_X4_beginningOf_5 F r F v1 v2 0 0 M
-- IntervalRouter$Ring.endOfRunAt(I)I
def f_X4_endOfRunAt_4 (F : Nat) (r : Nat) : Nat → Int → Int → Int → Mem → Option (Int)
  | 0, _, _, _, _ => none
  | fu + 1, v1, v2, v3, M =>
    chk (inR v3) <|
    if M r 0 ≤ v3 then
      some (v2)
    else
      chk (inR (v2 + 1)) <|
      if M r 0 ≤ v2 + 1 then
        chk (0 ≤ v1 ∧ v1 < 9) <|
        if M (r + 1) 0 = M (r + 1) v1 then
          f_X4_endOfRunAt_4 F r fu v1 0 (v3 + 1) M
        else
          some (v2)
      else
        chk (0 ≤ v2 + 1 ∧ v2 + 1 < 9) <|
        chk (0 ≤ v1 ∧ v1 < 9) <|
        if M (r + 1) (v2 + 1) = M (r + 1) v1 then
          f_X4_endOfRunAt_4 F r fu v1 (v2 + 1) (v3 + 1) M
        else
          some (v2)
def f_X4_endOfRunAt (F : Nat) (r : Nat) (v1 : Int) (M : Mem) : Option (Int) :=
  f_X4_endOfRunAt_4 F r F v1 v1 1 M
-- IntervalRouter$Search.forget()V
def f_X5_forget (M : Mem) : Option (Mem) :=
  some (mset M 51 2 0)
-- IntervalRouter$TableMaker.seat([II)V
def f_X7_seat_7 (F : Nat) (a : Nat) : Nat → Int → Int → Mem → Option (Mem)
  | 0, _, _, _ => none
  | fu + 1, v2, v3, M =>
    chk (inR v2 ∧ inR v3) <|
    if v2 ≤ v3 then
      some M
    else
      chk (0 ≤ v3 ∧ v3 < (alen a : Int)) <|
      chk (0 ≤ M a v3 ∧ M a v3 < 9) <|
      f_X7_seat_7 F a fu v2 (v3 + 1) (mset M 47 (M a v3) v3)
def f_X7_seat (F : Nat) (a : Nat) (v2 : Int) (M : Mem) : Option (Mem) :=
  chk (inR v2) <|
  f_X7_seat_7 F a F v2 0 (mset M 46 0 v2)
-- IntervalRouter$Ways.copyChoices(II[II)I
def f_X8_copyChoices_11 (F : Nat) : Nat → Int → Int → Int → Mem → Option (Int × Mem)
  | 0, _, _, _, _ => none
  | fu + 1, v4, v5, v6, M =>
    chk (inR v6) <|
    chk (0 ≤ v5 ∧ v5 < 81) <|
    if M 43 v5 ≤ v6 then
      some (M 43 v5, M)
    else
      chk (0 ≤ (v5 * 8) + v6 ∧ (v5 * 8) + v6 < 648) <|
      chk (0 ≤ v4 + v6 ∧ v4 + v6 < 72) <|
      f_X8_copyChoices_11 F fu v4 v5 (v6 + 1) (mset M 49 (v4 + v6) (M 42 ((v5 * 8) + v6)))
def f_X8_copyChoices (F : Nat) (v1 : Int) (v2 : Int) (v4 : Int) (M : Mem) : Option (Int × Mem) :=
  f_X8_copyChoices_11 F F v4 ((v1 * 9) + v2) 0 M
-- IntervalRouter$TableMaker.step(II)I
def f_X7_step (v0 : Int) (v1 : Int) (M : Mem) : Option (Int) :=
  chk (inR v0 ∧ inR v1) <|
  if v1 = (-1) then
    some (0)
  else
    if v1 = v0 then
      some (0)
    else
      some (1)
-- IntervalRouter$TableMaker.cheapestAt(II)I
def f_X7_cheapestAt_7 (F : Nat) : Nat → Int → Int → Int → Int → Mem → Option (Int)
  | 0, _, _, _, _, _ => none
  | fu + 1, v1, v2, v3, v4, M =>
    chk (inR v3 ∧ inR v4) <|
    chk (0 ≤ v1 ∧ v1 < 9) <|
    if M 48 v1 ≤ v4 then
      some (v3)
    else
      chk (0 ≤ (v1 * 8) + v4 ∧ (v1 * 8) + v4 < 72) <|
      ob (f_X7_step v2 (M 49 ((v1 * 8) + v4)) M) fun q4 =>
      chk (inR (q4 + (M 50 ((v1 * 8) + v4)))) <|
      f_X7_cheapestAt_7 F fu v1 v2 (imin v3 (q4 + (M 50 ((v1 * 8) + v4)))) (v4 + 1) M
def f_X7_cheapestAt (F : Nat) (v1 : Int) (v2 : Int) (M : Mem) : Option (Int) :=
  f_X7_cheapestAt_7 F F v1 v2 1000 0 M
-- IntervalRouter$TableMaker.priceBeginningWith(II)V
def f_X7_priceBeginningWith_11 (F : Nat) (k4 : Int → Int → Int → Mem → Option (Mem)) : Nat → Int → Int → Int → Int → Mem → Option (Mem)
  | 0, _, _, _, _, _ => none
  | fu + 1, v1, v2, v3, v4, M =>
    chk (inR v3 ∧ inR v4) <|
    chk (0 ≤ v3 ∧ v3 < 9) <|
    if M 48 v3 ≤ v4 then
      k4 v1 v2 (v3 + (-1)) M
    else
      chk (inR (v2 - 1)) <|
      if v3 = v2 - 1 then
        chk (0 ≤ (v3 * 8) + v4 ∧ (v3 * 8) + v4 < 72) <|
        ob (f_X7_step (M 49 ((v3 * 8) + v4)) v1 M) fun q11 =>
        chk (inR q11) <|
        f_X7_priceBeginningWith_11 F k4 fu v1 v2 v3 (v4 + 1) (mset M 50 ((v3 * 8) + v4) q11)
      else
        chk (0 ≤ (v3 * 8) + v4 ∧ (v3 * 8) + v4 < 72) <|
        ob (f_X7_cheapestAt F (v3 + 1) (M 49 ((v3 * 8) + v4)) M) fun q7 =>
        chk (inR q7) <|
        f_X7_priceBeginningWith_11 F k4 fu v1 v2 v3 (v4 + 1) (mset M 50 ((v3 * 8) + v4) q7)
def f_X7_priceBeginningWith_4 (F : Nat) : Nat → Int → Int → Int → Mem → Option (Mem)
  | 0, _, _, _, _ => none
  | fu + 1, v1, v2, v3, M =>
    chk (inR v3) <|
    if v3 < 0 then
      some M
    else
      f_X7_priceBeginningWith_11 F (f_X7_priceBeginningWith_4 F fu) F v1 v2 v3 0 M
def f_X7_priceBeginningWith (F : Nat) (v1 : Int) (v2 : Int) (M : Mem) : Option (Mem) :=
  f_X7_priceBeginningWith_4 F F v1 v2 (v2 - 1) M
-- IntervalRouter$TableMaker.follow(ILIntervalRouter$Ring;)V
def f_X7_follow_45 (F : Nat) (t : Nat) (k22 : Int → Int → Mem → Option (Mem)) : Nat → Int → Int → Int → Int → Mem → Option (Mem)
  | 0, _, _, _, _, _ => none
  | fu + 1, v3, v4, v5, v6, M =>
    chk (inR v3 ∧ inR v6) <|
    chk (0 ≤ v4 ∧ v4 < 9) <|
    if M 48 v4 ≤ v6 then
      k22 v3 (v4 + 1) M
    else
      chk (0 ≤ (v4 * 8) + v6 ∧ (v4 * 8) + v6 < 72) <|
      ob (f_X7_step v5 (M 49 ((v4 * 8) + v6)) M) fun q8 =>
      chk (inR (q8 + (M 50 ((v4 * 8) + v6)))) <|
      if q8 + (M 50 ((v4 * 8) + v6)) = v3 then
        k22 ((mset M (t + 1) v4 (M 49 ((v4 * 8) + v6))) 50 ((v4 * 8) + v6)) (v4 + 1) (mset M (t + 1) v4 (M 49 ((v4 * 8) + v6)))
      else
        f_X7_follow_45 F t k22 fu v3 v4 v5 (v6 + 1) M
def f_X7_follow_22 (F : Nat) (t : Nat) : Nat → Int → Int → Mem → Option (Mem)
  | 0, _, _, _ => none
  | fu + 1, v3, v4, M =>
    chk (inR v4) <|
    if M t 0 ≤ v4 then
      some M
    else
      chk (0 ≤ v4 - 1 ∧ v4 - 1 < 9) <|
      f_X7_follow_45 F t (f_X7_follow_22 F t fu) F v3 v4 (M (t + 1) (v4 - 1)) 0 M
def f_X7_follow (F : Nat) (t : Nat) (v1 : Int) (M : Mem) : Option (Mem) :=
  chk (0 ≤ v1 ∧ v1 < 72) <|
  f_X7_follow_22 F t F ((mset M (t + 1) 0 (M 49 v1)) 50 v1) 1 (mset M (t + 1) 0 (M 49 v1))
-- IntervalRouter$TableMaker.fill(LIntervalRouter$Ways;IILIntervalRouter$Ring;)V
def f_X7_fill_83 (F : Nat) (t : Nat) : Nat → Int → Int → Mem → Option (Mem)
  | 0, _, _, _ => none
  | fu + 1, v5, v6, M =>
    chk (inR v5 ∧ inR v6) <|
    if M 48 0 ≤ v6 then
      some M
    else
      chk (0 ≤ v6 ∧ v6 < 72) <|
      ob (f_X7_priceBeginningWith F (M 49 v6) (M t 0) M) fun q7 =>
      if v5 ≤ q7 50 v6 then
        f_X7_fill_83 F t fu v5 (v6 + 1) q7
      else
        ob (f_X7_follow F t v6 q7) fun q9 =>
        f_X7_fill_83 F t fu (q7 50 v6) (v6 + 1) q9
def f_X7_fill_23 (F : Nat) (t : Nat) : Nat → Int → Int → Int → Mem → Option (Mem)
  | 0, _, _, _, _ => none
  | fu + 1, v2, v3, v5, M =>
    chk (inR v5) <|
    if M t 0 ≤ v5 then
      f_X7_fill_83 F t F 1000 0 M
    else
      ob (f_X4_labelAt v5 v3 M) fun q10 =>
      chk (0 ≤ q10 ∧ q10 < 9) <|
      ob (f_X8_copyChoices F v2 (M 47 q10) (v5 * 8) M) fun q12 =>
      chk (0 ≤ v5 ∧ v5 < 9) <|
      chk (inR q12.1) <|
      f_X7_fill_23 F t fu v2 v3 (v5 + 1) (mset q12.2 48 v5 q12.1)
def f_X7_fill (F : Nat) (t : Nat) (v2 : Int) (v3 : Int) (M : Mem) : Option (Mem) :=
  chk (inR ((M 46 0) - 1)) <|
  if 0 < (mset M t 0 ((M 46 0) - 1)) t 0 then
    f_X7_fill_23 F t F v2 v3 0 (mset M t 0 ((M 46 0) - 1))
  else
    some (mset M t 0 ((M 46 0) - 1))
-- IntervalRouter$Search.evaluate(LIntervalRouter$Ways;ILIntervalRouter$TableMaker;)V
def f_X5_evaluate_22 (F : Nat) : Nat → Int → Int → Mem → Option (Mem)
  | 0, _, _, _ => none
  | fu + 1, v2, v4, M =>
    chk (inR v2 ∧ inR v4) <|
    if v2 ≤ v4 then
      some M
    else
      chk (0 ≤ v4 ∧ v4 < 6) <|
      ob (f_X7_fill F 55 v4 (M 52 v4) M) fun q6 =>
      ob (f_X4_mostRuns F 55 q6) fun q7 =>
      chk (inR q7) <|
      ob (f_X4_allRuns F 55 (mset q6 51 3 (imax (q6 51 3) q7))) fun q10 =>
      chk (inR (((mset q6 51 3 (imax (q6 51 3) q7)) 51 4) + q10)) <|
      f_X5_evaluate_22 F fu v2 (v4 + 1) (mset (mset q6 51 3 (imax (q6 51 3) q7)) 51 4 (((mset q6 51 3 (imax (q6 51 3) q7)) 51 4) + q10))
def f_X5_evaluate (F : Nat) (v2 : Int) (M : Mem) : Option (Mem) :=
  ob (f_X7_seat F 52 v2 M) fun q1 =>
  f_X5_evaluate_22 F F v2 0 (mset (mset q1 51 3 0) 51 4 0)
-- IntervalRouter$Search.note(I)V
def f_X5_note_22 (v1 : Int) (M : Mem) : Option (Mem) :=
  if M 51 3 < M 51 0 then
    chk ((0 : Int) ≤ 0 ∧ (0 : Int) ≤ 0 ∧ (0 : Int) ≤ v1 ∧ 0 + v1 ≤ 6 ∧ 0 + v1 ≤ 6) <|
    some (mcpy (mset (mset M 51 0 (M 51 3)) 51 1 ((mset M 51 0 (M 51 3)) 51 4)) 52 0 53 0 v1)
  else
    if M 51 3 = M 51 0 then
      if M 51 1 ≤ M 51 4 then
        some M
      else
        chk ((0 : Int) ≤ 0 ∧ (0 : Int) ≤ 0 ∧ (0 : Int) ≤ v1 ∧ 0 + v1 ≤ 6 ∧ 0 + v1 ≤ 6) <|
        some (mcpy (mset (mset M 51 0 (M 51 3)) 51 1 ((mset M 51 0 (M 51 3)) 51 4)) 52 0 53 0 v1)
    else
      some M
def f_X5_note (v1 : Int) (M : Mem) : Option (Mem) :=
  if 9 < M 51 3 then
    f_X5_note_22 v1 M
  else
    chk (0 ≤ M 51 3 ∧ M 51 3 < 10) <|
    chk (inR ((M 54 (M 51 3)) + 1)) <|
    f_X5_note_22 v1 (mset M 54 (M 51 3) ((M 54 (M 51 3)) + 1))
-- IntervalRouter$Search.exchange(II)V
def f_X5_exchange (v1 : Int) (v2 : Int) (M : Mem) : Option (Mem) :=
  chk (0 ≤ v1 ∧ v1 < 6) <|
  chk (0 ≤ v2 ∧ v2 < 6) <|
  some (mset (mset M 52 v1 (M 52 v2)) 52 v2 (M 52 v1))
-- IntervalRouter$Search.nextTrial(I)Z
def f_X5_nextTrial_103 (F : Nat) : Nat → Int → Int → Mem → Option (Int × Mem)
  | 0, _, _, _ => none
  | fu + 1, v4, v5, M =>
    chk (inR v4 ∧ inR v5) <|
    if v5 ≤ v4 then
      some (1, M)
    else
      ob (f_X5_exchange v4 v5 M) fun q6 =>
      f_X5_nextTrial_103 F fu (v4 + 1) (v5 + (-1)) q6
def f_X5_nextTrial_56 (F : Nat) : Nat → Int → Int → Int → Int → Mem → Option (Int × Mem)
  | 0, _, _, _, _, _ => none
  | fu + 1, v1, v2, v3, v4, M =>
    chk (inR v1 ∧ inR v4) <|
    if v1 ≤ v4 then
      ob (f_X5_exchange v2 v3 M) fun q4 =>
      f_X5_nextTrial_103 F F (v2 + 1) (v1 - 1) q4
    else
      chk (0 ≤ v4 ∧ v4 < 6) <|
      chk (0 ≤ v2 ∧ v2 < 6) <|
      if M 52 v4 ≤ M 52 v2 then
        f_X5_nextTrial_56 F fu v1 v2 v3 (v4 + 1) M
      else
        f_X5_nextTrial_56 F fu v1 v2 v4 (v4 + 1) M
def f_X5_nextTrial_6 (F : Nat) : Nat → Int → Int → Int → Mem → Option (Int × Mem)
  | 0, _, _, _, _ => none
  | fu + 1, v1, v2, v3, M =>
    chk (inR v1 ∧ inR v2 ∧ inR v3) <|
    if v1 ≤ v3 then
      if 0 ≤ v2 then
        f_X5_nextTrial_56 F F v1 v2 (v2 + 1) (v2 + 2) M
      else
        some (0, M)
    else
      if v2 < 0 then
        if 0 ≤ v2 then
          f_X5_nextTrial_56 F F v1 v2 (v2 + 1) (v2 + 2) M
        else
          some (0, M)
      else
        chk (0 ≤ v2 ∧ v2 < 6) <|
        chk (0 ≤ v2 + 1 ∧ v2 + 1 < 6) <|
        if M 52 v2 ≤ M 52 (v2 + 1) then
          if 0 ≤ v2 then
            f_X5_nextTrial_56 F F v1 v2 (v2 + 1) (v2 + 2) M
          else
            some (0, M)
        else
          f_X5_nextTrial_6 F fu v1 (v2 + (-1)) (v3 + 1) M
def f_X5_nextTrial (F : Nat) (v1 : Int) (M : Mem) : Option (Int × Mem) :=
  f_X5_nextTrial_6 F F v1 (v1 - 2) 0 M
-- IntervalRouter$Search.ensure(LIntervalRouter$Ways;ILIntervalRouter$TableMaker;)V
def f_X5_ensure_58 (F : Nat) : Nat → Int → Int → Int → Mem → Option (Mem)
  | 0, _, _, _, _ => none
  | fu + 1, v2, v4, v5, M =>
    chk (inR v4 ∧ inR v5) <|
    if 720 ≤ v5 then
      some M
    else
      if v4 = 0 then
        some M
      else
        ob (f_X5_evaluate F v2 M) fun q8 =>
        ob (f_X5_note v2 q8) fun q9 =>
        ob (f_X5_nextTrial F v2 q9) fun q10 =>
        f_X5_ensure_58 F fu v2 q10.1 (v5 + 1) q10.2
def f_X5_ensure_31 (F : Nat) : Nat → Int → Int → Mem → Option (Mem)
  | 0, _, _, _ => none
  | fu + 1, v2, v4, M =>
    chk (inR v2 ∧ inR v4) <|
    if v2 ≤ v4 then
      f_X5_ensure_58 F F v2 1 0 M
    else
      chk (0 ≤ v4 ∧ v4 < 6) <|
      f_X5_ensure_31 F fu v2 (v4 + 1) (mset M 52 v4 v4)
def f_X5_ensure (F : Nat) (v2 : Int) (M : Mem) : Option (Mem) :=
  if M 51 2 = 0 then
    ob (f_J7_fill_53178 F 54 0 (mset (mset M 51 2 1) 51 0 1000)) fun q4 =>
    f_X5_ensure_31 F F v2 0 q4
  else
    some M
-- IntervalRouter$Search.countUpTo(I)I
def f_X5_countUpTo_4 (F : Nat) : Nat → Int → Int → Int → Mem → Option (Int)
  | 0, _, _, _, _ => none
  | fu + 1, v1, v2, v3, M =>
    chk (inR v1 ∧ inR v3) <|
    if v1 < v3 then
      some (v2)
    else
      chk (0 ≤ v3 ∧ v3 < 10) <|
      f_X5_countUpTo_4 F fu v1 (v2 + (M 54 v3)) (v3 + 1) M
def f_X5_countUpTo (F : Nat) (v1 : Int) (M : Mem) : Option (Int) :=
  f_X5_countUpTo_4 F F v1 0 0 M
-- IntervalRouter$Search.copyBest(LIntervalRouter$State;)V
def f_X5_copyBest (M : Mem) : Option (Mem) :=
  chk ((0 : Int) ≤ 0 ∧ (0 : Int) ≤ 0 ∧ (0 : Int) ≤ M 1 0 ∧ 0 + (M 1 0) ≤ 6 ∧ 0 + (M 1 0) ≤ 9) <|
  some (mcpy M 53 0 5 0 (M 1 0))
-- IntervalRouter$State.drop(I)V
def f_X6_drop_2 (F : Nat) (r : Nat) : Nat → Int → Mem → Option (Mem)
  | 0, _, _ => none
  | fu + 1, v2, M =>
    chk (inR (v2 + 1)) <|
    if M r 1 ≤ v2 + 1 then
      chk (inR ((M r 1) - 1)) <|
      some (mset M r 1 ((M r 1) - 1))
    else
      chk (0 ≤ v2 + 1 ∧ v2 + 1 < 16) <|
      chk (0 ≤ v2 ∧ v2 < 16) <|
      f_X6_drop_2 F r fu (v2 + 1) (mset (mset (mset M (r + 1) v2 (M (r + 1) (v2 + 1))) (r + 2) v2 ((mset M (r + 1) v2 (M (r + 1) (v2 + 1))) (r + 2) (v2 + 1))) (r + 3) v2 ((mset (mset M (r + 1) v2 (M (r + 1) (v2 + 1))) (r + 2) v2 ((mset M (r + 1) v2 (M (r + 1) (v2 + 1))) (r + 2) (v2 + 1))) (r + 3) (v2 + 1)))
def f_X6_drop (F : Nat) (r : Nat) (v1 : Int) (M : Mem) : Option (Mem) :=
  f_X6_drop_2 F r F v1 M
-- IntervalRouter$State.linkValue(II)I
def f_X6_linkValue (r : Nat) (v1 : Int) (v2 : Int) (M : Mem) : Option (Int) :=
  chk (inR v2) <|
  if v2 = 2 then
    chk (0 ≤ v1 ∧ v1 < 16) <|
    some (M (r + 3) v1)
  else
    if v2 = 0 then
      chk (0 ≤ v1 ∧ v1 < 16) <|
      some (M (r + 1) v1)
    else
      chk (0 ≤ v1 ∧ v1 < 16) <|
      some (M (r + 2) v1)
-- IntervalRouter$State.degree(I)I
def f_X6_degree_4 (F : Nat) (r : Nat) : Nat → Int → Int → Int → Mem → Option (Int)
  | 0, _, _, _, _ => none
  | fu + 1, v1, v2, v3, M =>
    chk (inR v3) <|
    if M r 1 ≤ v3 then
      some (v2)
    else
      ob (f_X6_touches r v3 v1 M) fun q2 =>
      chk (inR q2) <|
      if q2 = 0 then
        f_X6_degree_4 F r fu v1 v2 (v3 + 1) M
      else
        f_X6_degree_4 F r fu v1 (v2 + 1) (v3 + 1) M
def f_X6_degree (F : Nat) (r : Nat) (v1 : Int) (M : Mem) : Option (Int) :=
  f_X6_degree_4 F r F v1 0 0 M
-- IntervalRouter$State.holder(I)I
def f_X6_holder_2 (F : Nat) (r : Nat) : Nat → Int → Int → Mem → Option (Int)
  | 0, _, _, _ => none
  | fu + 1, v1, v2, M =>
    chk (inR v1 ∧ inR v2) <|
    if M r 0 ≤ v2 then
      some ((-1))
    else
      chk (0 ≤ v2 ∧ v2 < 9) <|
      if M (r + 4) v2 = v1 then
        some (v2)
      else
        f_X6_holder_2 F r fu v1 (v2 + 1) M
def f_X6_holder (F : Nat) (r : Nat) (v1 : Int) (M : Mem) : Option (Int) :=
  f_X6_holder_2 F r F v1 0 M
-- IntervalRouter$State.storeTable(ILIntervalRouter$Ring;)V
def f_X6_storeTable_2 (F : Nat) (r : Nat) : Nat → Int → Int → Mem → Option (Mem)
  | 0, _, _, _ => none
  | fu + 1, v1, v3, M =>
    chk (inR v3) <|
    if M 44 0 ≤ v3 then
      some M
    else
      chk (0 ≤ v1 ∧ v1 < 9) <|
      ob (f_X4_labelAt v3 (M (r + 4) v1) M) fun q3 =>
      chk (0 ≤ v3 ∧ v3 < 9) <|
      chk (0 ≤ (v1 * 9) + q3 ∧ (v1 * 9) + q3 < 81) <|
      f_X6_storeTable_2 F r fu v1 (v3 + 1) (mset M (r + 5) ((v1 * 9) + q3) (M 45 v3))
def f_X6_storeTable (F : Nat) (r : Nat) (v1 : Int) (M : Mem) : Option (Mem) :=
  f_X6_storeTable_2 F r F v1 0 M
-- IntervalRouter$State.setInterval(IIII)I
def f_X6_setInterval_30 (F : Nat) (r : Nat) : Nat → Int → Int → Int → Int → Int → Int → Mem → Option (Int × Mem)
  | 0, _, _, _, _, _, _, _ => none
  | fu + 1, v1, v2, v3, v5, v6, v7, M =>
    chk (inR v2 ∧ inR v5 ∧ inR v7) <|
    if v5 < v7 then
      some (v6, M)
    else
      chk (inR (v3 + v7)) <|
      if M r 0 ≤ v3 + v7 then
        chk (0 ≤ v1 ∧ v1 < 9) <|
        chk (inR ((v3 + v7) - (M r 0))) <|
        if (v3 + v7) - (M r 0) = M (r + 4) v1 then
          f_X6_setInterval_30 F r fu v1 v2 v3 v5 v6 (v7 + 1) M
        else
          chk (0 ≤ (v1 * 9) + ((v3 + v7) - (M r 0)) ∧ (v1 * 9) + ((v3 + v7) - (M r 0)) < 81) <|
          if M (r + 5) ((v1 * 9) + ((v3 + v7) - (M r 0))) = v2 then
            f_X6_setInterval_30 F r fu v1 v2 v3 v5 v6 (v7 + 1) M
          else
            f_X6_setInterval_30 F r fu v1 v2 v3 v5 (v6 + 1) (v7 + 1) (mset M (r + 5) ((v1 * 9) + ((v3 + v7) - (M r 0))) v2)
      else
        chk (0 ≤ v1 ∧ v1 < 9) <|
        if v3 + v7 = M (r + 4) v1 then
          f_X6_setInterval_30 F r fu v1 v2 v3 v5 v6 (v7 + 1) M
        else
          chk (0 ≤ (v1 * 9) + (v3 + v7) ∧ (v1 * 9) + (v3 + v7) < 81) <|
          if M (r + 5) ((v1 * 9) + (v3 + v7)) = v2 then
            f_X6_setInterval_30 F r fu v1 v2 v3 v5 v6 (v7 + 1) M
          else
            f_X6_setInterval_30 F r fu v1 v2 v3 v5 (v6 + 1) (v7 + 1) (mset M (r + 5) ((v1 * 9) + (v3 + v7)) v2)
def f_X6_setInterval (F : Nat) (r : Nat) (v1 : Int) (v2 : Int) (v3 : Int) (v4 : Int) (M : Mem) : Option (Int × Mem) :=
  chk (inR v3 ∧ inR v4) <|
  if v4 < v3 then
    f_X6_setInterval_30 F r F v1 v2 v3 ((v4 - v3) + (M r 0)) 0 0 M
  else
    f_X6_setInterval_30 F r F v1 v2 v3 (v4 - v3) 0 0 M
-- IntervalRouter$State.mixInto(J)J
def f_X6_mixInto_121 (F : Nat) (r : Nat) (k109 : Int → Int → Mem → Option (Int)) : Nat → Int → Int → Int → Mem → Option (Int)
  | 0, _, _, _, _ => none
  | fu + 1, v3, v5, v6, M =>
    chk (inR v6) <|
    if M r 0 ≤ v6 then
      k109 v3 (v5 + 1) M
    else
      ob (f_X6_entryAt r v5 v6 M) fun q5 =>
      chk (inR q5) <|
      f_X6_mixInto_121 F r k109 fu ((31 * v3) + q5) v5 (v6 + 1) M
def f_X6_mixInto_109 (F : Nat) (r : Nat) : Nat → Int → Int → Mem → Option (Int)
  | 0, _, _, _ => none
  | fu + 1, v3, v5, M =>
    chk (inR v5) <|
    if M r 0 ≤ v5 then
      some (v3)
    else
      f_X6_mixInto_121 F r (f_X6_mixInto_109 F r fu) F v3 v5 0 M
def f_X6_mixInto_76 (F : Nat) (r : Nat) : Nat → Int → Int → Mem → Option (Int)
  | 0, _, _, _ => none
  | fu + 1, v3, v5, M =>
    chk (inR v5) <|
    if M r 0 ≤ v5 then
      f_X6_mixInto_109 F r F v3 0 M
    else
      chk (0 ≤ v5 ∧ v5 < 9) <|
      f_X6_mixInto_76 F r fu ((31 * v3) + (M (r + 4) v5)) (v5 + 1) M
def f_X6_mixInto_39 (F : Nat) (r : Nat) (k27 : Int → Int → Mem → Option (Int)) : Nat → Int → Int → Int → Mem → Option (Int)
  | 0, _, _, _, _ => none
  | fu + 1, v3, v5, v6, M =>
    chk (inR v6) <|
    if 2 < v6 then
      k27 v3 (v5 + 1) M
    else
      ob (f_X6_linkValue r v5 v6 M) fun q9 =>
      chk (inR q9) <|
      f_X6_mixInto_39 F r k27 fu ((31 * v3) + q9) v5 (v6 + 1) M
def f_X6_mixInto_27 (F : Nat) (r : Nat) : Nat → Int → Int → Mem → Option (Int)
  | 0, _, _, _ => none
  | fu + 1, v3, v5, M =>
    chk (inR v5) <|
    if M r 1 ≤ v5 then
      f_X6_mixInto_76 F r F v3 0 M
    else
      f_X6_mixInto_39 F r (f_X6_mixInto_27 F r fu) F v3 v5 0 M
def f_X6_mixInto (F : Nat) (r : Nat) (v1 : Int) (M : Mem) : Option (Int) :=
  f_X6_mixInto_27 F r F ((31 * ((31 * v1) + (M r 0))) + (M r 1)) 0 M
-- IntervalRouter$Ways.shortenOver(II)V
def f_X8_shortenOver_10 (F : Nat) (k2 : Int → Int → Int → Mem → Option (Mem)) : Nat → Int → Int → Int → Int → Mem → Option (Mem)
  | 0, _, _, _, _, _ => none
  | fu + 1, v1, v2, v3, v4, M =>
    chk (inR v2 ∧ inR v4) <|
    if v2 ≤ v4 then
      k2 v1 v2 (v3 + 1) M
    else
      ob (f_X8_between v3 v1 M) fun q3 =>
      ob (f_X8_between v1 v4 M) fun q4 =>
      ob (f_X8_between v3 v4 M) fun q5 =>
      chk (inR (q3 + q4)) <|
      chk (inR q5) <|
      if q5 ≤ q3 + q4 then
        f_X8_shortenOver_10 F k2 fu v1 v2 v3 (v4 + 1) M
      else
        chk (0 ≤ (v3 * 9) + v4 ∧ (v3 * 9) + v4 < 81) <|
        f_X8_shortenOver_10 F k2 fu v1 v2 v3 (v4 + 1) (mset M 40 ((v3 * 9) + v4) (q3 + q4))
def f_X8_shortenOver_2 (F : Nat) : Nat → Int → Int → Int → Mem → Option (Mem)
  | 0, _, _, _, _ => none
  | fu + 1, v1, v2, v3, M =>
    chk (inR v2 ∧ inR v3) <|
    if v2 ≤ v3 then
      some M
    else
      f_X8_shortenOver_10 F (f_X8_shortenOver_2 F fu) F v1 v2 v3 0 M
def f_X8_shortenOver (F : Nat) (v1 : Int) (v2 : Int) (M : Mem) : Option (Mem) :=
  f_X8_shortenOver_2 F F v1 v2 0 M
-- IntervalRouter$Ways.measureDistances(LIntervalRouter$State;)V
def f_X8_measureDistances_107 (F : Nat) : Nat → Int → Mem → Option (Mem)
  | 0, _, _ => none
  | fu + 1, v2, M =>
    chk (inR v2) <|
    if M 1 0 ≤ v2 then
      some M
    else
      ob (f_X8_shortenOver F v2 (M 1 0) M) fun q5 =>
      f_X8_measureDistances_107 F fu (v2 + 1) q5
def f_X8_measureDistances_40 (F : Nat) : Nat → Int → Mem → Option (Mem)
  | 0, _, _ => none
  | fu + 1, v2, M =>
    chk (inR v2) <|
    if M 1 1 ≤ v2 then
      f_X8_measureDistances_107 F F 0 M
    else
      chk (0 ≤ v2 ∧ v2 < 16) <|
      chk (0 ≤ ((M 2 v2) * 9) + (M 3 v2) ∧ ((M 2 v2) * 9) + (M 3 v2) < 81) <|
      chk (0 ≤ ((M 3 v2) * 9) + (M 2 v2) ∧ ((M 3 v2) * 9) + (M 2 v2) < 81) <|
      f_X8_measureDistances_40 F fu (v2 + 1) (mset (mset M 40 (((M 2 v2) * 9) + (M 3 v2)) (M 4 v2)) 40 (((M 3 v2) * 9) + (M 2 v2)) ((mset M 40 (((M 2 v2) * 9) + (M 3 v2)) (M 4 v2)) 4 v2))
def f_X8_measureDistances_12 (F : Nat) : Nat → Int → Mem → Option (Mem)
  | 0, _, _ => none
  | fu + 1, v2, M =>
    chk (inR v2) <|
    if M 1 0 ≤ v2 then
      f_X8_measureDistances_40 F F 0 M
    else
      chk (0 ≤ (v2 * 9) + v2 ∧ (v2 * 9) + v2 < 81) <|
      f_X8_measureDistances_12 F fu (v2 + 1) (mset M 40 ((v2 * 9) + v2) 0)
def f_X8_measureDistances (F : Nat) (M : Mem) : Option (Mem) :=
  ob (f_J7_fill_53178 F 40 1000 M) fun q1 =>
  f_X8_measureDistances_12 F F 0 q1
-- IntervalRouter$Ways.begins(LIntervalRouter$State;III)Z
def f_X8_begins (v2 : Int) (v3 : Int) (v4 : Int) (M : Mem) : Option (Int) :=
  ob (f_X6_touches 1 v2 v3 M) fun q1 =>
  chk (inR q1) <|
  if q1 = 0 then
    some (0)
  else
    chk (0 ≤ v2 ∧ v2 < 16) <|
    ob (f_X6_otherEnd 1 v2 v3 M) fun q5 =>
    ob (f_X8_between q5 v4 M) fun q6 =>
    ob (f_X8_between v3 v4 M) fun q7 =>
    chk (inR ((M 4 v2) + q6)) <|
    chk (inR q7) <|
    if (M 4 v2) + q6 = q7 then
      some (1)
    else
      some (0)
-- IntervalRouter$Ways.findGoodLinks(LIntervalRouter$State;II)V
def f_X8_findGoodLinks_17 (F : Nat) : Nat → Int → Int → Int → Int → Int → Int → Mem → Option (Mem)
  | 0, _, _, _, _, _, _, _ => none
  | fu + 1, v2, v3, v4, v5, v6, v7, M =>
    chk (inR v5 ∧ inR v6 ∧ inR v7) <|
    if M 1 1 ≤ v7 then
      if v6 = 0 then
        chk (0 ≤ v4 * 8 ∧ v4 * 8 < 648) <|
        chk (0 ≤ v4 ∧ v4 < 81) <|
        some (mset (mset (mset M 42 (v4 * 8) (-1)) 41 v4 v5) 43 v4 1)
      else
        chk (0 ≤ v4 ∧ v4 < 81) <|
        some (mset (mset M 41 v4 v5) 43 v4 v6)
    else
      if 8 ≤ v6 then
        if v6 = 0 then
          chk (0 ≤ v4 * 8 ∧ v4 * 8 < 648) <|
          chk (0 ≤ v4 ∧ v4 < 81) <|
          some (mset (mset (mset M 42 (v4 * 8) (-1)) 41 v4 v5) 43 v4 1)
        else
          chk (0 ≤ v4 ∧ v4 < 81) <|
          some (mset (mset M 41 v4 v5) 43 v4 v6)
      else
        ob (f_X8_begins v7 v2 v3 M) fun q21 =>
        chk (inR q21) <|
        if q21 = 0 then
          f_X8_findGoodLinks_17 F fu v2 v3 v4 v5 v6 (v7 + 1) M
        else
          chk (0 ≤ (v4 * 8) + v6 ∧ (v4 * 8) + v6 < 648) <|
          f_X8_findGoodLinks_17 F fu v2 v3 v4 (bor v5 (bshl 1 v7)) (v6 + 1) (v7 + 1) (mset M 42 ((v4 * 8) + v6) v7)
def f_X8_findGoodLinks (F : Nat) (v2 : Int) (v3 : Int) (M : Mem) : Option (Mem) :=
  f_X8_findGoodLinks_17 F F v2 v3 ((v2 * 9) + v3) 0 0 0 M
-- IntervalRouter$Ways.measure(LIntervalRouter$State;)V
def f_X8_measure_17 (F : Nat) (k7 : Int → Mem → Option (Mem)) : Nat → Int → Int → Mem → Option (Mem)
  | 0, _, _, _ => none
  | fu + 1, v2, v3, M =>
    chk (inR v3) <|
    if M 1 0 ≤ v3 then
      k7 (v2 + 1) M
    else
      ob (f_X8_findGoodLinks F v2 v3 M) fun q4 =>
      f_X8_measure_17 F k7 fu v2 (v3 + 1) q4
def f_X8_measure_7 (F : Nat) : Nat → Int → Mem → Option (Mem)
  | 0, _, _ => none
  | fu + 1, v2, M =>
    chk (inR v2) <|
    if M 1 0 ≤ v2 then
      some M
    else
      f_X8_measure_17 F (f_X8_measure_7 F fu) F v2 0 M
def f_X8_measure (F : Nat) (M : Mem) : Option (Mem) :=
  ob (f_X8_measureDistances F M) fun q1 =>
  f_X8_measure_7 F F 0 q1
-- IntervalRouter$Ways.good(II)I
def f_X8_good (v1 : Int) (v2 : Int) (M : Mem) : Option (Int) :=
  chk (0 ≤ (v1 * 9) + v2 ∧ (v1 * 9) + v2 < 81) <|
  some (M 41 ((v1 * 9) + v2))
-- IntervalRouter$Ways.connected(I)Z
def f_X8_connected_2 (F : Nat) : Nat → Int → Int → Mem → Option (Int)
  | 0, _, _, _ => none
  | fu + 1, v1, v2, M =>
    chk (inR v1 ∧ inR v2) <|
    if v1 ≤ v2 then
      some (1)
    else
      chk (0 ≤ v2 ∧ v2 < 81) <|
      if M 40 v2 = 1000 then
        some (0)
      else
        f_X8_connected_2 F fu v1 (v2 + 1) M
def f_X8_connected (F : Nat) (v1 : Int) (M : Mem) : Option (Int) :=
  f_X8_connected_2 F F v1 0 M
-- IntervalRouter.needRange(III)V
def f_X9_needRange (v1 : Int) (v2 : Int) (v3 : Int) (M : Mem) : Option (Nat ⊕ Unit) :=
  chk (inR v1 ∧ inR v2 ∧ inR v3) <|
  if v1 < v2 then
    some (.inl 0)
  else
    if v1 ≤ v3 then
      some (.inr ())
    else
      some (.inl 0)
-- IntervalRouter.measureNetwork()V
def f_X9_measureNetwork (F : Nat) (M : Mem) : Option (Mem) :=
  ob (f_X8_measure F M) fun q1 =>
  ob (f_X5_forget q1) fun q2 =>
  some q2
-- IntervalRouter.networkChanged()V
def f_X9_networkChanged (F : Nat) (M : Mem) : Option (Mem) :=
  ob (f_X6_clearEntries F 1 M) fun q1 =>
  ob (f_X9_measureNetwork F q1) fun q2 =>
  some q2
-- IntervalRouter.begin(I)I
def f_X9_begin (F : Nat) (v1 : Int) (M : Mem) : Option ((Nat ⊕ Int) × Mem) :=
  ob (f_X9_needRange v1 0 9 M) fun q1 =>
  ox q1 (fun e1 => some (.inl e1, M)) fun r1 =>
  ob (f_X0_save F M) fun q2 =>
  ob (f_X6_start F 1 v1 q2) fun q3 =>
  ob (f_X9_networkChanged F q3) fun q4 =>
  some (.inr (M 1 1), q4)
-- IntervalRouter.needNode(I)V
def f_X9_needNode (v1 : Int) (M : Mem) : Option (Nat ⊕ Unit) :=
  chk (inR v1) <|
  if v1 < 0 then
    some (.inl 1)
  else
    if v1 < M 1 0 then
      some (.inr ())
    else
      some (.inl 1)
-- IntervalRouter.addLink(III)I
def f_X9_addLink (F : Nat) (v1 : Int) (v2 : Int) (v3 : Int) (M : Mem) : Option ((Nat ⊕ Int) × Mem) :=
  chk (inR v1 ∧ inR v2) <|
  ob (f_X9_needNode v1 M) fun q1 =>
  ox q1 (fun e1 => some (.inl e1, M)) fun r1 =>
  ob (f_X9_needNode v2 M) fun q2 =>
  ox q2 (fun e2 => some (.inl e2, M)) fun r2 =>
  ob (f_X9_needRange v3 1 9 M) fun q3 =>
  ox q3 (fun e3 => some (.inl e3, M)) fun r3 =>
  if v1 = v2 then
    some (.inl 0, M)
  else
    ob (f_X6_joined F 1 v1 v2 M) fun q5 =>
    chk (inR q5) <|
    if q5 = 0 then
      if M 1 1 < 16 then
        ob (f_X0_save F M) fun q9 =>
        ob (f_X6_join 1 v1 v2 v3 q9) fun q10 =>
        ob (f_X9_networkChanged F q10) fun q11 =>
        some (.inr ((q11 1 1) - 1), q11)
      else
        some (.inl 2, M)
    else
      some (.inl 0, M)
-- IntervalRouter.needLink(I)V
def f_X9_needLink (v1 : Int) (M : Mem) : Option (Nat ⊕ Unit) :=
  chk (inR v1) <|
  if v1 < 0 then
    some (.inl 1)
  else
    if v1 < M 1 1 then
      some (.inr ())
    else
      some (.inl 1)
-- IntervalRouter.removeLink(I)I
def f_X9_removeLink (F : Nat) (v1 : Int) (M : Mem) : Option ((Nat ⊕ Int) × Mem) :=
  ob (f_X9_needLink v1 M) fun q1 =>
  ox q1 (fun e1 => some (.inl e1, M)) fun r1 =>
  ob (f_X0_save F M) fun q2 =>
  ob (f_X6_drop F 1 v1 q2) fun q3 =>
  ob (f_X9_networkChanged F q3) fun q4 =>
  some (.inr (q4 1 1), q4)
-- IntervalRouter.setLength(II)I
def f_X9_setLength (F : Nat) (v1 : Int) (v2 : Int) (M : Mem) : Option ((Nat ⊕ Int) × Mem) :=
  chk (inR v2) <|
  ob (f_X9_needLink v1 M) fun q1 =>
  ox q1 (fun e1 => some (.inl e1, M)) fun r1 =>
  ob (f_X9_needRange v2 1 9 M) fun q2 =>
  ox q2 (fun e2 => some (.inl e2, M)) fun r2 =>
  chk (0 ≤ v1 ∧ v1 < 16) <|
  ob (f_X0_save F M) fun q4 =>
  ob (f_X9_networkChanged F (mset q4 4 v1 v2)) fun q6 =>
  some (.inr (M 4 v1), q6)
-- IntervalRouter.size(Z)I
def f_X9_size (v1 : Int) (M : Mem) : Option (Int) :=
  chk (inR v1) <|
  if v1 = 0 then
    some (M 1 0)
  else
    some (M 1 1)
-- IntervalRouter.link(II)I
def f_X9_link (v1 : Int) (v2 : Int) (M : Mem) : Option (Nat ⊕ Int) :=
  ob (f_X9_needLink v1 M) fun q1 =>
  ox q1 (fun e1 => some (.inl e1)) fun r1 =>
  ob (f_X9_needRange v2 0 2 M) fun q2 =>
  ox q2 (fun e2 => some (.inl e2)) fun r2 =>
  ob (f_X6_linkValue 1 v1 v2 M) fun q3 =>
  some (.inr q3)
-- IntervalRouter.distance(II)I
def f_X9_distance (v1 : Int) (v2 : Int) (M : Mem) : Option (Nat ⊕ Int) :=
  ob (f_X9_needNode v1 M) fun q1 =>
  ox q1 (fun e1 => some (.inl e1)) fun r1 =>
  ob (f_X9_needNode v2 M) fun q2 =>
  ox q2 (fun e2 => some (.inl e2)) fun r2 =>
  ob (f_X8_between v1 v2 M) fun q3 =>
  chk (inR q3) <|
  if q3 = 1000 then
    some (.inr (-1))
  else
    some (.inr q3)
-- IntervalRouter.goodLinks(II)I
def f_X9_goodLinks (v1 : Int) (v2 : Int) (M : Mem) : Option (Nat ⊕ Int) :=
  ob (f_X9_needNode v1 M) fun q1 =>
  ox q1 (fun e1 => some (.inl e1)) fun r1 =>
  ob (f_X9_needNode v2 M) fun q2 =>
  ox q2 (fun e2 => some (.inl e2)) fun r2 =>
  ob (f_X8_good v1 v2 M) fun q3 =>
  some (.inr q3)
-- IntervalRouter.isRing()Z
def f_X9_isRing_15 (F : Nat) : Nat → Int → Mem → Option (Int)
  | 0, _, _ => none
  | fu + 1, v1, M =>
    chk (inR v1) <|
    if M 1 0 ≤ v1 then
      some (1)
    else
      ob (f_X6_degree F 1 v1 M) fun q3 =>
      chk (inR q3) <|
      if q3 = 2 then
        f_X9_isRing_15 F fu (v1 + 1) M
      else
        some (0)
def f_X9_isRing (F : Nat) (M : Mem) : Option (Int) :=
  if 3 ≤ M 1 0 then
    f_X9_isRing_15 F F 0 M
  else
    some (0)
-- IntervalRouter.kind()I
def f_X9_kind (F : Nat) (M : Mem) : Option (Int) :=
  if M 1 0 = 0 then
    some (0)
  else
    ob (f_X8_connected F (M 1 0) M) fun q2 =>
    chk (inR q2) <|
    if q2 = 0 then
      some (0)
    else
      chk (inR ((M 1 0) - 1)) <|
      if M 1 1 = (M 1 0) - 1 then
        some (1)
      else
        ob (f_X9_isRing F M) fun q7 =>
        chk (inR q7) <|
        if q7 = 0 then
          some (3)
        else
          some (2)
-- IntervalRouter.label(I)I
def f_X9_label (v1 : Int) (M : Mem) : Option (Nat ⊕ Int) :=
  ob (f_X9_needNode v1 M) fun q1 =>
  ox q1 (fun e1 => some (.inl e1)) fun r1 =>
  chk (0 ≤ v1 ∧ v1 < 9) <|
  some (.inr (M 5 v1))
-- IntervalRouter.needLabel(I)V
def f_X9_needLabel (v1 : Int) (M : Mem) : Option (Nat ⊕ Unit) :=
  chk (inR v1) <|
  if v1 < 0 then
    some (.inl 1)
  else
    if v1 < M 1 0 then
      some (.inr ())
    else
      some (.inl 1)
-- IntervalRouter.nodeWith(I)I
def f_X9_nodeWith (F : Nat) (v1 : Int) (M : Mem) : Option (Nat ⊕ Int) :=
  ob (f_X9_needLabel v1 M) fun q1 =>
  ox q1 (fun e1 => some (.inl e1)) fun r1 =>
  ob (f_X6_holder F 1 v1 M) fun q2 =>
  some (.inr q2)
-- IntervalRouter.needSearchable()V
def f_X9_needSearchable (M : Mem) : Option (Nat ⊕ Unit) :=
  if M 1 0 ≤ 6 then
    some (.inr ())
  else
    some (.inl 2)
-- IntervalRouter.setLabels(II)I
def f_X9_setLabels_123 (F : Nat) (M : Mem) : Option ((Nat ⊕ Int) × Mem) :=
  ob (f_X6_clearEntries F 1 M) fun q10 =>
  chk (0 ≤ (q10 1 0) - 1 ∧ (q10 1 0) - 1 < 9) <|
  some (.inr (q10 5 ((q10 1 0) - 1)), q10)
def f_X9_setLabels_21 (F : Nat) (v1 : Int) (v2 : Int) (M : Mem) : Option ((Nat ⊕ Int) × Mem) :=
  chk (inR v1) <|
  ob (f_X0_save F M) fun q4 =>
  if v1 = 0 then
    ob (f_X6_resetLabels F 1 q4) fun q14 =>
    f_X9_setLabels_123 F q14
  else
    if v1 = 1 then
      ob (f_X1_depthFirst F v2 q4) fun q13 =>
      f_X9_setLabels_123 F q13
    else
      if v1 = 2 then
        ob (f_X1_byRank F v2 q4) fun q12 =>
        f_X9_setLabels_123 F q12
      else
        ob (f_X5_ensure F (q4 1 0) q4) fun q8 =>
        ob (f_X5_copyBest q8) fun q9 =>
        f_X9_setLabels_123 F q9
def f_X9_setLabels (F : Nat) (v1 : Int) (v2 : Int) (M : Mem) : Option ((Nat ⊕ Int) × Mem) :=
  chk (inR v1) <|
  ob (f_X9_needRange v1 0 3 M) fun q1 =>
  ox q1 (fun e1 => some (.inl e1, M)) fun r1 =>
  ob (f_X9_needNode v2 M) fun q2 =>
  ox q2 (fun e2 => some (.inl e2, M)) fun r2 =>
  if v1 = 3 then
    ob (f_X9_needSearchable M) fun q15 =>
    ox q15 (fun e15 => some (.inl e15, M)) fun r15 =>
    f_X9_setLabels_21 F v1 v2 M
  else
    f_X9_setLabels_21 F v1 v2 M
-- IntervalRouter.swapLabels(II)I
def f_X9_swapLabels (F : Nat) (v1 : Int) (v2 : Int) (M : Mem) : Option ((Nat ⊕ Int) × Mem) :=
  ob (f_X9_needNode v1 M) fun q1 =>
  ox q1 (fun e1 => some (.inl e1, M)) fun r1 =>
  ob (f_X9_needNode v2 M) fun q2 =>
  ox q2 (fun e2 => some (.inl e2, M)) fun r2 =>
  ob (f_X0_save F M) fun q3 =>
  ob (f_X6_exchangeLabels 1 v1 v2 q3) fun q4 =>
  ob (f_X6_clearEntries F 1 q4) fun q5 =>
  chk (0 ≤ v1 ∧ v1 < 9) <|
  some (.inr (q5 5 v1), q5)
-- IntervalRouter.turn(I)I
def f_X9_turn_41 (F : Nat) : Nat → Int → Int → Mem → Option ((Nat ⊕ Int) × Mem)
  | 0, _, _, _ => none
  | fu + 1, v1, v2, M =>
    chk (inR v2) <|
    if M 1 0 ≤ v2 then
      ob (f_X6_clearEntries F 1 M) fun q5 =>
      some (.inr (q5 5 0), q5)
    else
      chk (0 ≤ v2 ∧ v2 < 9) <|
      chk ((inR ((M 5 v2) + v1) ∧ inR (M 1 0)) ∧ (0 : Int) ≤ (M 5 v2) + v1 ∧ (0 : Int) < M 1 0) <|
      chk (inR (((M 5 v2) + v1) % (M 1 0))) <|
      f_X9_turn_41 F fu v1 (v2 + 1) (mset M 5 v2 (((M 5 v2) + v1) % (M 1 0)))
def f_X9_turn (F : Nat) (v1 : Int) (M : Mem) : Option ((Nat ⊕ Int) × Mem) :=
  ob (f_X9_needRange v1 0 9 M) fun q1 =>
  ox q1 (fun e1 => some (.inl e1, M)) fun r1 =>
  if M 1 0 = 0 then
    some (.inl 2, M)
  else
    ob (f_X0_save F M) fun q3 =>
    f_X9_turn_41 F F v1 0 q3
-- IntervalRouter.shuffle(I)I
def f_X9_shuffle (F : Nat) (v1 : Int) (M : Mem) : Option ((Nat ⊕ Int) × Mem) :=
  ob (f_X9_needRange v1 0 999999 M) fun q1 =>
  ox q1 (fun e1 => some (.inl e1, M)) fun r1 =>
  ob (f_X0_save F M) fun q2 =>
  ob (f_X1_atRandom F v1 q2) fun q3 =>
  ob (f_X6_clearEntries F 1 q3) fun q4 =>
  if q4 1 0 = 0 then
    some (.inr (-1), q4)
  else
    some (.inr (q4 5 0), q4)
-- IntervalRouter.makeTables()I
def f_X9_makeTables_36 (F : Nat) : Nat → Int → Int → Mem → Option (Int × Mem)
  | 0, _, _, _ => none
  | fu + 1, v1, v2, M =>
    chk (inR v2) <|
    if M 1 0 ≤ v2 then
      some (v1, M)
    else
      chk (0 ≤ v2 ∧ v2 < 9) <|
      ob (f_X7_fill F 44 v2 (M 5 v2) M) fun q5 =>
      ob (f_X6_storeTable F 1 v2 q5) fun q6 =>
      ob (f_X4_allRuns F 44 q6) fun q7 =>
      f_X9_makeTables_36 F fu (v1 + q7) (v2 + 1) q6
def f_X9_makeTables (F : Nat) (M : Mem) : Option (Int × Mem) :=
  ob (f_X0_save F M) fun q1 =>
  ob (f_X7_seat F 5 (q1 1 0) q1) fun q2 =>
  f_X9_makeTables_36 F F 0 0 q2
-- IntervalRouter.setRange(IIII)I
def f_X9_setRange_15 (F : Nat) (v1 : Int) (v2 : Int) (v3 : Int) (v4 : Int) (M : Mem) : Option ((Nat ⊕ Int) × Mem) :=
  chk (inR v2) <|
  ob (f_X9_needLabel v3 M) fun q3 =>
  ox q3 (fun e3 => some (.inl e3, M)) fun r3 =>
  ob (f_X9_needLabel v4 M) fun q4 =>
  ox q4 (fun e4 => some (.inl e4, M)) fun r4 =>
  if v2 = (-1) then
    ob (f_X0_save F M) fun q6 =>
    ob (f_X6_setInterval F 1 v1 v2 v3 v4 q6) fun q7 =>
    some (.inr q7.1, q7.2)
  else
    ob (f_X6_touches 1 v2 v1 M) fun q8 =>
    chk (inR q8) <|
    if q8 = 0 then
      some (.inl 0, M)
    else
      ob (f_X0_save F M) fun q11 =>
      ob (f_X6_setInterval F 1 v1 v2 v3 v4 q11) fun q12 =>
      some (.inr q12.1, q12.2)
def f_X9_setRange (F : Nat) (v1 : Int) (v2 : Int) (v3 : Int) (v4 : Int) (M : Mem) : Option ((Nat ⊕ Int) × Mem) :=
  chk (inR v2) <|
  ob (f_X9_needNode v1 M) fun q1 =>
  ox q1 (fun e1 => some (.inl e1, M)) fun r1 =>
  if v2 = (-1) then
    f_X9_setRange_15 F v1 v2 v3 v4 M
  else
    ob (f_X9_needLink v2 M) fun q13 =>
    ox q13 (fun e13 => some (.inl e13, M)) fun r13 =>
    f_X9_setRange_15 F v1 v2 v3 v4 M
-- IntervalRouter.entry(II)I
def f_X9_entry (v1 : Int) (v2 : Int) (M : Mem) : Option (Nat ⊕ Int) :=
  ob (f_X9_needNode v1 M) fun q1 =>
  ox q1 (fun e1 => some (.inl e1)) fun r1 =>
  ob (f_X9_needLabel v2 M) fun q2 =>
  ox q2 (fun e2 => some (.inl e2)) fun r2 =>
  ob (f_X6_entryAt 1 v1 v2 M) fun q3 =>
  some (.inr q3)
-- IntervalRouter.runs(II)I
def f_X9_runs (F : Nat) (v1 : Int) (v2 : Int) (M : Mem) : Option ((Nat ⊕ Int) × Mem) :=
  ob (f_X9_needNode v1 M) fun q1 =>
  ox q1 (fun e1 => some (.inl e1, M)) fun r1 =>
  ob (f_X9_needLink v2 M) fun q2 =>
  ox q2 (fun e2 => some (.inl e2, M)) fun r2 =>
  ob (f_X6_touches 1 v2 v1 M) fun q3 =>
  chk (inR q3) <|
  if q3 = 0 then
    some (.inl 0, M)
  else
    ob (f_X4_read F 44 v1 M) fun q6 =>
    ob (f_X4_runsOf F 44 v2 q6) fun q7 =>
    some (.inr q7, q6)
-- IntervalRouter.runEnd(IIIZ)I
def f_X9_runEnd (F : Nat) (v1 : Int) (v2 : Int) (v3 : Int) (v4 : Int) (M : Mem) : Option ((Nat ⊕ Int) × Mem) :=
  chk (inR v4) <|
  ob (f_X9_needNode v1 M) fun q1 =>
  ox q1 (fun e1 => some (.inl e1, M)) fun r1 =>
  ob (f_X9_needLink v2 M) fun q2 =>
  ox q2 (fun e2 => some (.inl e2, M)) fun r2 =>
  ob (f_X6_touches 1 v2 v1 M) fun q3 =>
  chk (inR q3) <|
  if q3 = 0 then
    some (.inl 1, M)
  else
    ob (f_X4_read F 44 v1 M) fun q6 =>
    ob (f_X4_beginningOf F 44 v2 v3 q6) fun q7 =>
    chk (inR q7) <|
    if q7 = (-1) then
      some (.inl 1, q6)
    else
      if v4 = 0 then
        chk (0 ≤ v1 ∧ v1 < 9) <|
        ob (f_X4_labelAt q7 (q6 5 v1) q6) fun q12 =>
        some (.inr q12, q6)
      else
        ob (f_X4_endOfRunAt F 44 q7 q6) fun q13 =>
        chk (0 ≤ v1 ∧ v1 < 9) <|
        ob (f_X4_labelAt q13 (q6 5 v1) q6) fun q15 =>
        some (.inr q15, q6)
-- IntervalRouter.networkSize()I
def f_X9_networkSize_4 (F : Nat) : Nat → Int → Int → Mem → Option (Int × Mem)
  | 0, _, _, _ => none
  | fu + 1, v1, v2, M =>
    chk (inR v2) <|
    if M 1 0 ≤ v2 then
      some (v1, M)
    else
      ob (f_X4_read F 44 v2 M) fun q2 =>
      ob (f_X4_allRuns F 44 q2) fun q3 =>
      f_X9_networkSize_4 F fu (v1 + q3) (v2 + 1) q2
def f_X9_networkSize (F : Nat) (M : Mem) : Option (Int × Mem) :=
  f_X9_networkSize_4 F F 0 0 M
-- IntervalRouter.tableSize(I)I
def f_X9_tableSize (F : Nat) (v1 : Int) (M : Mem) : Option ((Nat ⊕ Int) × Mem) :=
  chk (inR v1) <|
  if v1 = (-1) then
    ob (f_X9_networkSize F M) fun q5 =>
    some (.inr q5.1, q5.2)
  else
    ob (f_X9_needNode v1 M) fun q2 =>
    ox q2 (fun e2 => some (.inl e2, M)) fun r2 =>
    ob (f_X4_read F 44 v1 M) fun q3 =>
    ob (f_X4_allRuns F 44 q3) fun q4 =>
    some (.inr q4, q3)
-- IntervalRouter.compactness()I
def f_X9_compactness_4 (F : Nat) : Nat → Int → Int → Mem → Option (Int × Mem)
  | 0, _, _, _ => none
  | fu + 1, v1, v2, M =>
    chk (inR v1 ∧ inR v2) <|
    if M 1 0 ≤ v2 then
      some (v1, M)
    else
      ob (f_X4_read F 44 v2 M) fun q2 =>
      ob (f_X4_mostRuns F 44 q2) fun q3 =>
      chk (inR q3) <|
      f_X9_compactness_4 F fu (imax v1 q3) (v2 + 1) q2
def f_X9_compactness (F : Nat) (M : Mem) : Option (Int × Mem) :=
  f_X9_compactness_4 F F 0 0 M
-- IntervalRouter.bestSize(I)I
def f_X9_bestSize (F : Nat) (v1 : Int) (M : Mem) : Option ((Nat ⊕ Int) × Mem) :=
  ob (f_X9_needNode v1 M) fun q1 =>
  ox q1 (fun e1 => some (.inl e1, M)) fun r1 =>
  ob (f_X7_seat F 5 (M 1 0) M) fun q2 =>
  chk (0 ≤ v1 ∧ v1 < 9) <|
  ob (f_X7_fill F 44 v1 (q2 5 v1) q2) fun q4 =>
  ob (f_X4_allRuns F 44 q4) fun q5 =>
  some (.inr q5, q4)
-- IntervalRouter.judge(II)I
def f_X9_judge (v1 : Int) (v2 : Int) (M : Mem) : Option (Int) :=
  chk (inR v1 ∧ inR v2) <|
  if v1 = v2 then
    some (0)
  else
    ob (f_X8_between v1 v2 M) fun q2 =>
    chk (inR q2) <|
    if q2 = 1000 then
      some (4)
    else
      chk (0 ≤ v2 ∧ v2 < 9) <|
      ob (f_X6_entryAt 1 v1 (M 5 v2) M) fun q6 =>
      chk (inR q6) <|
      if q6 = (-1) then
        some (3)
      else
        ob (f_X8_good v1 v2 M) fun q9 =>
        if band (bshr q9 q6) 1 = 1 then
          some (1)
        else
          some (2)
-- IntervalRouter.check(II)I
def f_X9_check (v1 : Int) (v2 : Int) (M : Mem) : Option (Nat ⊕ Int) :=
  ob (f_X9_needNode v1 M) fun q1 =>
  ox q1 (fun e1 => some (.inl e1)) fun r1 =>
  ob (f_X9_needNode v2 M) fun q2 =>
  ox q2 (fun e2 => some (.inl e2)) fun r2 =>
  ob (f_X9_judge v1 v2 M) fun q3 =>
  some (.inr q3)
-- IntervalRouter.pairsJudged(I)I
def f_X9_pairsJudged_18 (F : Nat) (k4 : Int → Int → Int → Mem → Option (Int)) : Nat → Int → Int → Int → Int → Mem → Option (Int)
  | 0, _, _, _, _, _ => none
  | fu + 1, v1, v2, v3, v4, M =>
    chk (inR v1 ∧ inR v4) <|
    if M 1 0 ≤ v4 then
      k4 v1 v2 (v3 + 1) M
    else
      ob (f_X9_judge v3 v4 M) fun q3 =>
      chk (inR q3) <|
      if q3 = v1 then
        f_X9_pairsJudged_18 F k4 fu v1 (v2 + 1) v3 (v4 + 1) M
      else
        f_X9_pairsJudged_18 F k4 fu v1 v2 v3 (v4 + 1) M
def f_X9_pairsJudged_4 (F : Nat) : Nat → Int → Int → Int → Mem → Option (Int)
  | 0, _, _, _, _ => none
  | fu + 1, v1, v2, v3, M =>
    chk (inR v3) <|
    if M 1 0 ≤ v3 then
      some (v2)
    else
      f_X9_pairsJudged_18 F (f_X9_pairsJudged_4 F fu) F v1 v2 v3 0 M
def f_X9_pairsJudged (F : Nat) (v1 : Int) (M : Mem) : Option (Int) :=
  f_X9_pairsJudged_4 F F v1 0 0 M
-- IntervalRouter.checked(I)I
def f_X9_checked (F : Nat) (v1 : Int) (M : Mem) : Option (Nat ⊕ Int) :=
  ob (f_X9_needRange v1 0 4 M) fun q1 =>
  ox q1 (fun e1 => some (.inl e1)) fun r1 =>
  ob (f_X9_pairsJudged F v1 M) fun q2 =>
  some (.inr q2)
-- IntervalRouter.send(II)I
def f_X9_send (F : Nat) (v1 : Int) (v2 : Int) (M : Mem) : Option ((Nat ⊕ Int) × Mem) :=
  ob (f_X9_needNode v1 M) fun q1 =>
  ox q1 (fun e1 => some (.inl e1, M)) fun r1 =>
  ob (f_X9_needNode v2 M) fun q2 =>
  ox q2 (fun e2 => some (.inl e2, M)) fun r2 =>
  ob (f_X2_travel F v1 v2 (-1) M) fun q3 =>
  if q3 57 0 = 0 then
    some (.inr (-1), q3)
  else
    some (.inr (q3 57 1), q3)
-- IntervalRouter.wayNode(III)I
def f_X9_wayNode (F : Nat) (v1 : Int) (v2 : Int) (v3 : Int) (M : Mem) : Option ((Nat ⊕ Int) × Mem) :=
  chk (inR v3) <|
  ob (f_X9_needNode v1 M) fun q1 =>
  ox q1 (fun e1 => some (.inl e1, M)) fun r1 =>
  ob (f_X9_needNode v2 M) fun q2 =>
  ox q2 (fun e2 => some (.inl e2, M)) fun r2 =>
  if 0 ≤ v3 then
    ob (f_X2_travel F v1 v2 (-1) M) fun q4 =>
    if q4 57 2 ≤ v3 then
      some (.inr (-1), q4)
    else
      chk (0 ≤ v3 ∧ v3 < 10) <|
      some (.inr (q4 58 v3), q4)
  else
    some (.inl 0, M)
-- IntervalRouter.arrives(III)Z
def f_X9_arrives (F : Nat) (v1 : Int) (v2 : Int) (v3 : Int) (M : Mem) : Option (Int × Mem) :=
  ob (f_X2_travel F v1 v2 v3 M) fun q1 =>
  chk (bit01 (q1 57 0)) <|
  some (q1 57 0, q1)
-- IntervalRouter.arriving()I
def f_X9_arriving_17 (F : Nat) (k4 : Int → Int → Mem → Option (Int × Mem)) : Nat → Int → Int → Int → Mem → Option (Int × Mem)
  | 0, _, _, _, _ => none
  | fu + 1, v1, v2, v3, M =>
    chk (inR v2 ∧ inR v3) <|
    if M 1 0 ≤ v3 then
      k4 v1 (v2 + 1) M
    else
      if v2 = v3 then
        f_X9_arriving_17 F k4 fu v1 v2 (v3 + 1) M
      else
        ob (f_X9_arrives F v2 v3 (-1) M) fun q4 =>
        chk (inR q4.1) <|
        if q4.1 = 0 then
          f_X9_arriving_17 F k4 fu v1 v2 (v3 + 1) q4.2
        else
          f_X9_arriving_17 F k4 fu (v1 + 1) v2 (v3 + 1) q4.2
def f_X9_arriving_4 (F : Nat) : Nat → Int → Int → Mem → Option (Int × Mem)
  | 0, _, _, _ => none
  | fu + 1, v1, v2, M =>
    chk (inR v2) <|
    if M 1 0 ≤ v2 then
      some (v1, M)
    else
      f_X9_arriving_17 F (f_X9_arriving_4 F fu) F v1 v2 0 M
def f_X9_arriving (F : Nat) (M : Mem) : Option (Int × Mem) :=
  f_X9_arriving_4 F F 0 0 M
-- IntervalRouter.stretch()D
def f_X9_stretch_18 (F : Nat) (k4 : UInt64 → Int → Mem → Option (UInt64 × Mem)) : Nat → UInt64 → Int → Int → Mem → Option (UInt64 × Mem)
  | 0, _, _, _, _ => none
  | fu + 1, v1, v3, v4, M =>
    chk (inR v4) <|
    if M 1 0 ≤ v4 then
      k4 v1 (v3 + 1) M
    else
      ob (f_X8_between v3 v4 M) fun q3 =>
      chk (inR q3) <|
      if q3 ≤ 0 then
        f_X9_stretch_18 F k4 fu v1 v3 (v4 + 1) M
      else
        ob (f_X9_arrives F v3 v4 (-1) M) fun q6 =>
        chk (inR q6.1) <|
        if q6.1 = 0 then
          f_X9_stretch_18 F k4 fu v1 v3 (v4 + 1) q6.2
        else
          chk (notNaN (FP.ddiv (FP.i2d (iI (q6.2 57 1))) (FP.i2d (iI q3)))) <|
          if (Op.cmpValue (FP.dcmp (FP.ddiv (FP.i2d (iI (q6.2 57 1))) (FP.i2d (iI q3))) v1) .l).toInt ≤ 0 then
            f_X9_stretch_18 F k4 fu v1 v3 (v4 + 1) q6.2
          else
            f_X9_stretch_18 F k4 fu (FP.ddiv (FP.i2d (iI (q6.2 57 1))) (FP.i2d (iI q3))) v3 (v4 + 1) q6.2
def f_X9_stretch_4 (F : Nat) : Nat → UInt64 → Int → Mem → Option (UInt64 × Mem)
  | 0, _, _, _ => none
  | fu + 1, v1, v3, M =>
    chk (inR v3) <|
    if M 1 0 ≤ v3 then
      some (v1, M)
    else
      f_X9_stretch_18 F (f_X9_stretch_4 F fu) F v1 v3 0 M
def f_X9_stretch (F : Nat) (M : Mem) : Option (UInt64 × Mem) :=
  f_X9_stretch_4 F F 0 0 M
-- IntervalRouter.load(I)I
def f_X9_load_23 (F : Nat) (k9 : Int → Int → Int → Mem → Option ((Nat ⊕ Int) × Mem)) : Nat → Int → Int → Int → Int → Mem → Option ((Nat ⊕ Int) × Mem)
  | 0, _, _, _, _, _ => none
  | fu + 1, v1, v2, v3, v4, M =>
    chk (inR v3 ∧ inR v4) <|
    if M 1 0 ≤ v4 then
      k9 v1 v2 (v3 + 1) M
    else
      if v3 = v4 then
        f_X9_load_23 F k9 fu v1 v2 v3 (v4 + 1) M
      else
        ob (f_X9_arrives F v3 v4 (-1) M) fun q5 =>
        chk (inR q5.1) <|
        if q5.1 = 0 then
          f_X9_load_23 F k9 fu v1 v2 v3 (v4 + 1) q5.2
        else
          ob (f_X2_wentOver F v1 q5.2) fun q8 =>
          chk (inR q8) <|
          if q8 = 0 then
            f_X9_load_23 F k9 fu v1 v2 v3 (v4 + 1) q5.2
          else
            f_X9_load_23 F k9 fu v1 (v2 + 1) v3 (v4 + 1) q5.2
def f_X9_load_9 (F : Nat) : Nat → Int → Int → Int → Mem → Option ((Nat ⊕ Int) × Mem)
  | 0, _, _, _, _ => none
  | fu + 1, v1, v2, v3, M =>
    chk (inR v3) <|
    if M 1 0 ≤ v3 then
      some (.inr v2, M)
    else
      f_X9_load_23 F (f_X9_load_9 F fu) F v1 v2 v3 0 M
def f_X9_load (F : Nat) (v1 : Int) (M : Mem) : Option ((Nat ⊕ Int) × Mem) :=
  ob (f_X9_needLink v1 M) fun q1 =>
  ox q1 (fun e1 => some (.inl e1, M)) fun r1 =>
  f_X9_load_9 F F v1 0 0 M
-- IntervalRouter.lostWithout(I)I
def f_X9_lostWithout_23 (F : Nat) (k9 : Int → Int → Int → Mem → Option ((Nat ⊕ Int) × Mem)) : Nat → Int → Int → Int → Int → Mem → Option ((Nat ⊕ Int) × Mem)
  | 0, _, _, _, _, _ => none
  | fu + 1, v1, v2, v3, v4, M =>
    chk (inR v3 ∧ inR v4) <|
    if M 1 0 ≤ v4 then
      k9 v1 v2 (v3 + 1) M
    else
      if v3 = v4 then
        f_X9_lostWithout_23 F k9 fu v1 v2 v3 (v4 + 1) M
      else
        ob (f_X9_arrives F v3 v4 (-1) M) fun q5 =>
        chk (inR q5.1) <|
        if q5.1 = 0 then
          f_X9_lostWithout_23 F k9 fu v1 v2 v3 (v4 + 1) q5.2
        else
          ob (f_X9_arrives F v3 v4 v1 q5.2) fun q8 =>
          chk (inR q8.1) <|
          if q8.1 = 0 then
            f_X9_lostWithout_23 F k9 fu v1 (v2 + 1) v3 (v4 + 1) q8.2
          else
            f_X9_lostWithout_23 F k9 fu v1 v2 v3 (v4 + 1) q8.2
def f_X9_lostWithout_9 (F : Nat) : Nat → Int → Int → Int → Mem → Option ((Nat ⊕ Int) × Mem)
  | 0, _, _, _, _ => none
  | fu + 1, v1, v2, v3, M =>
    chk (inR v3) <|
    if M 1 0 ≤ v3 then
      some (.inr v2, M)
    else
      f_X9_lostWithout_23 F (f_X9_lostWithout_9 F fu) F v1 v2 v3 0 M
def f_X9_lostWithout (F : Nat) (v1 : Int) (M : Mem) : Option ((Nat ⊕ Int) × Mem) :=
  ob (f_X9_needLink v1 M) fun q1 =>
  ox q1 (fun e1 => some (.inl e1, M)) fun r1 =>
  f_X9_lostWithout_9 F F v1 0 0 M
-- IntervalRouter.bestCompactness()I
def f_X9_bestCompactness (F : Nat) (M : Mem) : Option ((Nat ⊕ Int) × Mem) :=
  ob (f_X9_needSearchable M) fun q1 =>
  ox q1 (fun e1 => some (.inl e1, M)) fun r1 =>
  ob (f_X5_ensure F (M 1 0) M) fun q2 =>
  some (.inr (q2 51 0), q2)
-- IntervalRouter.labelings(I)I
def f_X9_labelings (F : Nat) (v1 : Int) (M : Mem) : Option ((Nat ⊕ Int) × Mem) :=
  ob (f_X9_needRange v1 0 9 M) fun q1 =>
  ox q1 (fun e1 => some (.inl e1, M)) fun r1 =>
  ob (f_X9_needSearchable M) fun q2 =>
  ox q2 (fun e2 => some (.inl e2, M)) fun r2 =>
  ob (f_X5_ensure F (M 1 0) M) fun q3 =>
  ob (f_X5_countUpTo F v1 q3) fun q4 =>
  some (.inr q4, q3)
-- IntervalRouter.append(I)I
def f_X9_append (v1 : Int) (M : Mem) : Option ((Nat ⊕ Int) × Mem) :=
  ob (f_X9_needRange v1 0 127 M) fun q1 =>
  ox q1 (fun e1 => some (.inl e1, M)) fun r1 =>
  if M 62 0 < 100 then
    ob (f_X3_put v1 M) fun q3 =>
    some (.inr (q3 62 0), q3)
  else
    some (.inl 2, M)
-- IntervalRouter.clearText()I
def f_X9_clearText (M : Mem) : Option (Int × Mem) :=
  some (M 62 0, mset M 62 0 0)
-- IntervalRouter.parse()I
def f_X9_parse (F : Nat) (M : Mem) : Option (Int × Mem) :=
  ob (f_X3_readInto F M) fun q1 =>
  chk (inR q1.1) <|
  if q1.1 = (-1) then
    ob (f_X0_save F q1.2) fun q4 =>
    ob (f_X6_copyFrom 1 7 q4) fun q5 =>
    ob (f_X9_networkChanged F q5) fun q6 =>
    some (q6 1 1, q6)
  else
    some ((-10) - q1.1, q1.2)
-- IntervalRouter.undo()I
def f_X9_undo (F : Nat) (M : Mem) : Option ((Nat ⊕ Int) × Mem) :=
  if M 13 0 = 0 then
    some (.inl 2, M)
  else
    ob (f_X0_restore M) fun q2 =>
    ob (f_X9_measureNetwork F q2) fun q3 =>
    some (.inr (q3 13 0), q3)
-- IntervalRouter.digest()J
def f_X9_digest_54 (F : Nat) : Nat → Int → Int → Mem → Option (Int × Mem)
  | 0, _, _, _ => none
  | fu + 1, v1, v3, M =>
    chk (inR v3) <|
    if 5 ≤ v3 then
      ob (f_X9_arriving F M) fun q7 =>
      chk (inR q7.1) <|
      some ((31 * ((31 * v1) + q7.1)) + (q7.2 13 0), q7.2)
    else
      ob (f_X9_pairsJudged F v3 M) fun q9 =>
      chk (inR q9) <|
      f_X9_digest_54 F fu ((31 * v1) + q9) (v3 + 1) M
def f_X9_digest (F : Nat) (M : Mem) : Option (Int × Mem) :=
  ob (f_X6_mixInto F 1 ((31 * 3083) + (M 62 0)) M) fun q1 =>
  ob (f_X9_networkSize F M) fun q2 =>
  chk (inR q2.1) <|
  ob (f_X9_compactness F q2.2) fun q4 =>
  chk (inR q4.1) <|
  f_X9_digest_54 F F ((31 * ((31 * q1) + q2.1)) + q4.1) 0 q4.2
