/-! the pure functions, read off the bytecode -/
-- IntervalRouterLaw.begin(LIntervalRouter;I[J)I
def f_L_begin (F : Nat) (v1 : Int) (M : Mem) : Option (Int × Mem) :=
  ob (f_X9_begin F v1 M) fun q1 =>
  ox q1.1 (fun e1 =>
      if e1 = 0 then
        some (1, q1.2)
      else
        none
    ) fun r1 =>
  chk (inR r1) <|
  some (0, mset q1.2 1079 0 r1)
-- IntervalRouterLaw.addLink(LIntervalRouter;III[J)I
def f_L_addLink (F : Nat) (v1 : Int) (v2 : Int) (v3 : Int) (M : Mem) : Option (Int × Mem) :=
  ob (f_X9_addLink F v1 v2 v3 M) fun q1 =>
  ox q1.1 (fun e1 =>
      if e1 = 1 then
        some (1, q1.2)
      else
        if e1 = 0 then
          some (2, q1.2)
        else
          if e1 = 2 then
            some (3, q1.2)
          else
            none
    ) fun r1 =>
  chk (inR r1) <|
  some (0, mset q1.2 1079 0 r1)
-- IntervalRouterLaw.removeLink(LIntervalRouter;I[J)I
def f_L_removeLink (F : Nat) (v1 : Int) (M : Mem) : Option (Int × Mem) :=
  ob (f_X9_removeLink F v1 M) fun q1 =>
  ox q1.1 (fun e1 =>
      if e1 = 1 then
        some (1, q1.2)
      else
        none
    ) fun r1 =>
  chk (inR r1) <|
  some (0, mset q1.2 1079 0 r1)
-- IntervalRouterLaw.setLength(LIntervalRouter;II[J)I
def f_L_setLength (F : Nat) (v1 : Int) (v2 : Int) (M : Mem) : Option (Int × Mem) :=
  ob (f_X9_setLength F v1 v2 M) fun q1 =>
  ox q1.1 (fun e1 =>
      if e1 = 1 then
        some (1, q1.2)
      else
        if e1 = 0 then
          some (2, q1.2)
        else
          none
    ) fun r1 =>
  chk (inR r1) <|
  some (0, mset q1.2 1079 0 r1)
-- IntervalRouterLaw.link(LIntervalRouter;II[J)I
def f_L_link (v1 : Int) (v2 : Int) (M : Mem) : Option (Int × Mem) :=
  ob (f_X9_link v1 v2 M) fun q1 =>
  ox q1 (fun e1 =>
      if e1 = 1 then
        some (1, M)
      else
        if e1 = 0 then
          some (2, M)
        else
          none
    ) fun r1 =>
  chk (inR r1) <|
  some (0, mset M 1079 0 r1)
-- IntervalRouterLaw.distance(LIntervalRouter;II[J)I
def f_L_distance (v1 : Int) (v2 : Int) (M : Mem) : Option (Int × Mem) :=
  ob (f_X9_distance v1 v2 M) fun q1 =>
  ox q1 (fun e1 =>
      if e1 = 1 then
        some (1, M)
      else
        none
    ) fun r1 =>
  chk (inR r1) <|
  some (0, mset M 1079 0 r1)
-- IntervalRouterLaw.goodLinks(LIntervalRouter;II[J)I
def f_L_goodLinks (v1 : Int) (v2 : Int) (M : Mem) : Option (Int × Mem) :=
  ob (f_X9_goodLinks v1 v2 M) fun q1 =>
  ox q1 (fun e1 =>
      if e1 = 1 then
        some (1, M)
      else
        none
    ) fun r1 =>
  chk (inR r1) <|
  some (0, mset M 1079 0 r1)
-- IntervalRouterLaw.label(LIntervalRouter;I[J)I
def f_L_label (v1 : Int) (M : Mem) : Option (Int × Mem) :=
  ob (f_X9_label v1 M) fun q1 =>
  ox q1 (fun e1 =>
      if e1 = 1 then
        some (1, M)
      else
        none
    ) fun r1 =>
  chk (inR r1) <|
  some (0, mset M 1079 0 r1)
-- IntervalRouterLaw.nodeWith(LIntervalRouter;I[J)I
def f_L_nodeWith (F : Nat) (v1 : Int) (M : Mem) : Option (Int × Mem) :=
  ob (f_X9_nodeWith F v1 M) fun q1 =>
  ox q1 (fun e1 =>
      if e1 = 1 then
        some (1, M)
      else
        none
    ) fun r1 =>
  chk (inR r1) <|
  some (0, mset M 1079 0 r1)
-- IntervalRouterLaw.setLabels(LIntervalRouter;II[J)I
def f_L_setLabels (F : Nat) (v1 : Int) (v2 : Int) (M : Mem) : Option (Int × Mem) :=
  ob (f_X9_setLabels F v1 v2 M) fun q1 =>
  ox q1.1 (fun e1 =>
      if e1 = 0 then
        some (1, q1.2)
      else
        if e1 = 1 then
          some (2, q1.2)
        else
          if e1 = 2 then
            some (3, q1.2)
          else
            none
    ) fun r1 =>
  chk (inR r1) <|
  some (0, mset q1.2 1079 0 r1)
-- IntervalRouterLaw.swapLabels(LIntervalRouter;II[J)I
def f_L_swapLabels (F : Nat) (v1 : Int) (v2 : Int) (M : Mem) : Option (Int × Mem) :=
  ob (f_X9_swapLabels F v1 v2 M) fun q1 =>
  ox q1.1 (fun e1 =>
      if e1 = 1 then
        some (1, q1.2)
      else
        none
    ) fun r1 =>
  chk (inR r1) <|
  some (0, mset q1.2 1079 0 r1)
-- IntervalRouterLaw.turn(LIntervalRouter;I[J)I
def f_L_turn (F : Nat) (v1 : Int) (M : Mem) : Option (Int × Mem) :=
  ob (f_X9_turn F v1 M) fun q1 =>
  ox q1.1 (fun e1 =>
      if e1 = 0 then
        some (1, q1.2)
      else
        if e1 = 2 then
          some (2, q1.2)
        else
          none
    ) fun r1 =>
  chk (inR r1) <|
  some (0, mset q1.2 1079 0 r1)
-- IntervalRouterLaw.shuffle(LIntervalRouter;I[J)I
def f_L_shuffle (F : Nat) (v1 : Int) (M : Mem) : Option (Int × Mem) :=
  ob (f_X9_shuffle F v1 M) fun q1 =>
  ox q1.1 (fun e1 =>
      if e1 = 0 then
        some (1, q1.2)
      else
        none
    ) fun r1 =>
  chk (inR r1) <|
  some (0, mset q1.2 1079 0 r1)
-- IntervalRouterLaw.setRange(LIntervalRouter;IIII[J)I
def f_L_setRange (F : Nat) (v1 : Int) (v2 : Int) (v3 : Int) (v4 : Int) (M : Mem) : Option (Int × Mem) :=
  ob (f_X9_setRange F v1 v2 v3 v4 M) fun q1 =>
  ox q1.1 (fun e1 =>
      if e1 = 1 then
        some (1, q1.2)
      else
        if e1 = 0 then
          some (2, q1.2)
        else
          none
    ) fun r1 =>
  chk (inR r1) <|
  some (0, mset q1.2 1079 0 r1)
-- IntervalRouterLaw.entry(LIntervalRouter;II[J)I
def f_L_entry (v1 : Int) (v2 : Int) (M : Mem) : Option (Int × Mem) :=
  ob (f_X9_entry v1 v2 M) fun q1 =>
  ox q1 (fun e1 =>
      if e1 = 1 then
        some (1, M)
      else
        none
    ) fun r1 =>
  chk (inR r1) <|
  some (0, mset M 1079 0 r1)
-- IntervalRouterLaw.runs(LIntervalRouter;II[J)I
def f_L_runs (F : Nat) (v1 : Int) (v2 : Int) (M : Mem) : Option (Int × Mem) :=
  ob (f_X9_runs F v1 v2 M) fun q1 =>
  ox q1.1 (fun e1 =>
      if e1 = 1 then
        some (1, q1.2)
      else
        if e1 = 0 then
          some (2, q1.2)
        else
          none
    ) fun r1 =>
  chk (inR r1) <|
  some (0, mset q1.2 1079 0 r1)
-- IntervalRouterLaw.runEnd(LIntervalRouter;IIIZ[J)I
def f_L_runEnd (F : Nat) (v1 : Int) (v2 : Int) (v3 : Int) (v4 : Int) (M : Mem) : Option (Int × Mem) :=
  ob (f_X9_runEnd F v1 v2 v3 v4 M) fun q1 =>
  ox q1.1 (fun e1 =>
      if e1 = 1 then
        some (1, q1.2)
      else
        none
    ) fun r1 =>
  chk (inR r1) <|
  some (0, mset q1.2 1079 0 r1)
-- IntervalRouterLaw.tableSize(LIntervalRouter;I[J)I
def f_L_tableSize (F : Nat) (v1 : Int) (M : Mem) : Option (Int × Mem) :=
  ob (f_X9_tableSize F v1 M) fun q1 =>
  ox q1.1 (fun e1 =>
      if e1 = 1 then
        some (1, q1.2)
      else
        none
    ) fun r1 =>
  chk (inR r1) <|
  some (0, mset q1.2 1079 0 r1)
-- IntervalRouterLaw.bestSize(LIntervalRouter;I[J)I
def f_L_bestSize (F : Nat) (v1 : Int) (M : Mem) : Option (Int × Mem) :=
  ob (f_X9_bestSize F v1 M) fun q1 =>
  ox q1.1 (fun e1 =>
      if e1 = 1 then
        some (1, q1.2)
      else
        none
    ) fun r1 =>
  chk (inR r1) <|
  some (0, mset q1.2 1079 0 r1)
-- IntervalRouterLaw.check(LIntervalRouter;II[J)I
def f_L_check (v1 : Int) (v2 : Int) (M : Mem) : Option (Int × Mem) :=
  ob (f_X9_check v1 v2 M) fun q1 =>
  ox q1 (fun e1 =>
      if e1 = 1 then
        some (1, M)
      else
        none
    ) fun r1 =>
  chk (inR r1) <|
  some (0, mset M 1079 0 r1)
-- IntervalRouterLaw.checked(LIntervalRouter;I[J)I
def f_L_checked (F : Nat) (v1 : Int) (M : Mem) : Option (Int × Mem) :=
  ob (f_X9_checked F v1 M) fun q1 =>
  ox q1 (fun e1 =>
      if e1 = 0 then
        some (1, M)
      else
        none
    ) fun r1 =>
  chk (inR r1) <|
  some (0, mset M 1079 0 r1)
-- IntervalRouterLaw.send(LIntervalRouter;II[J)I
def f_L_send (F : Nat) (v1 : Int) (v2 : Int) (M : Mem) : Option (Int × Mem) :=
  ob (f_X9_send F v1 v2 M) fun q1 =>
  ox q1.1 (fun e1 =>
      if e1 = 1 then
        some (1, q1.2)
      else
        none
    ) fun r1 =>
  chk (inR r1) <|
  some (0, mset q1.2 1079 0 r1)
-- IntervalRouterLaw.wayNode(LIntervalRouter;III[J)I
def f_L_wayNode (F : Nat) (v1 : Int) (v2 : Int) (v3 : Int) (M : Mem) : Option (Int × Mem) :=
  ob (f_X9_wayNode F v1 v2 v3 M) fun q1 =>
  ox q1.1 (fun e1 =>
      if e1 = 1 then
        some (1, q1.2)
      else
        if e1 = 0 then
          some (2, q1.2)
        else
          none
    ) fun r1 =>
  chk (inR r1) <|
  some (0, mset q1.2 1079 0 r1)
-- IntervalRouterLaw.load(LIntervalRouter;I[J)I
def f_L_load (F : Nat) (v1 : Int) (M : Mem) : Option (Int × Mem) :=
  ob (f_X9_load F v1 M) fun q1 =>
  ox q1.1 (fun e1 =>
      if e1 = 1 then
        some (1, q1.2)
      else
        none
    ) fun r1 =>
  chk (inR r1) <|
  some (0, mset q1.2 1079 0 r1)
-- IntervalRouterLaw.lostWithout(LIntervalRouter;I[J)I
def f_L_lostWithout (F : Nat) (v1 : Int) (M : Mem) : Option (Int × Mem) :=
  ob (f_X9_lostWithout F v1 M) fun q1 =>
  ox q1.1 (fun e1 =>
      if e1 = 1 then
        some (1, q1.2)
      else
        none
    ) fun r1 =>
  chk (inR r1) <|
  some (0, mset q1.2 1079 0 r1)
-- IntervalRouterLaw.bestCompactness(LIntervalRouter;[J)I
def f_L_bestCompactness (F : Nat) (M : Mem) : Option (Int × Mem) :=
  ob (f_X9_bestCompactness F M) fun q1 =>
  ox q1.1 (fun e1 =>
      if e1 = 2 then
        some (1, q1.2)
      else
        none
    ) fun r1 =>
  chk (inR r1) <|
  some (0, mset q1.2 1079 0 r1)
-- IntervalRouterLaw.labelings(LIntervalRouter;I[J)I
def f_L_labelings (F : Nat) (v1 : Int) (M : Mem) : Option (Int × Mem) :=
  ob (f_X9_labelings F v1 M) fun q1 =>
  ox q1.1 (fun e1 =>
      if e1 = 0 then
        some (1, q1.2)
      else
        if e1 = 2 then
          some (2, q1.2)
        else
          none
    ) fun r1 =>
  chk (inR r1) <|
  some (0, mset q1.2 1079 0 r1)
-- IntervalRouterLaw.append(LIntervalRouter;I[J)I
def f_L_append (v1 : Int) (M : Mem) : Option (Int × Mem) :=
  ob (f_X9_append v1 M) fun q1 =>
  ox q1.1 (fun e1 =>
      if e1 = 0 then
        some (1, q1.2)
      else
        if e1 = 2 then
          some (2, q1.2)
        else
          none
    ) fun r1 =>
  chk (inR r1) <|
  some (0, mset q1.2 1079 0 r1)
-- IntervalRouterLaw.undo(LIntervalRouter;[J)I
def f_L_undo (F : Nat) (M : Mem) : Option (Int × Mem) :=
  ob (f_X9_undo F M) fun q1 =>
  ox q1.1 (fun e1 =>
      if e1 = 2 then
        some (1, q1.2)
      else
        none
    ) fun r1 =>
  chk (inR r1) <|
  some (0, mset q1.2 1079 0 r1)
