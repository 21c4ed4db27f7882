/-! the law's loop, read off the bytecode: the script zs of L ints, the place v4 -/
def f_L_law_23 (F : Nat) (zs : Int → Int) (L : Int) : Nat → Int → Mem → Option (Int)
  | 0, _, _ => none
  | fu + 1, v4, M =>
    chk (inR v4) <|
    chk (inR (L - 5)) <|
    if L - 5 < v4 then
      some (1)
    else
      chk (0 ≤ v4 ∧ v4 < L) <|
      if band (zs v4) 63 = 0 then
        chk (0 ≤ v4 + 1 ∧ v4 + 1 < L) <|
        ob (f_L_begin F (zs (v4 + 1)) M) fun q5 =>
        ob (f_X10_begin F (zs (v4 + 1)) q5.2) fun q6 =>
        ob (f_X10_thrown q6.2) fun q7 =>
        chk (inR q7) <|
        chk (inR q5.1) <|
        if q7 = q5.1 then
          if q5.1 = 0 then
            chk (inR q6.1) <|
            if (lg_cmp (lI (q6.2 1079 0)) (lI q6.1)).toInt = 0 then
              f_L_law_23 F zs L fu (v4 + 5) q6.2
            else
              some (0)
          else
            f_L_law_23 F zs L fu (v4 + 5) q6.2
        else
          some (0)
      else
      if band (zs v4) 63 = 1 then
        chk (0 ≤ v4 + 1 ∧ v4 + 1 < L) <|
        chk (0 ≤ v4 + 2 ∧ v4 + 2 < L) <|
        chk (0 ≤ v4 + 3 ∧ v4 + 3 < L) <|
        ob (f_L_addLink F (zs (v4 + 1)) (zs (v4 + 2)) (zs (v4 + 3)) M) fun q17 =>
        ob (f_X10_addLink F (zs (v4 + 1)) (zs (v4 + 2)) (zs (v4 + 3)) q17.2) fun q18 =>
        ob (f_X10_thrown q18.2) fun q19 =>
        chk (inR q19) <|
        chk (inR q17.1) <|
        if q19 = q17.1 then
          if q17.1 = 0 then
            chk (inR q18.1) <|
            if (lg_cmp (lI (q18.2 1079 0)) (lI q18.1)).toInt = 0 then
              f_L_law_23 F zs L fu (v4 + 5) q18.2
            else
              some (0)
          else
            f_L_law_23 F zs L fu (v4 + 5) q18.2
        else
          some (0)
      else
      if band (zs v4) 63 = 2 then
        chk (0 ≤ v4 + 1 ∧ v4 + 1 < L) <|
        ob (f_L_removeLink F (zs (v4 + 1)) M) fun q27 =>
        ob (f_X10_removeLink F (zs (v4 + 1)) q27.2) fun q28 =>
        ob (f_X10_thrown q28.2) fun q29 =>
        chk (inR q29) <|
        chk (inR q27.1) <|
        if q29 = q27.1 then
          if q27.1 = 0 then
            chk (inR q28.1) <|
            if (lg_cmp (lI (q28.2 1079 0)) (lI q28.1)).toInt = 0 then
              f_L_law_23 F zs L fu (v4 + 5) q28.2
            else
              some (0)
          else
            f_L_law_23 F zs L fu (v4 + 5) q28.2
        else
          some (0)
      else
      if band (zs v4) 63 = 3 then
        chk (0 ≤ v4 + 1 ∧ v4 + 1 < L) <|
        chk (0 ≤ v4 + 2 ∧ v4 + 2 < L) <|
        ob (f_L_setLength F (zs (v4 + 1)) (zs (v4 + 2)) M) fun q38 =>
        ob (f_X10_setLength F (zs (v4 + 1)) (zs (v4 + 2)) q38.2) fun q39 =>
        ob (f_X10_thrown q39.2) fun q40 =>
        chk (inR q40) <|
        chk (inR q38.1) <|
        if q40 = q38.1 then
          if q38.1 = 0 then
            chk (inR q39.1) <|
            if (lg_cmp (lI (q39.2 1079 0)) (lI q39.1)).toInt = 0 then
              f_L_law_23 F zs L fu (v4 + 5) q39.2
            else
              some (0)
          else
            f_L_law_23 F zs L fu (v4 + 5) q39.2
        else
          some (0)
      else
      if band (zs v4) 63 = 4 then
        chk (0 ≤ v4 + 1 ∧ v4 + 1 < L) <|
        if zs (v4 + 1) = 0 then
          ob (f_X9_size 0 M) fun q49 =>
          if zs (v4 + 1) = 0 then
            ob (f_X10_size 0 M) fun q51 =>
            chk (inR q49) <|
            chk (inR q51.1) <|
            if q49 = q51.1 then
              f_L_law_23 F zs L fu (v4 + 5) q51.2
            else
              some (0)
          else
            ob (f_X10_size 1 M) fun q55 =>
            chk (inR q49) <|
            chk (inR q55.1) <|
            if q49 = q55.1 then
              f_L_law_23 F zs L fu (v4 + 5) q55.2
            else
              some (0)
        else
          ob (f_X9_size 1 M) fun q59 =>
          if zs (v4 + 1) = 0 then
            ob (f_X10_size 0 M) fun q61 =>
            chk (inR q59) <|
            chk (inR q61.1) <|
            if q59 = q61.1 then
              f_L_law_23 F zs L fu (v4 + 5) q61.2
            else
              some (0)
          else
            ob (f_X10_size 1 M) fun q65 =>
            chk (inR q59) <|
            chk (inR q65.1) <|
            if q59 = q65.1 then
              f_L_law_23 F zs L fu (v4 + 5) q65.2
            else
              some (0)
      else
      if band (zs v4) 63 = 5 then
        chk (0 ≤ v4 + 1 ∧ v4 + 1 < L) <|
        chk (0 ≤ v4 + 2 ∧ v4 + 2 < L) <|
        ob (f_L_link (zs (v4 + 1)) (zs (v4 + 2)) M) fun q71 =>
        ob (f_X10_link (zs (v4 + 1)) (zs (v4 + 2)) q71.2) fun q72 =>
        ob (f_X10_thrown q72.2) fun q73 =>
        chk (inR q73) <|
        chk (inR q71.1) <|
        if q73 = q71.1 then
          if q71.1 = 0 then
            chk (inR q72.1) <|
            if (lg_cmp (lI (q72.2 1079 0)) (lI q72.1)).toInt = 0 then
              f_L_law_23 F zs L fu (v4 + 5) q72.2
            else
              some (0)
          else
            f_L_law_23 F zs L fu (v4 + 5) q72.2
        else
          some (0)
      else
      if band (zs v4) 63 = 6 then
        chk (0 ≤ v4 + 1 ∧ v4 + 1 < L) <|
        chk (0 ≤ v4 + 2 ∧ v4 + 2 < L) <|
        ob (f_L_distance (zs (v4 + 1)) (zs (v4 + 2)) M) fun q82 =>
        ob (f_X10_distance F (zs (v4 + 1)) (zs (v4 + 2)) q82.2) fun q83 =>
        ob (f_X10_thrown q83.2) fun q84 =>
        chk (inR q84) <|
        chk (inR q82.1) <|
        if q84 = q82.1 then
          if q82.1 = 0 then
            chk (inR q83.1) <|
            if (lg_cmp (lI (q83.2 1079 0)) (lI q83.1)).toInt = 0 then
              f_L_law_23 F zs L fu (v4 + 5) q83.2
            else
              some (0)
          else
            f_L_law_23 F zs L fu (v4 + 5) q83.2
        else
          some (0)
      else
      if band (zs v4) 63 = 7 then
        chk (0 ≤ v4 + 1 ∧ v4 + 1 < L) <|
        chk (0 ≤ v4 + 2 ∧ v4 + 2 < L) <|
        ob (f_L_goodLinks (zs (v4 + 1)) (zs (v4 + 2)) M) fun q93 =>
        ob (f_X10_goodLinks F (zs (v4 + 1)) (zs (v4 + 2)) q93.2) fun q94 =>
        ob (f_X10_thrown q94.2) fun q95 =>
        chk (inR q95) <|
        chk (inR q93.1) <|
        if q95 = q93.1 then
          if q93.1 = 0 then
            chk (inR q94.1) <|
            if (lg_cmp (lI (q94.2 1079 0)) (lI q94.1)).toInt = 0 then
              f_L_law_23 F zs L fu (v4 + 5) q94.2
            else
              some (0)
          else
            f_L_law_23 F zs L fu (v4 + 5) q94.2
        else
          some (0)
      else
      if band (zs v4) 63 = 8 then
        ob (f_X9_kind F M) fun q102 =>
        ob (f_X10_kind F M) fun q103 =>
        chk (inR q102) <|
        chk (inR q103.1) <|
        if q102 = q103.1 then
          f_L_law_23 F zs L fu (v4 + 5) q103.2
        else
          some (0)
      else
      if band (zs v4) 63 = 9 then
        chk (0 ≤ v4 + 1 ∧ v4 + 1 < L) <|
        ob (f_L_label (zs (v4 + 1)) M) fun q108 =>
        ob (f_X10_label (zs (v4 + 1)) q108.2) fun q109 =>
        ob (f_X10_thrown q109.2) fun q110 =>
        chk (inR q110) <|
        chk (inR q108.1) <|
        if q110 = q108.1 then
          if q108.1 = 0 then
            chk (inR q109.1) <|
            if (lg_cmp (lI (q109.2 1079 0)) (lI q109.1)).toInt = 0 then
              f_L_law_23 F zs L fu (v4 + 5) q109.2
            else
              some (0)
          else
            f_L_law_23 F zs L fu (v4 + 5) q109.2
        else
          some (0)
      else
      if band (zs v4) 63 = 10 then
        chk (0 ≤ v4 + 1 ∧ v4 + 1 < L) <|
        ob (f_L_nodeWith F (zs (v4 + 1)) M) fun q118 =>
        ob (f_X10_nodeWith F (zs (v4 + 1)) q118.2) fun q119 =>
        ob (f_X10_thrown q119.2) fun q120 =>
        chk (inR q120) <|
        chk (inR q118.1) <|
        if q120 = q118.1 then
          if q118.1 = 0 then
            chk (inR q119.1) <|
            if (lg_cmp (lI (q119.2 1079 0)) (lI q119.1)).toInt = 0 then
              f_L_law_23 F zs L fu (v4 + 5) q119.2
            else
              some (0)
          else
            f_L_law_23 F zs L fu (v4 + 5) q119.2
        else
          some (0)
      else
      if band (zs v4) 63 = 11 then
        chk (0 ≤ v4 + 1 ∧ v4 + 1 < L) <|
        chk (0 ≤ v4 + 2 ∧ v4 + 2 < L) <|
        ob (f_L_setLabels F (zs (v4 + 1)) (zs (v4 + 2)) M) fun q129 =>
        ob (f_X10_setLabels F (zs (v4 + 1)) (zs (v4 + 2)) q129.2) fun q130 =>
        ob (f_X10_thrown q130.2) fun q131 =>
        chk (inR q131) <|
        chk (inR q129.1) <|
        if q131 = q129.1 then
          if q129.1 = 0 then
            chk (inR q130.1) <|
            if (lg_cmp (lI (q130.2 1079 0)) (lI q130.1)).toInt = 0 then
              f_L_law_23 F zs L fu (v4 + 5) q130.2
            else
              some (0)
          else
            f_L_law_23 F zs L fu (v4 + 5) q130.2
        else
          some (0)
      else
      if band (zs v4) 63 = 12 then
        chk (0 ≤ v4 + 1 ∧ v4 + 1 < L) <|
        chk (0 ≤ v4 + 2 ∧ v4 + 2 < L) <|
        ob (f_L_swapLabels F (zs (v4 + 1)) (zs (v4 + 2)) M) fun q140 =>
        ob (f_X10_swapLabels F (zs (v4 + 1)) (zs (v4 + 2)) q140.2) fun q141 =>
        ob (f_X10_thrown q141.2) fun q142 =>
        chk (inR q142) <|
        chk (inR q140.1) <|
        if q142 = q140.1 then
          if q140.1 = 0 then
            chk (inR q141.1) <|
            if (lg_cmp (lI (q141.2 1079 0)) (lI q141.1)).toInt = 0 then
              f_L_law_23 F zs L fu (v4 + 5) q141.2
            else
              some (0)
          else
            f_L_law_23 F zs L fu (v4 + 5) q141.2
        else
          some (0)
      else
      if band (zs v4) 63 = 13 then
        chk (0 ≤ v4 + 1 ∧ v4 + 1 < L) <|
        ob (f_L_turn F (zs (v4 + 1)) M) fun q150 =>
        ob (f_X10_turn F (zs (v4 + 1)) q150.2) fun q151 =>
        ob (f_X10_thrown q151.2) fun q152 =>
        chk (inR q152) <|
        chk (inR q150.1) <|
        if q152 = q150.1 then
          if q150.1 = 0 then
            chk (inR q151.1) <|
            if (lg_cmp (lI (q151.2 1079 0)) (lI q151.1)).toInt = 0 then
              f_L_law_23 F zs L fu (v4 + 5) q151.2
            else
              some (0)
          else
            f_L_law_23 F zs L fu (v4 + 5) q151.2
        else
          some (0)
      else
      if band (zs v4) 63 = 14 then
        chk (0 ≤ v4 + 1 ∧ v4 + 1 < L) <|
        ob (f_L_shuffle F (zs (v4 + 1)) M) fun q160 =>
        ob (f_X10_shuffle F (zs (v4 + 1)) q160.2) fun q161 =>
        ob (f_X10_thrown q161.2) fun q162 =>
        chk (inR q162) <|
        chk (inR q160.1) <|
        if q162 = q160.1 then
          if q160.1 = 0 then
            chk (inR q161.1) <|
            if (lg_cmp (lI (q161.2 1079 0)) (lI q161.1)).toInt = 0 then
              f_L_law_23 F zs L fu (v4 + 5) q161.2
            else
              some (0)
          else
            f_L_law_23 F zs L fu (v4 + 5) q161.2
        else
          some (0)
      else
      if band (zs v4) 63 = 15 then
        ob (f_X9_makeTables F M) fun q169 =>
        ob (f_X10_makeTables F q169.2) fun q170 =>
        chk (inR q169.1) <|
        chk (inR q170.1) <|
        if q169.1 = q170.1 then
          f_L_law_23 F zs L fu (v4 + 5) q170.2
        else
          some (0)
      else
      if band (zs v4) 63 = 16 then
        chk (0 ≤ v4 + 1 ∧ v4 + 1 < L) <|
        chk (0 ≤ v4 + 2 ∧ v4 + 2 < L) <|
        chk (0 ≤ v4 + 3 ∧ v4 + 3 < L) <|
        chk (0 ≤ v4 + 4 ∧ v4 + 4 < L) <|
        ob (f_L_setRange F (zs (v4 + 1)) (zs (v4 + 2)) (zs (v4 + 3)) (zs (v4 + 4)) M) fun q178 =>
        ob (f_X10_setRange F (zs (v4 + 1)) (zs (v4 + 2)) (zs (v4 + 3)) (zs (v4 + 4)) q178.2) fun q179 =>
        ob (f_X10_thrown q179.2) fun q180 =>
        chk (inR q180) <|
        chk (inR q178.1) <|
        if q180 = q178.1 then
          if q178.1 = 0 then
            chk (inR q179.1) <|
            if (lg_cmp (lI (q179.2 1079 0)) (lI q179.1)).toInt = 0 then
              f_L_law_23 F zs L fu (v4 + 5) q179.2
            else
              some (0)
          else
            f_L_law_23 F zs L fu (v4 + 5) q179.2
        else
          some (0)
      else
      if band (zs v4) 63 = 17 then
        chk (0 ≤ v4 + 1 ∧ v4 + 1 < L) <|
        chk (0 ≤ v4 + 2 ∧ v4 + 2 < L) <|
        ob (f_L_entry (zs (v4 + 1)) (zs (v4 + 2)) M) fun q189 =>
        ob (f_X10_entry (zs (v4 + 1)) (zs (v4 + 2)) q189.2) fun q190 =>
        ob (f_X10_thrown q190.2) fun q191 =>
        chk (inR q191) <|
        chk (inR q189.1) <|
        if q191 = q189.1 then
          if q189.1 = 0 then
            chk (inR q190.1) <|
            if (lg_cmp (lI (q190.2 1079 0)) (lI q190.1)).toInt = 0 then
              f_L_law_23 F zs L fu (v4 + 5) q190.2
            else
              some (0)
          else
            f_L_law_23 F zs L fu (v4 + 5) q190.2
        else
          some (0)
      else
      if band (zs v4) 63 = 18 then
        chk (0 ≤ v4 + 1 ∧ v4 + 1 < L) <|
        chk (0 ≤ v4 + 2 ∧ v4 + 2 < L) <|
        ob (f_L_runs F (zs (v4 + 1)) (zs (v4 + 2)) M) fun q200 =>
        ob (f_X10_runs F (zs (v4 + 1)) (zs (v4 + 2)) q200.2) fun q201 =>
        ob (f_X10_thrown q201.2) fun q202 =>
        chk (inR q202) <|
        chk (inR q200.1) <|
        if q202 = q200.1 then
          if q200.1 = 0 then
            chk (inR q201.1) <|
            if (lg_cmp (lI (q201.2 1079 0)) (lI q201.1)).toInt = 0 then
              f_L_law_23 F zs L fu (v4 + 5) q201.2
            else
              some (0)
          else
            f_L_law_23 F zs L fu (v4 + 5) q201.2
        else
          some (0)
      else
      if band (zs v4) 63 = 19 then
        chk (0 ≤ v4 + 1 ∧ v4 + 1 < L) <|
        chk (0 ≤ v4 + 2 ∧ v4 + 2 < L) <|
        chk (0 ≤ v4 + 3 ∧ v4 + 3 < L) <|
        chk (0 ≤ v4 + 4 ∧ v4 + 4 < L) <|
        if zs (v4 + 4) = 0 then
          ob (f_L_runEnd F (zs (v4 + 1)) (zs (v4 + 2)) (zs (v4 + 3)) 0 M) fun q214 =>
          if zs (v4 + 4) = 0 then
            ob (f_X10_runEnd F (zs (v4 + 1)) (zs (v4 + 2)) (zs (v4 + 3)) 0 q214.2) fun q216 =>
            ob (f_X10_thrown q216.2) fun q217 =>
            chk (inR q217) <|
            chk (inR q214.1) <|
            if q217 = q214.1 then
              if q214.1 = 0 then
                chk (inR q216.1) <|
                if (lg_cmp (lI (q216.2 1079 0)) (lI q216.1)).toInt = 0 then
                  f_L_law_23 F zs L fu (v4 + 5) q216.2
                else
                  some (0)
              else
                f_L_law_23 F zs L fu (v4 + 5) q216.2
            else
              some (0)
          else
            ob (f_X10_runEnd F (zs (v4 + 1)) (zs (v4 + 2)) (zs (v4 + 3)) 1 q214.2) fun q224 =>
            ob (f_X10_thrown q224.2) fun q225 =>
            chk (inR q225) <|
            chk (inR q214.1) <|
            if q225 = q214.1 then
              if q214.1 = 0 then
                chk (inR q224.1) <|
                if (lg_cmp (lI (q224.2 1079 0)) (lI q224.1)).toInt = 0 then
                  f_L_law_23 F zs L fu (v4 + 5) q224.2
                else
                  some (0)
              else
                f_L_law_23 F zs L fu (v4 + 5) q224.2
            else
              some (0)
        else
          ob (f_L_runEnd F (zs (v4 + 1)) (zs (v4 + 2)) (zs (v4 + 3)) 1 M) fun q232 =>
          if zs (v4 + 4) = 0 then
            ob (f_X10_runEnd F (zs (v4 + 1)) (zs (v4 + 2)) (zs (v4 + 3)) 0 q232.2) fun q234 =>
            ob (f_X10_thrown q234.2) fun q235 =>
            chk (inR q235) <|
            chk (inR q232.1) <|
            if q235 = q232.1 then
              if q232.1 = 0 then
                chk (inR q234.1) <|
                if (lg_cmp (lI (q234.2 1079 0)) (lI q234.1)).toInt = 0 then
                  f_L_law_23 F zs L fu (v4 + 5) q234.2
                else
                  some (0)
              else
                f_L_law_23 F zs L fu (v4 + 5) q234.2
            else
              some (0)
          else
            ob (f_X10_runEnd F (zs (v4 + 1)) (zs (v4 + 2)) (zs (v4 + 3)) 1 q232.2) fun q242 =>
            ob (f_X10_thrown q242.2) fun q243 =>
            chk (inR q243) <|
            chk (inR q232.1) <|
            if q243 = q232.1 then
              if q232.1 = 0 then
                chk (inR q242.1) <|
                if (lg_cmp (lI (q242.2 1079 0)) (lI q242.1)).toInt = 0 then
                  f_L_law_23 F zs L fu (v4 + 5) q242.2
                else
                  some (0)
              else
                f_L_law_23 F zs L fu (v4 + 5) q242.2
            else
              some (0)
      else
      if band (zs v4) 63 = 20 then
        chk (0 ≤ v4 + 1 ∧ v4 + 1 < L) <|
        ob (f_L_tableSize F (zs (v4 + 1)) M) fun q251 =>
        ob (f_X10_tableSize F (zs (v4 + 1)) q251.2) fun q252 =>
        ob (f_X10_thrown q252.2) fun q253 =>
        chk (inR q253) <|
        chk (inR q251.1) <|
        if q253 = q251.1 then
          if q251.1 = 0 then
            chk (inR q252.1) <|
            if (lg_cmp (lI (q252.2 1079 0)) (lI q252.1)).toInt = 0 then
              f_L_law_23 F zs L fu (v4 + 5) q252.2
            else
              some (0)
          else
            f_L_law_23 F zs L fu (v4 + 5) q252.2
        else
          some (0)
      else
      if band (zs v4) 63 = 21 then
        ob (f_X9_compactness F M) fun q260 =>
        ob (f_X10_compactness F q260.2) fun q261 =>
        chk (inR q260.1) <|
        chk (inR q261.1) <|
        if q260.1 = q261.1 then
          f_L_law_23 F zs L fu (v4 + 5) q261.2
        else
          some (0)
      else
      if band (zs v4) 63 = 22 then
        chk (0 ≤ v4 + 1 ∧ v4 + 1 < L) <|
        ob (f_L_bestSize F (zs (v4 + 1)) M) fun q266 =>
        ob (f_X10_bestSize F (zs (v4 + 1)) q266.2) fun q267 =>
        ob (f_X10_thrown q267.2) fun q268 =>
        chk (inR q268) <|
        chk (inR q266.1) <|
        if q268 = q266.1 then
          if q266.1 = 0 then
            chk (inR q267.1) <|
            if (lg_cmp (lI (q267.2 1079 0)) (lI q267.1)).toInt = 0 then
              f_L_law_23 F zs L fu (v4 + 5) q267.2
            else
              some (0)
          else
            f_L_law_23 F zs L fu (v4 + 5) q267.2
        else
          some (0)
      else
      if band (zs v4) 63 = 23 then
        chk (0 ≤ v4 + 1 ∧ v4 + 1 < L) <|
        chk (0 ≤ v4 + 2 ∧ v4 + 2 < L) <|
        ob (f_L_check (zs (v4 + 1)) (zs (v4 + 2)) M) fun q277 =>
        ob (f_X10_check F (zs (v4 + 1)) (zs (v4 + 2)) q277.2) fun q278 =>
        ob (f_X10_thrown q278.2) fun q279 =>
        chk (inR q279) <|
        chk (inR q277.1) <|
        if q279 = q277.1 then
          if q277.1 = 0 then
            chk (inR q278.1) <|
            if (lg_cmp (lI (q278.2 1079 0)) (lI q278.1)).toInt = 0 then
              f_L_law_23 F zs L fu (v4 + 5) q278.2
            else
              some (0)
          else
            f_L_law_23 F zs L fu (v4 + 5) q278.2
        else
          some (0)
      else
      if band (zs v4) 63 = 24 then
        chk (0 ≤ v4 + 1 ∧ v4 + 1 < L) <|
        ob (f_L_checked F (zs (v4 + 1)) M) fun q287 =>
        ob (f_X10_checked F (zs (v4 + 1)) q287.2) fun q288 =>
        ob (f_X10_thrown q288.2) fun q289 =>
        chk (inR q289) <|
        chk (inR q287.1) <|
        if q289 = q287.1 then
          if q287.1 = 0 then
            chk (inR q288.1) <|
            if (lg_cmp (lI (q288.2 1079 0)) (lI q288.1)).toInt = 0 then
              f_L_law_23 F zs L fu (v4 + 5) q288.2
            else
              some (0)
          else
            f_L_law_23 F zs L fu (v4 + 5) q288.2
        else
          some (0)
      else
      if band (zs v4) 63 = 25 then
        chk (0 ≤ v4 + 1 ∧ v4 + 1 < L) <|
        chk (0 ≤ v4 + 2 ∧ v4 + 2 < L) <|
        ob (f_L_send F (zs (v4 + 1)) (zs (v4 + 2)) M) fun q298 =>
        ob (f_X10_send F (zs (v4 + 1)) (zs (v4 + 2)) q298.2) fun q299 =>
        ob (f_X10_thrown q299.2) fun q300 =>
        chk (inR q300) <|
        chk (inR q298.1) <|
        if q300 = q298.1 then
          if q298.1 = 0 then
            chk (inR q299.1) <|
            if (lg_cmp (lI (q299.2 1079 0)) (lI q299.1)).toInt = 0 then
              f_L_law_23 F zs L fu (v4 + 5) q299.2
            else
              some (0)
          else
            f_L_law_23 F zs L fu (v4 + 5) q299.2
        else
          some (0)
      else
      if band (zs v4) 63 = 26 then
        chk (0 ≤ v4 + 1 ∧ v4 + 1 < L) <|
        chk (0 ≤ v4 + 2 ∧ v4 + 2 < L) <|
        chk (0 ≤ v4 + 3 ∧ v4 + 3 < L) <|
        ob (f_L_wayNode F (zs (v4 + 1)) (zs (v4 + 2)) (zs (v4 + 3)) M) fun q310 =>
        ob (f_X10_wayNode F (zs (v4 + 1)) (zs (v4 + 2)) (zs (v4 + 3)) q310.2) fun q311 =>
        ob (f_X10_thrown q311.2) fun q312 =>
        chk (inR q312) <|
        chk (inR q310.1) <|
        if q312 = q310.1 then
          if q310.1 = 0 then
            chk (inR q311.1) <|
            if (lg_cmp (lI (q311.2 1079 0)) (lI q311.1)).toInt = 0 then
              f_L_law_23 F zs L fu (v4 + 5) q311.2
            else
              some (0)
          else
            f_L_law_23 F zs L fu (v4 + 5) q311.2
        else
          some (0)
      else
      if band (zs v4) 63 = 27 then
        ob (f_X9_arriving F M) fun q319 =>
        ob (f_X10_arriving F q319.2) fun q320 =>
        chk (inR q319.1) <|
        chk (inR q320.1) <|
        if q319.1 = q320.1 then
          f_L_law_23 F zs L fu (v4 + 5) q320.2
        else
          some (0)
      else
      if band (zs v4) 63 = 28 then
        ob (f_X9_stretch F M) fun q324 =>
        ob (f_X10_stretch F q324.2) fun q325 =>
        if (Op.cmpValue (FP.dcmp q324.1 q325.1) .l).toInt = 0 then
          f_L_law_23 F zs L fu (v4 + 5) q325.2
        else
          if (Op.cmpValue (FP.dcmp q324.1 q324.1) .l).toInt = 0 then
            some (0)
          else
            if (Op.cmpValue (FP.dcmp q325.1 q325.1) .l).toInt = 0 then
              some (0)
            else
              f_L_law_23 F zs L fu (v4 + 5) q325.2
      else
      if band (zs v4) 63 = 29 then
        chk (0 ≤ v4 + 1 ∧ v4 + 1 < L) <|
        ob (f_L_load F (zs (v4 + 1)) M) fun q330 =>
        ob (f_X10_load F (zs (v4 + 1)) q330.2) fun q331 =>
        ob (f_X10_thrown q331.2) fun q332 =>
        chk (inR q332) <|
        chk (inR q330.1) <|
        if q332 = q330.1 then
          if q330.1 = 0 then
            chk (inR q331.1) <|
            if (lg_cmp (lI (q331.2 1079 0)) (lI q331.1)).toInt = 0 then
              f_L_law_23 F zs L fu (v4 + 5) q331.2
            else
              some (0)
          else
            f_L_law_23 F zs L fu (v4 + 5) q331.2
        else
          some (0)
      else
      if band (zs v4) 63 = 30 then
        chk (0 ≤ v4 + 1 ∧ v4 + 1 < L) <|
        ob (f_L_lostWithout F (zs (v4 + 1)) M) fun q340 =>
        ob (f_X10_lostWithout F (zs (v4 + 1)) q340.2) fun q341 =>
        ob (f_X10_thrown q341.2) fun q342 =>
        chk (inR q342) <|
        chk (inR q340.1) <|
        if q342 = q340.1 then
          if q340.1 = 0 then
            chk (inR q341.1) <|
            if (lg_cmp (lI (q341.2 1079 0)) (lI q341.1)).toInt = 0 then
              f_L_law_23 F zs L fu (v4 + 5) q341.2
            else
              some (0)
          else
            f_L_law_23 F zs L fu (v4 + 5) q341.2
        else
          some (0)
      else
      if band (zs v4) 63 = 31 then
        ob (f_L_bestCompactness F M) fun q349 =>
        ob (f_X10_bestCompactness F q349.2) fun q350 =>
        ob (f_X10_thrown q350.2) fun q351 =>
        chk (inR q351) <|
        chk (inR q349.1) <|
        if q351 = q349.1 then
          if q349.1 = 0 then
            chk (inR q350.1) <|
            if (lg_cmp (lI (q350.2 1079 0)) (lI q350.1)).toInt = 0 then
              f_L_law_23 F zs L fu (v4 + 5) q350.2
            else
              some (0)
          else
            f_L_law_23 F zs L fu (v4 + 5) q350.2
        else
          some (0)
      else
      if band (zs v4) 63 = 32 then
        chk (0 ≤ v4 + 1 ∧ v4 + 1 < L) <|
        ob (f_L_labelings F (zs (v4 + 1)) M) fun q359 =>
        ob (f_X10_labelings F (zs (v4 + 1)) q359.2) fun q360 =>
        ob (f_X10_thrown q360.2) fun q361 =>
        chk (inR q361) <|
        chk (inR q359.1) <|
        if q361 = q359.1 then
          if q359.1 = 0 then
            chk (inR q360.1) <|
            if (lg_cmp (lI (q360.2 1079 0)) (lI q360.1)).toInt = 0 then
              f_L_law_23 F zs L fu (v4 + 5) q360.2
            else
              some (0)
          else
            f_L_law_23 F zs L fu (v4 + 5) q360.2
        else
          some (0)
      else
      if band (zs v4) 63 = 33 then
        chk (0 ≤ v4 + 1 ∧ v4 + 1 < L) <|
        ob (f_L_append (zs (v4 + 1)) M) fun q369 =>
        ob (f_X10_append (zs (v4 + 1)) q369.2) fun q370 =>
        ob (f_X10_thrown q370.2) fun q371 =>
        chk (inR q371) <|
        chk (inR q369.1) <|
        if q371 = q369.1 then
          if q369.1 = 0 then
            chk (inR q370.1) <|
            if (lg_cmp (lI (q370.2 1079 0)) (lI q370.1)).toInt = 0 then
              f_L_law_23 F zs L fu (v4 + 5) q370.2
            else
              some (0)
          else
            f_L_law_23 F zs L fu (v4 + 5) q370.2
        else
          some (0)
      else
      if band (zs v4) 63 = 34 then
        ob (f_X9_clearText M) fun q378 =>
        ob (f_X10_clearText q378.2) fun q379 =>
        chk (inR q378.1) <|
        chk (inR q379.1) <|
        if q378.1 = q379.1 then
          f_L_law_23 F zs L fu (v4 + 5) q379.2
        else
          some (0)
      else
      if band (zs v4) 63 = 35 then
        ob (f_X9_parse F M) fun q383 =>
        ob (f_X10_parse F q383.2) fun q384 =>
        chk (inR q383.1) <|
        chk (inR q384.1) <|
        if q383.1 = q384.1 then
          f_L_law_23 F zs L fu (v4 + 5) q384.2
        else
          some (0)
      else
      if band (zs v4) 63 = 36 then
        ob (f_L_undo F M) fun q388 =>
        ob (f_X10_undo F q388.2) fun q389 =>
        ob (f_X10_thrown q389.2) fun q390 =>
        chk (inR q390) <|
        chk (inR q388.1) <|
        if q390 = q388.1 then
          if q388.1 = 0 then
            chk (inR q389.1) <|
            if (lg_cmp (lI (q389.2 1079 0)) (lI q389.1)).toInt = 0 then
              f_L_law_23 F zs L fu (v4 + 5) q389.2
            else
              some (0)
          else
            f_L_law_23 F zs L fu (v4 + 5) q389.2
        else
          some (0)
      else
      if band (zs v4) 63 = 37 then
        ob (f_X9_digest F M) fun q397 =>
        ob (f_X10_digest F q397.2) fun q398 =>
        if (lg_cmp (lI q397.1) (lI q398.1)).toInt = 0 then
          f_L_law_23 F zs L fu (v4 + 5) q398.2
        else
          some (0)
      else
      f_L_law_23 F zs L fu (v4 + 5) M
