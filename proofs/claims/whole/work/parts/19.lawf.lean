theorem ki_6 : Int32.ofInt (6) = (6 : Int32) := by decide
theorem nw_L : Cond.initialized RL ∈ WS := wmem 88 (by decide +kernel) rfl
def f_L_law_23B (L : Nat) (xs : Nat → Int32) (k23 : Int32 → DD → Option Unit) (v4 : Int32) (d : DD) : Option Unit :=
  if ((Int32.ofNat L) - (6 : Int32)) < v4 then
  some ()
  else
  if ixb v4 L then
    if ((xs v4.toNatClampNeg) &&& (63 : Int32)) = (0 : Int32) then
      if ixb (v4 + (1 : Int32)) L then
        if ixb (v4 + (2 : Int32)) L then
          if ixb (v4 + (3 : Int32)) L then
            if ixb (v4 + (4 : Int32)) L then
              if ixb (v4 + (5 : Int32)) L then
                (f_X9_feed (xs (v4 + (1 : Int32)).toNatClampNeg) (xs (v4 + (2 : Int32)).toNatClampNeg) (xs (v4 + (3 : Int32)).toNatClampNeg) (xs (v4 + (4 : Int32)).toNatClampNeg) (xs (v4 + (5 : Int32)).toNatClampNeg) d).bind fun q1 =>
                  if ixb (v4 + (1 : Int32)) L then
                  if ixb (v4 + (2 : Int32)) L then
                    if ixb (v4 + (3 : Int32)) L then
                      if ixb (v4 + (4 : Int32)) L then
                        if ixb (v4 + (5 : Int32)) L then
                          (f_X10_feed (xs (v4 + (1 : Int32)).toNatClampNeg) (xs (v4 + (2 : Int32)).toNatClampNeg) (xs (v4 + (3 : Int32)).toNatClampNeg) (xs (v4 + (4 : Int32)).toNatClampNeg) (xs (v4 + (5 : Int32)).toNatClampNeg) q1.2).bind fun q2 =>
                            if q1.1 = q2.1 then
                            k23 (v4 + (6 : Int32)) q2.2
                            else
                            none
                          else none
                        else none
                      else none
                    else none
                  else none
                else none
              else none
            else none
          else none
        else none
      else if ((xs v4.toNatClampNeg) &&& (63 : Int32)) = (1 : Int32) then
      if ixb (v4 + (1 : Int32)) L then
        (f_X9_end (xs (v4 + (1 : Int32)).toNatClampNeg) d).bind fun q3 =>
          if ixb (v4 + (1 : Int32)) L then
          (f_X10_end (xs (v4 + (1 : Int32)).toNatClampNeg) q3.2).bind fun q4 =>
            if q3.1 = q4.1 then
            k23 (v4 + (6 : Int32)) q4.2
            else
            none
          else none
        else none
      else if ((xs v4.toNatClampNeg) &&& (63 : Int32)) = (2 : Int32) then
      (f_X9_house d).bind fun q5 =>
        (f_X10_house q5.2).bind fun q6 =>
        if q5.1 = q6.1 then
        k23 (v4 + (6 : Int32)) q6.2
        else
        none
      else if ((xs v4.toNatClampNeg) &&& (63 : Int32)) = (3 : Int32) then
      (f_X9_fault d).bind fun q7 =>
        (f_X10_fault q7.2).bind fun q8 =>
        if q7.1 = q8.1 then
        k23 (v4 + (6 : Int32)) q8.2
        else
        none
      else if ((xs v4.toNatClampNeg) &&& (63 : Int32)) = (4 : Int32) then
      if ixb (v4 + (1 : Int32)) L then
        if ixb (v4 + (2 : Int32)) L then
          (f_L_kind (xs (v4 + (1 : Int32)).toNatClampNeg) (xs (v4 + (2 : Int32)).toNatClampNeg) d).bind fun q9 =>
            if ixb (v4 + (1 : Int32)) L then
            if ixb (v4 + (2 : Int32)) L then
              (f_X10_kind (xs (v4 + (1 : Int32)).toNatClampNeg) (xs (v4 + (2 : Int32)).toNatClampNeg) q9.2).bind fun q10 =>
                (f_X10_thrown q10.2).bind fun q11 =>
                if q11.1 = q9.1 then
                if q9.1 = 0 then
                  if ixb (0 : Int32) (ln 110) then
                    if (q11.2.2 110 (0 : Int32).toNatClampNeg) = q10.1.toInt64 then
                      k23 (v4 + (6 : Int32)) q11.2
                      else
                      none
                    else none
                  else
                  k23 (v4 + (6 : Int32)) q11.2
                else
                none
              else none
            else none
          else none
        else none
      else if ((xs v4.toNatClampNeg) &&& (63 : Int32)) = (5 : Int32) then
      if ixb (v4 + (1 : Int32)) L then
        if ixb (v4 + (2 : Int32)) L then
          if ixb (v4 + (3 : Int32)) L then
            (f_X9_passes (xs (v4 + (1 : Int32)).toNatClampNeg) (xs (v4 + (2 : Int32)).toNatClampNeg) (xs (v4 + (3 : Int32)).toNatClampNeg) d).bind fun q12 =>
              if ixb (v4 + (1 : Int32)) L then
              if ixb (v4 + (2 : Int32)) L then
                if ixb (v4 + (3 : Int32)) L then
                  (f_X10_passes (xs (v4 + (1 : Int32)).toNatClampNeg) (xs (v4 + (2 : Int32)).toNatClampNeg) (xs (v4 + (3 : Int32)).toNatClampNeg) q12.2).bind fun q13 =>
                    if q12.1 = q13.1 then
                    k23 (v4 + (6 : Int32)) q13.2
                    else
                    none
                  else none
                else none
              else none
            else none
          else none
        else none
      else if ((xs v4.toNatClampNeg) &&& (63 : Int32)) = (6 : Int32) then
      if ixb (v4 + (1 : Int32)) L then
        (f_X9_may (xs (v4 + (1 : Int32)).toNatClampNeg) d).bind fun q14 =>
          if ixb (v4 + (1 : Int32)) L then
          (f_X10_may (xs (v4 + (1 : Int32)).toNatClampNeg) q14.2).bind fun q15 =>
            if q14.1 = q15.1 then
            k23 (v4 + (6 : Int32)) q15.2
            else
            none
          else none
        else none
      else if ((xs v4.toNatClampNeg) &&& (63 : Int32)) = (7 : Int32) then
      (f_X9_tellings d).bind fun q16 =>
        (f_X10_tellings q16.2).bind fun q17 =>
        if q16.1 = q17.1 then
        k23 (v4 + (6 : Int32)) q17.2
        else
        none
      else if ((xs v4.toNatClampNeg) &&& (63 : Int32)) = (8 : Int32) then
      if ixb (v4 + (1 : Int32)) L then
        if ixb (v4 + (2 : Int32)) L then
          if ixb (v4 + (3 : Int32)) L then
            (f_X9_tell (xs (v4 + (1 : Int32)).toNatClampNeg) (xs (v4 + (2 : Int32)).toNatClampNeg) (xs (v4 + (3 : Int32)).toNatClampNeg) d).bind fun q18 =>
              if ixb (v4 + (1 : Int32)) L then
              if ixb (v4 + (2 : Int32)) L then
                if ixb (v4 + (3 : Int32)) L then
                  (f_X10_tell (xs (v4 + (1 : Int32)).toNatClampNeg) (xs (v4 + (2 : Int32)).toNatClampNeg) (xs (v4 + (3 : Int32)).toNatClampNeg) q18.2).bind fun q19 =>
                    if q18.1 = q19.1 then
                    k23 (v4 + (6 : Int32)) q19.2
                    else
                    none
                  else none
                else none
              else none
            else none
          else none
        else none
      else if ((xs v4.toNatClampNeg) &&& (63 : Int32)) = (9 : Int32) then
      (f_X9_untell d).bind fun q20 =>
        (f_X10_untell q20.2).bind fun q21 =>
        if q20.1 = q21.1 then
        k23 (v4 + (6 : Int32)) q21.2
        else
        none
      else if ((xs v4.toNatClampNeg) &&& (63 : Int32)) = (10 : Int32) then
      if ixb (v4 + (1 : Int32)) L then
        if ixb (v4 + (2 : Int32)) L then
          (f_L_telling (xs (v4 + (1 : Int32)).toNatClampNeg) (xs (v4 + (2 : Int32)).toNatClampNeg) d).bind fun q22 =>
            if ixb (v4 + (1 : Int32)) L then
            if ixb (v4 + (2 : Int32)) L then
              (f_X10_telling (xs (v4 + (1 : Int32)).toNatClampNeg) (xs (v4 + (2 : Int32)).toNatClampNeg) q22.2).bind fun q23 =>
                (f_X10_thrown q23.2).bind fun q24 =>
                if q24.1 = q22.1 then
                if q22.1 = 0 then
                  if ixb (0 : Int32) (ln 110) then
                    if (q24.2.2 110 (0 : Int32).toNatClampNeg) = q23.1.toInt64 then
                      k23 (v4 + (6 : Int32)) q24.2
                      else
                      none
                    else none
                  else
                  k23 (v4 + (6 : Int32)) q24.2
                else
                none
              else none
            else none
          else none
        else none
      else if ((xs v4.toNatClampNeg) &&& (63 : Int32)) = (11 : Int32) then
      (f_X9_worlds d).bind fun q25 =>
        (f_X10_worlds q25.2).bind fun q26 =>
        if q25.1 = q26.1 then
        k23 (v4 + (6 : Int32)) q26.2
        else
        none
      else if ((xs v4.toNatClampNeg) &&& (63 : Int32)) = (12 : Int32) then
      if ixb (v4 + (1 : Int32)) L then
        if ixb (v4 + (2 : Int32)) L then
          (f_X9_worldsOf (xs (v4 + (1 : Int32)).toNatClampNeg) (xs (v4 + (2 : Int32)).toNatClampNeg) d).bind fun q27 =>
            if ixb (v4 + (1 : Int32)) L then
            if ixb (v4 + (2 : Int32)) L then
              (f_X10_worldsOf (xs (v4 + (1 : Int32)).toNatClampNeg) (xs (v4 + (2 : Int32)).toNatClampNeg) q27.2).bind fun q28 =>
                if q27.1 = q28.1 then
                k23 (v4 + (6 : Int32)) q28.2
                else
                none
              else none
            else none
          else none
        else none
      else if ((xs v4.toNatClampNeg) &&& (63 : Int32)) = (13 : Int32) then
      if ixb (v4 + (1 : Int32)) L then
        if ixb (v4 + (2 : Int32)) L then
          (f_X9_waysOf (xs (v4 + (1 : Int32)).toNatClampNeg) (xs (v4 + (2 : Int32)).toNatClampNeg) d).bind fun q29 =>
            if ixb (v4 + (1 : Int32)) L then
            if ixb (v4 + (2 : Int32)) L then
              (f_X10_waysOf (xs (v4 + (1 : Int32)).toNatClampNeg) (xs (v4 + (2 : Int32)).toNatClampNeg) q29.2).bind fun q30 =>
                if q29.1 = q30.1 then
                k23 (v4 + (6 : Int32)) q30.2
                else
                none
              else none
            else none
          else none
        else none
      else if ((xs v4.toNatClampNeg) &&& (63 : Int32)) = (14 : Int32) then
      if ixb (v4 + (1 : Int32)) L then
        if ixb (v4 + (2 : Int32)) L then
          (f_X9_sure (xs (v4 + (1 : Int32)).toNatClampNeg) (xs (v4 + (2 : Int32)).toNatClampNeg) d).bind fun q31 =>
            if ixb (v4 + (1 : Int32)) L then
            if ixb (v4 + (2 : Int32)) L then
              (f_X10_sure (xs (v4 + (1 : Int32)).toNatClampNeg) (xs (v4 + (2 : Int32)).toNatClampNeg) q31.2).bind fun q32 =>
                if q31.1 = q32.1 then
                k23 (v4 + (6 : Int32)) q32.2
                else
                none
              else none
            else none
          else none
        else none
      else if ((xs v4.toNatClampNeg) &&& (63 : Int32)) = (15 : Int32) then
      if ixb (v4 + (1 : Int32)) L then
        if ixb (v4 + (2 : Int32)) L then
          if ixb (v4 + (3 : Int32)) L then
            (f_L_odds (xs (v4 + (1 : Int32)).toNatClampNeg) (xs (v4 + (2 : Int32)).toNatClampNeg) (xs (v4 + (3 : Int32)).toNatClampNeg) d).bind fun q33 =>
              if ixb (v4 + (1 : Int32)) L then
              if ixb (v4 + (2 : Int32)) L then
                if ixb (v4 + (3 : Int32)) L then
                  (f_X10_odds (xs (v4 + (1 : Int32)).toNatClampNeg) (xs (v4 + (2 : Int32)).toNatClampNeg) (xs (v4 + (3 : Int32)).toNatClampNeg) q33.2).bind fun q34 =>
                    (f_X10_thrown q34.2).bind fun q35 =>
                    if q35.1 = q33.1 then
                    if q33.1 = 0 then
                      if ixb (0 : Int32) (ln 110) then
                        if (q35.2.2 110 (0 : Int32).toNatClampNeg) = q34.1 then
                          k23 (v4 + (6 : Int32)) q35.2
                          else
                          none
                        else none
                      else
                      k23 (v4 + (6 : Int32)) q35.2
                    else
                    none
                  else none
                else none
              else none
            else none
          else none
        else none
      else if ((xs v4.toNatClampNeg) &&& (63 : Int32)) = (16 : Int32) then
      if ixb (v4 + (1 : Int32)) L then
        if ixb (v4 + (2 : Int32)) L then
          (f_X9_hours (xs (v4 + (1 : Int32)).toNatClampNeg) (xs (v4 + (2 : Int32)).toNatClampNeg) d).bind fun q36 =>
            if ixb (v4 + (1 : Int32)) L then
            if ixb (v4 + (2 : Int32)) L then
              (f_X10_hours (xs (v4 + (1 : Int32)).toNatClampNeg) (xs (v4 + (2 : Int32)).toNatClampNeg) q36.2).bind fun q37 =>
                if q36.1 = q37.1 then
                k23 (v4 + (6 : Int32)) q37.2
                else
                none
              else none
            else none
          else none
        else none
      else if ((xs v4.toNatClampNeg) &&& (63 : Int32)) = (17 : Int32) then
      if ixb (v4 + (1 : Int32)) L then
        if ixb (v4 + (2 : Int32)) L then
          if ixb (v4 + (3 : Int32)) L then
            (f_X9_both (xs (v4 + (1 : Int32)).toNatClampNeg) (xs (v4 + (2 : Int32)).toNatClampNeg) (xs (v4 + (3 : Int32)).toNatClampNeg) d).bind fun q38 =>
              if ixb (v4 + (1 : Int32)) L then
              if ixb (v4 + (2 : Int32)) L then
                if ixb (v4 + (3 : Int32)) L then
                  (f_X10_both (xs (v4 + (1 : Int32)).toNatClampNeg) (xs (v4 + (2 : Int32)).toNatClampNeg) (xs (v4 + (3 : Int32)).toNatClampNeg) q38.2).bind fun q39 =>
                    if q38.1 = q39.1 then
                    k23 (v4 + (6 : Int32)) q39.2
                    else
                    none
                  else none
                else none
              else none
            else none
          else none
        else none
      else if ((xs v4.toNatClampNeg) &&& (63 : Int32)) = (18 : Int32) then
      if ixb (v4 + (1 : Int32)) L then
        if ixb (v4 + (2 : Int32)) L then
          if ixb (v4 + (3 : Int32)) L then
            (f_L_bet (xs (v4 + (1 : Int32)).toNatClampNeg) (xs (v4 + (2 : Int32)).toNatClampNeg) (xs (v4 + (3 : Int32)).toNatClampNeg) d).bind fun q40 =>
              if ixb (v4 + (1 : Int32)) L then
              if ixb (v4 + (2 : Int32)) L then
                if ixb (v4 + (3 : Int32)) L then
                  (f_X10_bet (xs (v4 + (1 : Int32)).toNatClampNeg) (xs (v4 + (2 : Int32)).toNatClampNeg) (xs (v4 + (3 : Int32)).toNatClampNeg) q40.2).bind fun q41 =>
                    (f_X10_thrown q41.2).bind fun q42 =>
                    if q42.1 = q40.1 then
                    if q40.1 = 0 then
                      if ixb (0 : Int32) (ln 110) then
                        if (q42.2.2 110 (0 : Int32).toNatClampNeg) = q41.1 then
                          k23 (v4 + (6 : Int32)) q42.2
                          else
                          none
                        else none
                      else
                      k23 (v4 + (6 : Int32)) q42.2
                    else
                    none
                  else none
                else none
              else none
            else none
          else none
        else none
      else if ((xs v4.toNatClampNeg) &&& (63 : Int32)) = (19 : Int32) then
      if ixb (v4 + (1 : Int32)) L then
        (f_X9_lying (xs (v4 + (1 : Int32)).toNatClampNeg) d).bind fun q43 =>
          if ixb (v4 + (1 : Int32)) L then
          (f_X10_lying (xs (v4 + (1 : Int32)).toNatClampNeg) q43.2).bind fun q44 =>
            if q43.1 = q44.1 then
            k23 (v4 + (6 : Int32)) q44.2
            else
            none
          else none
        else none
      else if ((xs v4.toNatClampNeg) &&& (63 : Int32)) = (20 : Int32) then
      (f_X9_liars d).bind fun q45 =>
        (f_X10_liars q45.2).bind fun q46 =>
        if q45.1 = q46.1 then
        k23 (v4 + (6 : Int32)) q46.2
        else
        none
      else if ((xs v4.toNatClampNeg) &&& (63 : Int32)) = (21 : Int32) then
      if ixb (v4 + (1 : Int32)) L then
        (f_X9_liarSet (xs (v4 + (1 : Int32)).toNatClampNeg) d).bind fun q47 =>
          if ixb (v4 + (1 : Int32)) L then
          (f_X10_liarSet (xs (v4 + (1 : Int32)).toNatClampNeg) q47.2).bind fun q48 =>
            if q47.1 = q48.1 then
            k23 (v4 + (6 : Int32)) q48.2
            else
            none
          else none
        else none
      else if ((xs v4.toNatClampNeg) &&& (63 : Int32)) = (22 : Int32) then
      (f_X9_clash d).bind fun q49 =>
        (f_X10_clash q49.2).bind fun q50 =>
        if q49.1 = q50.1 then
        k23 (v4 + (6 : Int32)) q50.2
        else
        none
      else if ((xs v4.toNatClampNeg) &&& (63 : Int32)) = (23 : Int32) then
      if ixb (v4 + (1 : Int32)) L then
        if ixb (v4 + (2 : Int32)) L then
          if ixb (v4 + (3 : Int32)) L then
            (f_X9_wouldTell (xs (v4 + (1 : Int32)).toNatClampNeg) (xs (v4 + (2 : Int32)).toNatClampNeg) (xs (v4 + (3 : Int32)).toNatClampNeg) d).bind fun q51 =>
              if ixb (v4 + (1 : Int32)) L then
              if ixb (v4 + (2 : Int32)) L then
                if ixb (v4 + (3 : Int32)) L then
                  (f_X10_wouldTell (xs (v4 + (1 : Int32)).toNatClampNeg) (xs (v4 + (2 : Int32)).toNatClampNeg) (xs (v4 + (3 : Int32)).toNatClampNeg) q51.2).bind fun q52 =>
                    if q51.1 = q52.1 then
                    k23 (v4 + (6 : Int32)) q52.2
                    else
                    none
                  else none
                else none
              else none
            else none
          else none
        else none
      else if ((xs v4.toNatClampNeg) &&& (63 : Int32)) = (24 : Int32) then
      if ixb (v4 + (1 : Int32)) L then
        if ixb (v4 + (2 : Int32)) L then
          (f_X9_left (xs (v4 + (1 : Int32)).toNatClampNeg) (xs (v4 + (2 : Int32)).toNatClampNeg) d).bind fun q53 =>
            if ixb (v4 + (1 : Int32)) L then
            if ixb (v4 + (2 : Int32)) L then
              (f_X10_left (xs (v4 + (1 : Int32)).toNatClampNeg) (xs (v4 + (2 : Int32)).toNatClampNeg) q53.2).bind fun q54 =>
                if q53.1 = q54.1 then
                k23 (v4 + (6 : Int32)) q54.2
                else
                none
              else none
            else none
          else none
        else none
      else if ((xs v4.toNatClampNeg) &&& (63 : Int32)) = (25 : Int32) then
      (f_X9_next d).bind fun q55 =>
        (f_X10_next q55.2).bind fun q56 =>
        if q55.1 = q56.1 then
        k23 (v4 + (6 : Int32)) q56.2
        else
        none
      else if ((xs v4.toNatClampNeg) &&& (63 : Int32)) = (26 : Int32) then
      if ixb (v4 + (1 : Int32)) L then
        (f_X9_table (xs (v4 + (1 : Int32)).toNatClampNeg) d).bind fun q57 =>
          if ixb (v4 + (1 : Int32)) L then
          (f_X10_table (xs (v4 + (1 : Int32)).toNatClampNeg) q57.2).bind fun q58 =>
            if q57.1 = q58.1 then
            k23 (v4 + (6 : Int32)) q58.2
            else
            none
          else none
        else none
      else if ((xs v4.toNatClampNeg) &&& (63 : Int32)) = (27 : Int32) then
      if ixb (v4 + (1 : Int32)) L then
        (f_X9_said (xs (v4 + (1 : Int32)).toNatClampNeg) d).bind fun q59 =>
          if ixb (v4 + (1 : Int32)) L then
          (f_X10_said (xs (v4 + (1 : Int32)).toNatClampNeg) q59.2).bind fun q60 =>
            if q59.1 = q60.1 then
            k23 (v4 + (6 : Int32)) q60.2
            else
            none
          else none
        else none
      else if ((xs v4.toNatClampNeg) &&& (63 : Int32)) = (28 : Int32) then
      if ixb (v4 + (1 : Int32)) L then
        (f_X9_ended (xs (v4 + (1 : Int32)).toNatClampNeg) d).bind fun q61 =>
          if ixb (v4 + (1 : Int32)) L then
          (f_X10_ended (xs (v4 + (1 : Int32)).toNatClampNeg) q61.2).bind fun q62 =>
            if q61.1 = q62.1 then
            k23 (v4 + (6 : Int32)) q62.2
            else
            none
          else none
        else none
      else if ((xs v4.toNatClampNeg) &&& (63 : Int32)) = (29 : Int32) then
      (f_X9_rules d).bind fun q63 =>
        (f_X10_rules q63.2).bind fun q64 =>
        if q63.1 = q64.1 then
        k23 (v4 + (6 : Int32)) q64.2
        else
        none
      else if ((xs v4.toNatClampNeg) &&& (63 : Int32)) = (30 : Int32) then
      if ixb (v4 + (1 : Int32)) L then
        (f_X9_turn (xs (v4 + (1 : Int32)).toNatClampNeg) d).bind fun q65 =>
          if ixb (v4 + (1 : Int32)) L then
          (f_X10_turn (xs (v4 + (1 : Int32)).toNatClampNeg) q65.2).bind fun q66 =>
            if q65.1 = q66.1 then
            k23 (v4 + (6 : Int32)) q66.2
            else
            none
          else none
        else none
      else if ((xs v4.toNatClampNeg) &&& (63 : Int32)) = (31 : Int32) then
      if ixb (v4 + (1 : Int32)) L then
        (f_X9_content (xs (v4 + (1 : Int32)).toNatClampNeg) d).bind fun q67 =>
          if ixb (v4 + (1 : Int32)) L then
          (f_X10_content (xs (v4 + (1 : Int32)).toNatClampNeg) q67.2).bind fun q68 =>
            if q67.1 = q68.1 then
            k23 (v4 + (6 : Int32)) q68.2
            else
            none
          else none
        else none
      else if ((xs v4.toNatClampNeg) &&& (63 : Int32)) = (32 : Int32) then
      (f_X9_trade d).bind fun q69 =>
        (f_X10_trade q69.2).bind fun q70 =>
        if q69.1 = q70.1 then
        k23 (v4 + (6 : Int32)) q70.2
        else
        none
      else if ((xs v4.toNatClampNeg) &&& (63 : Int32)) = (33 : Int32) then
      if ixb (v4 + (1 : Int32)) L then
        if ixb (v4 + (2 : Int32)) L then
          (f_X9_drawn (xs (v4 + (1 : Int32)).toNatClampNeg) (xs (v4 + (2 : Int32)).toNatClampNeg) d).bind fun q71 =>
            if ixb (v4 + (1 : Int32)) L then
            if ixb (v4 + (2 : Int32)) L then
              (f_X10_drawn (xs (v4 + (1 : Int32)).toNatClampNeg) (xs (v4 + (2 : Int32)).toNatClampNeg) q71.2).bind fun q72 =>
                if q71.1 = q72.1 then
                k23 (v4 + (6 : Int32)) q72.2
                else
                none
              else none
            else none
          else none
        else none
      else if ((xs v4.toNatClampNeg) &&& (63 : Int32)) = (34 : Int32) then
      if ixb (v4 + (1 : Int32)) L then
        (f_X9_image (xs (v4 + (1 : Int32)).toNatClampNeg) d).bind fun q73 =>
          if ixb (v4 + (1 : Int32)) L then
          (f_X10_image (xs (v4 + (1 : Int32)).toNatClampNeg) q73.2).bind fun q74 =>
            if q73.1 = q74.1 then
            k23 (v4 + (6 : Int32)) q74.2
            else
            none
          else none
        else none
      else if ((xs v4.toNatClampNeg) &&& (63 : Int32)) = (35 : Int32) then
      if ixb (v4 + (1 : Int32)) L then
        (f_X9_restore (xs (v4 + (1 : Int32)).toNatClampNeg) d).bind fun q75 =>
          if ixb (v4 + (1 : Int32)) L then
          (f_X10_restore (xs (v4 + (1 : Int32)).toNatClampNeg) q75.2).bind fun q76 =>
            if q75.1 = q76.1 then
            k23 (v4 + (6 : Int32)) q76.2
            else
            none
          else none
        else none
      else if ((xs v4.toNatClampNeg) &&& (63 : Int32)) = (36 : Int32) then
      if ixb (v4 + (1 : Int32)) L then
        (f_X9_count (xs (v4 + (1 : Int32)).toNatClampNeg) d).bind fun q77 =>
          if ixb (v4 + (1 : Int32)) L then
          (f_X10_count (xs (v4 + (1 : Int32)).toNatClampNeg) q77.2).bind fun q78 =>
            if q77.1 = q78.1 then
            k23 (v4 + (6 : Int32)) q78.2
            else
            none
          else none
        else none
      else 
      k23 (v4 + (6 : Int32)) d
    else none
def f_L_law_23 (L : Nat) (xs : Nat → Int32) : Nat → Int32 → DD → Option Unit
  | 0, _, _ => none
  | n + 1, v4, d => f_L_law_23B L xs (f_L_law_23 L xs n) v4 d
set_option maxHeartbeats 40000000 in
set_option maxRecDepth 100000 in
theorem w_L_law_23B {E : XE} {L : Nat} {xs : Nat → Int32} (hF : LF E L xs) (ha : arg1 E) (hA : ∀ q, A_of E q → sz_heap E ≤ q) {cs ss : Nat} (hc : cs + 1 ≤ 1141 ∧ ss + 6 ≤ 19887) (k23 : Int32 → DD → Option Unit) (hk23 : ∀ (v4 : Int32) (d : DD), AW E si_law (cs + 1) (ss + 6) (LQ E) (k23 v4 d) 23 [(0, .ref 111), (1, .ref 0), (2, .ref 86), (3, .ref 110), (4, .int v4)] [] d) (v4 : Int32) (d : DD) : AW E si_law cs ss (LQ E) (f_L_law_23B L xs k23 v4 d) 23 [(0, .ref 111), (1, .ref 0), (2, .ref 86), (3, .ref 110), (4, .int v4)] [] d := by
  have hc1 : cs ≤ 1141 ∧ ss ≤ 19887 := ⟨by omega, by omega⟩
  unfold f_L_law_23B
  refine r_iload_w_4 dL_law_23 ?_
  refine r_aload_n_0 dL_law_25 rfl ?_
  refine r_slen hF dL_law_26 ?_
  refine r_bipush dL_law_27 kb_6 ?_
  refine r_isub dL_law_29 ?_
  refine r_icmp_gt (tgt := 1431) dL_law_30 (by decide) ?_ ?_
  · refine r_iconst dL_law_1431 ki_1 ?_
    exact r_lawret hF ha hc1 hA dL_law_1432
  · refine r_aload_n_0 dL_law_33 rfl ?_
    refine r_iload_w_4 dL_law_34 ?_
    refine r_sld hF dL_law_36 ?_
    refine r_bipush dL_law_37 kb_63 ?_
    refine r_iand dL_law_39 ?_
    refine r_if (fun q => r_tsw (tgt := 204) dL_law_40 q (by decide) (by decide) rfl (by decide) ?_) (fun q0 => ?_)
    · refine r_aload_n_1 dL_law_204 rfl ?_
      refine r_aload_n_0 dL_law_205 rfl ?_
      refine r_iload_w_4 dL_law_206 ?_
      refine r_iconst dL_law_208 ki_1 ?_
      refine r_iadd dL_law_209 ?_
      refine r_sld hF dL_law_210 ?_
      refine r_aload_n_0 dL_law_211 rfl ?_
      refine r_iload_w_4 dL_law_212 ?_
      refine r_iconst dL_law_214 ki_2 ?_
      refine r_iadd dL_law_215 ?_
      refine r_sld hF dL_law_216 ?_
      refine r_aload_n_0 dL_law_217 rfl ?_
      refine r_iload_w_4 dL_law_218 ?_
      refine r_iconst dL_law_220 ki_3 ?_
      refine r_iadd dL_law_221 ?_
      refine r_sld hF dL_law_222 ?_
      refine r_aload_n_0 dL_law_223 rfl ?_
      refine r_iload_w_4 dL_law_224 ?_
      refine r_iconst dL_law_226 ki_4 ?_
      refine r_iadd dL_law_227 ?_
      refine r_sld hF dL_law_228 ?_
      refine r_aload_n_0 dL_law_229 rfl ?_
      refine r_iload_w_4 dL_law_230 ?_
      refine r_iconst dL_law_232 ki_5 ?_
      refine r_iadd dL_law_233 ?_
      refine r_sld hF dL_law_234 ?_
      refine r_callLVI (cc := 9) [] hF hc1 (am_X9_feed (xs (v4 + (1 : Int32)).toNatClampNeg) (xs (v4 + (2 : Int32)).toNatClampNeg) (xs (v4 + (3 : Int32)).toNatClampNeg) (xs (v4 + (4 : Int32)).toNatClampNeg) (xs (v4 + (5 : Int32)).toNatClampNeg) d) rfl rfl cf_X9_feed mw_L_29 (by decide) dL_law_235 rfl (Nat.le_of_ble_eq_true rfl) (fun q1 => ?_)
      refine r_aload_n_2 dL_law_238 rfl ?_
      refine r_aload_n_0 dL_law_239 rfl ?_
      refine r_iload_w_4 dL_law_240 ?_
      refine r_iconst dL_law_242 ki_1 ?_
      refine r_iadd dL_law_243 ?_
      refine r_sld hF dL_law_244 ?_
      refine r_aload_n_0 dL_law_245 rfl ?_
      refine r_iload_w_4 dL_law_246 ?_
      refine r_iconst dL_law_248 ki_2 ?_
      refine r_iadd dL_law_249 ?_
      refine r_sld hF dL_law_250 ?_
      refine r_aload_n_0 dL_law_251 rfl ?_
      refine r_iload_w_4 dL_law_252 ?_
      refine r_iconst dL_law_254 ki_3 ?_
      refine r_iadd dL_law_255 ?_
      refine r_sld hF dL_law_256 ?_
      refine r_aload_n_0 dL_law_257 rfl ?_
      refine r_iload_w_4 dL_law_258 ?_
      refine r_iconst dL_law_260 ki_4 ?_
      refine r_iadd dL_law_261 ?_
      refine r_sld hF dL_law_262 ?_
      refine r_aload_n_0 dL_law_263 rfl ?_
      refine r_iload_w_4 dL_law_264 ?_
      refine r_iconst dL_law_266 ki_5 ?_
      refine r_iadd dL_law_267 ?_
      refine r_sld hF dL_law_268 ?_
      refine r_callLVI (cc := 10) [.int q1.1] hF hc1 (am_X10_feed (xs (v4 + (1 : Int32)).toNatClampNeg) (xs (v4 + (2 : Int32)).toNatClampNeg) (xs (v4 + (3 : Int32)).toNatClampNeg) (xs (v4 + (4 : Int32)).toNatClampNeg) (xs (v4 + (5 : Int32)).toNatClampNeg) q1.2) rfl rfl cf_X10_feed mw_L_33 (by decide) dL_law_269 rfl (Nat.le_of_ble_eq_true rfl) (fun q2 => ?_)
      refine r_icmp_eq (tgt := 1425) dL_law_272 (by decide) ?_ ?_
      · refine r_iinc_4 dL_law_1425 ki_6 (by decide) rfl ?_
        refine r_goto (tgt := 23) dL_law_1428 (by decide) ?_
        refine r_widen (k := cs + 1) (n := ss + 6) (Nat.le_add_right _ _) (Nat.le_add_right _ _) ?_
        exact hk23 (v4 + (6 : Int32)) q2.2
      · refine r_iconst dL_law_275 ki_0 ?_
        exact r_none
    · refine r_if (fun q => r_tsw (tgt := 277) dL_law_40 q (by decide) (by decide) rfl (by decide) ?_) (fun q1 => ?_)
      · refine r_aload_n_1 dL_law_277 rfl ?_
        refine r_aload_n_0 dL_law_278 rfl ?_
        refine r_iload_w_4 dL_law_279 ?_
        refine r_iconst dL_law_281 ki_1 ?_
        refine r_iadd dL_law_282 ?_
        refine r_sld hF dL_law_283 ?_
        refine r_callLVI (cc := 9) [] hF hc1 (am_X9_end (xs (v4 + (1 : Int32)).toNatClampNeg) d) rfl rfl cf_X9_end mw_L_34 (by decide) dL_law_284 rfl (Nat.le_of_ble_eq_true rfl) (fun q3 => ?_)
        refine r_aload_n_2 dL_law_287 rfl ?_
        refine r_aload_n_0 dL_law_288 rfl ?_
        refine r_iload_w_4 dL_law_289 ?_
        refine r_iconst dL_law_291 ki_1 ?_
        refine r_iadd dL_law_292 ?_
        refine r_sld hF dL_law_293 ?_
        refine r_callLVI (cc := 10) [.int q3.1] hF hc1 (am_X10_end (xs (v4 + (1 : Int32)).toNatClampNeg) q3.2) rfl rfl cf_X10_end mw_L_38 (by decide) dL_law_294 rfl (Nat.le_of_ble_eq_true rfl) (fun q4 => ?_)
        refine r_icmp_eq (tgt := 1425) dL_law_297 (by decide) ?_ ?_
        · refine r_iinc_4 dL_law_1425 ki_6 (by decide) rfl ?_
          refine r_goto (tgt := 23) dL_law_1428 (by decide) ?_
          refine r_widen (k := cs + 1) (n := ss + 6) (Nat.le_add_right _ _) (Nat.le_add_right _ _) ?_
          exact hk23 (v4 + (6 : Int32)) q4.2
        · refine r_iconst dL_law_300 ki_0 ?_
          exact r_none
      · refine r_if (fun q => r_tsw (tgt := 302) dL_law_40 q (by decide) (by decide) rfl (by decide) ?_) (fun q2 => ?_)
        · refine r_aload_n_1 dL_law_302 rfl ?_
          refine r_callLVI (cc := 9) [] hF hc1 (am_X9_house d) rfl rfl cf_X9_house mw_L_39 (by decide) dL_law_303 rfl (Nat.le_of_ble_eq_true rfl) (fun q5 => ?_)
          refine r_aload_n_2 dL_law_306 rfl ?_
          refine r_callLVI (cc := 10) [.int q5.1] hF hc1 (am_X10_house q5.2) rfl rfl cf_X10_house mw_L_43 (by decide) dL_law_307 rfl (Nat.le_of_ble_eq_true rfl) (fun q6 => ?_)
          refine r_icmp_eq (tgt := 1425) dL_law_310 (by decide) ?_ ?_
          · refine r_iinc_4 dL_law_1425 ki_6 (by decide) rfl ?_
            refine r_goto (tgt := 23) dL_law_1428 (by decide) ?_
            refine r_widen (k := cs + 1) (n := ss + 6) (Nat.le_add_right _ _) (Nat.le_add_right _ _) ?_
            exact hk23 (v4 + (6 : Int32)) q6.2
          · refine r_iconst dL_law_313 ki_0 ?_
            exact r_none
        · refine r_if (fun q => r_tsw (tgt := 315) dL_law_40 q (by decide) (by decide) rfl (by decide) ?_) (fun q3 => ?_)
          · refine r_aload_n_1 dL_law_315 rfl ?_
            refine r_callLVI (cc := 9) [] hF hc1 (am_X9_fault d) rfl rfl cf_X9_fault mw_L_44 (by decide) dL_law_316 rfl (Nat.le_of_ble_eq_true rfl) (fun q7 => ?_)
            refine r_aload_n_2 dL_law_319 rfl ?_
            refine r_callLVI (cc := 10) [.int q7.1] hF hc1 (am_X10_fault q7.2) rfl rfl cf_X10_fault mw_L_47 (by decide) dL_law_320 rfl (Nat.le_of_ble_eq_true rfl) (fun q8 => ?_)
            refine r_icmp_eq (tgt := 1425) dL_law_323 (by decide) ?_ ?_
            · refine r_iinc_4 dL_law_1425 ki_6 (by decide) rfl ?_
              refine r_goto (tgt := 23) dL_law_1428 (by decide) ?_
              refine r_widen (k := cs + 1) (n := ss + 6) (Nat.le_add_right _ _) (Nat.le_add_right _ _) ?_
              exact hk23 (v4 + (6 : Int32)) q8.2
            · refine r_iconst dL_law_326 ki_0 ?_
              exact r_none
          · refine r_if (fun q => r_tsw (tgt := 328) dL_law_40 q (by decide) (by decide) rfl (by decide) ?_) (fun q4 => ?_)
            · refine r_aload_n_1 dL_law_328 rfl ?_
              refine r_aload_n_0 dL_law_329 rfl ?_
              refine r_iload_w_4 dL_law_330 ?_
              refine r_iconst dL_law_332 ki_1 ?_
              refine r_iadd dL_law_333 ?_
              refine r_sld hF dL_law_334 ?_
              refine r_aload_n_0 dL_law_335 rfl ?_
              refine r_iload_w_4 dL_law_336 ?_
              refine r_iconst dL_law_338 ki_2 ?_
              refine r_iadd dL_law_339 ?_
              refine r_sld hF dL_law_340 ?_
              refine r_aload_n_3 dL_law_341 rfl ?_
              refine r_callH [] hF hc (ah_L_kind (xs (v4 + (1 : Int32)).toNatClampNeg) (xs (v4 + (2 : Int32)).toNatClampNeg) d) ih_L_kind sw_L_kind nw_L (show plainF mi_L_kind 4 from by unfold plainF; decide +kernel) mw_L_48 (by decide) dL_law_342 rfl (Nat.le_of_ble_eq_true rfl) (fun q9 => ?_)
              refine r_istore_w_x dL_law_345 (by decide) rfl ?_
              refine r_aload_n_3 dL_law_347 rfl ?_
              refine r_aload_n_1 dL_law_348 rfl ?_
              refine r_iload_w_5 dL_law_349 ?_
              refine r_iconst dL_law_351 ki_1 ?_
              refine r_iadd dL_law_352 ?_
              refine r_sld hF dL_law_353 ?_
              refine r_aload_n_1 dL_law_354 rfl ?_
              refine r_iload_w_5 dL_law_355 ?_
              refine r_iconst dL_law_357 ki_2 ?_
              refine r_iadd dL_law_358 ?_
              refine r_sld hF dL_law_359 ?_
              refine r_callLVI (cc := 10) [] hF hc (am_X10_kind (xs (v4 + (1 : Int32)).toNatClampNeg) (xs (v4 + (2 : Int32)).toNatClampNeg) q9.2) rfl rfl cf_X10_kind mw_L_53 (by decide) dL_law_360 rfl (Nat.le_of_ble_eq_true rfl) (fun q10 => ?_)
              refine r_istore_w_x dL_law_363 (by decide) rfl ?_
              refine r_aload_n_4 dL_law_365 rfl ?_
              refine r_callLVI (cc := 10) [] hF hc (am_X10_thrown q10.2) rfl rfl cf_X10_thrown mw_L_54 (by decide) dL_law_366 rfl (Nat.le_of_ble_eq_true rfl) (fun q11 => ?_)
              refine r_iload_w_1 dL_law_369 ?_
              refine r_icmp_eq (tgt := 376) dL_law_371 (by decide) ?_ ?_
              · refine r_iload_w_1 dL_law_376 ?_
                refine r_if_ne (tgt := 393) dL_law_378 (by decide) ?_ ?_
                · refine r_goto (tgt := 1425) dL_law_393 (by decide) ?_
                  refine r_iinc_6 dL_law_1425 ki_6 (by decide) rfl ?_
                  refine r_goto (tgt := 23) dL_law_1428 (by decide) ?_
                  refine r_sub [2, 3, 4, 5, 6] (lv' := [(0, .ref 111), (1, .ref 0), (2, .ref 86), (3, .ref 110), (4, .int (v4 + (6 : Int32)))]) rfl ?_
                  exact hk23 (v4 + (6 : Int32)) q11.2
                · refine r_aload_n_5 dL_law_381 rfl ?_
                  refine r_iconst dL_law_382 ki_0 ?_
                  refine r_laload rfl dL_law_383 ?_
                  refine r_iload_w_0 dL_law_384 ?_
                  refine r_i2l dL_law_386 ?_
                  refine r_lcmp_eq (tgt := 393) dL_law_387 dL_law_388 (by decide) ?_ ?_
                  · refine r_goto (tgt := 1425) dL_law_393 (by decide) ?_
                    refine r_iinc_6 dL_law_1425 ki_6 (by decide) rfl ?_
                    refine r_goto (tgt := 23) dL_law_1428 (by decide) ?_
                    refine r_sub [2, 3, 4, 5, 6] (lv' := [(0, .ref 111), (1, .ref 0), (2, .ref 86), (3, .ref 110), (4, .int (v4 + (6 : Int32)))]) rfl ?_
                    exact hk23 (v4 + (6 : Int32)) q11.2
                  · refine r_iconst dL_law_391 ki_0 ?_
                    exact r_none
              · refine r_iconst dL_law_374 ki_0 ?_
                exact r_none
            · refine r_if (fun q => r_tsw (tgt := 396) dL_law_40 q (by decide) (by decide) rfl (by decide) ?_) (fun q5 => ?_)
              · refine r_aload_n_1 dL_law_396 rfl ?_
                refine r_aload_n_0 dL_law_397 rfl ?_
                refine r_iload_w_4 dL_law_398 ?_
                refine r_iconst dL_law_400 ki_1 ?_
                refine r_iadd dL_law_401 ?_
                refine r_sld hF dL_law_402 ?_
                refine r_aload_n_0 dL_law_403 rfl ?_
                refine r_iload_w_4 dL_law_404 ?_
                refine r_iconst dL_law_406 ki_2 ?_
                refine r_iadd dL_law_407 ?_
                refine r_sld hF dL_law_408 ?_
                refine r_aload_n_0 dL_law_409 rfl ?_
                refine r_iload_w_4 dL_law_410 ?_
                refine r_iconst dL_law_412 ki_3 ?_
                refine r_iadd dL_law_413 ?_
                refine r_sld hF dL_law_414 ?_
                refine r_callLVI (cc := 9) [] hF hc1 (am_X9_passes (xs (v4 + (1 : Int32)).toNatClampNeg) (xs (v4 + (2 : Int32)).toNatClampNeg) (xs (v4 + (3 : Int32)).toNatClampNeg) d) rfl rfl cf_X9_passes mw_L_57 (by decide) dL_law_415 rfl (Nat.le_of_ble_eq_true rfl) (fun q12 => ?_)
                refine r_aload_n_2 dL_law_418 rfl ?_
                refine r_aload_n_0 dL_law_419 rfl ?_
                refine r_iload_w_4 dL_law_420 ?_
                refine r_iconst dL_law_422 ki_1 ?_
                refine r_iadd dL_law_423 ?_
                refine r_sld hF dL_law_424 ?_
                refine r_aload_n_0 dL_law_425 rfl ?_
                refine r_iload_w_4 dL_law_426 ?_
                refine r_iconst dL_law_428 ki_2 ?_
                refine r_iadd dL_law_429 ?_
                refine r_sld hF dL_law_430 ?_
                refine r_aload_n_0 dL_law_431 rfl ?_
                refine r_iload_w_4 dL_law_432 ?_
                refine r_iconst dL_law_434 ki_3 ?_
                refine r_iadd dL_law_435 ?_
                refine r_sld hF dL_law_436 ?_
                refine r_callLVI (cc := 10) [.int q12.1] hF hc1 (am_X10_passes (xs (v4 + (1 : Int32)).toNatClampNeg) (xs (v4 + (2 : Int32)).toNatClampNeg) (xs (v4 + (3 : Int32)).toNatClampNeg) q12.2) rfl rfl cf_X10_passes mw_L_61 (by decide) dL_law_437 rfl (Nat.le_of_ble_eq_true rfl) (fun q13 => ?_)
                refine r_icmp_eq (tgt := 1425) dL_law_440 (by decide) ?_ ?_
                · refine r_iinc_4 dL_law_1425 ki_6 (by decide) rfl ?_
                  refine r_goto (tgt := 23) dL_law_1428 (by decide) ?_
                  refine r_widen (k := cs + 1) (n := ss + 6) (Nat.le_add_right _ _) (Nat.le_add_right _ _) ?_
                  exact hk23 (v4 + (6 : Int32)) q13.2
                · refine r_iconst dL_law_443 ki_0 ?_
                  exact r_none
              · refine r_if (fun q => r_tsw (tgt := 445) dL_law_40 q (by decide) (by decide) rfl (by decide) ?_) (fun q6 => ?_)
                · refine r_aload_n_1 dL_law_445 rfl ?_
                  refine r_aload_n_0 dL_law_446 rfl ?_
                  refine r_iload_w_4 dL_law_447 ?_
                  refine r_iconst dL_law_449 ki_1 ?_
                  refine r_iadd dL_law_450 ?_
                  refine r_sld hF dL_law_451 ?_
                  refine r_callLVI (cc := 9) [] hF hc1 (am_X9_may (xs (v4 + (1 : Int32)).toNatClampNeg) d) rfl rfl cf_X9_may mw_L_62 (by decide) dL_law_452 rfl (Nat.le_of_ble_eq_true rfl) (fun q14 => ?_)
                  refine r_aload_n_2 dL_law_455 rfl ?_
                  refine r_aload_n_0 dL_law_456 rfl ?_
                  refine r_iload_w_4 dL_law_457 ?_
                  refine r_iconst dL_law_459 ki_1 ?_
                  refine r_iadd dL_law_460 ?_
                  refine r_sld hF dL_law_461 ?_
                  refine r_callLVI (cc := 10) [.int q14.1] hF hc1 (am_X10_may (xs (v4 + (1 : Int32)).toNatClampNeg) q14.2) rfl rfl cf_X10_may mw_L_66 (by decide) dL_law_462 rfl (Nat.le_of_ble_eq_true rfl) (fun q15 => ?_)
                  refine r_icmp_eq (tgt := 1425) dL_law_465 (by decide) ?_ ?_
                  · refine r_iinc_4 dL_law_1425 ki_6 (by decide) rfl ?_
                    refine r_goto (tgt := 23) dL_law_1428 (by decide) ?_
                    refine r_widen (k := cs + 1) (n := ss + 6) (Nat.le_add_right _ _) (Nat.le_add_right _ _) ?_
                    exact hk23 (v4 + (6 : Int32)) q15.2
                  · refine r_iconst dL_law_468 ki_0 ?_
                    exact r_none
                · refine r_if (fun q => r_tsw (tgt := 470) dL_law_40 q (by decide) (by decide) rfl (by decide) ?_) (fun q7 => ?_)
                  · refine r_aload_n_1 dL_law_470 rfl ?_
                    refine r_callLVI (cc := 9) [] hF hc1 (am_X9_tellings d) rfl rfl cf_X9_tellings mw_L_67 (by decide) dL_law_471 rfl (Nat.le_of_ble_eq_true rfl) (fun q16 => ?_)
                    refine r_aload_n_2 dL_law_474 rfl ?_
                    refine r_callLVI (cc := 10) [.int q16.1] hF hc1 (am_X10_tellings q16.2) rfl rfl cf_X10_tellings mw_L_70 (by decide) dL_law_475 rfl (Nat.le_of_ble_eq_true rfl) (fun q17 => ?_)
                    refine r_icmp_eq (tgt := 1425) dL_law_478 (by decide) ?_ ?_
                    · refine r_iinc_4 dL_law_1425 ki_6 (by decide) rfl ?_
                      refine r_goto (tgt := 23) dL_law_1428 (by decide) ?_
                      refine r_widen (k := cs + 1) (n := ss + 6) (Nat.le_add_right _ _) (Nat.le_add_right _ _) ?_
                      exact hk23 (v4 + (6 : Int32)) q17.2
                    · refine r_iconst dL_law_481 ki_0 ?_
                      exact r_none
                  · refine r_if (fun q => r_tsw (tgt := 483) dL_law_40 q (by decide) (by decide) rfl (by decide) ?_) (fun q8 => ?_)
                    · refine r_aload_n_1 dL_law_483 rfl ?_
                      refine r_aload_n_0 dL_law_484 rfl ?_
                      refine r_iload_w_4 dL_law_485 ?_
                      refine r_iconst dL_law_487 ki_1 ?_
                      refine r_iadd dL_law_488 ?_
                      refine r_sld hF dL_law_489 ?_
                      refine r_aload_n_0 dL_law_490 rfl ?_
                      refine r_iload_w_4 dL_law_491 ?_
                      refine r_iconst dL_law_493 ki_2 ?_
                      refine r_iadd dL_law_494 ?_
                      refine r_sld hF dL_law_495 ?_
                      refine r_aload_n_0 dL_law_496 rfl ?_
                      refine r_iload_w_4 dL_law_497 ?_
                      refine r_iconst dL_law_499 ki_3 ?_
                      refine r_iadd dL_law_500 ?_
                      refine r_sld hF dL_law_501 ?_
                      refine r_callLVI (cc := 9) [] hF hc1 (am_X9_tell (xs (v4 + (1 : Int32)).toNatClampNeg) (xs (v4 + (2 : Int32)).toNatClampNeg) (xs (v4 + (3 : Int32)).toNatClampNeg) d) rfl rfl cf_X9_tell mw_L_71 (by decide) dL_law_502 rfl (Nat.le_of_ble_eq_true rfl) (fun q18 => ?_)
                      refine r_aload_n_2 dL_law_505 rfl ?_
                      refine r_aload_n_0 dL_law_506 rfl ?_
                      refine r_iload_w_4 dL_law_507 ?_
                      refine r_iconst dL_law_509 ki_1 ?_
                      refine r_iadd dL_law_510 ?_
                      refine r_sld hF dL_law_511 ?_
                      refine r_aload_n_0 dL_law_512 rfl ?_
                      refine r_iload_w_4 dL_law_513 ?_
                      refine r_iconst dL_law_515 ki_2 ?_
                      refine r_iadd dL_law_516 ?_
                      refine r_sld hF dL_law_517 ?_
                      refine r_aload_n_0 dL_law_518 rfl ?_
                      refine r_iload_w_4 dL_law_519 ?_
                      refine r_iconst dL_law_521 ki_3 ?_
                      refine r_iadd dL_law_522 ?_
                      refine r_sld hF dL_law_523 ?_
                      refine r_callLVI (cc := 10) [.int q18.1] hF hc1 (am_X10_tell (xs (v4 + (1 : Int32)).toNatClampNeg) (xs (v4 + (2 : Int32)).toNatClampNeg) (xs (v4 + (3 : Int32)).toNatClampNeg) q18.2) rfl rfl cf_X10_tell mw_L_74 (by decide) dL_law_524 rfl (Nat.le_of_ble_eq_true rfl) (fun q19 => ?_)
                      refine r_icmp_eq (tgt := 1425) dL_law_527 (by decide) ?_ ?_
                      · refine r_iinc_4 dL_law_1425 ki_6 (by decide) rfl ?_
                        refine r_goto (tgt := 23) dL_law_1428 (by decide) ?_
                        refine r_widen (k := cs + 1) (n := ss + 6) (Nat.le_add_right _ _) (Nat.le_add_right _ _) ?_
                        exact hk23 (v4 + (6 : Int32)) q19.2
                      · refine r_iconst dL_law_530 ki_0 ?_
                        exact r_none
                    · refine r_if (fun q => r_tsw (tgt := 532) dL_law_40 q (by decide) (by decide) rfl (by decide) ?_) (fun q9 => ?_)
                      · refine r_aload_n_1 dL_law_532 rfl ?_
                        refine r_callLVI (cc := 9) [] hF hc1 (am_X9_untell d) rfl rfl cf_X9_untell mw_L_75 (by decide) dL_law_533 rfl (Nat.le_of_ble_eq_true rfl) (fun q20 => ?_)
                        refine r_aload_n_2 dL_law_536 rfl ?_
                        refine r_callLVI (cc := 10) [.int q20.1] hF hc1 (am_X10_untell q20.2) rfl rfl cf_X10_untell mw_L_78 (by decide) dL_law_537 rfl (Nat.le_of_ble_eq_true rfl) (fun q21 => ?_)
                        refine r_icmp_eq (tgt := 1425) dL_law_540 (by decide) ?_ ?_
                        · refine r_iinc_4 dL_law_1425 ki_6 (by decide) rfl ?_
                          refine r_goto (tgt := 23) dL_law_1428 (by decide) ?_
                          refine r_widen (k := cs + 1) (n := ss + 6) (Nat.le_add_right _ _) (Nat.le_add_right _ _) ?_
                          exact hk23 (v4 + (6 : Int32)) q21.2
                        · refine r_iconst dL_law_543 ki_0 ?_
                          exact r_none
                      · refine r_if (fun q => r_tsw (tgt := 545) dL_law_40 q (by decide) (by decide) rfl (by decide) ?_) (fun q10 => ?_)
                        · refine r_aload_n_1 dL_law_545 rfl ?_
                          refine r_aload_n_0 dL_law_546 rfl ?_
                          refine r_iload_w_4 dL_law_547 ?_
                          refine r_iconst dL_law_549 ki_1 ?_
                          refine r_iadd dL_law_550 ?_
                          refine r_sld hF dL_law_551 ?_
                          refine r_aload_n_0 dL_law_552 rfl ?_
                          refine r_iload_w_4 dL_law_553 ?_
                          refine r_iconst dL_law_555 ki_2 ?_
                          refine r_iadd dL_law_556 ?_
                          refine r_sld hF dL_law_557 ?_
                          refine r_aload_n_3 dL_law_558 rfl ?_
                          refine r_callH [] hF hc (ah_L_telling (xs (v4 + (1 : Int32)).toNatClampNeg) (xs (v4 + (2 : Int32)).toNatClampNeg) d) ih_L_telling sw_L_telling nw_L (show plainF mi_L_telling 4 from by unfold plainF; decide +kernel) mw_L_79 (by decide) dL_law_559 rfl (Nat.le_of_ble_eq_true rfl) (fun q22 => ?_)
                          refine r_istore_w_x dL_law_562 (by decide) rfl ?_
                          refine r_aload_n_3 dL_law_564 rfl ?_
                          refine r_aload_n_1 dL_law_565 rfl ?_
                          refine r_iload_w_5 dL_law_566 ?_
                          refine r_iconst dL_law_568 ki_1 ?_
                          refine r_iadd dL_law_569 ?_
                          refine r_sld hF dL_law_570 ?_
                          refine r_aload_n_1 dL_law_571 rfl ?_
                          refine r_iload_w_5 dL_law_572 ?_
                          refine r_iconst dL_law_574 ki_2 ?_
                          refine r_iadd dL_law_575 ?_
                          refine r_sld hF dL_law_576 ?_
                          refine r_callLVI (cc := 10) [] hF hc (am_X10_telling (xs (v4 + (1 : Int32)).toNatClampNeg) (xs (v4 + (2 : Int32)).toNatClampNeg) q22.2) rfl rfl cf_X10_telling mw_L_81 (by decide) dL_law_577 rfl (Nat.le_of_ble_eq_true rfl) (fun q23 => ?_)
                          refine r_istore_w_x dL_law_580 (by decide) rfl ?_
                          refine r_aload_n_4 dL_law_582 rfl ?_
                          refine r_callLVI (cc := 10) [] hF hc (am_X10_thrown q23.2) rfl rfl cf_X10_thrown mw_L_54 (by decide) dL_law_583 rfl (Nat.le_of_ble_eq_true rfl) (fun q24 => ?_)
                          refine r_iload_w_1 dL_law_586 ?_
                          refine r_icmp_eq (tgt := 593) dL_law_588 (by decide) ?_ ?_
                          · refine r_iload_w_1 dL_law_593 ?_
                            refine r_if_ne (tgt := 610) dL_law_595 (by decide) ?_ ?_
                            · refine r_goto (tgt := 1425) dL_law_610 (by decide) ?_
                              refine r_iinc_6 dL_law_1425 ki_6 (by decide) rfl ?_
                              refine r_goto (tgt := 23) dL_law_1428 (by decide) ?_
                              refine r_sub [2, 3, 4, 5, 6] (lv' := [(0, .ref 111), (1, .ref 0), (2, .ref 86), (3, .ref 110), (4, .int (v4 + (6 : Int32)))]) rfl ?_
                              exact hk23 (v4 + (6 : Int32)) q24.2
                            · refine r_aload_n_5 dL_law_598 rfl ?_
                              refine r_iconst dL_law_599 ki_0 ?_
                              refine r_laload rfl dL_law_600 ?_
                              refine r_iload_w_0 dL_law_601 ?_
                              refine r_i2l dL_law_603 ?_
                              refine r_lcmp_eq (tgt := 610) dL_law_604 dL_law_605 (by decide) ?_ ?_
                              · refine r_goto (tgt := 1425) dL_law_610 (by decide) ?_
                                refine r_iinc_6 dL_law_1425 ki_6 (by decide) rfl ?_
                                refine r_goto (tgt := 23) dL_law_1428 (by decide) ?_
                                refine r_sub [2, 3, 4, 5, 6] (lv' := [(0, .ref 111), (1, .ref 0), (2, .ref 86), (3, .ref 110), (4, .int (v4 + (6 : Int32)))]) rfl ?_
                                exact hk23 (v4 + (6 : Int32)) q24.2
                              · refine r_iconst dL_law_608 ki_0 ?_
                                exact r_none
                          · refine r_iconst dL_law_591 ki_0 ?_
                            exact r_none
                        · refine r_if (fun q => r_tsw (tgt := 613) dL_law_40 q (by decide) (by decide) rfl (by decide) ?_) (fun q11 => ?_)
                          · refine r_aload_n_1 dL_law_613 rfl ?_
                            refine r_callLVL (cc := 9) [] hF hc1 (am_X9_worlds d) rfl rfl cf_X9_worlds mw_L_82 (by decide) dL_law_614 rfl (Nat.le_of_ble_eq_true rfl) (fun q25 => ?_)
                            refine r_aload_n_2 dL_law_617 rfl ?_
                            refine r_callLVL (cc := 10) [.long q25.1] hF hc1 (am_X10_worlds q25.2) rfl rfl cf_X10_worlds mw_L_86 (by decide) dL_law_618 rfl (Nat.le_of_ble_eq_true rfl) (fun q26 => ?_)
                            refine r_lcmp_eq (tgt := 1425) dL_law_621 dL_law_622 (by decide) ?_ ?_
                            · refine r_iinc_4 dL_law_1425 ki_6 (by decide) rfl ?_
                              refine r_goto (tgt := 23) dL_law_1428 (by decide) ?_
                              refine r_widen (k := cs + 1) (n := ss + 6) (Nat.le_add_right _ _) (Nat.le_add_right _ _) ?_
                              exact hk23 (v4 + (6 : Int32)) q26.2
                            · refine r_iconst dL_law_625 ki_0 ?_
                              exact r_none
                          · refine r_if (fun q => r_tsw (tgt := 627) dL_law_40 q (by decide) (by decide) rfl (by decide) ?_) (fun q12 => ?_)
                            · refine r_aload_n_1 dL_law_627 rfl ?_
                              refine r_aload_n_0 dL_law_628 rfl ?_
                              refine r_iload_w_4 dL_law_629 ?_
                              refine r_iconst dL_law_631 ki_1 ?_
                              refine r_iadd dL_law_632 ?_
                              refine r_sld hF dL_law_633 ?_
                              refine r_aload_n_0 dL_law_634 rfl ?_
                              refine r_iload_w_4 dL_law_635 ?_
                              refine r_iconst dL_law_637 ki_2 ?_
                              refine r_iadd dL_law_638 ?_
                              refine r_sld hF dL_law_639 ?_
                              refine r_callLVL (cc := 9) [] hF hc1 (am_X9_worldsOf (xs (v4 + (1 : Int32)).toNatClampNeg) (xs (v4 + (2 : Int32)).toNatClampNeg) d) rfl rfl cf_X9_worldsOf mw_L_87 (by decide) dL_law_640 rfl (Nat.le_of_ble_eq_true rfl) (fun q27 => ?_)
                              refine r_aload_n_2 dL_law_643 rfl ?_
                              refine r_aload_n_0 dL_law_644 rfl ?_
                              refine r_iload_w_4 dL_law_645 ?_
                              refine r_iconst dL_law_647 ki_1 ?_
                              refine r_iadd dL_law_648 ?_
                              refine r_sld hF dL_law_649 ?_
                              refine r_aload_n_0 dL_law_650 rfl ?_
                              refine r_iload_w_4 dL_law_651 ?_
                              refine r_iconst dL_law_653 ki_2 ?_
                              refine r_iadd dL_law_654 ?_
                              refine r_sld hF dL_law_655 ?_
                              refine r_callLVL (cc := 10) [.long q27.1] hF hc1 (am_X10_worldsOf (xs (v4 + (1 : Int32)).toNatClampNeg) (xs (v4 + (2 : Int32)).toNatClampNeg) q27.2) rfl rfl cf_X10_worldsOf mw_L_91 (by decide) dL_law_656 rfl (Nat.le_of_ble_eq_true rfl) (fun q28 => ?_)
                              refine r_lcmp_eq (tgt := 1425) dL_law_659 dL_law_660 (by decide) ?_ ?_
                              · refine r_iinc_4 dL_law_1425 ki_6 (by decide) rfl ?_
                                refine r_goto (tgt := 23) dL_law_1428 (by decide) ?_
                                refine r_widen (k := cs + 1) (n := ss + 6) (Nat.le_add_right _ _) (Nat.le_add_right _ _) ?_
                                exact hk23 (v4 + (6 : Int32)) q28.2
                              · refine r_iconst dL_law_663 ki_0 ?_
                                exact r_none
                            · refine r_if (fun q => r_tsw (tgt := 665) dL_law_40 q (by decide) (by decide) rfl (by decide) ?_) (fun q13 => ?_)
                              · refine r_aload_n_1 dL_law_665 rfl ?_
                                refine r_aload_n_0 dL_law_666 rfl ?_
                                refine r_iload_w_4 dL_law_667 ?_
                                refine r_iconst dL_law_669 ki_1 ?_
                                refine r_iadd dL_law_670 ?_
                                refine r_sld hF dL_law_671 ?_
                                refine r_aload_n_0 dL_law_672 rfl ?_
                                refine r_iload_w_4 dL_law_673 ?_
                                refine r_iconst dL_law_675 ki_2 ?_
                                refine r_iadd dL_law_676 ?_
                                refine r_sld hF dL_law_677 ?_
                                refine r_callLVL (cc := 9) [] hF hc1 (am_X9_waysOf (xs (v4 + (1 : Int32)).toNatClampNeg) (xs (v4 + (2 : Int32)).toNatClampNeg) d) rfl rfl cf_X9_waysOf mw_L_92 (by decide) dL_law_678 rfl (Nat.le_of_ble_eq_true rfl) (fun q29 => ?_)
                                refine r_aload_n_2 dL_law_681 rfl ?_
                                refine r_aload_n_0 dL_law_682 rfl ?_
                                refine r_iload_w_4 dL_law_683 ?_
                                refine r_iconst dL_law_685 ki_1 ?_
                                refine r_iadd dL_law_686 ?_
                                refine r_sld hF dL_law_687 ?_
                                refine r_aload_n_0 dL_law_688 rfl ?_
                                refine r_iload_w_4 dL_law_689 ?_
                                refine r_iconst dL_law_691 ki_2 ?_
                                refine r_iadd dL_law_692 ?_
                                refine r_sld hF dL_law_693 ?_
                                refine r_callLVL (cc := 10) [.long q29.1] hF hc1 (am_X10_waysOf (xs (v4 + (1 : Int32)).toNatClampNeg) (xs (v4 + (2 : Int32)).toNatClampNeg) q29.2) rfl rfl cf_X10_waysOf mw_L_95 (by decide) dL_law_694 rfl (Nat.le_of_ble_eq_true rfl) (fun q30 => ?_)
                                refine r_lcmp_eq (tgt := 1425) dL_law_697 dL_law_698 (by decide) ?_ ?_
                                · refine r_iinc_4 dL_law_1425 ki_6 (by decide) rfl ?_
                                  refine r_goto (tgt := 23) dL_law_1428 (by decide) ?_
                                  refine r_widen (k := cs + 1) (n := ss + 6) (Nat.le_add_right _ _) (Nat.le_add_right _ _) ?_
                                  exact hk23 (v4 + (6 : Int32)) q30.2
                                · refine r_iconst dL_law_701 ki_0 ?_
                                  exact r_none
                              · refine r_if (fun q => r_tsw (tgt := 703) dL_law_40 q (by decide) (by decide) rfl (by decide) ?_) (fun q14 => ?_)
                                · refine r_aload_n_1 dL_law_703 rfl ?_
                                  refine r_aload_n_0 dL_law_704 rfl ?_
                                  refine r_iload_w_4 dL_law_705 ?_
                                  refine r_iconst dL_law_707 ki_1 ?_
                                  refine r_iadd dL_law_708 ?_
                                  refine r_sld hF dL_law_709 ?_
                                  refine r_aload_n_0 dL_law_710 rfl ?_
                                  refine r_iload_w_4 dL_law_711 ?_
                                  refine r_iconst dL_law_713 ki_2 ?_
                                  refine r_iadd dL_law_714 ?_
                                  refine r_sld hF dL_law_715 ?_
                                  refine r_callLVI (cc := 9) [] hF hc1 (am_X9_sure (xs (v4 + (1 : Int32)).toNatClampNeg) (xs (v4 + (2 : Int32)).toNatClampNeg) d) rfl rfl cf_X9_sure mw_L_96 (by decide) dL_law_716 rfl (Nat.le_of_ble_eq_true rfl) (fun q31 => ?_)
                                  refine r_aload_n_2 dL_law_719 rfl ?_
                                  refine r_aload_n_0 dL_law_720 rfl ?_
                                  refine r_iload_w_4 dL_law_721 ?_
                                  refine r_iconst dL_law_723 ki_1 ?_
                                  refine r_iadd dL_law_724 ?_
                                  refine r_sld hF dL_law_725 ?_
                                  refine r_aload_n_0 dL_law_726 rfl ?_
                                  refine r_iload_w_4 dL_law_727 ?_
                                  refine r_iconst dL_law_729 ki_2 ?_
                                  refine r_iadd dL_law_730 ?_
                                  refine r_sld hF dL_law_731 ?_
                                  refine r_callLVI (cc := 10) [.int q31.1] hF hc1 (am_X10_sure (xs (v4 + (1 : Int32)).toNatClampNeg) (xs (v4 + (2 : Int32)).toNatClampNeg) q31.2) rfl rfl cf_X10_sure mw_L_99 (by decide) dL_law_732 rfl (Nat.le_of_ble_eq_true rfl) (fun q32 => ?_)
                                  refine r_icmp_eq (tgt := 1425) dL_law_735 (by decide) ?_ ?_
                                  · refine r_iinc_4 dL_law_1425 ki_6 (by decide) rfl ?_
                                    refine r_goto (tgt := 23) dL_law_1428 (by decide) ?_
                                    refine r_widen (k := cs + 1) (n := ss + 6) (Nat.le_add_right _ _) (Nat.le_add_right _ _) ?_
                                    exact hk23 (v4 + (6 : Int32)) q32.2
                                  · refine r_iconst dL_law_738 ki_0 ?_
                                    exact r_none
                                · refine r_if (fun q => r_tsw (tgt := 740) dL_law_40 q (by decide) (by decide) rfl (by decide) ?_) (fun q15 => ?_)
                                  · refine r_aload_n_1 dL_law_740 rfl ?_
                                    refine r_aload_n_0 dL_law_741 rfl ?_
                                    refine r_iload_w_4 dL_law_742 ?_
                                    refine r_iconst dL_law_744 ki_1 ?_
                                    refine r_iadd dL_law_745 ?_
                                    refine r_sld hF dL_law_746 ?_
                                    refine r_aload_n_0 dL_law_747 rfl ?_
                                    refine r_iload_w_4 dL_law_748 ?_
                                    refine r_iconst dL_law_750 ki_2 ?_
                                    refine r_iadd dL_law_751 ?_
                                    refine r_sld hF dL_law_752 ?_
                                    refine r_aload_n_0 dL_law_753 rfl ?_
                                    refine r_iload_w_4 dL_law_754 ?_
                                    refine r_iconst dL_law_756 ki_3 ?_
                                    refine r_iadd dL_law_757 ?_
                                    refine r_sld hF dL_law_758 ?_
                                    refine r_aload_n_3 dL_law_759 rfl ?_
                                    refine r_callH [] hF hc (ah_L_odds (xs (v4 + (1 : Int32)).toNatClampNeg) (xs (v4 + (2 : Int32)).toNatClampNeg) (xs (v4 + (3 : Int32)).toNatClampNeg) d) ih_L_odds sw_L_odds nw_L (show plainF mi_L_odds 5 from by unfold plainF; decide +kernel) mw_L_100 (by decide) dL_law_760 rfl (Nat.le_of_ble_eq_true rfl) (fun q33 => ?_)
                                    refine r_istore_w_x dL_law_763 (by decide) rfl ?_
                                    refine r_aload_n_3 dL_law_765 rfl ?_
                                    refine r_aload_n_1 dL_law_766 rfl ?_
                                    refine r_iload_w_5 dL_law_767 ?_
                                    refine r_iconst dL_law_769 ki_1 ?_
                                    refine r_iadd dL_law_770 ?_
                                    refine r_sld hF dL_law_771 ?_
                                    refine r_aload_n_1 dL_law_772 rfl ?_
                                    refine r_iload_w_5 dL_law_773 ?_
                                    refine r_iconst dL_law_775 ki_2 ?_
                                    refine r_iadd dL_law_776 ?_
                                    refine r_sld hF dL_law_777 ?_
                                    refine r_aload_n_1 dL_law_778 rfl ?_
                                    refine r_iload_w_5 dL_law_779 ?_
                                    refine r_iconst dL_law_781 ki_3 ?_
                                    refine r_iadd dL_law_782 ?_
                                    refine r_sld hF dL_law_783 ?_
                                    refine r_callLVL (cc := 10) [] hF hc (am_X10_odds (xs (v4 + (1 : Int32)).toNatClampNeg) (xs (v4 + (2 : Int32)).toNatClampNeg) (xs (v4 + (3 : Int32)).toNatClampNeg) q33.2) rfl rfl cf_X10_odds mw_L_103 (by decide) dL_law_784 rfl (Nat.le_of_ble_eq_true rfl) (fun q34 => ?_)
                                    refine r_lstore_w_x dL_law_787 (by decide) rfl ?_
                                    refine r_aload_n_4 dL_law_789 rfl ?_
                                    refine r_callLVI (cc := 10) [] hF hc (am_X10_thrown q34.2) rfl rfl cf_X10_thrown mw_L_54 (by decide) dL_law_790 rfl (Nat.le_of_ble_eq_true rfl) (fun q35 => ?_)
                                    refine r_iload_w_1 dL_law_793 ?_
                                    refine r_icmp_eq (tgt := 800) dL_law_795 (by decide) ?_ ?_
                                    · refine r_iload_w_1 dL_law_800 ?_
                                      refine r_if_ne (tgt := 816) dL_law_802 (by decide) ?_ ?_
                                      · refine r_goto (tgt := 1425) dL_law_816 (by decide) ?_
                                        refine r_iinc_6 dL_law_1425 ki_6 (by decide) rfl ?_
                                        refine r_goto (tgt := 23) dL_law_1428 (by decide) ?_
                                        refine r_sub [2, 3, 4, 5, 6] (lv' := [(0, .ref 111), (1, .ref 0), (2, .ref 86), (3, .ref 110), (4, .int (v4 + (6 : Int32)))]) rfl ?_
                                        exact hk23 (v4 + (6 : Int32)) q35.2
                                      · refine r_aload_n_5 dL_law_805 rfl ?_
                                        refine r_iconst dL_law_806 ki_0 ?_
                                        refine r_laload rfl dL_law_807 ?_
                                        refine r_lload_w_0 dL_law_808 ?_
                                        refine r_lcmp_eq (tgt := 816) dL_law_810 dL_law_811 (by decide) ?_ ?_
                                        · refine r_goto (tgt := 1425) dL_law_816 (by decide) ?_
                                          refine r_iinc_6 dL_law_1425 ki_6 (by decide) rfl ?_
                                          refine r_goto (tgt := 23) dL_law_1428 (by decide) ?_
                                          refine r_sub [2, 3, 4, 5, 6] (lv' := [(0, .ref 111), (1, .ref 0), (2, .ref 86), (3, .ref 110), (4, .int (v4 + (6 : Int32)))]) rfl ?_
                                          exact hk23 (v4 + (6 : Int32)) q35.2
                                        · refine r_iconst dL_law_814 ki_0 ?_
                                          exact r_none
                                    · refine r_iconst dL_law_798 ki_0 ?_
                                      exact r_none
                                  · refine r_if (fun q => r_tsw (tgt := 819) dL_law_40 q (by decide) (by decide) rfl (by decide) ?_) (fun q16 => ?_)
                                    · refine r_aload_n_1 dL_law_819 rfl ?_
                                      refine r_aload_n_0 dL_law_820 rfl ?_
                                      refine r_iload_w_4 dL_law_821 ?_
                                      refine r_iconst dL_law_823 ki_1 ?_
                                      refine r_iadd dL_law_824 ?_
                                      refine r_sld hF dL_law_825 ?_
                                      refine r_aload_n_0 dL_law_826 rfl ?_
                                      refine r_iload_w_4 dL_law_827 ?_
                                      refine r_iconst dL_law_829 ki_2 ?_
                                      refine r_iadd dL_law_830 ?_
                                      refine r_sld hF dL_law_831 ?_
                                      refine r_callLVI (cc := 9) [] hF hc1 (am_X9_hours (xs (v4 + (1 : Int32)).toNatClampNeg) (xs (v4 + (2 : Int32)).toNatClampNeg) d) rfl rfl cf_X9_hours mw_L_104 (by decide) dL_law_832 rfl (Nat.le_of_ble_eq_true rfl) (fun q36 => ?_)
                                      refine r_aload_n_2 dL_law_835 rfl ?_
                                      refine r_aload_n_0 dL_law_836 rfl ?_
                                      refine r_iload_w_4 dL_law_837 ?_
                                      refine r_iconst dL_law_839 ki_1 ?_
                                      refine r_iadd dL_law_840 ?_
                                      refine r_sld hF dL_law_841 ?_
                                      refine r_aload_n_0 dL_law_842 rfl ?_
                                      refine r_iload_w_4 dL_law_843 ?_
                                      refine r_iconst dL_law_845 ki_2 ?_
                                      refine r_iadd dL_law_846 ?_
                                      refine r_sld hF dL_law_847 ?_
                                      refine r_callLVI (cc := 10) [.int q36.1] hF hc1 (am_X10_hours (xs (v4 + (1 : Int32)).toNatClampNeg) (xs (v4 + (2 : Int32)).toNatClampNeg) q36.2) rfl rfl cf_X10_hours mw_L_107 (by decide) dL_law_848 rfl (Nat.le_of_ble_eq_true rfl) (fun q37 => ?_)
                                      refine r_icmp_eq (tgt := 1425) dL_law_851 (by decide) ?_ ?_
                                      · refine r_iinc_4 dL_law_1425 ki_6 (by decide) rfl ?_
                                        refine r_goto (tgt := 23) dL_law_1428 (by decide) ?_
                                        refine r_widen (k := cs + 1) (n := ss + 6) (Nat.le_add_right _ _) (Nat.le_add_right _ _) ?_
                                        exact hk23 (v4 + (6 : Int32)) q37.2
                                      · refine r_iconst dL_law_854 ki_0 ?_
                                        exact r_none
                                    · refine r_if (fun q => r_tsw (tgt := 856) dL_law_40 q (by decide) (by decide) rfl (by decide) ?_) (fun q17 => ?_)
                                      · refine r_aload_n_1 dL_law_856 rfl ?_
                                        refine r_aload_n_0 dL_law_857 rfl ?_
                                        refine r_iload_w_4 dL_law_858 ?_
                                        refine r_iconst dL_law_860 ki_1 ?_
                                        refine r_iadd dL_law_861 ?_
                                        refine r_sld hF dL_law_862 ?_
                                        refine r_aload_n_0 dL_law_863 rfl ?_
                                        refine r_iload_w_4 dL_law_864 ?_
                                        refine r_iconst dL_law_866 ki_2 ?_
                                        refine r_iadd dL_law_867 ?_
                                        refine r_sld hF dL_law_868 ?_
                                        refine r_aload_n_0 dL_law_869 rfl ?_
                                        refine r_iload_w_4 dL_law_870 ?_
                                        refine r_iconst dL_law_872 ki_3 ?_
                                        refine r_iadd dL_law_873 ?_
                                        refine r_sld hF dL_law_874 ?_
                                        refine r_callLVL (cc := 9) [] hF hc1 (am_X9_both (xs (v4 + (1 : Int32)).toNatClampNeg) (xs (v4 + (2 : Int32)).toNatClampNeg) (xs (v4 + (3 : Int32)).toNatClampNeg) d) rfl rfl cf_X9_both mw_L_108 (by decide) dL_law_875 rfl (Nat.le_of_ble_eq_true rfl) (fun q38 => ?_)
                                        refine r_aload_n_2 dL_law_878 rfl ?_
                                        refine r_aload_n_0 dL_law_879 rfl ?_
                                        refine r_iload_w_4 dL_law_880 ?_
                                        refine r_iconst dL_law_882 ki_1 ?_
                                        refine r_iadd dL_law_883 ?_
                                        refine r_sld hF dL_law_884 ?_
                                        refine r_aload_n_0 dL_law_885 rfl ?_
                                        refine r_iload_w_4 dL_law_886 ?_
                                        refine r_iconst dL_law_888 ki_2 ?_
                                        refine r_iadd dL_law_889 ?_
                                        refine r_sld hF dL_law_890 ?_
                                        refine r_aload_n_0 dL_law_891 rfl ?_
                                        refine r_iload_w_4 dL_law_892 ?_
                                        refine r_iconst dL_law_894 ki_3 ?_
                                        refine r_iadd dL_law_895 ?_
                                        refine r_sld hF dL_law_896 ?_
                                        refine r_callLVL (cc := 10) [.long q38.1] hF hc1 (am_X10_both (xs (v4 + (1 : Int32)).toNatClampNeg) (xs (v4 + (2 : Int32)).toNatClampNeg) (xs (v4 + (3 : Int32)).toNatClampNeg) q38.2) rfl rfl cf_X10_both mw_L_111 (by decide) dL_law_897 rfl (Nat.le_of_ble_eq_true rfl) (fun q39 => ?_)
                                        refine r_lcmp_eq (tgt := 1425) dL_law_900 dL_law_901 (by decide) ?_ ?_
                                        · refine r_iinc_4 dL_law_1425 ki_6 (by decide) rfl ?_
                                          refine r_goto (tgt := 23) dL_law_1428 (by decide) ?_
                                          refine r_widen (k := cs + 1) (n := ss + 6) (Nat.le_add_right _ _) (Nat.le_add_right _ _) ?_
                                          exact hk23 (v4 + (6 : Int32)) q39.2
                                        · refine r_iconst dL_law_904 ki_0 ?_
                                          exact r_none
                                      · refine r_if (fun q => r_tsw (tgt := 906) dL_law_40 q (by decide) (by decide) rfl (by decide) ?_) (fun q18 => ?_)
                                        · refine r_aload_n_1 dL_law_906 rfl ?_
                                          refine r_aload_n_0 dL_law_907 rfl ?_
                                          refine r_iload_w_4 dL_law_908 ?_
                                          refine r_iconst dL_law_910 ki_1 ?_
                                          refine r_iadd dL_law_911 ?_
                                          refine r_sld hF dL_law_912 ?_
                                          refine r_aload_n_0 dL_law_913 rfl ?_
                                          refine r_iload_w_4 dL_law_914 ?_
                                          refine r_iconst dL_law_916 ki_2 ?_
                                          refine r_iadd dL_law_917 ?_
                                          refine r_sld hF dL_law_918 ?_
                                          refine r_aload_n_0 dL_law_919 rfl ?_
                                          refine r_iload_w_4 dL_law_920 ?_
                                          refine r_iconst dL_law_922 ki_3 ?_
                                          refine r_iadd dL_law_923 ?_
                                          refine r_sld hF dL_law_924 ?_
                                          refine r_aload_n_3 dL_law_925 rfl ?_
                                          refine r_callH [] hF hc (ah_L_bet (xs (v4 + (1 : Int32)).toNatClampNeg) (xs (v4 + (2 : Int32)).toNatClampNeg) (xs (v4 + (3 : Int32)).toNatClampNeg) d) ih_L_bet sw_L_bet nw_L (show plainF mi_L_bet 5 from by unfold plainF; decide +kernel) mw_L_112 (by decide) dL_law_926 rfl (Nat.le_of_ble_eq_true rfl) (fun q40 => ?_)
                                          refine r_istore_w_x dL_law_929 (by decide) rfl ?_
                                          refine r_aload_n_3 dL_law_931 rfl ?_
                                          refine r_aload_n_1 dL_law_932 rfl ?_
                                          refine r_iload_w_5 dL_law_933 ?_
                                          refine r_iconst dL_law_935 ki_1 ?_
                                          refine r_iadd dL_law_936 ?_
                                          refine r_sld hF dL_law_937 ?_
                                          refine r_aload_n_1 dL_law_938 rfl ?_
                                          refine r_iload_w_5 dL_law_939 ?_
                                          refine r_iconst dL_law_941 ki_2 ?_
                                          refine r_iadd dL_law_942 ?_
                                          refine r_sld hF dL_law_943 ?_
                                          refine r_aload_n_1 dL_law_944 rfl ?_
                                          refine r_iload_w_5 dL_law_945 ?_
                                          refine r_iconst dL_law_947 ki_3 ?_
                                          refine r_iadd dL_law_948 ?_
                                          refine r_sld hF dL_law_949 ?_
                                          refine r_callLVL (cc := 10) [] hF hc (am_X10_bet (xs (v4 + (1 : Int32)).toNatClampNeg) (xs (v4 + (2 : Int32)).toNatClampNeg) (xs (v4 + (3 : Int32)).toNatClampNeg) q40.2) rfl rfl cf_X10_bet mw_L_114 (by decide) dL_law_950 rfl (Nat.le_of_ble_eq_true rfl) (fun q41 => ?_)
                                          refine r_lstore_w_x dL_law_953 (by decide) rfl ?_
                                          refine r_aload_n_4 dL_law_955 rfl ?_
                                          refine r_callLVI (cc := 10) [] hF hc (am_X10_thrown q41.2) rfl rfl cf_X10_thrown mw_L_54 (by decide) dL_law_956 rfl (Nat.le_of_ble_eq_true rfl) (fun q42 => ?_)
                                          refine r_iload_w_1 dL_law_959 ?_
                                          refine r_icmp_eq (tgt := 966) dL_law_961 (by decide) ?_ ?_
                                          · refine r_iload_w_1 dL_law_966 ?_
                                            refine r_if_ne (tgt := 982) dL_law_968 (by decide) ?_ ?_
                                            · refine r_goto (tgt := 1425) dL_law_982 (by decide) ?_
                                              refine r_iinc_6 dL_law_1425 ki_6 (by decide) rfl ?_
                                              refine r_goto (tgt := 23) dL_law_1428 (by decide) ?_
                                              refine r_sub [2, 3, 4, 5, 6] (lv' := [(0, .ref 111), (1, .ref 0), (2, .ref 86), (3, .ref 110), (4, .int (v4 + (6 : Int32)))]) rfl ?_
                                              exact hk23 (v4 + (6 : Int32)) q42.2
                                            · refine r_aload_n_5 dL_law_971 rfl ?_
                                              refine r_iconst dL_law_972 ki_0 ?_
                                              refine r_laload rfl dL_law_973 ?_
                                              refine r_lload_w_0 dL_law_974 ?_
                                              refine r_lcmp_eq (tgt := 982) dL_law_976 dL_law_977 (by decide) ?_ ?_
                                              · refine r_goto (tgt := 1425) dL_law_982 (by decide) ?_
                                                refine r_iinc_6 dL_law_1425 ki_6 (by decide) rfl ?_
                                                refine r_goto (tgt := 23) dL_law_1428 (by decide) ?_
                                                refine r_sub [2, 3, 4, 5, 6] (lv' := [(0, .ref 111), (1, .ref 0), (2, .ref 86), (3, .ref 110), (4, .int (v4 + (6 : Int32)))]) rfl ?_
                                                exact hk23 (v4 + (6 : Int32)) q42.2
                                              · refine r_iconst dL_law_980 ki_0 ?_
                                                exact r_none
                                          · refine r_iconst dL_law_964 ki_0 ?_
                                            exact r_none
                                        · refine r_if (fun q => r_tsw (tgt := 985) dL_law_40 q (by decide) (by decide) rfl (by decide) ?_) (fun q19 => ?_)
                                          · refine r_aload_n_1 dL_law_985 rfl ?_
                                            refine r_aload_n_0 dL_law_986 rfl ?_
                                            refine r_iload_w_4 dL_law_987 ?_
                                            refine r_iconst dL_law_989 ki_1 ?_
                                            refine r_iadd dL_law_990 ?_
                                            refine r_sld hF dL_law_991 ?_
                                            refine r_callLVI (cc := 9) [] hF hc1 (am_X9_lying (xs (v4 + (1 : Int32)).toNatClampNeg) d) rfl rfl cf_X9_lying mw_L_115 (by decide) dL_law_992 rfl (Nat.le_of_ble_eq_true rfl) (fun q43 => ?_)
                                            refine r_aload_n_2 dL_law_995 rfl ?_
                                            refine r_aload_n_0 dL_law_996 rfl ?_
                                            refine r_iload_w_4 dL_law_997 ?_
                                            refine r_iconst dL_law_999 ki_1 ?_
                                            refine r_iadd dL_law_1000 ?_
                                            refine r_sld hF dL_law_1001 ?_
                                            refine r_callLVI (cc := 10) [.int q43.1] hF hc1 (am_X10_lying (xs (v4 + (1 : Int32)).toNatClampNeg) q43.2) rfl rfl cf_X10_lying mw_L_118 (by decide) dL_law_1002 rfl (Nat.le_of_ble_eq_true rfl) (fun q44 => ?_)
                                            refine r_icmp_eq (tgt := 1425) dL_law_1005 (by decide) ?_ ?_
                                            · refine r_iinc_4 dL_law_1425 ki_6 (by decide) rfl ?_
                                              refine r_goto (tgt := 23) dL_law_1428 (by decide) ?_
                                              refine r_widen (k := cs + 1) (n := ss + 6) (Nat.le_add_right _ _) (Nat.le_add_right _ _) ?_
                                              exact hk23 (v4 + (6 : Int32)) q44.2
                                            · refine r_iconst dL_law_1008 ki_0 ?_
                                              exact r_none
                                          · refine r_if (fun q => r_tsw (tgt := 1010) dL_law_40 q (by decide) (by decide) rfl (by decide) ?_) (fun q20 => ?_)
                                            · refine r_aload_n_1 dL_law_1010 rfl ?_
                                              refine r_callLVI (cc := 9) [] hF hc1 (am_X9_liars d) rfl rfl cf_X9_liars mw_L_119 (by decide) dL_law_1011 rfl (Nat.le_of_ble_eq_true rfl) (fun q45 => ?_)
                                              refine r_aload_n_2 dL_law_1014 rfl ?_
                                              refine r_callLVI (cc := 10) [.int q45.1] hF hc1 (am_X10_liars q45.2) rfl rfl cf_X10_liars mw_L_122 (by decide) dL_law_1015 rfl (Nat.le_of_ble_eq_true rfl) (fun q46 => ?_)
                                              refine r_icmp_eq (tgt := 1425) dL_law_1018 (by decide) ?_ ?_
                                              · refine r_iinc_4 dL_law_1425 ki_6 (by decide) rfl ?_
                                                refine r_goto (tgt := 23) dL_law_1428 (by decide) ?_
                                                refine r_widen (k := cs + 1) (n := ss + 6) (Nat.le_add_right _ _) (Nat.le_add_right _ _) ?_
                                                exact hk23 (v4 + (6 : Int32)) q46.2
                                              · refine r_iconst dL_law_1021 ki_0 ?_
                                                exact r_none
                                            · refine r_if (fun q => r_tsw (tgt := 1023) dL_law_40 q (by decide) (by decide) rfl (by decide) ?_) (fun q21 => ?_)
                                              · refine r_aload_n_1 dL_law_1023 rfl ?_
                                                refine r_aload_n_0 dL_law_1024 rfl ?_
                                                refine r_iload_w_4 dL_law_1025 ?_
                                                refine r_iconst dL_law_1027 ki_1 ?_
                                                refine r_iadd dL_law_1028 ?_
                                                refine r_sld hF dL_law_1029 ?_
                                                refine r_callLVI (cc := 9) [] hF hc1 (am_X9_liarSet (xs (v4 + (1 : Int32)).toNatClampNeg) d) rfl rfl cf_X9_liarSet mw_L_123 (by decide) dL_law_1030 rfl (Nat.le_of_ble_eq_true rfl) (fun q47 => ?_)
                                                refine r_aload_n_2 dL_law_1033 rfl ?_
                                                refine r_aload_n_0 dL_law_1034 rfl ?_
                                                refine r_iload_w_4 dL_law_1035 ?_
                                                refine r_iconst dL_law_1037 ki_1 ?_
                                                refine r_iadd dL_law_1038 ?_
                                                refine r_sld hF dL_law_1039 ?_
                                                refine r_callLVI (cc := 10) [.int q47.1] hF hc1 (am_X10_liarSet (xs (v4 + (1 : Int32)).toNatClampNeg) q47.2) rfl rfl cf_X10_liarSet mw_L_126 (by decide) dL_law_1040 rfl (Nat.le_of_ble_eq_true rfl) (fun q48 => ?_)
                                                refine r_icmp_eq (tgt := 1425) dL_law_1043 (by decide) ?_ ?_
                                                · refine r_iinc_4 dL_law_1425 ki_6 (by decide) rfl ?_
                                                  refine r_goto (tgt := 23) dL_law_1428 (by decide) ?_
                                                  refine r_widen (k := cs + 1) (n := ss + 6) (Nat.le_add_right _ _) (Nat.le_add_right _ _) ?_
                                                  exact hk23 (v4 + (6 : Int32)) q48.2
                                                · refine r_iconst dL_law_1046 ki_0 ?_
                                                  exact r_none
                                              · refine r_if (fun q => r_tsw (tgt := 1048) dL_law_40 q (by decide) (by decide) rfl (by decide) ?_) (fun q22 => ?_)
                                                · refine r_aload_n_1 dL_law_1048 rfl ?_
                                                  refine r_callLVI (cc := 9) [] hF hc1 (am_X9_clash d) rfl rfl cf_X9_clash mw_L_127 (by decide) dL_law_1049 rfl (Nat.le_of_ble_eq_true rfl) (fun q49 => ?_)
                                                  refine r_aload_n_2 dL_law_1052 rfl ?_
                                                  refine r_callLVI (cc := 10) [.int q49.1] hF hc1 (am_X10_clash q49.2) rfl rfl cf_X10_clash mw_L_130 (by decide) dL_law_1053 rfl (Nat.le_of_ble_eq_true rfl) (fun q50 => ?_)
                                                  refine r_icmp_eq (tgt := 1425) dL_law_1056 (by decide) ?_ ?_
                                                  · refine r_iinc_4 dL_law_1425 ki_6 (by decide) rfl ?_
                                                    refine r_goto (tgt := 23) dL_law_1428 (by decide) ?_
                                                    refine r_widen (k := cs + 1) (n := ss + 6) (Nat.le_add_right _ _) (Nat.le_add_right _ _) ?_
                                                    exact hk23 (v4 + (6 : Int32)) q50.2
                                                  · refine r_iconst dL_law_1059 ki_0 ?_
                                                    exact r_none
                                                · refine r_if (fun q => r_tsw (tgt := 1061) dL_law_40 q (by decide) (by decide) rfl (by decide) ?_) (fun q23 => ?_)
                                                  · refine r_aload_n_1 dL_law_1061 rfl ?_
                                                    refine r_aload_n_0 dL_law_1062 rfl ?_
                                                    refine r_iload_w_4 dL_law_1063 ?_
                                                    refine r_iconst dL_law_1065 ki_1 ?_
                                                    refine r_iadd dL_law_1066 ?_
                                                    refine r_sld hF dL_law_1067 ?_
                                                    refine r_aload_n_0 dL_law_1068 rfl ?_
                                                    refine r_iload_w_4 dL_law_1069 ?_
                                                    refine r_iconst dL_law_1071 ki_2 ?_
                                                    refine r_iadd dL_law_1072 ?_
                                                    refine r_sld hF dL_law_1073 ?_
                                                    refine r_aload_n_0 dL_law_1074 rfl ?_
                                                    refine r_iload_w_4 dL_law_1075 ?_
                                                    refine r_iconst dL_law_1077 ki_3 ?_
                                                    refine r_iadd dL_law_1078 ?_
                                                    refine r_sld hF dL_law_1079 ?_
                                                    refine r_callLVL (cc := 9) [] hF hc1 (am_X9_wouldTell (xs (v4 + (1 : Int32)).toNatClampNeg) (xs (v4 + (2 : Int32)).toNatClampNeg) (xs (v4 + (3 : Int32)).toNatClampNeg) d) rfl rfl cf_X9_wouldTell mw_L_131 (by decide) dL_law_1080 rfl (Nat.le_of_ble_eq_true rfl) (fun q51 => ?_)
                                                    refine r_aload_n_2 dL_law_1083 rfl ?_
                                                    refine r_aload_n_0 dL_law_1084 rfl ?_
                                                    refine r_iload_w_4 dL_law_1085 ?_
                                                    refine r_iconst dL_law_1087 ki_1 ?_
                                                    refine r_iadd dL_law_1088 ?_
                                                    refine r_sld hF dL_law_1089 ?_
                                                    refine r_aload_n_0 dL_law_1090 rfl ?_
                                                    refine r_iload_w_4 dL_law_1091 ?_
                                                    refine r_iconst dL_law_1093 ki_2 ?_
                                                    refine r_iadd dL_law_1094 ?_
                                                    refine r_sld hF dL_law_1095 ?_
                                                    refine r_aload_n_0 dL_law_1096 rfl ?_
                                                    refine r_iload_w_4 dL_law_1097 ?_
                                                    refine r_iconst dL_law_1099 ki_3 ?_
                                                    refine r_iadd dL_law_1100 ?_
                                                    refine r_sld hF dL_law_1101 ?_
                                                    refine r_callLVL (cc := 10) [.long q51.1] hF hc1 (am_X10_wouldTell (xs (v4 + (1 : Int32)).toNatClampNeg) (xs (v4 + (2 : Int32)).toNatClampNeg) (xs (v4 + (3 : Int32)).toNatClampNeg) q51.2) rfl rfl cf_X10_wouldTell mw_L_134 (by decide) dL_law_1102 rfl (Nat.le_of_ble_eq_true rfl) (fun q52 => ?_)
                                                    refine r_lcmp_eq (tgt := 1425) dL_law_1105 dL_law_1106 (by decide) ?_ ?_
                                                    · refine r_iinc_4 dL_law_1425 ki_6 (by decide) rfl ?_
                                                      refine r_goto (tgt := 23) dL_law_1428 (by decide) ?_
                                                      refine r_widen (k := cs + 1) (n := ss + 6) (Nat.le_add_right _ _) (Nat.le_add_right _ _) ?_
                                                      exact hk23 (v4 + (6 : Int32)) q52.2
                                                    · refine r_iconst dL_law_1109 ki_0 ?_
                                                      exact r_none
                                                  · refine r_if (fun q => r_tsw (tgt := 1111) dL_law_40 q (by decide) (by decide) rfl (by decide) ?_) (fun q24 => ?_)
                                                    · refine r_aload_n_1 dL_law_1111 rfl ?_
                                                      refine r_aload_n_0 dL_law_1112 rfl ?_
                                                      refine r_iload_w_4 dL_law_1113 ?_
                                                      refine r_iconst dL_law_1115 ki_1 ?_
                                                      refine r_iadd dL_law_1116 ?_
                                                      refine r_sld hF dL_law_1117 ?_
                                                      refine r_aload_n_0 dL_law_1118 rfl ?_
                                                      refine r_iload_w_4 dL_law_1119 ?_
                                                      refine r_iconst dL_law_1121 ki_2 ?_
                                                      refine r_iadd dL_law_1122 ?_
                                                      refine r_sld hF dL_law_1123 ?_
                                                      refine r_callLVL (cc := 9) [] hF hc1 (am_X9_left (xs (v4 + (1 : Int32)).toNatClampNeg) (xs (v4 + (2 : Int32)).toNatClampNeg) d) rfl rfl cf_X9_left mw_L_135 (by decide) dL_law_1124 rfl (Nat.le_of_ble_eq_true rfl) (fun q53 => ?_)
                                                      refine r_aload_n_2 dL_law_1127 rfl ?_
                                                      refine r_aload_n_0 dL_law_1128 rfl ?_
                                                      refine r_iload_w_4 dL_law_1129 ?_
                                                      refine r_iconst dL_law_1131 ki_1 ?_
                                                      refine r_iadd dL_law_1132 ?_
                                                      refine r_sld hF dL_law_1133 ?_
                                                      refine r_aload_n_0 dL_law_1134 rfl ?_
                                                      refine r_iload_w_4 dL_law_1135 ?_
                                                      refine r_iconst dL_law_1137 ki_2 ?_
                                                      refine r_iadd dL_law_1138 ?_
                                                      refine r_sld hF dL_law_1139 ?_
                                                      refine r_callLVL (cc := 10) [.long q53.1] hF hc1 (am_X10_left (xs (v4 + (1 : Int32)).toNatClampNeg) (xs (v4 + (2 : Int32)).toNatClampNeg) q53.2) rfl rfl cf_X10_left mw_L_138 (by decide) dL_law_1140 rfl (Nat.le_of_ble_eq_true rfl) (fun q54 => ?_)
                                                      refine r_lcmp_eq (tgt := 1425) dL_law_1143 dL_law_1144 (by decide) ?_ ?_
                                                      · refine r_iinc_4 dL_law_1425 ki_6 (by decide) rfl ?_
                                                        refine r_goto (tgt := 23) dL_law_1428 (by decide) ?_
                                                        refine r_widen (k := cs + 1) (n := ss + 6) (Nat.le_add_right _ _) (Nat.le_add_right _ _) ?_
                                                        exact hk23 (v4 + (6 : Int32)) q54.2
                                                      · refine r_iconst dL_law_1147 ki_0 ?_
                                                        exact r_none
                                                    · refine r_if (fun q => r_tsw (tgt := 1149) dL_law_40 q (by decide) (by decide) rfl (by decide) ?_) (fun q25 => ?_)
                                                      · refine r_aload_n_1 dL_law_1149 rfl ?_
                                                        refine r_callLVI (cc := 9) [] hF hc1 (am_X9_next d) rfl rfl cf_X9_next mw_L_139 (by decide) dL_law_1150 rfl (Nat.le_of_ble_eq_true rfl) (fun q55 => ?_)
                                                        refine r_aload_n_2 dL_law_1153 rfl ?_
                                                        refine r_callLVI (cc := 10) [.int q55.1] hF hc1 (am_X10_next q55.2) rfl rfl cf_X10_next mw_L_142 (by decide) dL_law_1154 rfl (Nat.le_of_ble_eq_true rfl) (fun q56 => ?_)
                                                        refine r_icmp_eq (tgt := 1425) dL_law_1157 (by decide) ?_ ?_
                                                        · refine r_iinc_4 dL_law_1425 ki_6 (by decide) rfl ?_
                                                          refine r_goto (tgt := 23) dL_law_1428 (by decide) ?_
                                                          refine r_widen (k := cs + 1) (n := ss + 6) (Nat.le_add_right _ _) (Nat.le_add_right _ _) ?_
                                                          exact hk23 (v4 + (6 : Int32)) q56.2
                                                        · refine r_iconst dL_law_1160 ki_0 ?_
                                                          exact r_none
                                                      · refine r_if (fun q => r_tsw (tgt := 1162) dL_law_40 q (by decide) (by decide) rfl (by decide) ?_) (fun q26 => ?_)
                                                        · refine r_aload_n_1 dL_law_1162 rfl ?_
                                                          refine r_aload_n_0 dL_law_1163 rfl ?_
                                                          refine r_iload_w_4 dL_law_1164 ?_
                                                          refine r_iconst dL_law_1166 ki_1 ?_
                                                          refine r_iadd dL_law_1167 ?_
                                                          refine r_sld hF dL_law_1168 ?_
                                                          refine r_callLVI (cc := 9) [] hF hc1 (am_X9_table (xs (v4 + (1 : Int32)).toNatClampNeg) d) rfl rfl cf_X9_table mw_L_143 (by decide) dL_law_1169 rfl (Nat.le_of_ble_eq_true rfl) (fun q57 => ?_)
                                                          refine r_aload_n_2 dL_law_1172 rfl ?_
                                                          refine r_aload_n_0 dL_law_1173 rfl ?_
                                                          refine r_iload_w_4 dL_law_1174 ?_
                                                          refine r_iconst dL_law_1176 ki_1 ?_
                                                          refine r_iadd dL_law_1177 ?_
                                                          refine r_sld hF dL_law_1178 ?_
                                                          refine r_callLVI (cc := 10) [.int q57.1] hF hc1 (am_X10_table (xs (v4 + (1 : Int32)).toNatClampNeg) q57.2) rfl rfl cf_X10_table mw_L_146 (by decide) dL_law_1179 rfl (Nat.le_of_ble_eq_true rfl) (fun q58 => ?_)
                                                          refine r_icmp_eq (tgt := 1425) dL_law_1182 (by decide) ?_ ?_
                                                          · refine r_iinc_4 dL_law_1425 ki_6 (by decide) rfl ?_
                                                            refine r_goto (tgt := 23) dL_law_1428 (by decide) ?_
                                                            refine r_widen (k := cs + 1) (n := ss + 6) (Nat.le_add_right _ _) (Nat.le_add_right _ _) ?_
                                                            exact hk23 (v4 + (6 : Int32)) q58.2
                                                          · refine r_iconst dL_law_1185 ki_0 ?_
                                                            exact r_none
                                                        · refine r_if (fun q => r_tsw (tgt := 1187) dL_law_40 q (by decide) (by decide) rfl (by decide) ?_) (fun q27 => ?_)
                                                          · refine r_aload_n_1 dL_law_1187 rfl ?_
                                                            refine r_aload_n_0 dL_law_1188 rfl ?_
                                                            refine r_iload_w_4 dL_law_1189 ?_
                                                            refine r_iconst dL_law_1191 ki_1 ?_
                                                            refine r_iadd dL_law_1192 ?_
                                                            refine r_sld hF dL_law_1193 ?_
                                                            refine r_callLVI (cc := 9) [] hF hc1 (am_X9_said (xs (v4 + (1 : Int32)).toNatClampNeg) d) rfl rfl cf_X9_said mw_L_147 (by decide) dL_law_1194 rfl (Nat.le_of_ble_eq_true rfl) (fun q59 => ?_)
                                                            refine r_aload_n_2 dL_law_1197 rfl ?_
                                                            refine r_aload_n_0 dL_law_1198 rfl ?_
                                                            refine r_iload_w_4 dL_law_1199 ?_
                                                            refine r_iconst dL_law_1201 ki_1 ?_
                                                            refine r_iadd dL_law_1202 ?_
                                                            refine r_sld hF dL_law_1203 ?_
                                                            refine r_callLVI (cc := 10) [.int q59.1] hF hc1 (am_X10_said (xs (v4 + (1 : Int32)).toNatClampNeg) q59.2) rfl rfl cf_X10_said mw_L_150 (by decide) dL_law_1204 rfl (Nat.le_of_ble_eq_true rfl) (fun q60 => ?_)
                                                            refine r_icmp_eq (tgt := 1425) dL_law_1207 (by decide) ?_ ?_
                                                            · refine r_iinc_4 dL_law_1425 ki_6 (by decide) rfl ?_
                                                              refine r_goto (tgt := 23) dL_law_1428 (by decide) ?_
                                                              refine r_widen (k := cs + 1) (n := ss + 6) (Nat.le_add_right _ _) (Nat.le_add_right _ _) ?_
                                                              exact hk23 (v4 + (6 : Int32)) q60.2
                                                            · refine r_iconst dL_law_1210 ki_0 ?_
                                                              exact r_none
                                                          · refine r_if (fun q => r_tsw (tgt := 1212) dL_law_40 q (by decide) (by decide) rfl (by decide) ?_) (fun q28 => ?_)
                                                            · refine r_aload_n_1 dL_law_1212 rfl ?_
                                                              refine r_aload_n_0 dL_law_1213 rfl ?_
                                                              refine r_iload_w_4 dL_law_1214 ?_
                                                              refine r_iconst dL_law_1216 ki_1 ?_
                                                              refine r_iadd dL_law_1217 ?_
                                                              refine r_sld hF dL_law_1218 ?_
                                                              refine r_callLVI (cc := 9) [] hF hc1 (am_X9_ended (xs (v4 + (1 : Int32)).toNatClampNeg) d) rfl rfl cf_X9_ended mw_L_151 (by decide) dL_law_1219 rfl (Nat.le_of_ble_eq_true rfl) (fun q61 => ?_)
                                                              refine r_aload_n_2 dL_law_1222 rfl ?_
                                                              refine r_aload_n_0 dL_law_1223 rfl ?_
                                                              refine r_iload_w_4 dL_law_1224 ?_
                                                              refine r_iconst dL_law_1226 ki_1 ?_
                                                              refine r_iadd dL_law_1227 ?_
                                                              refine r_sld hF dL_law_1228 ?_
                                                              refine r_callLVI (cc := 10) [.int q61.1] hF hc1 (am_X10_ended (xs (v4 + (1 : Int32)).toNatClampNeg) q61.2) rfl rfl cf_X10_ended mw_L_154 (by decide) dL_law_1229 rfl (Nat.le_of_ble_eq_true rfl) (fun q62 => ?_)
                                                              refine r_icmp_eq (tgt := 1425) dL_law_1232 (by decide) ?_ ?_
                                                              · refine r_iinc_4 dL_law_1425 ki_6 (by decide) rfl ?_
                                                                refine r_goto (tgt := 23) dL_law_1428 (by decide) ?_
                                                                refine r_widen (k := cs + 1) (n := ss + 6) (Nat.le_add_right _ _) (Nat.le_add_right _ _) ?_
                                                                exact hk23 (v4 + (6 : Int32)) q62.2
                                                              · refine r_iconst dL_law_1235 ki_0 ?_
                                                                exact r_none
                                                            · refine r_if (fun q => r_tsw (tgt := 1237) dL_law_40 q (by decide) (by decide) rfl (by decide) ?_) (fun q29 => ?_)
                                                              · refine r_aload_n_1 dL_law_1237 rfl ?_
                                                                refine r_callLVI (cc := 9) [] hF hc1 (am_X9_rules d) rfl rfl cf_X9_rules mw_L_155 (by decide) dL_law_1238 rfl (Nat.le_of_ble_eq_true rfl) (fun q63 => ?_)
                                                                refine r_aload_n_2 dL_law_1241 rfl ?_
                                                                refine r_callLVI (cc := 10) [.int q63.1] hF hc1 (am_X10_rules q63.2) rfl rfl cf_X10_rules mw_L_158 (by decide) dL_law_1242 rfl (Nat.le_of_ble_eq_true rfl) (fun q64 => ?_)
                                                                refine r_icmp_eq (tgt := 1425) dL_law_1245 (by decide) ?_ ?_
                                                                · refine r_iinc_4 dL_law_1425 ki_6 (by decide) rfl ?_
                                                                  refine r_goto (tgt := 23) dL_law_1428 (by decide) ?_
                                                                  refine r_widen (k := cs + 1) (n := ss + 6) (Nat.le_add_right _ _) (Nat.le_add_right _ _) ?_
                                                                  exact hk23 (v4 + (6 : Int32)) q64.2
                                                                · refine r_iconst dL_law_1248 ki_0 ?_
                                                                  exact r_none
                                                              · refine r_if (fun q => r_tsw (tgt := 1250) dL_law_40 q (by decide) (by decide) rfl (by decide) ?_) (fun q30 => ?_)
                                                                · refine r_aload_n_1 dL_law_1250 rfl ?_
                                                                  refine r_aload_n_0 dL_law_1251 rfl ?_
                                                                  refine r_iload_w_4 dL_law_1252 ?_
                                                                  refine r_iconst dL_law_1254 ki_1 ?_
                                                                  refine r_iadd dL_law_1255 ?_
                                                                  refine r_sld hF dL_law_1256 ?_
                                                                  refine r_callLVI (cc := 9) [] hF hc1 (am_X9_turn (xs (v4 + (1 : Int32)).toNatClampNeg) d) rfl rfl cf_X9_turn mw_L_159 (by decide) dL_law_1257 rfl (Nat.le_of_ble_eq_true rfl) (fun q65 => ?_)
                                                                  refine r_aload_n_2 dL_law_1260 rfl ?_
                                                                  refine r_aload_n_0 dL_law_1261 rfl ?_
                                                                  refine r_iload_w_4 dL_law_1262 ?_
                                                                  refine r_iconst dL_law_1264 ki_1 ?_
                                                                  refine r_iadd dL_law_1265 ?_
                                                                  refine r_sld hF dL_law_1266 ?_
                                                                  refine r_callLVI (cc := 10) [.int q65.1] hF hc1 (am_X10_turn (xs (v4 + (1 : Int32)).toNatClampNeg) q65.2) rfl rfl cf_X10_turn mw_L_162 (by decide) dL_law_1267 rfl (Nat.le_of_ble_eq_true rfl) (fun q66 => ?_)
                                                                  refine r_icmp_eq (tgt := 1425) dL_law_1270 (by decide) ?_ ?_
                                                                  · refine r_iinc_4 dL_law_1425 ki_6 (by decide) rfl ?_
                                                                    refine r_goto (tgt := 23) dL_law_1428 (by decide) ?_
                                                                    refine r_widen (k := cs + 1) (n := ss + 6) (Nat.le_add_right _ _) (Nat.le_add_right _ _) ?_
                                                                    exact hk23 (v4 + (6 : Int32)) q66.2
                                                                  · refine r_iconst dL_law_1273 ki_0 ?_
                                                                    exact r_none
                                                                · refine r_if (fun q => r_tsw (tgt := 1275) dL_law_40 q (by decide) (by decide) rfl (by decide) ?_) (fun q31 => ?_)
                                                                  · refine r_aload_n_1 dL_law_1275 rfl ?_
                                                                    refine r_aload_n_0 dL_law_1276 rfl ?_
                                                                    refine r_iload_w_4 dL_law_1277 ?_
                                                                    refine r_iconst dL_law_1279 ki_1 ?_
                                                                    refine r_iadd dL_law_1280 ?_
                                                                    refine r_sld hF dL_law_1281 ?_
                                                                    refine r_callLVI (cc := 9) [] hF hc1 (am_X9_content (xs (v4 + (1 : Int32)).toNatClampNeg) d) rfl rfl cf_X9_content mw_L_163 (by decide) dL_law_1282 rfl (Nat.le_of_ble_eq_true rfl) (fun q67 => ?_)
                                                                    refine r_aload_n_2 dL_law_1285 rfl ?_
                                                                    refine r_aload_n_0 dL_law_1286 rfl ?_
                                                                    refine r_iload_w_4 dL_law_1287 ?_
                                                                    refine r_iconst dL_law_1289 ki_1 ?_
                                                                    refine r_iadd dL_law_1290 ?_
                                                                    refine r_sld hF dL_law_1291 ?_
                                                                    refine r_callLVI (cc := 10) [.int q67.1] hF hc1 (am_X10_content (xs (v4 + (1 : Int32)).toNatClampNeg) q67.2) rfl rfl cf_X10_content mw_L_166 (by decide) dL_law_1292 rfl (Nat.le_of_ble_eq_true rfl) (fun q68 => ?_)
                                                                    refine r_icmp_eq (tgt := 1425) dL_law_1295 (by decide) ?_ ?_
                                                                    · refine r_iinc_4 dL_law_1425 ki_6 (by decide) rfl ?_
                                                                      refine r_goto (tgt := 23) dL_law_1428 (by decide) ?_
                                                                      refine r_widen (k := cs + 1) (n := ss + 6) (Nat.le_add_right _ _) (Nat.le_add_right _ _) ?_
                                                                      exact hk23 (v4 + (6 : Int32)) q68.2
                                                                    · refine r_iconst dL_law_1298 ki_0 ?_
                                                                      exact r_none
                                                                  · refine r_if (fun q => r_tsw (tgt := 1300) dL_law_40 q (by decide) (by decide) rfl (by decide) ?_) (fun q32 => ?_)
                                                                    · refine r_aload_n_1 dL_law_1300 rfl ?_
                                                                      refine r_callLVI (cc := 9) [] hF hc1 (am_X9_trade d) rfl rfl cf_X9_trade mw_L_167 (by decide) dL_law_1301 rfl (Nat.le_of_ble_eq_true rfl) (fun q69 => ?_)
                                                                      refine r_aload_n_2 dL_law_1304 rfl ?_
                                                                      refine r_callLVI (cc := 10) [.int q69.1] hF hc1 (am_X10_trade q69.2) rfl rfl cf_X10_trade mw_L_170 (by decide) dL_law_1305 rfl (Nat.le_of_ble_eq_true rfl) (fun q70 => ?_)
                                                                      refine r_icmp_eq (tgt := 1425) dL_law_1308 (by decide) ?_ ?_
                                                                      · refine r_iinc_4 dL_law_1425 ki_6 (by decide) rfl ?_
                                                                        refine r_goto (tgt := 23) dL_law_1428 (by decide) ?_
                                                                        refine r_widen (k := cs + 1) (n := ss + 6) (Nat.le_add_right _ _) (Nat.le_add_right _ _) ?_
                                                                        exact hk23 (v4 + (6 : Int32)) q70.2
                                                                      · refine r_iconst dL_law_1311 ki_0 ?_
                                                                        exact r_none
                                                                    · refine r_if (fun q => r_tsw (tgt := 1313) dL_law_40 q (by decide) (by decide) rfl (by decide) ?_) (fun q33 => ?_)
                                                                      · refine r_aload_n_1 dL_law_1313 rfl ?_
                                                                        refine r_aload_n_0 dL_law_1314 rfl ?_
                                                                        refine r_iload_w_4 dL_law_1315 ?_
                                                                        refine r_iconst dL_law_1317 ki_1 ?_
                                                                        refine r_iadd dL_law_1318 ?_
                                                                        refine r_sld hF dL_law_1319 ?_
                                                                        refine r_aload_n_0 dL_law_1320 rfl ?_
                                                                        refine r_iload_w_4 dL_law_1321 ?_
                                                                        refine r_iconst dL_law_1323 ki_2 ?_
                                                                        refine r_iadd dL_law_1324 ?_
                                                                        refine r_sld hF dL_law_1325 ?_
                                                                        refine r_callLVI (cc := 9) [] hF hc1 (am_X9_drawn (xs (v4 + (1 : Int32)).toNatClampNeg) (xs (v4 + (2 : Int32)).toNatClampNeg) d) rfl rfl cf_X9_drawn mw_L_171 (by decide) dL_law_1326 rfl (Nat.le_of_ble_eq_true rfl) (fun q71 => ?_)
                                                                        refine r_aload_n_2 dL_law_1329 rfl ?_
                                                                        refine r_aload_n_0 dL_law_1330 rfl ?_
                                                                        refine r_iload_w_4 dL_law_1331 ?_
                                                                        refine r_iconst dL_law_1333 ki_1 ?_
                                                                        refine r_iadd dL_law_1334 ?_
                                                                        refine r_sld hF dL_law_1335 ?_
                                                                        refine r_aload_n_0 dL_law_1336 rfl ?_
                                                                        refine r_iload_w_4 dL_law_1337 ?_
                                                                        refine r_iconst dL_law_1339 ki_2 ?_
                                                                        refine r_iadd dL_law_1340 ?_
                                                                        refine r_sld hF dL_law_1341 ?_
                                                                        refine r_callLVI (cc := 10) [.int q71.1] hF hc1 (am_X10_drawn (xs (v4 + (1 : Int32)).toNatClampNeg) (xs (v4 + (2 : Int32)).toNatClampNeg) q71.2) rfl rfl cf_X10_drawn mw_L_175 (by decide) dL_law_1342 rfl (Nat.le_of_ble_eq_true rfl) (fun q72 => ?_)
                                                                        refine r_icmp_eq (tgt := 1425) dL_law_1345 (by decide) ?_ ?_
                                                                        · refine r_iinc_4 dL_law_1425 ki_6 (by decide) rfl ?_
                                                                          refine r_goto (tgt := 23) dL_law_1428 (by decide) ?_
                                                                          refine r_widen (k := cs + 1) (n := ss + 6) (Nat.le_add_right _ _) (Nat.le_add_right _ _) ?_
                                                                          exact hk23 (v4 + (6 : Int32)) q72.2
                                                                        · refine r_iconst dL_law_1348 ki_0 ?_
                                                                          exact r_none
                                                                      · refine r_if (fun q => r_tsw (tgt := 1350) dL_law_40 q (by decide) (by decide) rfl (by decide) ?_) (fun q34 => ?_)
                                                                        · refine r_aload_n_1 dL_law_1350 rfl ?_
                                                                          refine r_aload_n_0 dL_law_1351 rfl ?_
                                                                          refine r_iload_w_4 dL_law_1352 ?_
                                                                          refine r_iconst dL_law_1354 ki_1 ?_
                                                                          refine r_iadd dL_law_1355 ?_
                                                                          refine r_sld hF dL_law_1356 ?_
                                                                          refine r_callLVI (cc := 9) [] hF hc1 (am_X9_image (xs (v4 + (1 : Int32)).toNatClampNeg) d) rfl rfl cf_X9_image mw_L_176 (by decide) dL_law_1357 rfl (Nat.le_of_ble_eq_true rfl) (fun q73 => ?_)
                                                                          refine r_aload_n_2 dL_law_1360 rfl ?_
                                                                          refine r_aload_n_0 dL_law_1361 rfl ?_
                                                                          refine r_iload_w_4 dL_law_1362 ?_
                                                                          refine r_iconst dL_law_1364 ki_1 ?_
                                                                          refine r_iadd dL_law_1365 ?_
                                                                          refine r_sld hF dL_law_1366 ?_
                                                                          refine r_callLVI (cc := 10) [.int q73.1] hF hc1 (am_X10_image (xs (v4 + (1 : Int32)).toNatClampNeg) q73.2) rfl rfl cf_X10_image mw_L_179 (by decide) dL_law_1367 rfl (Nat.le_of_ble_eq_true rfl) (fun q74 => ?_)
                                                                          refine r_icmp_eq (tgt := 1425) dL_law_1370 (by decide) ?_ ?_
                                                                          · refine r_iinc_4 dL_law_1425 ki_6 (by decide) rfl ?_
                                                                            refine r_goto (tgt := 23) dL_law_1428 (by decide) ?_
                                                                            refine r_widen (k := cs + 1) (n := ss + 6) (Nat.le_add_right _ _) (Nat.le_add_right _ _) ?_
                                                                            exact hk23 (v4 + (6 : Int32)) q74.2
                                                                          · refine r_iconst dL_law_1373 ki_0 ?_
                                                                            exact r_none
                                                                        · refine r_if (fun q => r_tsw (tgt := 1375) dL_law_40 q (by decide) (by decide) rfl (by decide) ?_) (fun q35 => ?_)
                                                                          · refine r_aload_n_1 dL_law_1375 rfl ?_
                                                                            refine r_aload_n_0 dL_law_1376 rfl ?_
                                                                            refine r_iload_w_4 dL_law_1377 ?_
                                                                            refine r_iconst dL_law_1379 ki_1 ?_
                                                                            refine r_iadd dL_law_1380 ?_
                                                                            refine r_sld hF dL_law_1381 ?_
                                                                            refine r_callLVI (cc := 9) [] hF hc1 (am_X9_restore (xs (v4 + (1 : Int32)).toNatClampNeg) d) rfl rfl cf_X9_restore mw_L_180 (by decide) dL_law_1382 rfl (Nat.le_of_ble_eq_true rfl) (fun q75 => ?_)
                                                                            refine r_aload_n_2 dL_law_1385 rfl ?_
                                                                            refine r_aload_n_0 dL_law_1386 rfl ?_
                                                                            refine r_iload_w_4 dL_law_1387 ?_
                                                                            refine r_iconst dL_law_1389 ki_1 ?_
                                                                            refine r_iadd dL_law_1390 ?_
                                                                            refine r_sld hF dL_law_1391 ?_
                                                                            refine r_callLVI (cc := 10) [.int q75.1] hF hc1 (am_X10_restore (xs (v4 + (1 : Int32)).toNatClampNeg) q75.2) rfl rfl cf_X10_restore mw_L_183 (by decide) dL_law_1392 rfl (Nat.le_of_ble_eq_true rfl) (fun q76 => ?_)
                                                                            refine r_icmp_eq (tgt := 1425) dL_law_1395 (by decide) ?_ ?_
                                                                            · refine r_iinc_4 dL_law_1425 ki_6 (by decide) rfl ?_
                                                                              refine r_goto (tgt := 23) dL_law_1428 (by decide) ?_
                                                                              refine r_widen (k := cs + 1) (n := ss + 6) (Nat.le_add_right _ _) (Nat.le_add_right _ _) ?_
                                                                              exact hk23 (v4 + (6 : Int32)) q76.2
                                                                            · refine r_iconst dL_law_1398 ki_0 ?_
                                                                              exact r_none
                                                                          · refine r_if (fun q => r_tsw (tgt := 1400) dL_law_40 q (by decide) (by decide) rfl (by decide) ?_) (fun q36 => ?_)
                                                                            · refine r_aload_n_1 dL_law_1400 rfl ?_
                                                                              refine r_aload_n_0 dL_law_1401 rfl ?_
                                                                              refine r_iload_w_4 dL_law_1402 ?_
                                                                              refine r_iconst dL_law_1404 ki_1 ?_
                                                                              refine r_iadd dL_law_1405 ?_
                                                                              refine r_sld hF dL_law_1406 ?_
                                                                              refine r_callLVI (cc := 9) [] hF hc1 (am_X9_count (xs (v4 + (1 : Int32)).toNatClampNeg) d) rfl rfl cf_X9_count mw_L_184 (by decide) dL_law_1407 rfl (Nat.le_of_ble_eq_true rfl) (fun q77 => ?_)
                                                                              refine r_aload_n_2 dL_law_1410 rfl ?_
                                                                              refine r_aload_n_0 dL_law_1411 rfl ?_
                                                                              refine r_iload_w_4 dL_law_1412 ?_
                                                                              refine r_iconst dL_law_1414 ki_1 ?_
                                                                              refine r_iadd dL_law_1415 ?_
                                                                              refine r_sld hF dL_law_1416 ?_
                                                                              refine r_callLVI (cc := 10) [.int q77.1] hF hc1 (am_X10_count (xs (v4 + (1 : Int32)).toNatClampNeg) q77.2) rfl rfl cf_X10_count mw_L_187 (by decide) dL_law_1417 rfl (Nat.le_of_ble_eq_true rfl) (fun q78 => ?_)
                                                                              refine r_icmp_eq (tgt := 1425) dL_law_1420 (by decide) ?_ ?_
                                                                              · refine r_iinc_4 dL_law_1425 ki_6 (by decide) rfl ?_
                                                                                refine r_goto (tgt := 23) dL_law_1428 (by decide) ?_
                                                                                refine r_widen (k := cs + 1) (n := ss + 6) (Nat.le_add_right _ _) (Nat.le_add_right _ _) ?_
                                                                                exact hk23 (v4 + (6 : Int32)) q78.2
                                                                              · refine r_iconst dL_law_1423 ki_0 ?_
                                                                                exact r_none
                                                                            · have tq : ((xs v4.toNatClampNeg) &&& (63 : Int32)).toInt < 0 ∨ 36 < ((xs v4.toNatClampNeg) &&& (63 : Int32)).toInt := by
                                                                                have z0 := lv_neT (a := 0) q0 (by decide)
                                                                                have z1 := lv_neT (a := 1) q1 (by decide)
                                                                                have z2 := lv_neT (a := 2) q2 (by decide)
                                                                                have z3 := lv_neT (a := 3) q3 (by decide)
                                                                                have z4 := lv_neT (a := 4) q4 (by decide)
                                                                                have z5 := lv_neT (a := 5) q5 (by decide)
                                                                                have z6 := lv_neT (a := 6) q6 (by decide)
                                                                                have z7 := lv_neT (a := 7) q7 (by decide)
                                                                                have z8 := lv_neT (a := 8) q8 (by decide)
                                                                                have z9 := lv_neT (a := 9) q9 (by decide)
                                                                                have z10 := lv_neT (a := 10) q10 (by decide)
                                                                                have z11 := lv_neT (a := 11) q11 (by decide)
                                                                                have z12 := lv_neT (a := 12) q12 (by decide)
                                                                                have z13 := lv_neT (a := 13) q13 (by decide)
                                                                                have z14 := lv_neT (a := 14) q14 (by decide)
                                                                                have z15 := lv_neT (a := 15) q15 (by decide)
                                                                                have z16 := lv_neT (a := 16) q16 (by decide)
                                                                                have z17 := lv_neT (a := 17) q17 (by decide)
                                                                                have z18 := lv_neT (a := 18) q18 (by decide)
                                                                                have z19 := lv_neT (a := 19) q19 (by decide)
                                                                                have z20 := lv_neT (a := 20) q20 (by decide)
                                                                                have z21 := lv_neT (a := 21) q21 (by decide)
                                                                                have z22 := lv_neT (a := 22) q22 (by decide)
                                                                                have z23 := lv_neT (a := 23) q23 (by decide)
                                                                                have z24 := lv_neT (a := 24) q24 (by decide)
                                                                                have z25 := lv_neT (a := 25) q25 (by decide)
                                                                                have z26 := lv_neT (a := 26) q26 (by decide)
                                                                                have z27 := lv_neT (a := 27) q27 (by decide)
                                                                                have z28 := lv_neT (a := 28) q28 (by decide)
                                                                                have z29 := lv_neT (a := 29) q29 (by decide)
                                                                                have z30 := lv_neT (a := 30) q30 (by decide)
                                                                                have z31 := lv_neT (a := 31) q31 (by decide)
                                                                                have z32 := lv_neT (a := 32) q32 (by decide)
                                                                                have z33 := lv_neT (a := 33) q33 (by decide)
                                                                                have z34 := lv_neT (a := 34) q34 (by decide)
                                                                                have z35 := lv_neT (a := 35) q35 (by decide)
                                                                                have z36 := lv_neT (a := 36) q36 (by decide)
                                                                                omega
                                                                              refine r_tswO (tgt := 1425) dL_law_40 tq (by decide) ?_
                                                                              refine r_iinc_4 dL_law_1425 ki_6 (by decide) rfl ?_
                                                                              refine r_goto (tgt := 23) dL_law_1428 (by decide) ?_
                                                                              refine r_widen (k := cs + 1) (n := ss + 6) (Nat.le_add_right _ _) (Nat.le_add_right _ _) ?_
                                                                              exact hk23 (v4 + (6 : Int32)) d
theorem w_L_law_23 {E : XE} {L : Nat} {xs : Nat → Int32} (hF : LF E L xs) (ha : arg1 E) (hA : ∀ q, A_of E q → sz_heap E ≤ q) : ∀ (n cs ss : Nat), cs + n ≤ 1141 → ss + 6 * n ≤ 19887 → ∀ (v4 : Int32) (d : DD), AW E si_law cs ss (LQ E) (f_L_law_23 L xs n v4 d) 23 [(0, .ref 111), (1, .ref 0), (2, .ref 86), (3, .ref 110), (4, .int v4)] [] d := by
  intro n
  induction n with
  | zero => intros; exact r_none
  | succ n ih => intro cs ss h1 h2 v4 d; exact w_L_law_23B hF ha hA ⟨by omega, by omega⟩ (f_L_law_23 L xs n) (ih (cs + 1) (ss + 6) (by omega) (by omega)) v4 d
