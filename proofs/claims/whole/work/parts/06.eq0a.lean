/-! written by a program: each region's equation -/
set_option maxRecDepth 100000 in
set_option maxHeartbeats 1000000 in
theorem e_m_feed_0 (σ : en_S) (v1 : Int32) (v2 : Int32) (v3 : Int32) (v4 : Int32) (v5 : Int32) : x_m_feed_0 σ v1 v2 v3 v4 v5 =
    if (σ.1 0 14) + 20 ≤ 700 then
      en_cV (x_m_lays_0 (en_u1 σ.1 0 0 0, σ.2) v1) (fun σ1 =>
        en_cV (x_m_lays_0 σ1 v2) (fun σ2 =>
          en_cV (x_m_lays_0 σ2 v3) (fun σ3 =>
            en_cV (x_m_lays_0 σ3 v4) (fun σ4 =>
              en_cV (x_m_lays_0 σ4 v5) (fun σ5 =>
                some (.inl (some (.int (σ5.1 0 14))), σ5)) (fun e σ => some (.inr e, σ))) (fun e σ => some (.inr e, σ))) (fun e σ => some (.inr e, σ))) (fun e σ => some (.inr e, σ))) (fun e σ => some (.inr e, σ))
    else
      some (.inl (some (.int (-1))), (en_u1 σ.1 0 0 0, σ.2)) := en_ex_un (G := bb_G) (P := bb_P) (ML := bb_ML) (HD := bb_HD) 31 0 9 0 [some (.ref 0), some (.int v1), some (.int v2), some (.int v3), some (.int v4), some (.int v5)] [] σ
set_option maxRecDepth 100000 in
set_option maxHeartbeats 1000000 in
theorem e_m_land_0 (σ : en_S) (v1 : Int32) : x_m_land_0 σ v1 =
    if v1 < 0 then
      x_m_land_23 (en_u1 σ.1 0 0 0, σ.2) v1 0
    else
      if σ.1 0 14 < v1 then
        x_m_land_23 (en_u1 σ.1 0 0 0, σ.2) v1 0
      else
        x_m_land_23 (en_u1 σ.1 0 0 0, σ.2) v1 1 := en_ex_un (G := bb_G) (P := bb_P) (ML := bb_ML) (HD := bb_HD) 16 0 41 0 [some (.ref 0), some (.int v1), none] [] σ
set_option maxRecDepth 100000 in
set_option maxHeartbeats 1000000 in
theorem e_m_land_23 (σ : en_S) (v1 : Int32) (t0 : Int32) : x_m_land_23 σ v1 t0 =
    en_cI (x_m_right_0 σ t0 1) (fun r2 σ1 =>
      if r2 = 0 then
        some (.inl (some (.int 0)), σ1)
      else
        x_m_land_94 (en_u1 (en_u1 (en_u1 (en_u1 (en_u1 (en_u1 (en_u1 (en_u1 (en_u1 (en_u1 (en_u1 (en_u1 σ1.1 0 14 0) 0 16 (-1)) 0 15 0) 0 18 v1) 0 19 0) 0 27 (-1)) 0 28 0) 0 29 0) 0 30 0) 0 31 (-1)) 0 32 (-1)) 0 26 0, σ1.2) 0) (fun e σ => some (.inr e, σ)) := en_ex_un (G := bb_G) (P := bb_P) (ML := bb_ML) (HD := bb_HD) 45 0 41 23 [some (.ref 0), some (.int v1), none] [.int t0, .ref 0] σ
set_option maxRecDepth 100000 in
set_option maxHeartbeats 1000000 in
theorem e_m_land_94 (σ : en_S) (v2 : Int32) : x_m_land_94 σ v2 =
    if (64 : Int32) ≤ v2 then
      en_cV (x_m_goes_0 (en_u1 (en_u1 σ.1 14 0 0) 0 33 0, σ.2)) (fun σ1 =>
        x_m_land_129 σ1) (fun e σ => some (.inr e, σ))
    else
      if en_in v2 64 then
        x_m_land_94 (en_u1 σ.1 9 v2.toNatClampNeg (-1), σ.2) (v2 + 1)
      else
        none := en_ex_un (G := bb_G) (P := bb_P) (ML := bb_ML) (HD := bb_HD) 22 0 41 94 [some (.ref 0), none, some (.int v2)] [] σ
set_option maxRecDepth 100000 in
set_option maxHeartbeats 1000000 in
theorem e_m_land_129 (σ : en_S) : x_m_land_129 σ =
    en_cI (x_m_isGood_0 σ) (fun r2 σ1 =>
      if r2 = 0 then
        x_m_land_150 σ1
      else
        if σ1.1 0 20 = 0 then
          x_m_land_150 σ1
        else
          en_cV (x_m_line_0 σ1) (fun σ3 =>
            x_m_land_129 σ3) (fun e σ => some (.inr e, σ))) (fun e σ => some (.inr e, σ)) := en_ex_un (G := bb_G) (P := bb_P) (ML := bb_ML) (HD := bb_HD) 11 0 41 129 [some (.ref 0), none, none] [] σ
set_option maxRecDepth 100000 in
set_option maxHeartbeats 1000000 in
theorem e_m_land_150 (σ : en_S) : x_m_land_150 σ =
    en_cI (x_m_isGood_0 σ) (fun r2 σ1 =>
      if r2 = 0 then
        some (.inl (some (.int (σ1.1 0 15))), (en_u1 σ1.1 8 0 ((σ1.1 8 0) + 1), σ1.2))
      else
        en_cI (x_m_townsNow_0 σ1) (fun r4 σ3 =>
          en_cV (x_m_copies_p9_1_0 (en_u1 (en_u1 (en_u1 (en_u1 (en_u1 (en_u1 σ3.1 0 1 r4) 0 2 (σ3.1 0 28)) 0 3 (σ3.1 0 29)) 0 4 (σ3.1 0 30)) 0 5 (σ3.1 0 31)) 0 6 (σ3.1 0 32), σ3.2)) (fun σ5 =>
            en_cV (x_m_copies_p10_2_0 σ5) (fun σ6 =>
              en_cV (x_m_copies_p11_3_0 σ6) (fun σ7 =>
                en_cV (x_m_copies_p12_4_0 σ7) (fun σ8 =>
                  en_cV (x_m_copies_p13_5_0 σ8) (fun σ9 =>
                    en_cV (x_m_copies_p15_6_0 σ9) (fun σ10 =>
                      x_m_land_294 σ10 0) (fun e σ => some (.inr e, σ))) (fun e σ => some (.inr e, σ))) (fun e σ => some (.inr e, σ))) (fun e σ => some (.inr e, σ))) (fun e σ => some (.inr e, σ))) (fun e σ => some (.inr e, σ))) (fun e σ => some (.inr e, σ))) (fun e σ => some (.inr e, σ)) := en_ex_un (G := bb_G) (P := bb_P) (ML := bb_ML) (HD := bb_HD) 78 0 41 150 [some (.ref 0), none, none] [] σ
set_option maxRecDepth 100000 in
set_option maxHeartbeats 1000000 in
theorem e_m_land_294 (σ : en_S) (v2 : Int32) : x_m_land_294 σ v2 =
    if (29 : Int32) ≤ v2 then
      some (.inl (some (.int 0)), (en_u1 (en_u1 (en_u1 σ.1 0 47 0) 0 55 0) 0 60 0, σ.2))
    else
      if en_in v2 29 then
        if en_in v2 58 then
          x_m_land_294 (en_u1 σ.1 18 v2.toNatClampNeg (σ.1 14 v2.toNatClampNeg), σ.2) (v2 + 1)
        else
          none
      else
        none := en_ex_un (G := bb_G) (P := bb_P) (ML := bb_ML) (HD := bb_HD) 26 0 41 294 [some (.ref 0), none, some (.int v2)] [] σ
set_option maxRecDepth 100000 in
set_option maxHeartbeats 1000000 in
theorem e_m_thrown_0 (σ : en_S) : x_m_thrown_0 σ =
    some (.inl (some (.int (σ.1 0 0))), σ) := en_ex_un (G := bb_G) (P := bb_P) (ML := bb_ML) (HD := bb_HD) 5 0 1 0 [some (.ref 0)] [] σ
set_option maxRecDepth 100000 in
set_option maxHeartbeats 1000000 in
theorem e_m_fault_0 (σ : en_S) : x_m_fault_0 σ =
    some (.inl (some (.int (σ.1 0 16))), (en_u1 σ.1 0 0 0, σ.2)) := en_ex_un (G := bb_G) (P := bb_P) (ML := bb_ML) (HD := bb_HD) 8 0 42 0 [some (.ref 0)] [] σ
set_option maxRecDepth 100000 in
set_option maxHeartbeats 1000000 in
theorem e_m_count_0 (σ : en_S) (v1 : Int32) : x_m_count_0 σ v1 =
    en_cI (x_m_within_0 (en_u1 σ.1 0 0 0, σ.2) v1 0 14) (fun r2 σ1 =>
      en_cI (x_m_right_0 σ1 r2 1) (fun r4 σ3 =>
        if r4 = 0 then
          some (.inl (some (.int 0)), σ3)
        else
          if v1 = 0 then
            some (.inl (some (.int (σ3.1 0 1))), σ3)
          else
            if v1 = 1 then
              some (.inl (some (.int (σ3.1 0 2))), σ3)
            else
              if v1 = 2 then
                some (.inl (some (.int (σ3.1 0 3))), σ3)
              else
                if v1 = 3 then
                  some (.inl (some (.int (σ3.1 0 4))), σ3)
                else
                  if v1 = 4 then
                    some (.inl (some (.int (σ3.1 18 0))), σ3)
                  else
                    if v1 = 5 then
                      en_cI (x_m_borneOnes_0 σ3 0) (fun r12 σ11 =>
                        some (.inl (some (.int r12)), σ11)) (fun e σ => some (.inr e, σ))
                    else
                      if v1 = 6 then
                        en_cI (x_m_handsAt_0 σ3 0 (-1)) (fun r10 σ9 =>
                          some (.inl (some (.int r10)), σ9)) (fun e σ => some (.inr e, σ))
                      else
                        if v1 = 7 then
                          en_cI (x_m_allWeight_0 σ3 0) (fun r8 σ7 =>
                            some (.inl (some (.int r8)), σ7)) (fun e σ => some (.inr e, σ))
                        else
                          if v1 = 8 then
                            en_cI (x_m_pairs_0 σ3) (fun r6 σ5 =>
                              some (.inl (some (.int r6)), σ5)) (fun e σ => some (.inr e, σ))
                          else
                            if v1 = 9 then
                              some (.inl (some (.int (σ3.1 0 47))), σ3)
                            else
                              if v1 = 10 then
                                some (.inl (some (.int (σ3.1 0 55))), σ3)
                              else
                                if v1 = 11 then
                                  some (.inl (some (.int (σ3.1 0 14))), σ3)
                                else
                                  if en_in (v1 - 12) 3 then
                                    some (.inl (some (.int (σ3.1 8 ((v1 - 12).toNatClampNeg)))), σ3)
                                  else
                                    none) (fun e σ => some (.inr e, σ))) (fun e σ => some (.inr e, σ)) := en_ex_un (G := bb_G) (P := bb_P) (ML := bb_ML) (HD := bb_HD) 66 0 66 0 [some (.ref 0), some (.int v1)] [] σ
set_option maxRecDepth 100000 in
set_option maxHeartbeats 1000000 in
theorem e_m_box_0 (σ : en_S) (v1 : Int32) (v2 : Int32) : x_m_box_0 σ v1 v2 =
    en_cI (x_m_isBox_0 (en_u1 σ.1 0 0 0, σ.2) v1) (fun r2 σ1 =>
      if r2 = 0 then
        some (.inl (some (.int 0)), σ1)
      else
        en_cI (x_m_isWhat_0 σ1 v2 6) (fun r4 σ3 =>
          if r4 = 0 then
            some (.inl (some (.int 0)), σ3)
          else
            en_cI (x_m_handsAt_0 σ3 0 v1) (fun r6 σ5 =>
              if v2 = 0 then
                if en_in (1 + v1) 58 then
                  some (.inl (some (.int (σ5.1 18 ((1 + v1).toNatClampNeg)))), σ5)
                else
                  none
              else
                if v2 = 1 then
                  en_cI (x_m_townOf_0 σ5 0 v1) (fun r14 σ13 =>
                    some (.inl (some (.int r14)), σ13)) (fun e σ => some (.inr e, σ))
                else
                  if v2 = 2 then
                    some (.inl (some (.int r6)), σ5)
                  else
                    if v2 = 3 then
                      en_cI (x_m_leanBy_0 σ5 r6) (fun r12 σ11 =>
                        some (.inl (some (.int r12)), σ11)) (fun e σ => some (.inr e, σ))
                    else
                      if v2 = 4 then
                        en_cI (x_m_mightBy_0 σ5 0 r6) (fun r10 σ9 =>
                          if en_in (1 + v1) 58 then
                            some (.inl (some (.int (r10 - (σ9.1 18 ((1 + v1).toNatClampNeg))))), σ9)
                          else
                            none) (fun e σ => some (.inr e, σ))
                      else
                        if v2 = 5 then
                          if en_in v1 6 then
                            some (.inl (some (.int (σ5.1 3 v1.toNatClampNeg))), σ5)
                          else
                            none
                        else
                          en_cI (x_m_neededFor_0 σ5 v1) (fun r8 σ7 =>
                            some (.inl (some (.int r8)), σ7)) (fun e σ => some (.inr e, σ))) (fun e σ => some (.inr e, σ))) (fun e σ => some (.inr e, σ))) (fun e σ => some (.inr e, σ)) := en_ex_un (G := bb_G) (P := bb_P) (ML := bb_ML) (HD := bb_HD) 64 0 73 0 [some (.ref 0), some (.int v1), some (.int v2), none] [] σ
set_option maxRecDepth 100000 in
set_option maxHeartbeats 1000000 in
theorem e_m_bearer_0 (σ : en_S) (v1 : Int32) (v2 : Int32) : x_m_bearer_0 σ v1 v2 =
    en_cI (x_m_isBearer_0 (en_u1 σ.1 0 0 0, σ.2) v1) (fun r2 σ1 =>
      if r2 = 0 then
        some (.inl (some (.int 0)), σ1)
      else
        en_cI (x_m_isWhat_0 σ1 v2 5) (fun r4 σ3 =>
          if r4 = 0 then
            some (.inl (some (.int 0)), σ3)
          else
            if en_in (13 + v1) 58 then
              if v2 = 0 then
                if en_in v1 8 then
                  some (.inl (some (.int (σ3.1 4 v1.toNatClampNeg))), σ3)
                else
                  none
              else
                if v2 = 1 then
                  if en_in v1 8 then
                    some (.inl (some (.int (σ3.1 5 v1.toNatClampNeg))), σ3)
                  else
                    none
                else
                  if v2 = 2 then
                    some (.inl (some (.int (σ3.1 18 ((13 + v1).toNatClampNeg)))), σ3)
                  else
                    if v2 = 3 then
                      if en_in (21 + v1) 58 then
                        some (.inl (some (.int (σ3.1 18 ((21 + v1).toNatClampNeg)))), σ3)
                      else
                        none
                    else
                      if v2 = 4 then
                        en_cI (x_m_mightOf_0 σ3 0 v1) (fun r10 σ9 =>
                          some (.inl (some (.int r10)), σ9)) (fun e σ => some (.inr e, σ))
                      else
                        if σ3.1 18 ((13 + v1).toNatClampNeg) = (-1) then
                          some (.inl (some (.int 0)), σ3)
                        else
                          if en_in (1 + (σ3.1 18 ((13 + v1).toNatClampNeg))) 58 then
                            en_cI (x_m_handsAt_0 σ3 0 (σ3.1 18 ((13 + v1).toNatClampNeg))) (fun r6 σ5 =>
                              en_cI (x_m_bits_0 σ5 r6) (fun r8 σ7 =>
                                if r8 = 0 then
                                  none
                                else
                                  some (.inl (some (.int ((σ3.1 18 ((1 + (σ3.1 18 ((13 + v1).toNatClampNeg))).toNatClampNeg)) / r8))), σ7)) (fun e σ => some (.inr e, σ))) (fun e σ => some (.inr e, σ))
                          else
                            none
            else
              none) (fun e σ => some (.inr e, σ))) (fun e σ => some (.inr e, σ)) := en_ex_un (G := bb_G) (P := bb_P) (ML := bb_ML) (HD := bb_HD) 70 0 74 0 [some (.ref 0), some (.int v1), some (.int v2), none] [] σ
set_option maxRecDepth 100000 in
set_option maxHeartbeats 1000000 in
theorem e_m_days_0 (σ : en_S) (v1 : Int32) : x_m_days_0 σ v1 =
    en_cI (x_m_within_0 (en_u1 σ.1 0 0 0, σ.2) v1 1 20) (fun r2 σ1 =>
      if r2 = 0 then
        en_cI (x_m_refuses_0 σ1 1) (fun r4 σ3 =>
          some (.inl (some (.int r4)), σ3)) (fun e σ => some (.inr e, σ))
      else
        if (σ1.1 18 0) + v1 ≤ 999 then
          en_cV (x_m_keeps_0 σ1) (fun σ5 =>
            x_m_days_41 σ5 v1 0) (fun e σ => some (.inr e, σ))
        else
          en_cI (x_m_refuses_0 σ1 1) (fun r7 σ6 =>
            some (.inl (some (.int r7)), σ6)) (fun e σ => some (.inr e, σ))) (fun e σ => some (.inr e, σ)) := en_ex_un (G := bb_G) (P := bb_P) (ML := bb_ML) (HD := bb_HD) 30 0 75 0 [some (.ref 0), some (.int v1), none] [] σ
set_option maxRecDepth 100000 in
set_option maxHeartbeats 1000000 in
theorem e_m_days_41 (σ : en_S) (v1 : Int32) (v2 : Int32) : x_m_days_41 σ v1 v2 =
    if v1 ≤ v2 then
      some (.inl (some (.int (σ.1 18 0))), σ)
    else
      en_cV (x_m_dayGoes_0 σ 0) (fun σ1 =>
        x_m_days_41 σ1 v1 (v2 + 1)) (fun e σ => some (.inr e, σ)) := en_ex_un (G := bb_G) (P := bb_P) (ML := bb_ML) (HD := bb_HD) 15 0 75 41 [some (.ref 0), some (.int v1), some (.int v2)] [] σ
set_option maxRecDepth 100000 in
set_option maxHeartbeats 1000000 in
theorem e_m_hand_0 (σ : en_S) (v1 : Int32) (v2 : Int32) : x_m_hand_0 σ v1 v2 =
    en_cI (x_m_isBearer_0 (en_u1 σ.1 0 0 0, σ.2) v1) (fun r2 σ1 =>
      if r2 = 0 then
        some (.inl (some (.int 0)), σ1)
      else
        en_cI (x_m_isBox_0 σ1 v2) (fun r4 σ3 =>
          if r4 = 0 then
            some (.inl (some (.int 0)), σ3)
          else
            if en_in (13 + v1) 58 then
              if σ3.1 18 ((13 + v1).toNatClampNeg) = v2 then
                en_cI (x_m_refuses_0 σ3 1) (fun r6 σ5 =>
                  some (.inl (some (.int (r6 - 1))), σ5)) (fun e σ => some (.inr e, σ))
              else
                en_cV (x_m_keeps_0 σ3) (fun σ7 =>
                  if en_in (13 + v1) 58 then
                    some (.inl (some (.int (σ3.1 18 ((13 + v1).toNatClampNeg)))), (en_u1 σ7.1 18 ((13 + v1).toNatClampNeg) v2, σ7.2))
                  else
                    none) (fun e σ => some (.inr e, σ))
            else
              none) (fun e σ => some (.inr e, σ))) (fun e σ => some (.inr e, σ)) := en_ex_un (G := bb_G) (P := bb_P) (ML := bb_ML) (HD := bb_HD) 44 0 76 0 [some (.ref 0), some (.int v1), some (.int v2), none] [] σ
set_option maxRecDepth 100000 in
set_option maxHeartbeats 1000000 in
theorem e_m_away_0 (σ : en_S) (v1 : Int32) : x_m_away_0 σ v1 =
    en_cI (x_m_isBearer_0 (en_u1 σ.1 0 0 0, σ.2) v1) (fun r2 σ1 =>
      if r2 = 0 then
        some (.inl (some (.int 0)), σ1)
      else
        if en_in (13 + v1) 58 then
          if σ1.1 18 ((13 + v1).toNatClampNeg) = (-1) then
            en_cI (x_m_refuses_0 σ1 1) (fun r4 σ3 =>
              some (.inl (some (.int r4)), σ3)) (fun e σ => some (.inr e, σ))
          else
            en_cV (x_m_keeps_0 σ1) (fun σ5 =>
              if en_in (13 + v1) 58 then
                some (.inl (some (.int (σ1.1 18 ((13 + v1).toNatClampNeg)))), (en_u1 σ5.1 18 ((13 + v1).toNatClampNeg) (-1), σ5.2))
              else
                none) (fun e σ => some (.inr e, σ))
        else
          none) (fun e σ => some (.inr e, σ)) := en_ex_un (G := bb_G) (P := bb_P) (ML := bb_ML) (HD := bb_HD) 36 0 77 0 [some (.ref 0), some (.int v1), none] [] σ
set_option maxRecDepth 100000 in
set_option maxHeartbeats 1000000 in
theorem e_m_change_0 (σ : en_S) (v1 : Int32) (v2 : Int32) : x_m_change_0 σ v1 v2 =
    en_cI (x_m_isBearer_0 (en_u1 σ.1 0 0 0, σ.2) v1) (fun r2 σ1 =>
      if r2 = 0 then
        some (.inl (some (.int 0)), σ1)
      else
        en_cI (x_m_isBearer_0 σ1 v2) (fun r4 σ3 =>
          if r4 = 0 then
            some (.inl (some (.int 0)), σ3)
          else
            if en_in (13 + v1) 58 then
              if en_in (13 + v2) 58 then
                if σ3.1 18 ((13 + v1).toNatClampNeg) = σ3.1 18 ((13 + v2).toNatClampNeg) then
                  en_cI (x_m_refuses_0 σ3 1) (fun r6 σ5 =>
                    if r6 ≤ 0 then
                      some (.inl (some (.int 0)), σ5)
                    else
                      some (.inl (some (.int 1)), σ5)) (fun e σ => some (.inr e, σ))
                else
                  en_cV (x_m_keeps_0 σ3) (fun σ7 =>
                    if en_in (13 + v1) 58 then
                      if en_in (13 + v2) 58 then
                        some (.inl (some (.int 1)), (en_u1 (en_u1 σ7.1 18 ((13 + v1).toNatClampNeg) (σ3.1 18 ((13 + v2).toNatClampNeg))) 18 ((13 + v2).toNatClampNeg) (σ3.1 18 ((13 + v1).toNatClampNeg)), σ7.2))
                      else
                        none
                    else
                      none) (fun e σ => some (.inr e, σ))
              else
                none
            else
              none) (fun e σ => some (.inr e, σ))) (fun e σ => some (.inr e, σ)) := en_ex_un (G := bb_G) (P := bb_P) (ML := bb_ML) (HD := bb_HD) 61 0 78 0 [some (.ref 0), some (.int v1), some (.int v2), none, none] [] σ
set_option maxRecDepth 100000 in
set_option maxHeartbeats 1000000 in
theorem e_m_slander_0 (σ : en_S) (v1 : Int32) (v2 : Int32) : x_m_slander_0 σ v1 v2 =
    en_cI (x_m_talked_0 σ v1 v2 (-1)) (fun r2 σ1 =>
      some (.inl (some (.int r2)), σ1)) (fun e σ => some (.inr e, σ)) := en_ex_un (G := bb_G) (P := bb_P) (ML := bb_ML) (HD := bb_HD) 8 0 80 0 [some (.ref 0), some (.int v1), some (.int v2)] [] σ
set_option maxRecDepth 100000 in
set_option maxHeartbeats 1000000 in
theorem e_m_praise_0 (σ : en_S) (v1 : Int32) (v2 : Int32) : x_m_praise_0 σ v1 v2 =
    en_cI (x_m_talked_0 σ v1 v2 1) (fun r2 σ1 =>
      some (.inl (some (.int r2)), σ1)) (fun e σ => some (.inr e, σ)) := en_ex_un (G := bb_G) (P := bb_P) (ML := bb_ML) (HD := bb_HD) 8 0 81 0 [some (.ref 0), some (.int v1), some (.int v2)] [] σ
set_option maxRecDepth 100000 in
set_option maxHeartbeats 1000000 in
theorem e_m_undo_0 (σ : en_S) : x_m_undo_0 σ =
    if σ.1 0 47 = 0 then
      some (.inl (some (.int (-1))), (en_u1 σ.1 0 0 0, σ.2))
    else
      x_m_undo_26 (en_u1 (en_u1 σ.1 0 0 0) 0 47 ((σ.1 0 47) - 1), σ.2) 0 := en_ex_un (G := bb_G) (P := bb_P) (ML := bb_ML) (HD := bb_HD) 18 0 45 0 [some (.ref 0), none] [] σ
set_option maxRecDepth 100000 in
set_option maxHeartbeats 1000000 in
theorem e_m_undo_26 (σ : en_S) (v1 : Int32) : x_m_undo_26 σ v1 =
    if (29 : Int32) ≤ v1 then
      some (.inl (some (.int (σ.1 0 47))), σ)
    else
      if en_in ((29 * (σ.1 0 47)) + v1) 1160 then
        if en_in v1 58 then
          x_m_undo_26 (en_u1 σ.1 18 v1.toNatClampNeg (σ.1 19 (((29 * (σ.1 0 47)) + v1).toNatClampNeg)), σ.2) (v1 + 1)
        else
          none
      else
        none := en_ex_un (G := bb_G) (P := bb_P) (ML := bb_ML) (HD := bb_HD) 23 0 45 26 [some (.ref 0), some (.int v1)] [] σ
set_option maxRecDepth 100000 in
set_option maxHeartbeats 1000000 in
theorem e_m_then_0 (σ : en_S) (v1 : Int32) (v2 : Int32) (v3 : Int32) : x_m_then_0 σ v1 v2 v3 =
    en_cI (x_m_isBox_0 (en_u1 σ.1 0 0 0, σ.2) v1) (fun r2 σ1 =>
      if r2 = 0 then
        some (.inl (some (.int 0)), σ1)
      else
        en_cI (x_m_isWhat_0 σ1 v3 3) (fun r4 σ3 =>
          if r4 = 0 then
            some (.inl (some (.int 0)), σ3)
          else
            en_cI (x_m_isDays_0 σ3 v2 0 2) (fun r6 σ5 =>
              if r6 = 0 then
                some (.inl (some (.int 0)), σ5)
              else
                en_cV (x_m_goesTo_0 σ5 v2) (fun σ7 =>
                  if v3 = 0 then
                    if en_in (30 + v1) 58 then
                      some (.inl (some (.int (σ7.1 18 ((30 + v1).toNatClampNeg)))), σ7)
                    else
                      none
                  else
                    if v3 = 1 then
                      en_cI (x_m_townOf_0 σ7 29 v1) (fun r9 σ8 =>
                        some (.inl (some (.int r9)), σ8)) (fun e σ => some (.inr e, σ))
                    else
                      if v3 = 2 then
                        en_cI (x_m_handsAt_0 σ7 29 v1) (fun r11 σ10 =>
                          some (.inl (some (.int r11)), σ10)) (fun e σ => some (.inr e, σ))
                      else
                        en_cI (x_m_isBorne_0 σ7 29 v1) (fun r13 σ12 =>
                          if r13 = 0 then
                            some (.inl (some (.int 0)), σ12)
                          else
                            some (.inl (some (.int 1)), σ12)) (fun e σ => some (.inr e, σ))) (fun e σ => some (.inr e, σ))) (fun e σ => some (.inr e, σ))) (fun e σ => some (.inr e, σ))) (fun e σ => some (.inr e, σ)) := en_ex_un (G := bb_G) (P := bb_P) (ML := bb_ML) (HD := bb_HD) 67 0 83 0 [some (.ref 0), some (.int v1), some (.int v2), some (.int v3)] [] σ
set_option maxRecDepth 100000 in
set_option maxHeartbeats 1000000 in
theorem e_m_who_0 (σ : en_S) (v1 : Int32) (v2 : Int32) (v3 : Int32) : x_m_who_0 σ v1 v2 v3 =
    en_cI (x_m_isBearer_0 (en_u1 σ.1 0 0 0, σ.2) v1) (fun r2 σ1 =>
      if r2 = 0 then
        some (.inl (some (.int 0)), σ1)
      else
        en_cI (x_m_isWhat_0 σ1 v3 1) (fun r4 σ3 =>
          if r4 = 0 then
            some (.inl (some (.int 0)), σ3)
          else
            en_cI (x_m_isDays_0 σ3 v2 0 2) (fun r6 σ5 =>
              if r6 = 0 then
                some (.inl (some (.int 0)), σ5)
              else
                en_cV (x_m_goesTo_0 σ5 v2) (fun σ7 =>
                  if v3 = 0 then
                    if en_in (50 + v1) 58 then
                      some (.inl (some (.int (σ7.1 18 ((50 + v1).toNatClampNeg)))), σ7)
                    else
                      none
                  else
                    if en_in (42 + v1) 58 then
                      some (.inl (some (.int (σ7.1 18 ((42 + v1).toNatClampNeg)))), σ7)
                    else
                      none) (fun e σ => some (.inr e, σ))) (fun e σ => some (.inr e, σ))) (fun e σ => some (.inr e, σ))) (fun e σ => some (.inr e, σ)) := en_ex_un (G := bb_G) (P := bb_P) (ML := bb_ML) (HD := bb_HD) 47 0 84 0 [some (.ref 0), some (.int v1), some (.int v2), some (.int v3)] [] σ
set_option maxRecDepth 100000 in
set_option maxHeartbeats 1000000 in
theorem e_m_fallen_0 (σ : en_S) (v1 : Int32) : x_m_fallen_0 σ v1 =
    en_cI (x_m_isBox_0 (en_u1 σ.1 0 0 0, σ.2) v1) (fun r2 σ1 =>
      if r2 = 0 then
        some (.inl (some (.int 0)), σ1)
      else
        en_cV (x_m_tries_0 σ1) (fun σ3 =>
          x_m_fallen_21 σ3 v1 1) (fun e σ => some (.inr e, σ))) (fun e σ => some (.inr e, σ)) := en_ex_un (G := bb_G) (P := bb_P) (ML := bb_ML) (HD := bb_HD) 15 0 85 0 [some (.ref 0), some (.int v1), none] [] σ
set_option maxRecDepth 100000 in
set_option maxHeartbeats 1000000 in
theorem e_m_fallen_21 (σ : en_S) (v1 : Int32) (v2 : Int32) : x_m_fallen_21 σ v1 v2 =
    if (40 : Int32) < v2 then
      some (.inl (some (.int (-1))), σ)
    else
      en_cV (x_m_dayGoes_0 σ 29) (fun σ1 =>
        if ((σ1.1 0 50) >>> (v1 &&& 31)) &&& 1 = 1 then
          some (.inl (some (.int v2)), σ1)
        else
          x_m_fallen_21 σ1 v1 (v2 + 1)) (fun e σ => some (.inr e, σ)) := en_ex_un (G := bb_G) (P := bb_P) (ML := bb_ML) (HD := bb_HD) 22 0 85 21 [some (.ref 0), some (.int v1), some (.int v2)] [] σ
set_option maxRecDepth 100000 in
set_option maxHeartbeats 1000000 in
theorem e_m_rests_0 (σ : en_S) (v1 : Int32) : x_m_rests_0 σ v1 =
    en_cI (x_m_isBox_0 (en_u1 σ.1 0 0 0, σ.2) v1) (fun r2 σ1 =>
      if r2 = 0 then
        some (.inl (some (.int 0)), σ1)
      else
        en_cI (x_m_borneIn_0 σ1 v1 0) (fun r4 σ3 =>
          some (.inl (some (.int r4)), σ3)) (fun e σ => some (.inr e, σ))) (fun e σ => some (.inr e, σ)) := en_ex_un (G := bb_G) (P := bb_P) (ML := bb_ML) (HD := bb_HD) 17 0 87 0 [some (.ref 0), some (.int v1)] [] σ
set_option maxRecDepth 100000 in
set_option maxHeartbeats 1000000 in
theorem e_m_meet_0 (σ : en_S) (v1 : Int32) (v2 : Int32) : x_m_meet_0 σ v1 v2 =
    en_cI (x_m_isBox_0 (en_u1 σ.1 0 0 0, σ.2) v1) (fun r2 σ1 =>
      if r2 = 0 then
        some (.inl (some (.int 0)), σ1)
      else
        en_cI (x_m_isBox_0 σ1 v2) (fun r4 σ3 =>
          if r4 = 0 then
            some (.inl (some (.int 0)), σ3)
          else
            en_cV (x_m_tries_0 σ3) (fun σ5 =>
              x_m_meet_29 σ5 v1 v2 0) (fun e σ => some (.inr e, σ))) (fun e σ => some (.inr e, σ))) (fun e σ => some (.inr e, σ)) := en_ex_un (G := bb_G) (P := bb_P) (ML := bb_ML) (HD := bb_HD) 21 0 89 0 [some (.ref 0), some (.int v1), some (.int v2), none] [] σ
set_option maxRecDepth 100000 in
set_option maxHeartbeats 1000000 in
theorem e_m_meet_29 (σ : en_S) (v1 : Int32) (v2 : Int32) (v3 : Int32) : x_m_meet_29 σ v1 v2 v3 =
    if (40 : Int32) < v3 then
      some (.inl (some (.int (-1))), σ)
    else
      if v1 = v2 then
        some (.inl (some (.int (-1))), σ)
      else
        en_cI (x_m_townOf_0 σ 29 v1) (fun r2 σ1 =>
          en_cI (x_m_townOf_0 σ1 29 v2) (fun r4 σ3 =>
            if r2 = r4 then
              some (.inl (some (.int v3)), σ3)
            else
              en_cV (x_m_dayGoes_0 σ3 29) (fun σ5 =>
                x_m_meet_29 σ5 v1 v2 (v3 + 1)) (fun e σ => some (.inr e, σ))) (fun e σ => some (.inr e, σ))) (fun e σ => some (.inr e, σ)) := en_ex_un (G := bb_G) (P := bb_P) (ML := bb_ML) (HD := bb_HD) 28 0 89 29 [some (.ref 0), some (.int v1), some (.int v2), some (.int v3)] [] σ
set_option maxRecDepth 100000 in
set_option maxHeartbeats 1000000 in
theorem e_m_later_0 (σ : en_S) (v1 : Int32) (v2 : Int32) : x_m_later_0 σ v1 v2 =
    en_cI (x_m_isWhat_0 (en_u1 σ.1 0 0 0, σ.2) v2 1) (fun r2 σ1 =>
      if r2 = 0 then
        some (.inl (some (.int 0)), σ1)
      else
        en_cI (x_m_isDays_0 σ1 v1 0 2) (fun r4 σ3 =>
          if r4 = 0 then
            some (.inl (some (.int 0)), σ3)
          else
            en_cV (x_m_tries_0 σ3) (fun σ5 =>
              x_m_later_35 σ5 v1 v2 0 0) (fun e σ => some (.inr e, σ))) (fun e σ => some (.inr e, σ))) (fun e σ => some (.inr e, σ)) := en_ex_un (G := bb_G) (P := bb_P) (ML := bb_ML) (HD := bb_HD) 26 0 90 0 [some (.ref 0), some (.int v1), some (.int v2), none, none, none] [] σ
set_option maxRecDepth 100000 in
set_option maxHeartbeats 1000000 in
theorem e_m_later_35 (σ : en_S) (v1 : Int32) (v2 : Int32) (v3 : Int32) (v4 : Int32) : x_m_later_35 σ v1 v2 v3 v4 =
    if v1 ≤ v4 then
      x_m_later_66 σ v2 v3 (-1) 0
    else
      en_cV (x_m_dayGoes_0 σ 29) (fun σ1 =>
        x_m_later_35 σ1 v1 v2 (v3 + (σ1.1 0 52)) (v4 + 1)) (fun e σ => some (.inr e, σ)) := en_ex_un (G := bb_G) (P := bb_P) (ML := bb_ML) (HD := bb_HD) 19 0 90 35 [some (.ref 0), some (.int v1), some (.int v2), some (.int v3), some (.int v4), none] [] σ
set_option maxRecDepth 100000 in
set_option maxHeartbeats 1000000 in
theorem e_m_later_66 (σ : en_S) (v2 : Int32) (v3 : Int32) (v4 : Int32) (v5 : Int32) : x_m_later_66 σ v2 v3 v4 v5 =
    if σ.1 0 3 ≤ v5 then
      if v2 = 0 then
        some (.inl (some (.int v4)), σ)
      else
        some (.inl (some (.int v3)), σ)
    else
      if v4 = (-1) then
        x_m_later_66 σ v2 v3 v5 (v5 + 1)
      else
        if en_in (30 + v5) 58 then
          if en_in (30 + v4) 58 then
            if σ.1 18 ((30 + v5).toNatClampNeg) ≤ σ.1 18 ((30 + v4).toNatClampNeg) then
              x_m_later_66 σ v2 v3 v4 (v5 + 1)
            else
              x_m_later_66 σ v2 v3 v5 (v5 + 1)
          else
            none
        else
          none := en_ex_un (G := bb_G) (P := bb_P) (ML := bb_ML) (HD := bb_HD) 39 0 90 66 [some (.ref 0), none, some (.int v2), some (.int v3), some (.int v4), some (.int v5)] [] σ
set_option maxRecDepth 100000 in
set_option maxHeartbeats 1000000 in
theorem e_m_calls_0 (σ : en_S) (v1 : Int32) (v2 : Int32) : x_m_calls_0 σ v1 v2 =
    en_cI (x_m_isTown_0 (en_u1 σ.1 0 0 0, σ.2) v1) (fun r2 σ1 =>
      if r2 = 0 then
        some (.inl (some (.int 0)), σ1)
      else
        en_cI (x_m_isDays_0 σ1 v2 0 2) (fun r4 σ3 =>
          if r4 = 0 then
            some (.inl (some (.int 0)), σ3)
          else
            en_cV (x_m_tries_0 σ3) (fun σ5 =>
              x_m_calls_34 σ5 v1 v2 0 0) (fun e σ => some (.inr e, σ))) (fun e σ => some (.inr e, σ))) (fun e σ => some (.inr e, σ)) := en_ex_un (G := bb_G) (P := bb_P) (ML := bb_ML) (HD := bb_HD) 25 0 91 0 [some (.ref 0), some (.int v1), some (.int v2), none, none, none] [] σ
set_option maxRecDepth 100000 in
set_option maxHeartbeats 1000000 in
theorem e_m_calls_34 (σ : en_S) (v1 : Int32) (v2 : Int32) (v3 : Int32) (v4 : Int32) : x_m_calls_34 σ v1 v2 v3 v4 =
    if v2 < v4 then
      some (.inl (some (.int v3)), σ)
    else
      x_m_calls_43 σ v1 v2 v3 v4 0 := en_ex_un (G := bb_G) (P := bb_P) (ML := bb_ML) (HD := bb_HD) 9 0 91 34 [some (.ref 0), some (.int v1), some (.int v2), some (.int v3), some (.int v4), none] [] σ
set_option maxRecDepth 100000 in
set_option maxHeartbeats 1000000 in
theorem e_m_calls_43 (σ : en_S) (v1 : Int32) (v2 : Int32) (v3 : Int32) (v4 : Int32) (v5 : Int32) : x_m_calls_43 σ v1 v2 v3 v4 v5 =
    if σ.1 0 3 ≤ v5 then
      en_cV (x_m_dayGoes_0 σ 29) (fun σ1 =>
        x_m_calls_34 σ1 v1 v2 v3 (v4 + 1)) (fun e σ => some (.inr e, σ))
    else
      en_cI (x_m_townOf_0 σ 29 v5) (fun r3 σ2 =>
        if r3 = v1 then
          x_m_calls_43 σ2 v1 v2 (v3 ||| ((1 : Int32) <<< (v5 &&& 31))) v4 (v5 + 1)
        else
          x_m_calls_43 σ2 v1 v2 (v3 ||| 0) v4 (v5 + 1)) (fun e σ => some (.inr e, σ)) := en_ex_un (G := bb_G) (P := bb_P) (ML := bb_ML) (HD := bb_HD) 31 0 91 43 [some (.ref 0), some (.int v1), some (.int v2), some (.int v3), some (.int v4), some (.int v5)] [] σ
set_option maxRecDepth 100000 in
set_option maxHeartbeats 1000000 in
theorem e_m_toBear_0 (σ : en_S) (v1 : Int32) : x_m_toBear_0 σ v1 =
    if v1 < (-1) then
      en_cI (x_m_right_0 (en_u1 σ.1 0 0 0, σ.2) 0 1) (fun r2 σ1 =>
        if r2 = 0 then
          some (.inl (some (.int 0)), σ1)
        else
          x_m_toBear_40 σ1 v1 ((σ1.1 0 3) - 1)) (fun e σ => some (.inr e, σ))
    else
      if σ.1 0 3 ≤ v1 then
        en_cI (x_m_right_0 (en_u1 σ.1 0 0 0, σ.2) 0 1) (fun r4 σ3 =>
          if r4 = 0 then
            some (.inl (some (.int 0)), σ3)
          else
            x_m_toBear_40 σ3 v1 ((σ3.1 0 3) - 1)) (fun e σ => some (.inr e, σ))
      else
        en_cI (x_m_right_0 (en_u1 σ.1 0 0 0, σ.2) 1 1) (fun r6 σ5 =>
          if r6 = 0 then
            some (.inl (some (.int 0)), σ5)
          else
            x_m_toBear_40 σ5 v1 ((σ5.1 0 3) - 1)) (fun e σ => some (.inr e, σ)) := en_ex_un (G := bb_G) (P := bb_P) (ML := bb_ML) (HD := bb_HD) 47 0 93 0 [some (.ref 0), some (.int v1), none, none, none, none, none] [] σ
set_option maxRecDepth 100000 in
set_option maxHeartbeats 1000000 in
theorem e_m_toBear_40 (σ : en_S) (v1 : Int32) (v2 : Int32) : x_m_toBear_40 σ v1 v2 =
    if v2 < 0 then
      en_cI (x_m_fewestOf_0 σ 0 0) (fun r2 σ1 =>
        if r2 < 99999 then
          if v1 = (-1) then
            en_cI (x_m_fewestOf_0 σ1 0 0) (fun r4 σ3 =>
              some (.inl (some (.int r4)), σ3)) (fun e σ => some (.inr e, σ))
          else
            x_m_toBear_190 σ1 v1 0 0 0
        else
          some (.inl (some (.int (-1))), σ1)) (fun e σ => some (.inr e, σ))
    else
      x_m_toBear_46 σ v1 v2 0 := en_ex_un (G := bb_G) (P := bb_P) (ML := bb_ML) (HD := bb_HD) 28 0 93 40 [some (.ref 0), some (.int v1), some (.int v2), none, none, none, none] [] σ
set_option maxRecDepth 100000 in
set_option maxHeartbeats 1000000 in
theorem e_m_toBear_46 (σ : en_S) (v1 : Int32) (v2 : Int32) (v3 : Int32) : x_m_toBear_46 σ v1 v2 v3 =
    if (1 : Int32) <<< ((σ.1 0 4) &&& 31) ≤ v3 then
      x_m_toBear_40 σ v1 (v2 + (-1))
    else
      x_m_toBear_79 σ v1 v2 v3 ((((1 : Int32) <<< ((σ.1 0 4) &&& 31)) - 1) &&& (v3 ^^^ (-1))) 99999 ((((1 : Int32) <<< ((σ.1 0 4) &&& 31)) - 1) &&& (v3 ^^^ (-1))) := en_ex_un (G := bb_G) (P := bb_P) (ML := bb_ML) (HD := bb_HD) 25 0 93 46 [some (.ref 0), some (.int v1), some (.int v2), some (.int v3), none, none, none] [] σ
set_option maxRecDepth 100000 in
set_option maxHeartbeats 1000000 in
theorem e_m_toBear_79 (σ : en_S) (v1 : Int32) (v2 : Int32) (v3 : Int32) (v4 : Int32) (v5 : Int32) (v6 : Int32) : x_m_toBear_79 σ v1 v2 v3 v4 v5 v6 =
    if v6 ≤ 0 then
      if en_in ((256 * v2) + v3) 1792 then
        x_m_toBear_46 (en_u1 σ.1 22 (((256 * v2) + v3).toNatClampNeg) v5, σ.2) v1 v2 (v3 + 1)
      else
        none
    else
      en_cI (x_m_canBear_0 σ 0 v2 v6) (fun r2 σ1 =>
        if r2 = 0 then
          x_m_toBear_79 σ1 v1 v2 v3 v4 v5 ((v6 - 1) &&& v4)
        else
          en_cI (x_m_bits_0 σ1 v6) (fun r4 σ3 =>
            en_cI (x_m_fewestOf_0 σ3 (v2 + 1) (v3 ||| v6)) (fun r6 σ5 =>
              en_cI (x_m_lesser_0 σ5 v5 (r4 + r6)) (fun r8 σ7 =>
                x_m_toBear_79 σ7 v1 v2 v3 v4 r8 ((v6 - 1) &&& v4)) (fun e σ => some (.inr e, σ))) (fun e σ => some (.inr e, σ))) (fun e σ => some (.inr e, σ))) (fun e σ => some (.inr e, σ)) := en_ex_un (G := bb_G) (P := bb_P) (ML := bb_ML) (HD := bb_HD) 49 0 93 79 [some (.ref 0), some (.int v1), some (.int v2), some (.int v3), some (.int v4), some (.int v5), some (.int v6)] [] σ
set_option maxRecDepth 100000 in
set_option maxHeartbeats 1000000 in
theorem e_m_toBear_190 (σ : en_S) (v1 : Int32) (v2 : Int32) (v3 : Int32) (v4 : Int32) : x_m_toBear_190 σ v1 v2 v3 v4 =
    if v1 < v4 then
      some (.inl (some (.int v3)), σ)
    else
      x_m_toBear_198 σ v1 v2 1 v4 := en_ex_un (G := bb_G) (P := bb_P) (ML := bb_ML) (HD := bb_HD) 9 0 93 190 [some (.ref 0), some (.int v1), some (.int v2), some (.int v3), some (.int v4), none, none] [] σ
set_option maxRecDepth 100000 in
set_option maxHeartbeats 1000000 in
theorem e_m_toBear_198 (σ : en_S) (v1 : Int32) (v2 : Int32) (v3 : Int32) (v4 : Int32) : x_m_toBear_198 σ v1 v2 v3 v4 =
    if v3 &&& v2 = 0 then
      en_cI (x_m_canBear_0 σ 0 v4 v3) (fun r2 σ1 =>
        if r2 = 0 then
          x_m_toBear_198 σ1 v1 v2 (v3 + 1) v4
        else
          en_cI (x_m_bits_0 σ1 v3) (fun r4 σ3 =>
            en_cI (x_m_fewestOf_0 σ3 (v4 + 1) (v2 ||| v3)) (fun r6 σ5 =>
              en_cI (x_m_fewestOf_0 σ5 v4 v2) (fun r8 σ7 =>
                if r4 + r6 = r8 then
                  x_m_toBear_190 σ7 v1 (v2 ||| v3) v3 (v4 + 1)
                else
                  x_m_toBear_198 σ7 v1 v2 (v3 + 1) v4) (fun e σ => some (.inr e, σ))) (fun e σ => some (.inr e, σ))) (fun e σ => some (.inr e, σ))) (fun e σ => some (.inr e, σ))
    else
      x_m_toBear_198 σ v1 v2 (v3 + 1) v4 := en_ex_un (G := bb_G) (P := bb_P) (ML := bb_ML) (HD := bb_HD) 40 0 93 198 [some (.ref 0), some (.int v1), some (.int v2), some (.int v3), some (.int v4), none, none] [] σ
set_option maxRecDepth 100000 in
set_option maxHeartbeats 1000000 in
theorem e_m_crew_0 (σ : en_S) (v1 : Int32) : x_m_crew_0 σ v1 =
    en_cI (x_m_isBox_0 (en_u1 σ.1 0 0 0, σ.2) v1) (fun r2 σ1 =>
      if r2 = 0 then
        some (.inl (some (.int 0)), σ1)
      else
        x_m_crew_19 σ1 v1 (-1) 1) (fun e σ => some (.inr e, σ)) := en_ex_un (G := bb_G) (P := bb_P) (ML := bb_ML) (HD := bb_HD) 15 0 94 0 [some (.ref 0), some (.int v1), none, none] [] σ
set_option maxRecDepth 100000 in
set_option maxHeartbeats 1000000 in
theorem e_m_crew_19 (σ : en_S) (v1 : Int32) (v2 : Int32) (v3 : Int32) : x_m_crew_19 σ v1 v2 v3 =
    if (1 : Int32) <<< ((σ.1 0 4) &&& 31) ≤ v3 then
      some (.inl (some (.int v2)), σ)
    else
      en_cI (x_m_canBear_0 σ 0 v1 v3) (fun r2 σ1 =>
        if r2 = 0 then
          x_m_crew_19 σ1 v1 v2 (v3 + 1)
        else
          if v2 = (-1) then
            x_m_crew_19 σ1 v1 v3 (v3 + 1)
          else
            en_cI (x_m_leanBy_0 σ1 v3) (fun r4 σ3 =>
              en_cI (x_m_leanBy_0 σ3 v2) (fun r6 σ5 =>
                if r4 < r6 then
                  x_m_crew_19 σ5 v1 v3 (v3 + 1)
                else
                  en_cI (x_m_leanBy_0 σ5 v3) (fun r8 σ7 =>
                    en_cI (x_m_leanBy_0 σ7 v2) (fun r10 σ9 =>
                      if r8 = r10 then
                        en_cI (x_m_bits_0 σ9 v3) (fun r12 σ11 =>
                          en_cI (x_m_bits_0 σ11 v2) (fun r14 σ13 =>
                            if r14 ≤ r12 then
                              x_m_crew_19 σ13 v1 v2 (v3 + 1)
                            else
                              x_m_crew_19 σ13 v1 v3 (v3 + 1)) (fun e σ => some (.inr e, σ))) (fun e σ => some (.inr e, σ))
                      else
                        x_m_crew_19 σ9 v1 v2 (v3 + 1)) (fun e σ => some (.inr e, σ))) (fun e σ => some (.inr e, σ))) (fun e σ => some (.inr e, σ))) (fun e σ => some (.inr e, σ))) (fun e σ => some (.inr e, σ)) := en_ex_un (G := bb_G) (P := bb_P) (ML := bb_ML) (HD := bb_HD) 57 0 94 19 [some (.ref 0), some (.int v1), some (.int v2), some (.int v3)] [] σ
set_option maxRecDepth 100000 in
set_option maxHeartbeats 1000000 in
theorem e_m_toSlander_0 (σ : en_S) (v1 : Int32) : x_m_toSlander_0 σ v1 =
    en_cI (x_m_isBox_0 (en_u1 σ.1 0 0 0, σ.2) v1) (fun r2 σ1 =>
      if r2 = 0 then
        some (.inl (some (.int 0)), σ1)
      else
        en_cI (x_m_handsAt_0 σ1 0 v1) (fun r4 σ3 =>
          en_cI (x_m_mightBy_0 σ3 0 r4) (fun r6 σ5 =>
            if (1 : Int32) ≤ r6 then
              if en_in (1 + v1) 58 then
                en_cI (x_m_greater_0 σ5 0 ((σ5.1 18 ((1 + v1).toNatClampNeg)) - r6)) (fun r8 σ7 =>
                  some (.inl (some (.int r8)), σ7)) (fun e σ => some (.inr e, σ))
              else
                none
            else
              some (.inl (some (.int (-1))), σ5)) (fun e σ => some (.inr e, σ))) (fun e σ => some (.inr e, σ))) (fun e σ => some (.inr e, σ)) := en_ex_un (G := bb_G) (P := bb_P) (ML := bb_ML) (HD := bb_HD) 36 0 95 0 [some (.ref 0), some (.int v1), none] [] σ
set_option maxRecDepth 100000 in
set_option maxHeartbeats 1000000 in
theorem e_m_toWait_0 (σ : en_S) (v1 : Int32) : x_m_toWait_0 σ v1 =
    en_cI (x_m_isBox_0 (en_u1 σ.1 0 0 0, σ.2) v1) (fun r2 σ1 =>
      if r2 = 0 then
        some (.inl (some (.int 0)), σ1)
      else
        en_cI (x_m_borneIn_0 σ1 v1 1) (fun r4 σ3 =>
          some (.inl (some (.int r4)), σ3)) (fun e σ => some (.inr e, σ))) (fun e σ => some (.inr e, σ)) := en_ex_un (G := bb_G) (P := bb_P) (ML := bb_ML) (HD := bb_HD) 17 0 88 0 [some (.ref 0), some (.int v1)] [] σ
set_option maxRecDepth 100000 in
set_option maxHeartbeats 1000000 in
theorem e_m_way_0 (σ : en_S) (v1 : Int32) (v2 : Int32) (v3 : Int32) : x_m_way_0 σ v1 v2 v3 =
    en_cI (x_m_isTown_0 (en_u1 σ.1 0 0 0, σ.2) v1) (fun r2 σ1 =>
      if r2 = 0 then
        some (.inl (some (.int 0)), σ1)
      else
        en_cI (x_m_isTown_0 σ1 v2) (fun r4 σ3 =>
          if r4 = 0 then
            some (.inl (some (.int 0)), σ3)
          else
            en_cI (x_m_isWhat_0 σ3 v3 2) (fun r6 σ5 =>
              if r6 = 0 then
                some (.inl (some (.int 0)), σ5)
              else
                en_cV (x_m_laysWays_0 σ5 v1 v3) (fun σ7 =>
                  if en_in v2 8 then
                    if σ7.1 23 v2.toNatClampNeg < 99999 then
                      if en_in v2 8 then
                        some (.inl (some (.int (σ7.1 23 v2.toNatClampNeg))), σ7)
                      else
                        none
                    else
                      some (.inl (some (.int (-1))), σ7)
                  else
                    none) (fun e σ => some (.inr e, σ))) (fun e σ => some (.inr e, σ))) (fun e σ => some (.inr e, σ))) (fun e σ => some (.inr e, σ)) := en_ex_un (G := bb_G) (P := bb_P) (ML := bb_ML) (HD := bb_HD) 42 0 98 0 [some (.ref 0), some (.int v1), some (.int v2), some (.int v3)] [] σ
set_option maxRecDepth 100000 in
set_option maxHeartbeats 1000000 in
theorem e_m_see_0 (σ : en_S) (v1 : Int32) (v2 : Int32) (v3 : Int32) : x_m_see_0 σ v1 v2 v3 =
    en_cI (x_m_isBox_0 (en_u1 σ.1 0 0 0, σ.2) v1) (fun r2 σ1 =>
      if r2 = 0 then
        some (.inl (some (.int 0)), σ1)
      else
        if σ1.1 0 55 = 8 then
          en_cI (x_m_refuses_0 σ1 2) (fun r4 σ3 =>
            some (.inl (some (.int r4)), σ3)) (fun e σ => some (.inr e, σ))
        else
          en_cI (x_m_within_0 σ1 v2 0 12) (fun r6 σ5 =>
            if r6 = 0 then
              en_cI (x_m_refuses_0 σ5 2) (fun r8 σ7 =>
                some (.inl (some (.int r8)), σ7)) (fun e σ => some (.inr e, σ))
            else
              en_cI (x_m_within_0 σ5 v3 1 99) (fun r10 σ9 =>
                if r10 = 0 then
                  en_cI (x_m_refuses_0 σ9 2) (fun r12 σ11 =>
                    some (.inl (some (.int r12)), σ11)) (fun e σ => some (.inr e, σ))
                else
                  if en_in (3 * (σ9.1 0 55)) 24 then
                    if en_in ((3 * (σ9.1 0 55)) + 1) 24 then
                      if en_in ((3 * (σ9.1 0 55)) + 2) 24 then
                        some (.inl (some (.int ((σ9.1 0 55) + 1))), (en_u1 (en_u1 (en_u1 (en_u1 σ9.1 24 ((3 * (σ9.1 0 55)).toNatClampNeg) v1) 24 (((3 * (σ9.1 0 55)) + 1).toNatClampNeg) v2) 24 (((3 * (σ9.1 0 55)) + 2).toNatClampNeg) v3) 0 55 ((σ9.1 0 55) + 1), σ9.2))
                      else
                        none
                    else
                      none
                  else
                    none) (fun e σ => some (.inr e, σ))) (fun e σ => some (.inr e, σ))) (fun e σ => some (.inr e, σ)) := en_ex_un (G := bb_G) (P := bb_P) (ML := bb_ML) (HD := bb_HD) 74 0 103 0 [some (.ref 0), some (.int v1), some (.int v2), some (.int v3)] [] σ
set_option maxRecDepth 100000 in
set_option maxHeartbeats 1000000 in
theorem e_m_forget_0 (σ : en_S) : x_m_forget_0 σ =
    some (.inl none, (en_u1 (en_u1 σ.1 0 0 0) 0 55 0, σ.2)) := en_ex_un (G := bb_G) (P := bb_P) (ML := bb_ML) (HD := bb_HD) 9 0 104 0 [some (.ref 0)] [] σ
set_option maxRecDepth 100000 in
set_option maxHeartbeats 1000000 in
theorem e_m_weighed_0 (σ : en_S) (v1 : Int32) : x_m_weighed_0 σ v1 =
    en_cI (x_m_isWhat_0 (en_u1 σ.1 0 0 0, σ.2) v1 2) (fun r2 σ1 =>
      if r2 = 0 then
        some (.inl (some (.int 0)), σ1)
      else
        if v1 = 2 then
          en_cV (x_m_tries_0 σ1) (fun σ3 =>
            en_cI (x_m_isSeen_0 σ3) (fun r5 σ4 =>
              if r5 = 0 then
                some (.inl (some (.int 0)), σ4)
              else
                some (.inl (some (.int 1)), σ4)) (fun e σ => some (.inr e, σ))) (fun e σ => some (.inr e, σ))
        else
          x_m_weighed_45 σ1 v1 0 (-1) 0) (fun e σ => some (.inr e, σ)) := en_ex_un (G := bb_G) (P := bb_P) (ML := bb_ML) (HD := bb_HD) 31 0 107 0 [some (.ref 0), some (.int v1), none, none, none] [] σ
set_option maxRecDepth 100000 in
set_option maxHeartbeats 1000000 in
theorem e_m_weighed_45 (σ : en_S) (v1 : Int32) (v2 : Int32) (v3 : Int32) (v4 : Int32) : x_m_weighed_45 σ v1 v2 v3 v4 =
    if 99 * (σ.1 0 3) ≤ v4 then
      if v1 = 0 then
        some (.inl (some (.int v2)), σ)
      else
        some (.inl (some (.int v3)), σ)
    else
      en_cI (x_m_isGuess_0 σ v4) (fun r2 σ1 =>
        if r2 = 0 then
          x_m_weighed_45 σ1 v1 v2 v3 (v4 + 1)
        else
          if v3 = (-1) then
            x_m_weighed_45 σ1 v1 (v2 + 1) ((((v4 / (99 : Int32)) * 100) + (v4 - v4 / (99 : Int32) * (99 : Int32))) + 1) (v4 + 1)
          else
            x_m_weighed_45 σ1 v1 (v2 + 1) v3 (v4 + 1)) (fun e σ => some (.inr e, σ)) := en_ex_un (G := bb_G) (P := bb_P) (ML := bb_ML) (HD := bb_HD) 42 0 107 45 [some (.ref 0), some (.int v1), some (.int v2), some (.int v3), some (.int v4)] [] σ
set_option maxRecDepth 100000 in
set_option maxHeartbeats 1000000 in
theorem e_m_look_0 (σ : en_S) (v1 : Int32) : x_m_look_0 σ v1 =
    en_cI (x_m_isWhat_0 (en_u1 σ.1 0 0 0, σ.2) v1 1) (fun r2 σ1 =>
      if r2 = 0 then
        some (.inl (some (.int 0)), σ1)
      else
        x_m_look_20 σ1 v1 0 0) (fun e σ => some (.inr e, σ)) := en_ex_un (G := bb_G) (P := bb_P) (ML := bb_ML) (HD := bb_HD) 16 0 108 0 [some (.ref 0), some (.int v1), none, none, none, none, none, none, none, none] [] σ
set_option maxRecDepth 100000 in
set_option maxHeartbeats 1000000 in
theorem e_m_look_20 (σ : en_S) (v1 : Int32) (v2 : Int32) (v3 : Int32) : x_m_look_20 σ v1 v2 v3 =
    if 99 * (σ.1 0 3) ≤ v3 then
      x_m_look_96 σ v1 v2 (-1) 0 0
    else
      en_cI (x_m_isGuess_0 σ v3) (fun r2 σ1 =>
        if r2 = 0 then
          x_m_look_20 σ1 v1 v2 (v3 + 1)
        else
          x_m_look_45 σ1 v1 v2 v3 0) (fun e σ => some (.inr e, σ)) := en_ex_un (G := bb_G) (P := bb_P) (ML := bb_ML) (HD := bb_HD) 23 0 108 20 [some (.ref 0), some (.int v1), some (.int v2), some (.int v3), none, none, none, none, none, none] [] σ
set_option maxRecDepth 100000 in
set_option maxHeartbeats 1000000 in
theorem e_m_look_45 (σ : en_S) (v1 : Int32) (v2 : Int32) (v3 : Int32) (v4 : Int32) : x_m_look_45 σ v1 v2 v3 v4 =
    if σ.1 0 3 ≤ v4 then
      x_m_look_20 σ v1 (v2 + 1) (v3 + 1)
    else
      if en_in v4 6 then
        if en_in ((6 * v2) + v4) 3564 then
          x_m_look_45 (en_u1 σ.1 26 (((6 * v2) + v4).toNatClampNeg) (σ.1 25 v4.toNatClampNeg), σ.2) v1 v2 v3 (v4 + 1)
        else
          none
      else
        none := en_ex_un (G := bb_G) (P := bb_P) (ML := bb_ML) (HD := bb_HD) 23 0 108 45 [some (.ref 0), some (.int v1), some (.int v2), some (.int v3), some (.int v4), none, none, none, none, none] [] σ
set_option maxRecDepth 100000 in
set_option maxHeartbeats 1000000 in
theorem e_m_look_96 (σ : en_S) (v1 : Int32) (v2 : Int32) (v3 : Int32) (v4 : Int32) (v5 : Int32) : x_m_look_96 σ v1 v2 v3 v4 v5 =
    if σ.1 0 3 ≤ v5 then
      if v1 = 0 then
        some (.inl (some (.int v3)), σ)
      else
        some (.inl (some (.int v4)), σ)
    else
      x_m_look_111 σ v1 v2 v3 v4 v5 0 0 := en_ex_un (G := bb_G) (P := bb_P) (ML := bb_ML) (HD := bb_HD) 17 0 108 96 [some (.ref 0), some (.int v1), some (.int v2), some (.int v3), some (.int v4), some (.int v5), none, none, none, none] [] σ
set_option maxRecDepth 100000 in
set_option maxHeartbeats 1000000 in
theorem e_m_look_111 (σ : en_S) (v1 : Int32) (v2 : Int32) (v3 : Int32) (v4 : Int32) (v5 : Int32) (v6 : Int32) (v7 : Int32) : x_m_look_111 σ v1 v2 v3 v4 v5 v6 v7 =
    if v2 ≤ v7 then
      if v4 < v6 then
        x_m_look_96 σ v1 v2 v5 v6 (v5 + 1)
      else
        x_m_look_96 σ v1 v2 v3 v4 (v5 + 1)
    else
      x_m_look_123 σ v1 v2 v3 v4 v5 v6 v7 1 0 := en_ex_un (G := bb_G) (P := bb_P) (ML := bb_ML) (HD := bb_HD) 21 0 108 111 [some (.ref 0), some (.int v1), some (.int v2), some (.int v3), some (.int v4), some (.int v5), some (.int v6), some (.int v7), none, none] [] σ
set_option maxRecDepth 100000 in
set_option maxHeartbeats 1000000 in
theorem e_m_look_123 (σ : en_S) (v1 : Int32) (v2 : Int32) (v3 : Int32) (v4 : Int32) (v5 : Int32) (v6 : Int32) (v7 : Int32) (v8 : Int32) (v9 : Int32) : x_m_look_123 σ v1 v2 v3 v4 v5 v6 v7 v8 v9 =
    if v7 ≤ v9 then
      if v8 = 0 then
        x_m_look_111 σ v1 v2 v3 v4 v5 (v6 + 0) (v7 + 1)
      else
        x_m_look_111 σ v1 v2 v3 v4 v5 (v6 + 1) (v7 + 1)
    else
      if v8 = 0 then
        if v8 = 0 then
          x_m_look_111 σ v1 v2 v3 v4 v5 (v6 + 0) (v7 + 1)
        else
          x_m_look_111 σ v1 v2 v3 v4 v5 (v6 + 1) (v7 + 1)
      else
        if en_in ((6 * v7) + v5) 3564 then
          if en_in ((6 * v9) + v5) 3564 then
            if σ.1 26 (((6 * v7) + v5).toNatClampNeg) = σ.1 26 (((6 * v9) + v5).toNatClampNeg) then
              x_m_look_123 σ v1 v2 v3 v4 v5 v6 v7 0 (v9 + 1)
            else
              x_m_look_123 σ v1 v2 v3 v4 v5 v6 v7 1 (v9 + 1)
          else
            none
        else
          none := en_ex_un (G := bb_G) (P := bb_P) (ML := bb_ML) (HD := bb_HD) 61 0 108 123 [some (.ref 0), some (.int v1), some (.int v2), some (.int v3), some (.int v4), some (.int v5), some (.int v6), some (.int v7), some (.int v8), some (.int v9)] [] σ
set_option maxRecDepth 100000 in
set_option maxHeartbeats 1000000 in
theorem e_m_rain_0 (σ : en_S) (v1 : Int32) (v2 : Int32) (v3 : Int32) : x_m_rain_0 σ v1 v2 v3 =
    en_cI (x_m_isBox_0 (en_u1 σ.1 0 0 0, σ.2) v1) (fun r2 σ1 =>
      if r2 = 0 then
        some (.inl (some (.int 0)), σ1)
      else
        en_cI (x_m_within_0 σ1 v2 1 5) (fun r4 σ3 =>
          if r4 = 0 then
            en_cI (x_m_right_0 σ3 0 2) (fun r6 σ5 =>
              if r6 = 0 then
                some (.inl (some (.int 0)), σ5)
              else
                x_m_rain_53 σ5 v1 v2 v3 0 0) (fun e σ => some (.inr e, σ))
          else
            en_cI (x_m_within_0 σ3 v3 0 10) (fun r8 σ7 =>
              if r8 = 0 then
                en_cI (x_m_right_0 σ7 0 2) (fun r10 σ9 =>
                  if r10 = 0 then
                    some (.inl (some (.int 0)), σ9)
                  else
                    x_m_rain_53 σ9 v1 v2 v3 0 0) (fun e σ => some (.inr e, σ))
              else
                en_cI (x_m_right_0 σ7 1 2) (fun r12 σ11 =>
                  if r12 = 0 then
                    some (.inl (some (.int 0)), σ11)
                  else
                    x_m_rain_53 σ11 v1 v2 v3 0 0) (fun e σ => some (.inr e, σ))) (fun e σ => some (.inr e, σ))) (fun e σ => some (.inr e, σ))) (fun e σ => some (.inr e, σ)) := en_ex_un (G := bb_G) (P := bb_P) (ML := bb_ML) (HD := bb_HD) 53 0 109 0 [some (.ref 0), some (.int v1), some (.int v2), some (.int v3), none, none, none, none, none] [] σ
set_option maxRecDepth 100000 in
set_option maxHeartbeats 1000000 in
theorem e_m_rain_53 (σ : en_S) (v1 : Int32) (v2 : Int32) (v3 : Int32) (v4 : Int32) (v5 : Int32) : x_m_rain_53 σ v1 v2 v3 v4 v5 =
    if (1 : Int32) <<< (v2 &&& 31) ≤ v5 then
      some (.inl (some (.int v4)), σ)
    else
      en_cV (x_m_tries_0 σ) (fun σ1 =>
        x_m_rain_71 σ1 v1 v2 v3 v4 v5 1 0) (fun e σ => some (.inr e, σ)) := en_ex_un (G := bb_G) (P := bb_P) (ML := bb_ML) (HD := bb_HD) 15 0 109 53 [some (.ref 0), some (.int v1), some (.int v2), some (.int v3), some (.int v4), some (.int v5), none, none, none] [] σ
set_option maxRecDepth 100000 in
set_option maxHeartbeats 1000000 in
theorem e_m_rain_71 (σ : en_S) (v1 : Int32) (v2 : Int32) (v3 : Int32) (v4 : Int32) (v5 : Int32) (v6 : Int32) (v7 : Int32) : x_m_rain_71 σ v1 v2 v3 v4 v5 v6 v7 =
    if v2 ≤ v7 then
      en_cI (x_m_isBorne_0 σ 29 v1) (fun r2 σ1 =>
        if r2 = 0 then
          x_m_rain_53 σ1 v1 v2 v3 (v4 + 0) (v5 + 1)
        else
          x_m_rain_53 σ1 v1 v2 v3 (v4 + v6) (v5 + 1)) (fun e σ => some (.inr e, σ))
    else
      if (v5 >>> (v7 &&& 31)) &&& 1 = 1 then
        x_m_rain_93 σ v1 v2 v3 v4 v5 v6 v7 1
      else
        x_m_rain_93 σ v1 v2 v3 v4 v5 v6 v7 0 := en_ex_un (G := bb_G) (P := bb_P) (ML := bb_ML) (HD := bb_HD) 32 0 109 71 [some (.ref 0), some (.int v1), some (.int v2), some (.int v3), some (.int v4), some (.int v5), some (.int v6), some (.int v7), none] [] σ
set_option maxRecDepth 100000 in
set_option maxHeartbeats 1000000 in
theorem e_m_rain_93 (σ : en_S) (v1 : Int32) (v2 : Int32) (v3 : Int32) (v4 : Int32) (v5 : Int32) (v6 : Int32) (v7 : Int32) (t0 : Int32) : x_m_rain_93 σ v1 v2 v3 v4 v5 v6 v7 t0 =
    if t0 = 0 then
      if t0 = 0 then
        en_cV (x_m_dayGoes_0 σ 29) (fun σ1 =>
          x_m_rain_71 σ1 v1 v2 v3 v4 v5 (v6 * (10 - v3)) (v7 + 1)) (fun e σ => some (.inr e, σ))
      else
        en_cI (x_m_handsAt_0 σ 29 (-1)) (fun r3 σ2 =>
          en_cV (x_m_tires_0 σ2 29 ((((1 : Int32) <<< ((σ.1 0 4) &&& 31)) - 1) &&& (r3 ^^^ (-1)))) (fun σ4 =>
            en_cV (x_m_dayGoes_0 σ4 29) (fun σ5 =>
              x_m_rain_71 σ5 v1 v2 v3 v4 v5 (v6 * (10 - v3)) (v7 + 1)) (fun e σ => some (.inr e, σ))) (fun e σ => some (.inr e, σ))) (fun e σ => some (.inr e, σ))
    else
      if t0 = 0 then
        en_cV (x_m_dayGoes_0 σ 29) (fun σ6 =>
          x_m_rain_71 σ6 v1 v2 v3 v4 v5 (v6 * v3) (v7 + 1)) (fun e σ => some (.inr e, σ))
      else
        en_cI (x_m_handsAt_0 σ 29 (-1)) (fun r8 σ7 =>
          en_cV (x_m_tires_0 σ7 29 ((((1 : Int32) <<< ((σ.1 0 4) &&& 31)) - 1) &&& (r8 ^^^ (-1)))) (fun σ9 =>
            en_cV (x_m_dayGoes_0 σ9 29) (fun σ10 =>
              x_m_rain_71 σ10 v1 v2 v3 v4 v5 (v6 * v3) (v7 + 1)) (fun e σ => some (.inr e, σ))) (fun e σ => some (.inr e, σ))) (fun e σ => some (.inr e, σ)) := en_ex_un (G := bb_G) (P := bb_P) (ML := bb_ML) (HD := bb_HD) 71 0 109 93 [some (.ref 0), some (.int v1), some (.int v2), some (.int v3), some (.int v4), some (.int v5), some (.int v6), some (.int v7), none] [.int t0] σ
set_option maxRecDepth 100000 in
set_option maxHeartbeats 1000000 in
theorem e_m_game_0 (σ : en_S) (v1 : Int32) (v2 : Int32) (v3 : Int32) : x_m_game_0 σ v1 v2 v3 =
    en_cI (x_m_isBearer_0 (en_u1 σ.1 0 0 0, σ.2) v1) (fun r2 σ1 =>
      if r2 = 0 then
        some (.inl (some (.int 0)), σ1)
      else
        en_cI (x_m_isBearer_0 σ1 v2) (fun r4 σ3 =>
          if r4 = 0 then
            some (.inl (some (.int 0)), σ3)
          else
            en_cI (x_m_isWhat_0 σ3 v3 1) (fun r6 σ5 =>
              if r6 = 0 then
                some (.inl (some (.int 0)), σ5)
              else
                if v1 = v2 then
                  x_m_game_41 σ5 v1 v2 v3 0
                else
                  x_m_game_41 σ5 v1 v2 v3 1) (fun e σ => some (.inr e, σ))) (fun e σ => some (.inr e, σ))) (fun e σ => some (.inr e, σ)) := en_ex_un (G := bb_G) (P := bb_P) (ML := bb_ML) (HD := bb_HD) 31 0 111 0 [some (.ref 0), some (.int v1), some (.int v2), some (.int v3), none, none, none, none, none] [] σ
set_option maxRecDepth 100000 in
set_option maxHeartbeats 1000000 in
theorem e_m_game_41 (σ : en_S) (v1 : Int32) (v2 : Int32) (v3 : Int32) (t0 : Int32) : x_m_game_41 σ v1 v2 v3 t0 =
    en_cI (x_m_right_0 σ t0 2) (fun r2 σ1 =>
      if r2 = 0 then
        some (.inl (some (.int 0)), σ1)
      else
        if en_in (13 + v1) 58 then
          if σ1.1 18 ((13 + v1).toNatClampNeg) = (-1) then
            some (.inl (some (.int (-1))), σ1)
          else
            if en_in (13 + v1) 58 then
              if en_in (13 + v2) 58 then
                if σ1.1 18 ((13 + v1).toNatClampNeg) = σ1.1 18 ((13 + v2).toNatClampNeg) then
                  x_m_game_95 σ1 v1 v2 v3 0 (-1) 0
                else
                  some (.inl (some (.int (-1))), σ1)
              else
                none
            else
              none
        else
          none) (fun e σ => some (.inr e, σ)) := en_ex_un (G := bb_G) (P := bb_P) (ML := bb_ML) (HD := bb_HD) 38 0 111 41 [some (.ref 0), some (.int v1), some (.int v2), some (.int v3), none, none, none, none, none] [.int t0, .ref 0] σ
set_option maxRecDepth 100000 in
set_option maxHeartbeats 1000000 in
theorem e_m_game_95 (σ : en_S) (v1 : Int32) (v2 : Int32) (v3 : Int32) (v4 : Int32) (v5 : Int32) (v6 : Int32) : x_m_game_95 σ v1 v2 v3 v4 v5 v6 =
    if (4 : Int32) ≤ v6 then
      if v3 = 0 then
        some (.inl (some (.int v4)), σ)
      else
        some (.inl (some (.int v5)), σ)
    else
      en_cI (x_m_gains_0 σ v1 v2 (1 - (v6 / (2 : Int32))) (v6 - v6 / (2 : Int32) * (2 : Int32))) (fun r2 σ1 =>
        en_cI (x_m_gains_0 σ1 v1 v2 (v6 / (2 : Int32)) (v6 - v6 / (2 : Int32) * (2 : Int32))) (fun r4 σ3 =>
          if r4 < r2 then
            x_m_game_95 σ3 v1 v2 v3 v4 v5 (v6 + 1)
          else
            en_cI (x_m_gains_0 σ3 v2 v1 (1 - (v6 - v6 / (2 : Int32) * (2 : Int32))) (v6 / (2 : Int32))) (fun r6 σ5 =>
              en_cI (x_m_gains_0 σ5 v2 v1 (v6 - v6 / (2 : Int32) * (2 : Int32)) (v6 / (2 : Int32))) (fun r8 σ7 =>
                if r6 ≤ r8 then
                  if v5 = (-1) then
                    x_m_game_95 σ7 v1 v2 v3 (v4 + 1) ((10 * (v6 / (2 : Int32))) + (v6 - v6 / (2 : Int32) * (2 : Int32))) (v6 + 1)
                  else
                    x_m_game_95 σ7 v1 v2 v3 (v4 + 1) v5 (v6 + 1)
                else
                  x_m_game_95 σ7 v1 v2 v3 v4 v5 (v6 + 1)) (fun e σ => some (.inr e, σ))) (fun e σ => some (.inr e, σ))) (fun e σ => some (.inr e, σ))) (fun e σ => some (.inr e, σ)) := en_ex_un (G := bb_G) (P := bb_P) (ML := bb_ML) (HD := bb_HD) 69 0 111 95 [some (.ref 0), some (.int v1), some (.int v2), some (.int v3), some (.int v4), some (.int v5), some (.int v6), none, none] [] σ
set_option maxRecDepth 100000 in
set_option maxHeartbeats 1000000 in
theorem e_m_years_0 (σ : en_S) (v1 : Int32) (v2 : Int32) (v3 : Int32) : x_m_years_0 σ v1 v2 v3 =
    en_cI (x_m_isWhat_0 (en_u1 σ.1 0 0 0, σ.2) v3 2) (fun r2 σ1 =>
      if r2 = 0 then
        some (.inl (some (.int 0)), σ1)
      else
        en_cI (x_m_isDays_0 σ1 v2 0 2) (fun r4 σ3 =>
          if r4 = 0 then
            some (.inl (some (.int 0)), σ3)
          else
            en_cV (x_m_tries_0 σ3) (fun σ5 =>
              x_m_years_41 (en_u1 σ5.1 0 59 v1, σ5.2) v2 v3 0 0) (fun e σ => some (.inr e, σ))) (fun e σ => some (.inr e, σ))) (fun e σ => some (.inr e, σ)) := en_ex_un (G := bb_G) (P := bb_P) (ML := bb_ML) (HD := bb_HD) 29 0 114 0 [some (.ref 0), some (.int v1), some (.int v2), some (.int v3), none, none] [] σ
set_option maxRecDepth 100000 in
set_option maxHeartbeats 1000000 in
theorem e_m_years_41 (σ : en_S) (v2 : Int32) (v3 : Int32) (v4 : Int32) (v5 : Int32) : x_m_years_41 σ v2 v3 v4 v5 =
    if v2 ≤ v5 then
      if v3 = 0 then
        some (.inl (some (.int v4)), σ)
      else
        if v3 = 1 then
          en_cI (x_m_allWeight_0 σ 29) (fun r2 σ1 =>
            some (.inl (some (.int r2)), σ1)) (fun e σ => some (.inr e, σ))
        else
          en_cI (x_m_borneOnes_0 σ 29) (fun r4 σ3 =>
            en_cI (x_m_bits_0 σ3 r4) (fun r6 σ5 =>
              some (.inl (some (.int r6)), σ5)) (fun e σ => some (.inr e, σ))) (fun e σ => some (.inr e, σ))
    else
      en_cV (x_m_happens_0 σ) (fun σ7 =>
        en_cV (x_m_dayGoes_0 σ7 29) (fun σ8 =>
          en_cI (x_m_bits_0 σ8 (σ8.1 0 50)) (fun r10 σ9 =>
            x_m_years_41 σ9 v2 v3 (v4 + r10) (v5 + 1)) (fun e σ => some (.inr e, σ))) (fun e σ => some (.inr e, σ))) (fun e σ => some (.inr e, σ)) := en_ex_un (G := bb_G) (P := bb_P) (ML := bb_ML) (HD := bb_HD) 36 0 114 41 [some (.ref 0), none, some (.int v2), some (.int v3), some (.int v4), some (.int v5)] [] σ
set_option maxRecDepth 100000 in
set_option maxHeartbeats 1000000 in
theorem e_m_idle_0 (σ : en_S) (v1 : Int32) : x_m_idle_0 σ v1 =
    en_cI (x_m_isWhat_0 (en_u1 σ.1 0 0 0, σ.2) v1 1) (fun r2 σ1 =>
      if r2 = 0 then
        some (.inl (some (.int 0)), σ1)
      else
        x_m_idle_20 σ1 v1 (-1) 0) (fun e σ => some (.inr e, σ)) := en_ex_un (G := bb_G) (P := bb_P) (ML := bb_ML) (HD := bb_HD) 16 0 115 0 [some (.ref 0), some (.int v1), none, none] [] σ
set_option maxRecDepth 100000 in
set_option maxHeartbeats 1000000 in
theorem e_m_idle_20 (σ : en_S) (v1 : Int32) (v2 : Int32) (v3 : Int32) : x_m_idle_20 σ v1 v2 v3 =
    if σ.1 0 4 ≤ v3 then
      some (.inl (some (.int v2)), σ)
    else
      if en_in (13 + v3) 58 then
        if σ.1 18 ((13 + v3).toNatClampNeg) = (-1) then
          if v2 = (-1) then
            x_m_idle_20 σ v1 v3 (v3 + 1)
          else
            if v1 = 0 then
              en_cI (x_m_mightOf_0 σ 0 v3) (fun r2 σ1 =>
                en_cI (x_m_mightOf_0 σ1 0 v2) (fun r4 σ3 =>
                  if r2 ≤ r4 then
                    x_m_idle_20 σ3 v1 v2 (v3 + 1)
                  else
                    x_m_idle_20 σ3 v1 v3 (v3 + 1)) (fun e σ => some (.inr e, σ))) (fun e σ => some (.inr e, σ))
            else
              if en_in v3 8 then
                if en_in v2 8 then
                  if σ.1 5 v3.toNatClampNeg ≤ σ.1 5 v2.toNatClampNeg then
                    x_m_idle_20 σ v1 v2 (v3 + 1)
                  else
                    x_m_idle_20 σ v1 v3 (v3 + 1)
                else
                  none
              else
                none
        else
          x_m_idle_20 σ v1 v2 (v3 + 1)
      else
        none := en_ex_un (G := bb_G) (P := bb_P) (ML := bb_ML) (HD := bb_HD) 59 0 115 20 [some (.ref 0), some (.int v1), some (.int v2), some (.int v3)] [] σ
set_option maxRecDepth 100000 in
set_option maxHeartbeats 1000000 in
theorem e_m_nearest_0 (σ : en_S) (v1 : Int32) : x_m_nearest_0 σ v1 =
    en_cI (x_m_isTown_0 (en_u1 σ.1 0 0 0, σ.2) v1) (fun r2 σ1 =>
      if r2 = 0 then
        some (.inl (some (.int 0)), σ1)
      else
        en_cV (x_m_laysWays_0 σ1 v1 0) (fun σ3 =>
          x_m_nearest_30 σ3 (-1) 99999 0) (fun e σ => some (.inr e, σ))) (fun e σ => some (.inr e, σ)) := en_ex_un (G := bb_G) (P := bb_P) (ML := bb_ML) (HD := bb_HD) 21 0 99 0 [some (.ref 0), some (.int v1), none, none, none] [] σ
set_option maxRecDepth 100000 in
set_option maxHeartbeats 1000000 in
theorem e_m_nearest_30 (σ : en_S) (v2 : Int32) (v3 : Int32) (v4 : Int32) : x_m_nearest_30 σ v2 v3 v4 =
    if σ.1 0 3 ≤ v4 then
      some (.inl (some (.int v2)), σ)
    else
      en_cI (x_m_townOf_0 σ 0 v4) (fun r2 σ1 =>
        if en_in r2 8 then
          if σ1.1 23 r2.toNatClampNeg < v3 then
            en_cI (x_m_townOf_0 σ1 0 v4) (fun r4 σ3 =>
              if en_in r4 8 then
                x_m_nearest_30 σ3 v4 (σ3.1 23 r4.toNatClampNeg) (v4 + 1)
              else
                none) (fun e σ => some (.inr e, σ))
          else
            x_m_nearest_30 σ1 v2 v3 (v4 + 1)
        else
          none) (fun e σ => some (.inr e, σ)) := en_ex_un (G := bb_G) (P := bb_P) (ML := bb_ML) (HD := bb_HD) 32 0 99 30 [some (.ref 0), none, some (.int v2), some (.int v3), some (.int v4)] [] σ
set_option maxRecDepth 100000 in
set_option maxHeartbeats 1000000 in
theorem e_m_ahead_0 (σ : en_S) (v1 : Int32) (v2 : Int32) : x_m_ahead_0 σ v1 v2 =
    en_cI (x_m_isBox_0 (en_u1 σ.1 0 0 0, σ.2) v1) (fun r2 σ1 =>
      if r2 = 0 then
        some (.inl (some (.int 0)), σ1)
      else
        en_cI (x_m_isTown_0 σ1 v2) (fun r4 σ3 =>
          if r4 = 0 then
            some (.inl (some (.int 0)), σ3)
          else
            x_m_ahead_25 σ3 v1 v2 0) (fun e σ => some (.inr e, σ))) (fun e σ => some (.inr e, σ)) := en_ex_un (G := bb_G) (P := bb_P) (ML := bb_ML) (HD := bb_HD) 19 0 101 0 [some (.ref 0), some (.int v1), some (.int v2), none] [] σ
set_option maxRecDepth 100000 in
set_option maxHeartbeats 1000000 in
theorem e_m_ahead_25 (σ : en_S) (v1 : Int32) (v2 : Int32) (v3 : Int32) : x_m_ahead_25 σ v1 v2 v3 =
    if en_in v1 6 then
      if σ.1 3 v1.toNatClampNeg ≤ v3 then
        some (.inl (some (.int (-1))), σ)
      else
        if en_in (7 + v1) 58 then
          if en_in v1 6 then
            if (σ.1 3 v1.toNatClampNeg) = 0 then
              none
            else
              if en_in ((6 * v1) + (((σ.1 18 ((7 + v1).toNatClampNeg)) + v3) - ((σ.1 18 ((7 + v1).toNatClampNeg)) + v3) / (σ.1 3 v1.toNatClampNeg) * (σ.1 3 v1.toNatClampNeg))) 36 then
                if σ.1 2 (((6 * v1) + (((σ.1 18 ((7 + v1).toNatClampNeg)) + v3) - ((σ.1 18 ((7 + v1).toNatClampNeg)) + v3) / (σ.1 3 v1.toNatClampNeg) * (σ.1 3 v1.toNatClampNeg))).toNatClampNeg) = v2 then
                  some (.inl (some (.int v3)), σ)
                else
                  x_m_ahead_25 σ v1 v2 (v3 + 1)
              else
                none
          else
            none
        else
          none
    else
      none := en_ex_un (G := bb_G) (P := bb_P) (ML := bb_ML) (HD := bb_HD) 36 0 101 25 [some (.ref 0), some (.int v1), some (.int v2), some (.int v3)] [] σ
set_option maxRecDepth 100000 in
set_option maxHeartbeats 1000000 in
theorem e_m_alone_0 (σ : en_S) (v1 : Int32) : x_m_alone_0 σ v1 =
    en_cI (x_m_isBox_0 (en_u1 σ.1 0 0 0, σ.2) v1) (fun r2 σ1 =>
      if r2 = 0 then
        some (.inl (some (.int 0)), σ1)
      else
        x_m_alone_19 σ1 v1 0 0) (fun e σ => some (.inr e, σ)) := en_ex_un (G := bb_G) (P := bb_P) (ML := bb_ML) (HD := bb_HD) 15 0 96 0 [some (.ref 0), some (.int v1), none, none] [] σ
set_option maxRecDepth 100000 in
set_option maxHeartbeats 1000000 in
theorem e_m_alone_19 (σ : en_S) (v1 : Int32) (v2 : Int32) (v3 : Int32) : x_m_alone_19 σ v1 v2 v3 =
    if σ.1 0 4 ≤ v3 then
      some (.inl (some (.int v2)), σ)
    else
      en_cI (x_m_canBear_0 σ 0 v1 ((1 : Int32) <<< (v3 &&& 31))) (fun r2 σ1 =>
        if r2 = 0 then
          x_m_alone_19 σ1 v1 (v2 ||| 0) (v3 + 1)
        else
          x_m_alone_19 σ1 v1 (v2 ||| ((1 : Int32) <<< (v3 &&& 31))) (v3 + 1)) (fun e σ => some (.inr e, σ)) := en_ex_un (G := bb_G) (P := bb_P) (ML := bb_ML) (HD := bb_HD) 30 0 96 19 [some (.ref 0), some (.int v1), some (.int v2), some (.int v3)] [] σ
set_option maxRecDepth 100000 in
set_option maxHeartbeats 1000000 in
theorem e_m_weariest_0 (σ : en_S) (v1 : Int32) : x_m_weariest_0 σ v1 =
    en_cI (x_m_isDays_0 (en_u1 σ.1 0 0 0, σ.2) v1 0 1) (fun r2 σ1 =>
      if r2 = 0 then
        some (.inl (some (.int 0)), σ1)
      else
        en_cV (x_m_goesTo_0 σ1 v1) (fun σ3 =>
          x_m_weariest_26 σ3 (-1) 0) (fun e σ => some (.inr e, σ))) (fun e σ => some (.inr e, σ)) := en_ex_un (G := bb_G) (P := bb_P) (ML := bb_ML) (HD := bb_HD) 20 0 116 0 [some (.ref 0), some (.int v1), none, none] [] σ
set_option maxRecDepth 100000 in
set_option maxHeartbeats 1000000 in
theorem e_m_weariest_26 (σ : en_S) (v2 : Int32) (v3 : Int32) : x_m_weariest_26 σ v2 v3 =
    if σ.1 0 4 ≤ v3 then
      some (.inl (some (.int v2)), σ)
    else
      if v2 = (-1) then
        x_m_weariest_26 σ v3 (v3 + 1)
      else
        if en_in (50 + v3) 58 then
          if en_in (50 + v2) 58 then
            if σ.1 18 ((50 + v3).toNatClampNeg) ≤ σ.1 18 ((50 + v2).toNatClampNeg) then
              x_m_weariest_26 σ v2 (v3 + 1)
            else
              x_m_weariest_26 σ v3 (v3 + 1)
          else
            none
        else
          none := en_ex_un (G := bb_G) (P := bb_P) (ML := bb_ML) (HD := bb_HD) 34 0 116 26 [some (.ref 0), none, some (.int v2), some (.int v3)] [] σ
set_option maxRecDepth 100000 in
set_option maxHeartbeats 1000000 in
theorem e_m_onRoutes_0 (σ : en_S) (v1 : Int32) : x_m_onRoutes_0 σ v1 =
    en_cI (x_m_isTown_0 (en_u1 σ.1 0 0 0, σ.2) v1) (fun r2 σ1 =>
      if r2 = 0 then
        some (.inl (some (.int 0)), σ1)
      else
        x_m_onRoutes_19 σ1 v1 0 0) (fun e σ => some (.inr e, σ)) := en_ex_un (G := bb_G) (P := bb_P) (ML := bb_ML) (HD := bb_HD) 15 0 102 0 [some (.ref 0), some (.int v1), none, none, none] [] σ
set_option maxRecDepth 100000 in
set_option maxHeartbeats 1000000 in
theorem e_m_onRoutes_19 (σ : en_S) (v1 : Int32) (v2 : Int32) (v3 : Int32) : x_m_onRoutes_19 σ v1 v2 v3 =
    if σ.1 0 3 ≤ v3 then
      some (.inl (some (.int v2)), σ)
    else
      x_m_onRoutes_30 σ v1 v2 v3 0 := en_ex_un (G := bb_G) (P := bb_P) (ML := bb_ML) (HD := bb_HD) 10 0 102 19 [some (.ref 0), some (.int v1), some (.int v2), some (.int v3), none] [] σ
set_option maxRecDepth 100000 in
set_option maxHeartbeats 1000000 in
theorem e_m_onRoutes_30 (σ : en_S) (v1 : Int32) (v2 : Int32) (v3 : Int32) (v4 : Int32) : x_m_onRoutes_30 σ v1 v2 v3 v4 =
    if en_in v3 6 then
      if σ.1 3 v3.toNatClampNeg ≤ v4 then
        x_m_onRoutes_19 σ v1 v2 (v3 + 1)
      else
        if en_in ((6 * v3) + v4) 36 then
          if σ.1 2 (((6 * v3) + v4).toNatClampNeg) = v1 then
            x_m_onRoutes_30 σ v1 (v2 ||| ((1 : Int32) <<< (v3 &&& 31))) v3 (v4 + 1)
          else
            x_m_onRoutes_30 σ v1 (v2 ||| 0) v3 (v4 + 1)
        else
          none
    else
      none := en_ex_un (G := bb_G) (P := bb_P) (ML := bb_ML) (HD := bb_HD) 34 0 102 30 [some (.ref 0), some (.int v1), some (.int v2), some (.int v3), some (.int v4)] [] σ
set_option maxRecDepth 100000 in
set_option maxHeartbeats 1000000 in
theorem e_m_reach_0 (σ : en_S) (v1 : Int32) : x_m_reach_0 σ v1 =
    en_cI (x_m_isTown_0 (en_u1 σ.1 0 0 0, σ.2) v1) (fun r2 σ1 =>
      if r2 = 0 then
        some (.inl (some (.int 0)), σ1)
      else
        en_cV (x_m_laysWays_0 σ1 v1 1) (fun σ3 =>
          x_m_reach_25 σ3 0 0) (fun e σ => some (.inr e, σ))) (fun e σ => some (.inr e, σ)) := en_ex_un (G := bb_G) (P := bb_P) (ML := bb_ML) (HD := bb_HD) 19 0 100 0 [some (.ref 0), some (.int v1), none, none] [] σ
set_option maxRecDepth 100000 in
set_option maxHeartbeats 1000000 in
theorem e_m_reach_25 (σ : en_S) (v2 : Int32) (v3 : Int32) : x_m_reach_25 σ v2 v3 =
    if σ.1 0 1 ≤ v3 then
      some (.inl (some (.int v2)), σ)
    else
      if en_in v3 8 then
        if (99999 : Int32) ≤ σ.1 23 v3.toNatClampNeg then
          x_m_reach_25 σ (v2 ||| 0) (v3 + 1)
        else
          x_m_reach_25 σ (v2 ||| ((1 : Int32) <<< (v3 &&& 31))) (v3 + 1)
      else
        none := en_ex_un (G := bb_G) (P := bb_P) (ML := bb_ML) (HD := bb_HD) 28 0 100 25 [some (.ref 0), none, some (.int v2), some (.int v3)] [] σ
set_option maxRecDepth 100000 in
set_option maxHeartbeats 1000000 in
theorem e_m_total_0 (σ : en_S) (v1 : Int32) : x_m_total_0 σ v1 =
    en_cI (x_m_isDays_0 (en_u1 σ.1 0 0 0, σ.2) v1 0 1) (fun r2 σ1 =>
      if r2 = 0 then
        some (.inl (some (.int 0)), σ1)
      else
        en_cV (x_m_goesTo_0 σ1 v1) (fun σ3 =>
          en_cI (x_m_allWeight_0 σ3 29) (fun r5 σ4 =>
            some (.inl (some (.int r5)), σ4)) (fun e σ => some (.inr e, σ))) (fun e σ => some (.inr e, σ))) (fun e σ => some (.inr e, σ)) := en_ex_un (G := bb_G) (P := bb_P) (ML := bb_ML) (HD := bb_HD) 20 0 117 0 [some (.ref 0), some (.int v1)] [] σ
set_option maxRecDepth 100000 in
set_option maxHeartbeats 1000000 in
theorem e_m_image_0 (σ : en_S) : x_m_image_0 σ =
    x_m_image_28 (en_u1 (en_u1 (en_u1 (en_u1 σ.1 0 0 0) 0 60 1) 0 61 (σ.1 0 47)) 0 62 (σ.1 0 55), σ.2) 0 := en_ex_un (G := bb_G) (P := bb_P) (ML := bb_ML) (HD := bb_HD) 18 0 118 0 [some (.ref 0), none] [] σ
set_option maxRecDepth 100000 in
set_option maxHeartbeats 1000000 in
theorem e_m_image_28 (σ : en_S) (v1 : Int32) : x_m_image_28 σ v1 =
    if (29 : Int32) ≤ v1 then
      en_cV (x_m_copies_p19_28_0 σ) (fun σ1 =>
        en_cV (x_m_copies_p24_29_0 σ1) (fun σ2 =>
          some (.inl none, σ2)) (fun e σ => some (.inr e, σ))) (fun e σ => some (.inr e, σ))
    else
      if en_in v1 58 then
        if en_in v1 29 then
          x_m_image_28 (en_u1 σ.1 27 v1.toNatClampNeg (σ.1 18 v1.toNatClampNeg), σ.2) (v1 + 1)
        else
          none
      else
        none := en_ex_un (G := bb_G) (P := bb_P) (ML := bb_ML) (HD := bb_HD) 28 0 118 28 [some (.ref 0), some (.int v1)] [] σ
set_option maxRecDepth 100000 in
set_option maxHeartbeats 1000000 in
theorem e_m_restore_0 (σ : en_S) : x_m_restore_0 σ =
    if σ.1 0 60 = 0 then
      some (.inl (some (.int 0)), (en_u1 σ.1 0 0 0, σ.2))
    else
      x_m_restore_32 (en_u1 (en_u1 (en_u1 σ.1 0 0 0) 0 47 (σ.1 0 61)) 0 55 (σ.1 0 62), σ.2) 0 := en_ex_un (G := bb_G) (P := bb_P) (ML := bb_ML) (HD := bb_HD) 20 0 119 0 [some (.ref 0), none] [] σ
set_option maxRecDepth 100000 in
set_option maxHeartbeats 1000000 in
theorem e_m_restore_32 (σ : en_S) (v1 : Int32) : x_m_restore_32 σ v1 =
    if (29 : Int32) ≤ v1 then
      en_cV (x_m_copies_p28_19_0 σ) (fun σ1 =>
        en_cV (x_m_copies_p29_24_0 σ1) (fun σ2 =>
          some (.inl (some (.int 1)), σ2)) (fun e σ => some (.inr e, σ))) (fun e σ => some (.inr e, σ))
    else
      if en_in v1 29 then
        if en_in v1 58 then
          x_m_restore_32 (en_u1 σ.1 18 v1.toNatClampNeg (σ.1 27 v1.toNatClampNeg), σ.2) (v1 + 1)
        else
          none
      else
        none := en_ex_un (G := bb_G) (P := bb_P) (ML := bb_ML) (HD := bb_HD) 29 0 119 32 [some (.ref 0), some (.int v1)] [] σ
set_option maxRecDepth 100000 in
set_option maxHeartbeats 1000000 in
theorem e_m_lays_0 (σ : en_S) (v1 : Int32) : x_m_lays_0 σ v1 =
    x_m_lays_3 σ v1 24 := en_ex_un (G := bb_G) (P := bb_P) (ML := bb_ML) (HD := bb_HD) 4 0 10 0 [some (.ref 0), some (.int v1), none] [] σ
set_option maxRecDepth 100000 in
set_option maxHeartbeats 1000000 in
theorem e_m_lays_3 (σ : en_S) (v1 : Int32) (v2 : Int32) : x_m_lays_3 σ v1 v2 =
    if v2 < 0 then
      some (.inl none, σ)
    else
      if en_in (σ.1 0 14) 700 then
        x_m_lays_3 (en_u1 (en_u1 σ.1 7 ((σ.1 0 14).toNatClampNeg) ((v1 >>> (v2 &&& 31)) &&& 255)) 0 14 ((σ.1 0 14) + 1), σ.2) v1 (v2 + (-8))
      else
        none := en_ex_un (G := bb_G) (P := bb_P) (ML := bb_ML) (HD := bb_HD) 23 0 10 3 [some (.ref 0), some (.int v1), some (.int v2)] [] σ
set_option maxRecDepth 100000 in
set_option maxHeartbeats 1000000 in
theorem e_m_right_0 (σ : en_S) (v1 : Int32) (v2 : Int32) : x_m_right_0 σ v1 v2 =
    if σ.1 0 0 = 0 then
      if v1 = 0 then
        if v2 = 0 then
          some (.inl (some (.int 1)), (en_u1 σ.1 0 0 v2, σ.2))
        else
          some (.inl (some (.int 0)), (en_u1 σ.1 0 0 v2, σ.2))
      else
        if σ.1 0 0 = 0 then
          some (.inl (some (.int 1)), σ)
        else
          some (.inl (some (.int 0)), σ)
    else
      if σ.1 0 0 = 0 then
        some (.inl (some (.int 1)), σ)
      else
        some (.inl (some (.int 0)), σ) := en_ex_un (G := bb_G) (P := bb_P) (ML := bb_ML) (HD := bb_HD) 34 0 2 0 [some (.ref 0), some (.int v1), some (.int v2)] [] σ
set_option maxRecDepth 100000 in
set_option maxHeartbeats 1000000 in
theorem e_m_goes_0 (σ : en_S) : x_m_goes_0 σ =
    if σ.1 0 18 ≤ σ.1 0 19 then
      x_m_goes_50 σ
    else
      en_cI (x_m_byteAt_0 σ (σ.1 0 19)) (fun r2 σ1 =>
        if r2 = 32 then
          x_m_goes_0 (en_u1 σ1.1 0 19 ((σ1.1 0 19) + 1), σ1.2)
        else
          en_cI (x_m_byteAt_0 σ1 (σ1.1 0 19)) (fun r4 σ3 =>
            if r4 = 10 then
              x_m_goes_0 (en_u1 σ3.1 0 19 ((σ3.1 0 19) + 1), σ3.2)
            else
              x_m_goes_50 σ3) (fun e σ => some (.inr e, σ))) (fun e σ => some (.inr e, σ)) := en_ex_un (G := bb_G) (P := bb_P) (ML := bb_ML) (HD := bb_HD) 33 0 14 0 [some (.ref 0), none] [] σ
set_option maxRecDepth 100000 in
set_option maxHeartbeats 1000000 in
theorem e_m_goes_50 (σ : en_S) : x_m_goes_50 σ =
    en_cI (x_m_byteAt_0 (en_u1 (en_u1 σ.1 0 21 (σ.1 0 19)) 0 23 0, en_u2 σ.2 0 25 0) (σ.1 0 19)) (fun r2 σ1 =>
      if σ1.1 0 19 < σ1.1 0 18 then
        en_cI (x_m_isLetter_0 (en_u1 σ1.1 0 24 r2, σ1.2) r2) (fun r4 σ3 =>
          if r4 = 0 then
            en_cI (x_m_isDigit_0 σ3 r2) (fun r6 σ5 =>
              if r6 = 0 then
                if r2 = 59 then
                  x_m_goes_323 (en_u1 σ5.1 0 19 ((σ5.1 0 19) + 1), σ5.2)
                else
                  if r2 = 40 then
                    x_m_goes_323 (en_u1 σ5.1 0 19 ((σ5.1 0 19) + 1), σ5.2)
                  else
                    if r2 = 41 then
                      x_m_goes_323 (en_u1 σ5.1 0 19 ((σ5.1 0 19) + 1), σ5.2)
                    else
                      if r2 = 43 then
                        x_m_goes_323 (en_u1 σ5.1 0 19 ((σ5.1 0 19) + 1), σ5.2)
                      else
                        if r2 = 45 then
                          x_m_goes_323 (en_u1 σ5.1 0 19 ((σ5.1 0 19) + 1), σ5.2)
                        else
                          if r2 = 42 then
                            x_m_goes_323 (en_u1 σ5.1 0 19 ((σ5.1 0 19) + 1), σ5.2)
                          else
                            if r2 = 47 then
                              x_m_goes_323 (en_u1 σ5.1 0 19 ((σ5.1 0 19) + 1), σ5.2)
                            else
                              if r2 = 60 then
                                x_m_goes_323 (en_u1 σ5.1 0 19 ((σ5.1 0 19) + 1), σ5.2)
                              else
                                if r2 = 61 then
                                  x_m_goes_323 (en_u1 σ5.1 0 19 ((σ5.1 0 19) + 1), σ5.2)
                                else
                                  some (.inl none, (en_u1 (en_u1 (en_u1 σ5.1 0 19 ((σ5.1 0 19) + 1)) 0 20 4) 0 22 (((σ5.1 0 19) + 1) - (σ5.1 0 21)), σ5.2))
              else
                x_m_goes_187 σ5) (fun e σ => some (.inr e, σ))
          else
            x_m_goes_108 σ3) (fun e σ => some (.inr e, σ))
      else
        some (.inl none, (en_u1 (en_u1 (en_u1 σ1.1 0 24 r2) 0 20 0) 0 22 ((σ1.1 0 19) - (σ1.1 0 21)), σ1.2))) (fun e σ => some (.inr e, σ)) := en_ex_un (G := bb_G) (P := bb_P) (ML := bb_ML) (HD := bb_HD) 87 0 14 50 [some (.ref 0), none] [] σ
set_option maxRecDepth 100000 in
set_option maxHeartbeats 1000000 in
theorem e_m_goes_108 (σ : en_S) : x_m_goes_108 σ =
    en_cI (x_m_byteAt_0 σ (σ.1 0 19)) (fun r2 σ1 =>
      en_cI (x_m_isLetter_0 σ1 r2) (fun r4 σ3 =>
        if r4 = 0 then
          some (.inl none, (en_u1 (en_u1 σ3.1 0 20 1) 0 22 ((σ3.1 0 19) - (σ3.1 0 21)), σ3.2))
        else
          if (6 : Int32) ≤ (σ3.1 0 19) - (σ3.1 0 21) then
            x_m_goes_108 (en_u1 σ3.1 0 19 ((σ3.1 0 19) + 1), σ3.2)
          else
            en_cI (x_m_byteAt_0 σ3 (σ3.1 0 19)) (fun r6 σ5 =>
              x_m_goes_108 (en_u1 σ5.1 0 19 ((σ5.1 0 19) + 1), en_u2 σ5.2 0 25 (((σ3.2 0 25) <<< ((5 : Int32).toInt64 &&& 63)) ||| ((r6 - 96).toInt64)))) (fun e σ => some (.inr e, σ))) (fun e σ => some (.inr e, σ))) (fun e σ => some (.inr e, σ)) := en_ex_un (G := bb_G) (P := bb_P) (ML := bb_ML) (HD := bb_HD) 55 0 14 108 [some (.ref 0), none] [] σ
set_option maxRecDepth 100000 in
set_option maxHeartbeats 1000000 in
theorem e_m_goes_187 (σ : en_S) : x_m_goes_187 σ =
    en_cI (x_m_byteAt_0 σ (σ.1 0 19)) (fun r2 σ1 =>
      en_cI (x_m_isDigit_0 σ1 r2) (fun r4 σ3 =>
        if r4 = 0 then
          some (.inl none, (en_u1 (en_u1 σ3.1 0 20 2) 0 22 ((σ3.1 0 19) - (σ3.1 0 21)), σ3.2))
        else
          if (4 : Int32) ≤ (σ3.1 0 19) - (σ3.1 0 21) then
            x_m_goes_187 (en_u1 σ3.1 0 19 ((σ3.1 0 19) + 1), σ3.2)
          else
            en_cI (x_m_byteAt_0 σ3 (σ3.1 0 19)) (fun r6 σ5 =>
              x_m_goes_187 (en_u1 (en_u1 σ5.1 0 23 (((10 * (σ3.1 0 23)) + r6) - 48)) 0 19 ((σ5.1 0 19) + 1), σ5.2)) (fun e σ => some (.inr e, σ))) (fun e σ => some (.inr e, σ))) (fun e σ => some (.inr e, σ)) := en_ex_un (G := bb_G) (P := bb_P) (ML := bb_ML) (HD := bb_HD) 54 0 14 187 [some (.ref 0), none] [] σ
set_option maxRecDepth 100000 in
set_option maxHeartbeats 1000000 in
theorem e_m_goes_323 (σ : en_S) : x_m_goes_323 σ =
    some (.inl none, (en_u1 (en_u1 σ.1 0 20 3) 0 22 ((σ.1 0 19) - (σ.1 0 21)), σ.2)) := en_ex_un (G := bb_G) (P := bb_P) (ML := bb_ML) (HD := bb_HD) 13 0 14 323 [some (.ref 0), none] [.ref 0] σ
set_option maxRecDepth 100000 in
set_option maxHeartbeats 1000000 in
theorem e_m_isGood_0 (σ : en_S) : x_m_isGood_0 σ =
    if σ.1 0 15 = 0 then
      some (.inl (some (.int 1)), σ)
    else
      some (.inl (some (.int 0)), σ) := en_ex_un (G := bb_G) (P := bb_P) (ML := bb_ML) (HD := bb_HD) 10 0 19 0 [some (.ref 0)] [] σ
set_option maxRecDepth 100000 in
set_option maxHeartbeats 1000000 in
theorem e_m_townsNow_0 (σ : en_S) : x_m_townsNow_0 σ =
    if σ.1 0 27 = (-1) then
      some (.inl (some (.int 4)), σ)
    else
      some (.inl (some (.int (σ.1 0 27))), σ) := en_ex_un (G := bb_G) (P := bb_P) (ML := bb_ML) (HD := bb_HD) 12 0 36 0 [some (.ref 0)] [] σ
set_option maxRecDepth 100000 in
set_option maxHeartbeats 1000000 in
theorem e_m_copies_p9_1_0 (σ : en_S) : x_m_copies_p9_1_0 σ =
    x_m_copies_p9_1_2 σ 0 := en_ex_un (G := bb_G) (P := bb_P) (ML := bb_ML) (HD := bb_HD) 4 0 7 0 [some (.ref 0), some (.ref 9), some (.ref 1), none] [] σ
set_option maxRecDepth 100000 in
set_option maxHeartbeats 1000000 in
theorem e_m_copies_p9_1_2 (σ : en_S) (v3 : Int32) : x_m_copies_p9_1_2 σ v3 =
    if (64 : Int32) ≤ v3 then
      some (.inl none, σ)
    else
      if en_in v3 64 then
        if en_in v3 64 then
          x_m_copies_p9_1_2 (en_u1 σ.1 1 v3.toNatClampNeg (σ.1 9 v3.toNatClampNeg), σ.2) (v3 + 1)
        else
          none
      else
        none := en_ex_un (G := bb_G) (P := bb_P) (ML := bb_ML) (HD := bb_HD) 15 0 7 2 [none, some (.ref 9), some (.ref 1), some (.int v3)] [] σ
set_option maxRecDepth 100000 in
set_option maxHeartbeats 1000000 in
theorem e_m_copies_p10_2_0 (σ : en_S) : x_m_copies_p10_2_0 σ =
    x_m_copies_p10_2_2 σ 0 := en_ex_un (G := bb_G) (P := bb_P) (ML := bb_ML) (HD := bb_HD) 4 0 7 0 [some (.ref 0), some (.ref 10), some (.ref 2), none] [] σ
set_option maxRecDepth 100000 in
set_option maxHeartbeats 1000000 in
theorem e_m_copies_p10_2_2 (σ : en_S) (v3 : Int32) : x_m_copies_p10_2_2 σ v3 =
    if (36 : Int32) ≤ v3 then
      some (.inl none, σ)
    else
      if en_in v3 36 then
        if en_in v3 36 then
          x_m_copies_p10_2_2 (en_u1 σ.1 2 v3.toNatClampNeg (σ.1 10 v3.toNatClampNeg), σ.2) (v3 + 1)
        else
          none
      else
        none := en_ex_un (G := bb_G) (P := bb_P) (ML := bb_ML) (HD := bb_HD) 15 0 7 2 [none, some (.ref 10), some (.ref 2), some (.int v3)] [] σ
set_option maxRecDepth 100000 in
set_option maxHeartbeats 1000000 in
theorem e_m_copies_p11_3_0 (σ : en_S) : x_m_copies_p11_3_0 σ =
    x_m_copies_p11_3_2 σ 0 := en_ex_un (G := bb_G) (P := bb_P) (ML := bb_ML) (HD := bb_HD) 4 0 7 0 [some (.ref 0), some (.ref 11), some (.ref 3), none] [] σ
set_option maxRecDepth 100000 in
set_option maxHeartbeats 1000000 in
theorem e_m_copies_p11_3_2 (σ : en_S) (v3 : Int32) : x_m_copies_p11_3_2 σ v3 =
    if (6 : Int32) ≤ v3 then
      some (.inl none, σ)
    else
      if en_in v3 6 then
        if en_in v3 6 then
          x_m_copies_p11_3_2 (en_u1 σ.1 3 v3.toNatClampNeg (σ.1 11 v3.toNatClampNeg), σ.2) (v3 + 1)
        else
          none
      else
        none := en_ex_un (G := bb_G) (P := bb_P) (ML := bb_ML) (HD := bb_HD) 15 0 7 2 [none, some (.ref 11), some (.ref 3), some (.int v3)] [] σ
set_option maxRecDepth 100000 in
set_option maxHeartbeats 1000000 in
theorem e_m_copies_p12_4_0 (σ : en_S) : x_m_copies_p12_4_0 σ =
    x_m_copies_p12_4_2 σ 0 := en_ex_un (G := bb_G) (P := bb_P) (ML := bb_ML) (HD := bb_HD) 4 0 7 0 [some (.ref 0), some (.ref 12), some (.ref 4), none] [] σ
set_option maxRecDepth 100000 in
set_option maxHeartbeats 1000000 in
theorem e_m_copies_p12_4_2 (σ : en_S) (v3 : Int32) : x_m_copies_p12_4_2 σ v3 =
    if (8 : Int32) ≤ v3 then
      some (.inl none, σ)
    else
      if en_in v3 8 then
        if en_in v3 8 then
          x_m_copies_p12_4_2 (en_u1 σ.1 4 v3.toNatClampNeg (σ.1 12 v3.toNatClampNeg), σ.2) (v3 + 1)
        else
          none
      else
        none := en_ex_un (G := bb_G) (P := bb_P) (ML := bb_ML) (HD := bb_HD) 15 0 7 2 [none, some (.ref 12), some (.ref 4), some (.int v3)] [] σ
set_option maxRecDepth 100000 in
set_option maxHeartbeats 1000000 in
theorem e_m_copies_p13_5_0 (σ : en_S) : x_m_copies_p13_5_0 σ =
    x_m_copies_p13_5_2 σ 0 := en_ex_un (G := bb_G) (P := bb_P) (ML := bb_ML) (HD := bb_HD) 4 0 7 0 [some (.ref 0), some (.ref 13), some (.ref 5), none] [] σ
set_option maxRecDepth 100000 in
set_option maxHeartbeats 1000000 in
theorem e_m_copies_p13_5_2 (σ : en_S) (v3 : Int32) : x_m_copies_p13_5_2 σ v3 =
    if (8 : Int32) ≤ v3 then
      some (.inl none, σ)
    else
      if en_in v3 8 then
        if en_in v3 8 then
          x_m_copies_p13_5_2 (en_u1 σ.1 5 v3.toNatClampNeg (σ.1 13 v3.toNatClampNeg), σ.2) (v3 + 1)
        else
          none
      else
        none := en_ex_un (G := bb_G) (P := bb_P) (ML := bb_ML) (HD := bb_HD) 15 0 7 2 [none, some (.ref 13), some (.ref 5), some (.int v3)] [] σ
set_option maxRecDepth 100000 in
set_option maxHeartbeats 1000000 in
theorem e_m_copies_p15_6_0 (σ : en_S) : x_m_copies_p15_6_0 σ =
    x_m_copies_p15_6_2 σ 0 := en_ex_un (G := bb_G) (P := bb_P) (ML := bb_ML) (HD := bb_HD) 4 0 7 0 [some (.ref 0), some (.ref 15), some (.ref 6), none] [] σ
set_option maxRecDepth 100000 in
set_option maxHeartbeats 1000000 in
theorem e_m_copies_p15_6_2 (σ : en_S) (v3 : Int32) : x_m_copies_p15_6_2 σ v3 =
    if (1400 : Int32) ≤ v3 then
      some (.inl none, σ)
    else
      if en_in v3 1400 then
        if en_in v3 1400 then
          x_m_copies_p15_6_2 (en_u1 σ.1 6 v3.toNatClampNeg (σ.1 15 v3.toNatClampNeg), σ.2) (v3 + 1)
        else
          none
      else
        none := en_ex_un (G := bb_G) (P := bb_P) (ML := bb_ML) (HD := bb_HD) 15 0 7 2 [none, some (.ref 15), some (.ref 6), some (.int v3)] [] σ
set_option maxRecDepth 100000 in
set_option maxHeartbeats 1000000 in
theorem e_m_line_0 (σ : en_S) : x_m_line_0 σ =
    en_cI (x_m_knownWord_0 σ) (fun r2 σ1 =>
      if r2 = 7 then
        if σ1.1 0 27 = (-1) then
          en_cI (x_m_begins_0 σ1 0 (σ1.1 0 26) 0) (fun r4 σ3 =>
            if r4 = 0 then
              x_m_line_249 σ3
            else
              en_cI (x_m_number_0 σ3 2 8) (fun r6 σ5 =>
                x_m_line_249 (en_u1 σ5.1 0 27 r6, σ5.2)) (fun e σ => some (.inr e, σ))) (fun e σ => some (.inr e, σ))
        else
          en_cI (x_m_begins_0 σ1 0 (σ1.1 0 26) 1) (fun r8 σ7 =>
            if r8 = 0 then
              x_m_line_249 σ7
            else
              en_cI (x_m_number_0 σ7 2 8) (fun r10 σ9 =>
                x_m_line_249 (en_u1 σ9.1 0 27 r10, σ9.2)) (fun e σ => some (.inr e, σ))) (fun e σ => some (.inr e, σ))
      else
        if r2 = 8 then
          if σ1.1 0 28 = 14 then
            en_cI (x_m_begins_0 σ1 1 0 0) (fun r12 σ11 =>
              if r12 = 0 then
                x_m_line_249 σ11
              else
                en_cV (x_m_readsRoad_0 σ11) (fun σ13 =>
                  x_m_line_249 σ13) (fun e σ => some (.inr e, σ))) (fun e σ => some (.inr e, σ))
          else
            en_cI (x_m_begins_0 σ1 0 0 0) (fun r15 σ14 =>
              if r15 = 0 then
                x_m_line_249 σ14
              else
                en_cV (x_m_readsRoad_0 σ14) (fun σ16 =>
                  x_m_line_249 σ16) (fun e σ => some (.inr e, σ))) (fun e σ => some (.inr e, σ))
        else
          if r2 = 9 then
            if σ1.1 0 29 = 6 then
              en_cI (x_m_begins_0 σ1 1 0 0) (fun r18 σ17 =>
                if r18 = 0 then
                  x_m_line_249 σ17
                else
                  en_cV (x_m_readsBox_0 σ17) (fun σ19 =>
                    x_m_line_249 σ19) (fun e σ => some (.inr e, σ))) (fun e σ => some (.inr e, σ))
            else
              en_cI (x_m_begins_0 σ1 0 0 0) (fun r21 σ20 =>
                if r21 = 0 then
                  x_m_line_249 σ20
                else
                  en_cV (x_m_readsBox_0 σ20) (fun σ22 =>
                    x_m_line_249 σ22) (fun e σ => some (.inr e, σ))) (fun e σ => some (.inr e, σ))
          else
            if r2 = 10 then
              if σ1.1 0 30 = 8 then
                en_cI (x_m_begins_0 σ1 1 0 0) (fun r24 σ23 =>
                  if r24 = 0 then
                    x_m_line_249 σ23
                  else
                    en_cV (x_m_readsBearer_0 σ23) (fun σ25 =>
                      x_m_line_249 σ25) (fun e σ => some (.inr e, σ))) (fun e σ => some (.inr e, σ))
              else
                en_cI (x_m_begins_0 σ1 0 0 0) (fun r27 σ26 =>
                  if r27 = 0 then
                    x_m_line_249 σ26
                  else
                    en_cV (x_m_readsBearer_0 σ26) (fun σ28 =>
                      x_m_line_249 σ28) (fun e σ => some (.inr e, σ))) (fun e σ => some (.inr e, σ))
            else
              if r2 = 12 then
                if σ1.1 0 31 = (-1) then
                  en_cI (x_m_begins_0 σ1 0 0 0) (fun r30 σ29 =>
                    if r30 = 0 then
                      x_m_line_249 σ29
                    else
                      en_cV (x_m_expression_0 (en_u1 σ29.1 0 31 (σ29.1 0 33), σ29.2)) (fun σ31 =>
                        x_m_line_249 σ31) (fun e σ => some (.inr e, σ))) (fun e σ => some (.inr e, σ))
                else
                  en_cI (x_m_begins_0 σ1 0 0 1) (fun r33 σ32 =>
                    if r33 = 0 then
                      x_m_line_249 σ32
                    else
                      en_cV (x_m_expression_0 (en_u1 σ32.1 0 31 (σ32.1 0 33), σ32.2)) (fun σ34 =>
                        x_m_line_249 σ34) (fun e σ => some (.inr e, σ))) (fun e σ => some (.inr e, σ))
              else
                if r2 = 13 then
                  if σ1.1 0 32 = (-1) then
                    en_cI (x_m_begins_0 σ1 0 0 0) (fun r36 σ35 =>
                      if r36 = 0 then
                        x_m_line_249 σ35
                      else
                        en_cV (x_m_expression_0 (en_u1 σ35.1 0 32 (σ35.1 0 33), σ35.2)) (fun σ37 =>
                          x_m_line_249 σ37) (fun e σ => some (.inr e, σ))) (fun e σ => some (.inr e, σ))
                  else
                    en_cI (x_m_begins_0 σ1 0 0 1) (fun r39 σ38 =>
                      if r39 = 0 then
                        x_m_line_249 σ38
                      else
                        en_cV (x_m_expression_0 (en_u1 σ38.1 0 32 (σ38.1 0 33), σ38.2)) (fun σ40 =>
                          x_m_line_249 σ40) (fun e σ => some (.inr e, σ))) (fun e σ => some (.inr e, σ))
                else
                  en_cV (x_m_wrong_0 σ1 1) (fun σ41 =>
                    x_m_line_249 σ41) (fun e σ => some (.inr e, σ))) (fun e σ => some (.inr e, σ)) := en_ex_un (G := bb_G) (P := bb_P) (ML := bb_ML) (HD := bb_HD) 177 0 40 0 [some (.ref 0), none] [] σ
set_option maxRecDepth 100000 in
set_option maxHeartbeats 1000000 in
theorem e_m_line_249 (σ : en_S) : x_m_line_249 σ =
    en_cI (x_m_isSign_0 σ 59) (fun r2 σ1 =>
      en_cV (x_m_need_0 σ1 r2) (fun σ3 =>
        some (.inl none, σ3)) (fun e σ => some (.inr e, σ))) (fun e σ => some (.inr e, σ)) := en_ex_un (G := bb_G) (P := bb_P) (ML := bb_ML) (HD := bb_HD) 8 0 40 249 [some (.ref 0), none] [] σ
set_option maxRecDepth 100000 in
set_option maxHeartbeats 1000000 in
theorem e_m_within_0 (σ : en_S) (v0 : Int32) (v1 : Int32) (v2 : Int32) : x_m_within_0 σ v0 v1 v2 =
    if v0 < v1 then
      some (.inl (some (.int 0)), σ)
    else
      if v2 < v0 then
        some (.inl (some (.int 0)), σ)
      else
        some (.inl (some (.int 1)), σ) := en_ex_un (G := bb_G) (P := bb_P) (ML := bb_ML) (HD := bb_HD) 15 0 3 0 [some (.int v0), some (.int v1), some (.int v2)] [] σ
set_option maxRecDepth 100000 in
set_option maxHeartbeats 1000000 in
theorem e_m_pairs_0 (σ : en_S) : x_m_pairs_0 σ =
    x_m_pairs_4 σ 0 0 := en_ex_un (G := bb_G) (P := bb_P) (ML := bb_ML) (HD := bb_HD) 6 0 65 0 [some (.ref 0), none, none, none] [] σ
set_option maxRecDepth 100000 in
set_option maxHeartbeats 1000000 in
theorem e_m_pairs_4 (σ : en_S) (v1 : Int32) (v2 : Int32) : x_m_pairs_4 σ v1 v2 =
    if σ.1 0 4 ≤ v2 then
      some (.inl (some (.int v1)), σ)
    else
      x_m_pairs_14 σ v1 v2 0 := en_ex_un (G := bb_G) (P := bb_P) (ML := bb_ML) (HD := bb_HD) 10 0 65 4 [some (.ref 0), some (.int v1), some (.int v2), none] [] σ
set_option maxRecDepth 100000 in
set_option maxHeartbeats 1000000 in
theorem e_m_pairs_14 (σ : en_S) (v1 : Int32) (v2 : Int32) (v3 : Int32) : x_m_pairs_14 σ v1 v2 v3 =
    if v2 ≤ v3 then
      x_m_pairs_4 σ v1 (v2 + 1)
    else
      if en_in v2 8 then
        if en_in v3 8 then
          if σ.1 5 v2.toNatClampNeg = σ.1 5 v3.toNatClampNeg then
            x_m_pairs_14 σ (v1 + 1) v2 (v3 + 1)
          else
            x_m_pairs_14 σ (v1 + 0) v2 (v3 + 1)
        else
          none
      else
        none := en_ex_un (G := bb_G) (P := bb_P) (ML := bb_ML) (HD := bb_HD) 28 0 65 14 [some (.ref 0), some (.int v1), some (.int v2), some (.int v3)] [] σ
set_option maxRecDepth 100000 in
set_option maxHeartbeats 1000000 in
theorem e_m_allWeight_0 (σ : en_S) (v1 : Int32) : x_m_allWeight_0 σ v1 =
    x_m_allWeight_4 σ v1 0 0 := en_ex_un (G := bb_G) (P := bb_P) (ML := bb_ML) (HD := bb_HD) 6 0 64 0 [some (.ref 0), some (.int v1), none, none] [] σ
set_option maxRecDepth 100000 in
set_option maxHeartbeats 1000000 in
theorem e_m_allWeight_4 (σ : en_S) (v1 : Int32) (v2 : Int32) (v3 : Int32) : x_m_allWeight_4 σ v1 v2 v3 =
    if σ.1 0 3 ≤ v3 then
      some (.inl (some (.int v2)), σ)
    else
      if en_in ((v1 + 1) + v3) 58 then
        x_m_allWeight_4 σ v1 (v2 + (σ.1 18 (((v1 + 1) + v3).toNatClampNeg))) (v3 + 1)
      else
        none := en_ex_un (G := bb_G) (P := bb_P) (ML := bb_ML) (HD := bb_HD) 21 0 64 4 [some (.ref 0), some (.int v1), some (.int v2), some (.int v3)] [] σ
set_option maxRecDepth 100000 in
set_option maxHeartbeats 1000000 in
theorem e_m_handsAt_0 (σ : en_S) (v1 : Int32) (v2 : Int32) : x_m_handsAt_0 σ v1 v2 =
    x_m_handsAt_5 σ v1 v2 0 0 := en_ex_un (G := bb_G) (P := bb_P) (ML := bb_ML) (HD := bb_HD) 6 0 51 0 [some (.ref 0), some (.int v1), some (.int v2), none, none] [] σ
set_option maxRecDepth 100000 in
set_option maxHeartbeats 1000000 in
theorem e_m_handsAt_5 (σ : en_S) (v1 : Int32) (v2 : Int32) (v3 : Int32) (v4 : Int32) : x_m_handsAt_5 σ v1 v2 v3 v4 =
    if σ.1 0 4 ≤ v4 then
      some (.inl (some (.int v3)), σ)
    else
      if en_in ((v1 + 13) + v4) 58 then
        if σ.1 18 (((v1 + 13) + v4).toNatClampNeg) = v2 then
          x_m_handsAt_5 σ v1 v2 (v3 ||| ((1 : Int32) <<< (v4 &&& 31))) (v4 + 1)
        else
          x_m_handsAt_5 σ v1 v2 (v3 ||| 0) (v4 + 1)
      else
        none := en_ex_un (G := bb_G) (P := bb_P) (ML := bb_ML) (HD := bb_HD) 32 0 51 5 [some (.ref 0), some (.int v1), some (.int v2), some (.int v3), some (.int v4)] [] σ
set_option maxRecDepth 100000 in
set_option maxHeartbeats 1000000 in
theorem e_m_borneOnes_0 (σ : en_S) (v1 : Int32) : x_m_borneOnes_0 σ v1 =
    x_m_borneOnes_4 σ v1 0 0 := en_ex_un (G := bb_G) (P := bb_P) (ML := bb_ML) (HD := bb_HD) 6 0 63 0 [some (.ref 0), some (.int v1), none, none] [] σ
set_option maxRecDepth 100000 in
set_option maxHeartbeats 1000000 in
theorem e_m_borneOnes_4 (σ : en_S) (v1 : Int32) (v2 : Int32) (v3 : Int32) : x_m_borneOnes_4 σ v1 v2 v3 =
    if σ.1 0 3 ≤ v3 then
      some (.inl (some (.int v2)), σ)
    else
      en_cI (x_m_isBorne_0 σ v1 v3) (fun r2 σ1 =>
        if r2 = 0 then
          x_m_borneOnes_4 σ1 v1 (v2 ||| 0) (v3 + 1)
        else
          x_m_borneOnes_4 σ1 v1 (v2 ||| ((1 : Int32) <<< (v3 &&& 31))) (v3 + 1)) (fun e σ => some (.inr e, σ)) := en_ex_un (G := bb_G) (P := bb_P) (ML := bb_ML) (HD := bb_HD) 27 0 63 4 [some (.ref 0), some (.int v1), some (.int v2), some (.int v3)] [] σ
set_option maxRecDepth 100000 in
set_option maxHeartbeats 1000000 in
theorem e_m_isBox_0 (σ : en_S) (v1 : Int32) : x_m_isBox_0 σ v1 =
    if v1 < 0 then
      en_cI (x_m_right_0 σ 0 1) (fun r2 σ1 =>
        if r2 = 0 ∨ r2 = 1 then
          some (.inl (some (.int r2)), σ1)
        else
          none) (fun e σ => some (.inr e, σ))
    else
      if σ.1 0 3 ≤ v1 then
        en_cI (x_m_right_0 σ 0 1) (fun r4 σ3 =>
          if r4 = 0 ∨ r4 = 1 then
            some (.inl (some (.int r4)), σ3)
          else
            none) (fun e σ => some (.inr e, σ))
      else
        en_cI (x_m_right_0 σ 1 1) (fun r6 σ5 =>
          if r6 = 0 ∨ r6 = 1 then
            some (.inl (some (.int r6)), σ5)
          else
            none) (fun e σ => some (.inr e, σ)) := en_ex_un (G := bb_G) (P := bb_P) (ML := bb_ML) (HD := bb_HD) 22 0 68 0 [some (.ref 0), some (.int v1)] [] σ
set_option maxRecDepth 100000 in
set_option maxHeartbeats 1000000 in
theorem e_m_isWhat_0 (σ : en_S) (v1 : Int32) (v2 : Int32) : x_m_isWhat_0 σ v1 v2 =
    en_cI (x_m_within_0 σ v1 0 v2) (fun r2 σ1 =>
      en_cI (x_m_right_0 σ1 r2 1) (fun r4 σ3 =>
        if r4 = 0 ∨ r4 = 1 then
          some (.inl (some (.int r4)), σ3)
        else
          none) (fun e σ => some (.inr e, σ))) (fun e σ => some (.inr e, σ)) := en_ex_un (G := bb_G) (P := bb_P) (ML := bb_ML) (HD := bb_HD) 10 0 70 0 [some (.ref 0), some (.int v1), some (.int v2)] [] σ
set_option maxRecDepth 100000 in
set_option maxHeartbeats 1000000 in
theorem e_m_neededFor_0 (σ : en_S) (v1 : Int32) : x_m_neededFor_0 σ v1 =
    en_cI (x_m_handsAt_0 σ 0 v1) (fun r2 σ1 =>
      x_m_neededFor_12 σ1 v1 r2 0 0) (fun e σ => some (.inr e, σ)) := en_ex_un (G := bb_G) (P := bb_P) (ML := bb_ML) (HD := bb_HD) 11 0 72 0 [some (.ref 0), some (.int v1), none, none, none] [] σ
set_option maxRecDepth 100000 in
set_option maxHeartbeats 1000000 in
theorem e_m_neededFor_12 (σ : en_S) (v1 : Int32) (v2 : Int32) (v3 : Int32) (v4 : Int32) : x_m_neededFor_12 σ v1 v2 v3 v4 =
    if σ.1 0 4 ≤ v4 then
      some (.inl (some (.int v3)), σ)
    else
      en_cI (x_m_isBorne_0 σ 0 v1) (fun r2 σ1 =>
        if r2 = 0 then
          some (.inl (some (.int v3)), σ1)
        else
          if (v2 >>> (v4 &&& 31)) &&& 1 = 1 then
            en_cI (x_m_canBear_0 σ1 0 v1 (v2 &&& (((1 : Int32) <<< (v4 &&& 31)) ^^^ (-1)))) (fun r4 σ3 =>
              if r4 = 0 then
                x_m_neededFor_12 σ3 v1 v2 (v3 ||| ((1 : Int32) <<< (v4 &&& 31))) (v4 + 1)
              else
                x_m_neededFor_12 σ3 v1 v2 (v3 ||| 0) (v4 + 1)) (fun e σ => some (.inr e, σ))
          else
            x_m_neededFor_12 σ1 v1 v2 (v3 ||| 0) (v4 + 1)) (fun e σ => some (.inr e, σ)) := en_ex_un (G := bb_G) (P := bb_P) (ML := bb_ML) (HD := bb_HD) 53 0 72 12 [some (.ref 0), some (.int v1), some (.int v2), some (.int v3), some (.int v4)] [] σ
set_option maxRecDepth 100000 in
set_option maxHeartbeats 1000000 in
theorem e_m_mightBy_0 (σ : en_S) (v1 : Int32) (v2 : Int32) : x_m_mightBy_0 σ v1 v2 =
    x_m_mightBy_5 σ v1 v2 0 0 := en_ex_un (G := bb_G) (P := bb_P) (ML := bb_ML) (HD := bb_HD) 6 0 50 0 [some (.ref 0), some (.int v1), some (.int v2), none, none] [] σ
set_option maxRecDepth 100000 in
set_option maxHeartbeats 1000000 in
theorem e_m_mightBy_5 (σ : en_S) (v1 : Int32) (v2 : Int32) (v3 : Int32) (v4 : Int32) : x_m_mightBy_5 σ v1 v2 v3 v4 =
    if σ.1 0 4 ≤ v4 then
      some (.inl (some (.int v3)), σ)
    else
      if (v2 >>> (v4 &&& 31)) &&& 1 = 1 then
        en_cI (x_m_mightOf_0 σ v1 v4) (fun r2 σ1 =>
          x_m_mightBy_5 σ1 v1 v2 (v3 + r2) (v4 + 1)) (fun e σ => some (.inr e, σ))
      else
        x_m_mightBy_5 σ v1 v2 (v3 + 0) (v4 + 1) := en_ex_un (G := bb_G) (P := bb_P) (ML := bb_ML) (HD := bb_HD) 30 0 50 5 [some (.ref 0), some (.int v1), some (.int v2), some (.int v3), some (.int v4)] [] σ
set_option maxRecDepth 100000 in
set_option maxHeartbeats 1000000 in
theorem e_m_leanBy_0 (σ : en_S) (v1 : Int32) : x_m_leanBy_0 σ v1 =
    x_m_leanBy_8 σ v1 0 10 0 := en_ex_un (G := bb_G) (P := bb_P) (ML := bb_ML) (HD := bb_HD) 8 0 54 0 [some (.ref 0), some (.int v1), none, none, none] [] σ
set_option maxRecDepth 100000 in
set_option maxHeartbeats 1000000 in
theorem e_m_leanBy_8 (σ : en_S) (v1 : Int32) (v2 : Int32) (v3 : Int32) (v4 : Int32) : x_m_leanBy_8 σ v1 v2 v3 v4 =
    if σ.1 0 4 ≤ v4 then
      if v1 = 0 then
        some (.inl (some (.int 0)), σ)
      else
        some (.inl (some (.int (v2 - v3))), σ)
    else
      if (v1 >>> (v4 &&& 31)) &&& 1 = 0 then
        x_m_leanBy_8 σ v1 v2 v3 (v4 + 1)
      else
        if en_in v4 8 then
          en_cI (x_m_greater_0 σ v2 (σ.1 5 v4.toNatClampNeg)) (fun r2 σ1 =>
            if en_in v4 8 then
              en_cI (x_m_lesser_0 σ1 v3 (σ1.1 5 v4.toNatClampNeg)) (fun r4 σ3 =>
                x_m_leanBy_8 σ3 v1 r2 r4 (v4 + 1)) (fun e σ => some (.inr e, σ))
            else
              none) (fun e σ => some (.inr e, σ))
        else
          none := en_ex_un (G := bb_G) (P := bb_P) (ML := bb_ML) (HD := bb_HD) 40 0 54 8 [some (.ref 0), some (.int v1), some (.int v2), some (.int v3), some (.int v4)] [] σ
set_option maxRecDepth 100000 in
set_option maxHeartbeats 1000000 in
theorem e_m_townOf_0 (σ : en_S) (v1 : Int32) (v2 : Int32) : x_m_townOf_0 σ v1 v2 =
    if en_in ((v1 + 7) + v2) 58 then
      if en_in ((6 * v2) + (σ.1 18 (((v1 + 7) + v2).toNatClampNeg))) 36 then
        some (.inl (some (.int (σ.1 2 (((6 * v2) + (σ.1 18 (((v1 + 7) + v2).toNatClampNeg))).toNatClampNeg)))), σ)
      else
        none
    else
      none := en_ex_un (G := bb_G) (P := bb_P) (ML := bb_ML) (HD := bb_HD) 18 0 55 0 [some (.ref 0), some (.int v1), some (.int v2)] [] σ
set_option maxRecDepth 100000 in
set_option maxHeartbeats 1000000 in
theorem e_m_isBearer_0 (σ : en_S) (v1 : Int32) : x_m_isBearer_0 σ v1 =
    if v1 < 0 then
      en_cI (x_m_right_0 σ 0 1) (fun r2 σ1 =>
        if r2 = 0 ∨ r2 = 1 then
          some (.inl (some (.int r2)), σ1)
        else
          none) (fun e σ => some (.inr e, σ))
    else
      if σ.1 0 4 ≤ v1 then
        en_cI (x_m_right_0 σ 0 1) (fun r4 σ3 =>
          if r4 = 0 ∨ r4 = 1 then
            some (.inl (some (.int r4)), σ3)
          else
            none) (fun e σ => some (.inr e, σ))
      else
        en_cI (x_m_right_0 σ 1 1) (fun r6 σ5 =>
          if r6 = 0 ∨ r6 = 1 then
            some (.inl (some (.int r6)), σ5)
          else
            none) (fun e σ => some (.inr e, σ)) := en_ex_un (G := bb_G) (P := bb_P) (ML := bb_ML) (HD := bb_HD) 22 0 69 0 [some (.ref 0), some (.int v1)] [] σ
set_option maxRecDepth 100000 in
set_option maxHeartbeats 1000000 in
theorem e_m_bits_0 (σ : en_S) (v0 : Int32) : x_m_bits_0 σ v0 =
    x_m_bits_4 σ v0 0 0 := en_ex_un (G := bb_G) (P := bb_P) (ML := bb_ML) (HD := bb_HD) 6 0 8 0 [some (.int v0), none, none] [] σ
set_option maxRecDepth 100000 in
set_option maxHeartbeats 1000000 in
theorem e_m_bits_4 (σ : en_S) (v0 : Int32) (v1 : Int32) (v2 : Int32) : x_m_bits_4 σ v0 v1 v2 =
    if (8 : Int32) ≤ v2 then
      some (.inl (some (.int v1)), σ)
    else
      x_m_bits_4 σ v0 (v1 + ((v0 >>> (v2 &&& 31)) &&& 1)) (v2 + 1) := en_ex_un (G := bb_G) (P := bb_P) (ML := bb_ML) (HD := bb_HD) 17 0 8 4 [some (.int v0), some (.int v1), some (.int v2)] [] σ
set_option maxRecDepth 100000 in
set_option maxHeartbeats 1000000 in
theorem e_m_mightOf_0 (σ : en_S) (v1 : Int32) (v2 : Int32) : x_m_mightOf_0 σ v1 v2 =
    if en_in v2 8 then
      if en_in ((v1 + 21) + v2) 58 then
        en_cI (x_m_greater_0 σ 0 ((σ.1 4 v2.toNatClampNeg) - (2 * (σ.1 18 (((v1 + 21) + v2).toNatClampNeg))))) (fun r2 σ1 =>
          some (.inl (some (.int r2)), σ1)) (fun e σ => some (.inr e, σ))
      else
        none
    else
      none := en_ex_un (G := bb_G) (P := bb_P) (ML := bb_ML) (HD := bb_HD) 20 0 49 0 [some (.ref 0), some (.int v1), some (.int v2)] [] σ
set_option maxRecDepth 100000 in
set_option maxHeartbeats 1000000 in
theorem e_m_refuses_0 (σ : en_S) (v1 : Int32) : x_m_refuses_0 σ v1 =
    if en_in v1 3 then
      if en_in v1 3 then
        some (.inl (some (.int (-1))), (en_u1 σ.1 8 v1.toNatClampNeg ((σ.1 8 v1.toNatClampNeg) + 1), σ.2))
      else
        none
    else
      none := en_ex_un (G := bb_G) (P := bb_P) (ML := bb_ML) (HD := bb_HD) 12 0 44 0 [some (.ref 0), some (.int v1)] [] σ
set_option maxRecDepth 100000 in
set_option maxHeartbeats 1000000 in
theorem e_m_keeps_0 (σ : en_S) : x_m_keeps_0 σ =
    if σ.1 0 47 = 40 then
      x_m_keeps_12 σ 29
    else
      x_m_keeps_52 σ 0 := en_ex_un (G := bb_G) (P := bb_P) (ML := bb_ML) (HD := bb_HD) 10 0 43 0 [some (.ref 0), none] [] σ
set_option maxRecDepth 100000 in
set_option maxHeartbeats 1000000 in
theorem e_m_keeps_52 (σ : en_S) (v1 : Int32) : x_m_keeps_52 σ v1 =
    if (29 : Int32) ≤ v1 then
      some (.inl none, (en_u1 σ.1 0 47 ((σ.1 0 47) + 1), σ.2))
    else
      if en_in v1 58 then
        if en_in ((29 * (σ.1 0 47)) + v1) 1160 then
          x_m_keeps_52 (en_u1 σ.1 19 (((29 * (σ.1 0 47)) + v1).toNatClampNeg) (σ.1 18 v1.toNatClampNeg), σ.2) (v1 + 1)
        else
          none
      else
        none := en_ex_un (G := bb_G) (P := bb_P) (ML := bb_ML) (HD := bb_HD) 27 0 43 52 [some (.ref 0), some (.int v1)] [] σ
set_option maxRecDepth 100000 in
set_option maxHeartbeats 1000000 in
theorem e_m_keeps_12 (σ : en_S) (v1 : Int32) : x_m_keeps_12 σ v1 =
    if (1160 : Int32) ≤ v1 then
      x_m_keeps_52 (en_u1 σ.1 0 47 ((σ.1 0 47) - 1), σ.2) 0
    else
      if en_in v1 1160 then
        if en_in (v1 - 29) 1160 then
          x_m_keeps_12 (en_u1 σ.1 19 ((v1 - 29).toNatClampNeg) (σ.1 19 v1.toNatClampNeg), σ.2) (v1 + 1)
        else
          none
      else
        none := en_ex_un (G := bb_G) (P := bb_P) (ML := bb_ML) (HD := bb_HD) 25 0 43 12 [some (.ref 0), some (.int v1)] [] σ
set_option maxRecDepth 100000 in
set_option maxHeartbeats 1000000 in
theorem e_m_dayGoes_0 (σ : en_S) (v1 : Int32) : x_m_dayGoes_0 σ v1 =
    x_m_dayGoes_17 (en_u1 (en_u1 (en_u1 σ.1 0 50 0) 0 51 0) 0 52 0, σ.2) v1 0 := en_ex_un (G := bb_G) (P := bb_P) (ML := bb_ML) (HD := bb_HD) 13 0 61 0 [some (.ref 0), some (.int v1), none] [] σ
set_option maxRecDepth 100000 in
set_option maxHeartbeats 1000000 in
theorem e_m_dayGoes_17 (σ : en_S) (v1 : Int32) (v2 : Int32) : x_m_dayGoes_17 σ v1 v2 =
    if σ.1 0 3 ≤ v2 then
      x_m_dayGoes_39 σ v1 0
    else
      en_cV (x_m_boxGoes_0 σ v1 v2) (fun σ1 =>
        x_m_dayGoes_17 σ1 v1 (v2 + 1)) (fun e σ => some (.inr e, σ)) := en_ex_un (G := bb_G) (P := bb_P) (ML := bb_ML) (HD := bb_HD) 14 0 61 17 [some (.ref 0), some (.int v1), some (.int v2)] [] σ
set_option maxRecDepth 100000 in
set_option maxHeartbeats 1000000 in
theorem e_m_dayGoes_39 (σ : en_S) (v1 : Int32) (v2 : Int32) : x_m_dayGoes_39 σ v1 v2 =
    if σ.1 0 4 ≤ v2 then
      if en_in (v1 + 0) 58 then
        if en_in (v1 + 0) 58 then
          some (.inl none, (en_u1 σ.1 18 ((v1 + 0).toNatClampNeg) ((σ.1 18 ((v1 + 0).toNatClampNeg)) + 1), σ.2))
        else
          none
      else
        none
    else
      if en_in ((v1 + 13) + v2) 58 then
        if σ.1 18 (((v1 + 13) + v2).toNatClampNeg) = (-1) then
          if ((σ.1 0 51) >>> (v2 &&& 31)) &&& 1 = 0 then
            if en_in ((v1 + 21) + v2) 58 then
              en_cI (x_m_greater_0 σ 0 ((σ.1 18 (((v1 + 21) + v2).toNatClampNeg)) - 2)) (fun r2 σ1 =>
                if en_in ((v1 + 21) + v2) 58 then
                  x_m_dayGoes_39 (en_u1 σ1.1 18 (((v1 + 21) + v2).toNatClampNeg) r2, σ1.2) v1 (v2 + 1)
                else
                  none) (fun e σ => some (.inr e, σ))
            else
              none
          else
            x_m_dayGoes_39 σ v1 (v2 + 1)
        else
          x_m_dayGoes_39 σ v1 (v2 + 1)
      else
        none := en_ex_un (G := bb_G) (P := bb_P) (ML := bb_ML) (HD := bb_HD) 60 0 61 39 [some (.ref 0), some (.int v1), some (.int v2)] [] σ
set_option maxRecDepth 100000 in
set_option maxHeartbeats 1000000 in
theorem e_m_talked_0 (σ : en_S) (v1 : Int32) (v2 : Int32) (v3 : Int32) : x_m_talked_0 σ v1 v2 v3 =
    en_cI (x_m_isBox_0 (en_u1 σ.1 0 0 0, σ.2) v1) (fun r2 σ1 =>
      if r2 = 0 then
        some (.inl (some (.int 0)), σ1)
      else
        en_cI (x_m_within_0 σ1 v2 1 30) (fun r4 σ3 =>
          if r4 = 0 then
            en_cI (x_m_refuses_0 σ3 1) (fun r6 σ5 =>
              some (.inl (some (.int r6)), σ5)) (fun e σ => some (.inr e, σ))
          else
            en_cV (x_m_keeps_0 σ3) (fun σ7 =>
              en_cV (x_m_weighs_0 σ7 0 v1 (v3 * v2)) (fun σ8 =>
                if en_in (1 + v1) 58 then
                  some (.inl (some (.int (σ8.1 18 ((1 + v1).toNatClampNeg)))), σ8)
                else
                  none) (fun e σ => some (.inr e, σ))) (fun e σ => some (.inr e, σ))) (fun e σ => some (.inr e, σ))) (fun e σ => some (.inr e, σ)) := en_ex_un (G := bb_G) (P := bb_P) (ML := bb_ML) (HD := bb_HD) 36 0 79 0 [some (.ref 0), some (.int v1), some (.int v2), some (.int v3)] [] σ
set_option maxRecDepth 100000 in
set_option maxHeartbeats 1000000 in
theorem e_m_isDays_0 (σ : en_S) (v1 : Int32) (v2 : Int32) (v3 : Int32) : x_m_isDays_0 σ v1 v2 v3 =
    en_cI (x_m_within_0 σ v1 v2 40) (fun r2 σ1 =>
      en_cI (x_m_right_0 σ1 r2 v3) (fun r4 σ3 =>
        if r4 = 0 ∨ r4 = 1 then
          some (.inl (some (.int r4)), σ3)
        else
          none) (fun e σ => some (.inr e, σ))) (fun e σ => some (.inr e, σ)) := en_ex_un (G := bb_G) (P := bb_P) (ML := bb_ML) (HD := bb_HD) 10 0 71 0 [some (.ref 0), some (.int v1), some (.int v2), some (.int v3)] [] σ
set_option maxRecDepth 100000 in
set_option maxHeartbeats 1000000 in
theorem e_m_goesTo_0 (σ : en_S) (v1 : Int32) : x_m_goesTo_0 σ v1 =
    en_cV (x_m_tries_0 σ) (fun σ1 =>
      en_cV (x_m_daysGo_0 σ1 v1) (fun σ2 =>
        some (.inl none, σ2)) (fun e σ => some (.inr e, σ))) (fun e σ => some (.inr e, σ)) := en_ex_un (G := bb_G) (P := bb_P) (ML := bb_ML) (HD := bb_HD) 8 0 82 0 [some (.ref 0), some (.int v1)] [] σ
set_option maxRecDepth 100000 in
set_option maxHeartbeats 1000000 in
theorem e_m_isBorne_0 (σ : en_S) (v1 : Int32) (v2 : Int32) : x_m_isBorne_0 σ v1 v2 =
    en_cI (x_m_handsAt_0 σ v1 v2) (fun r2 σ1 =>
      en_cI (x_m_canBear_0 σ1 v1 v2 r2) (fun r4 σ3 =>
        if r4 = 0 ∨ r4 = 1 then
          some (.inl (some (.int r4)), σ3)
        else
          none) (fun e σ => some (.inr e, σ))) (fun e σ => some (.inr e, σ)) := en_ex_un (G := bb_G) (P := bb_P) (ML := bb_ML) (HD := bb_HD) 11 0 53 0 [some (.ref 0), some (.int v1), some (.int v2)] [] σ
set_option maxRecDepth 100000 in
set_option maxHeartbeats 1000000 in
theorem e_m_tries_0 (σ : en_S) : x_m_tries_0 σ =
    x_m_tries_2 σ 0 := en_ex_un (G := bb_G) (P := bb_P) (ML := bb_ML) (HD := bb_HD) 4 0 46 0 [some (.ref 0), none] [] σ
set_option maxRecDepth 100000 in
set_option maxHeartbeats 1000000 in
theorem e_m_tries_2 (σ : en_S) (v1 : Int32) : x_m_tries_2 σ v1 =
    if (29 : Int32) ≤ v1 then
      some (.inl none, σ)
    else
      if en_in v1 58 then
        if en_in (29 + v1) 58 then
          x_m_tries_2 (en_u1 σ.1 18 ((29 + v1).toNatClampNeg) (σ.1 18 v1.toNatClampNeg), σ.2) (v1 + 1)
        else
          none
      else
        none := en_ex_un (G := bb_G) (P := bb_P) (ML := bb_ML) (HD := bb_HD) 18 0 46 2 [some (.ref 0), some (.int v1)] [] σ
set_option maxRecDepth 100000 in
set_option maxHeartbeats 1000000 in
theorem e_m_borneIn_0 (σ : en_S) (v1 : Int32) (v2 : Int32) : x_m_borneIn_0 σ v1 v2 =
    en_cV (x_m_tries_0 σ) (fun σ1 =>
      x_m_borneIn_6 σ1 v1 v2 0) (fun e σ => some (.inr e, σ)) := en_ex_un (G := bb_G) (P := bb_P) (ML := bb_ML) (HD := bb_HD) 6 0 86 0 [some (.ref 0), some (.int v1), some (.int v2), none] [] σ
set_option maxRecDepth 100000 in
set_option maxHeartbeats 1000000 in
theorem e_m_borneIn_6 (σ : en_S) (v1 : Int32) (v2 : Int32) (v3 : Int32) : x_m_borneIn_6 σ v1 v2 v3 =
    if (40 : Int32) < v3 then
      some (.inl (some (.int (-1))), σ)
    else
      en_cI (x_m_isBorne_0 σ 29 v1) (fun r2 σ1 =>
        if r2 = v2 then
          some (.inl (some (.int v3)), σ1)
        else
          en_cV (x_m_dayGoes_0 σ1 29) (fun σ3 =>
            x_m_borneIn_6 σ3 v1 v2 (v3 + 1)) (fun e σ => some (.inr e, σ))) (fun e σ => some (.inr e, σ)) := en_ex_un (G := bb_G) (P := bb_P) (ML := bb_ML) (HD := bb_HD) 20 0 86 6 [some (.ref 0), some (.int v1), some (.int v2), some (.int v3)] [] σ
set_option maxRecDepth 100000 in
set_option maxHeartbeats 1000000 in
theorem e_m_isTown_0 (σ : en_S) (v1 : Int32) : x_m_isTown_0 σ v1 =
    if v1 < 0 then
      en_cI (x_m_right_0 σ 0 1) (fun r2 σ1 =>
        if r2 = 0 ∨ r2 = 1 then
          some (.inl (some (.int r2)), σ1)
        else
          none) (fun e σ => some (.inr e, σ))
    else
      if σ.1 0 1 ≤ v1 then
        en_cI (x_m_right_0 σ 0 1) (fun r4 σ3 =>
          if r4 = 0 ∨ r4 = 1 then
            some (.inl (some (.int r4)), σ3)
          else
            none) (fun e σ => some (.inr e, σ))
      else
        en_cI (x_m_right_0 σ 1 1) (fun r6 σ5 =>
          if r6 = 0 ∨ r6 = 1 then
            some (.inl (some (.int r6)), σ5)
          else
            none) (fun e σ => some (.inr e, σ)) := en_ex_un (G := bb_G) (P := bb_P) (ML := bb_ML) (HD := bb_HD) 22 0 67 0 [some (.ref 0), some (.int v1)] [] σ
set_option maxRecDepth 100000 in
set_option maxHeartbeats 1000000 in
theorem e_m_fewestOf_0 (σ : en_S) (v1 : Int32) (v2 : Int32) : x_m_fewestOf_0 σ v1 v2 =
    if v1 = σ.1 0 3 then
      some (.inl (some (.int 0)), σ)
    else
      if en_in ((256 * v1) + v2) 1792 then
        some (.inl (some (.int (σ.1 22 (((256 * v1) + v2).toNatClampNeg)))), σ)
      else
        none := en_ex_un (G := bb_G) (P := bb_P) (ML := bb_ML) (HD := bb_HD) 18 0 92 0 [some (.ref 0), some (.int v1), some (.int v2)] [] σ
set_option maxRecDepth 100000 in
set_option maxHeartbeats 1000000 in
theorem e_m_canBear_0 (σ : en_S) (v1 : Int32) (v2 : Int32) (v3 : Int32) : x_m_canBear_0 σ v1 v2 v3 =
    if v3 = 0 then
      some (.inl (some (.int 0)), σ)
    else
      en_cI (x_m_mightBy_0 σ v1 v3) (fun r2 σ1 =>
        if en_in ((v1 + 1) + v2) 58 then
          if r2 < σ1.1 18 (((v1 + 1) + v2).toNatClampNeg) then
            some (.inl (some (.int 0)), σ1)
          else
            some (.inl (some (.int 1)), σ1)
        else
          none) (fun e σ => some (.inr e, σ)) := en_ex_un (G := bb_G) (P := bb_P) (ML := bb_ML) (HD := bb_HD) 24 0 52 0 [some (.ref 0), some (.int v1), some (.int v2), some (.int v3)] [] σ
set_option maxRecDepth 100000 in
set_option maxHeartbeats 1000000 in
theorem e_m_lesser_0 (σ : en_S) (v0 : Int32) (v1 : Int32) : x_m_lesser_0 σ v0 v1 =
    if v1 ≤ v0 then
      some (.inl (some (.int v1)), σ)
    else
      some (.inl (some (.int v0)), σ) := en_ex_un (G := bb_G) (P := bb_P) (ML := bb_ML) (HD := bb_HD) 10 0 5 0 [some (.int v0), some (.int v1)] [] σ
