/-! written by a program: each region's equation -/
set_option maxRecDepth 100000 in
set_option maxHeartbeats 1000000 in
theorem e_b_feed_0 (σ : en_S) (v1 : Int32) (v2 : Int32) (v3 : Int32) (v4 : Int32) (v5 : Int32) : x_b_feed_0 σ v1 v2 v3 v4 v5 =
    if (σ.1 31 1) + 20 ≤ 700 then
      en_cV (x_b_putBytes_0 σ v1) (fun σ1 =>
        en_cV (x_b_putBytes_0 σ1 v2) (fun σ2 =>
          en_cV (x_b_putBytes_0 σ2 v3) (fun σ3 =>
            en_cV (x_b_putBytes_0 σ3 v4) (fun σ4 =>
              en_cV (x_b_putBytes_0 σ4 v5) (fun σ5 =>
                some (.inl (some (.int (σ5.1 31 1))), σ5)) (fun e σ => some (.inr e, σ))) (fun e σ => some (.inr e, σ))) (fun e σ => some (.inr e, σ))) (fun e σ => some (.inr e, σ))) (fun e σ => some (.inr e, σ))
    else
      some (.inl (some (.int (-1))), σ) := en_ex_un (G := bb_G) (P := bb_P) (ML := bb_ML) (HD := bb_HD) 28 0 10001 0 [some (.ref 31), some (.int v1), some (.int v2), some (.int v3), some (.int v4), some (.int v5)] [] σ
set_option maxRecDepth 100000 in
set_option maxHeartbeats 1000000 in
theorem e_b_fault_0 (σ : en_S) : x_b_fault_0 σ =
    some (.inl (some (.int (σ.1 31 2))), σ) := en_ex_un (G := bb_G) (P := bb_P) (ML := bb_ML) (HD := bb_HD) 5 0 10003 0 [some (.ref 31)] [] σ
set_option maxRecDepth 100000 in
set_option maxHeartbeats 1000000 in
theorem e_b_days_0 (σ : en_S) (v1 : Int32) : x_b_days_0 σ v1 =
    if v1 < 1 then
      en_cI (x_b_refuseAct_0 σ (-1)) (fun r2 σ1 =>
        some (.inl (some (.int r2)), σ1)) (fun e σ => some (.inr e, σ))
    else
      if (20 : Int32) < v1 then
        en_cI (x_b_refuseAct_0 σ (-1)) (fun r4 σ3 =>
          some (.inl (some (.int r4)), σ3)) (fun e σ => some (.inr e, σ))
      else
        if (σ.1 67 1) + v1 ≤ 999 then
          en_cV (x_ps_keep_p79_67_0 σ) (fun σ5 =>
            en_cI (x_st_passDays_p67_0 σ5 v1) (fun r7 σ6 =>
              some (.inl (some (.int (σ6.1 67 1))), σ6)) (fun e σ => some (.inr e, σ))) (fun e σ => some (.inr e, σ))
        else
          en_cI (x_b_refuseAct_0 σ (-1)) (fun r9 σ8 =>
            some (.inl (some (.int r9)), σ8)) (fun e σ => some (.inr e, σ)) := en_ex_un (G := bb_G) (P := bb_P) (ML := bb_ML) (HD := bb_HD) 41 0 10007 0 [some (.ref 31), some (.int v1)] [] σ
set_option maxRecDepth 100000 in
set_option maxHeartbeats 1000000 in
theorem e_b_undo_0 (σ : en_S) : x_b_undo_0 σ =
    en_cI (x_ps_takeBack_p79_67_0 σ) (fun r2 σ1 =>
      if r2 = 0 then
        some (.inl (some (.int (-1))), σ1)
      else
        some (.inl (some (.int (σ1.1 79 0))), σ1)) (fun e σ => some (.inr e, σ)) := en_ex_un (G := bb_G) (P := bb_P) (ML := bb_ML) (HD := bb_HD) 15 0 10013 0 [some (.ref 31)] [] σ
set_option maxRecDepth 100000 in
set_option maxHeartbeats 1000000 in
theorem e_b_forget_0 (σ : en_S) : x_b_forget_0 σ =
    some (.inl none, (en_u1 σ.1 81 0 0, σ.2)) := en_ex_un (G := bb_G) (P := bb_P) (ML := bb_ML) (HD := bb_HD) 7 0 10027 0 [some (.ref 31)] [] σ
set_option maxRecDepth 100000 in
set_option maxHeartbeats 1000000 in
theorem e_b_image_0 (σ : en_S) : x_b_image_0 σ =
    en_cV (x_st_copyFrom_p85_67_0 σ) (fun σ1 =>
      en_cV (x_ps_copyFrom_p91_79_0 σ1) (fun σ2 =>
        en_cV (x_se_copyFrom_p93_81_0 σ2) (fun σ3 =>
          some (.inl none, (en_u1 σ3.1 31 11 1, σ3.2))) (fun e σ => some (.inr e, σ))) (fun e σ => some (.inr e, σ))) (fun e σ => some (.inr e, σ)) := en_ex_un (G := bb_G) (P := bb_P) (ML := bb_ML) (HD := bb_HD) 21 0 10041 0 [some (.ref 31)] [] σ
set_option maxRecDepth 100000 in
set_option maxHeartbeats 1000000 in
theorem e_b_restore_0 (σ : en_S) : x_b_restore_0 σ =
    if σ.1 31 11 = 0 then
      some (.inl (some (.int 0)), σ)
    else
      en_cV (x_st_copyFrom_p67_85_0 σ) (fun σ1 =>
        en_cV (x_ps_copyFrom_p79_91_0 σ1) (fun σ2 =>
          en_cV (x_se_copyFrom_p81_93_0 σ2) (fun σ3 =>
            some (.inl (some (.int 1)), σ3)) (fun e σ => some (.inr e, σ))) (fun e σ => some (.inr e, σ))) (fun e σ => some (.inr e, σ)) := en_ex_un (G := bb_G) (P := bb_P) (ML := bb_ML) (HD := bb_HD) 24 0 10042 0 [some (.ref 31)] [] σ
set_option maxRecDepth 100000 in
set_option maxHeartbeats 1000000 in
theorem e_b_putBytes_0 (σ : en_S) (v1 : Int32) : x_b_putBytes_0 σ v1 =
    x_b_putBytes_3 σ v1 24 := en_ex_un (G := bb_G) (P := bb_P) (ML := bb_ML) (HD := bb_HD) 4 0 10043 0 [some (.ref 31), some (.int v1), none] [] σ
set_option maxRecDepth 100000 in
set_option maxHeartbeats 1000000 in
theorem e_b_putBytes_3 (σ : en_S) (v1 : Int32) (v2 : Int32) : x_b_putBytes_3 σ v1 v2 =
    if v2 < 0 then
      some (.inl none, σ)
    else
      if (700 : Int32) ≤ σ.1 31 1 then
        some (.inl none, σ)
      else
        if en_in (σ.1 31 1) 700 then
          x_b_putBytes_3 (en_u1 (en_u1 σ.1 32 ((σ.1 31 1).toNatClampNeg) (vp_nar .byte ((en_ushr v1 v2).toInt8.toInt32))) 31 1 ((σ.1 31 1) + 1), σ.2) v1 (v2 + (-8))
        else
          none := en_ex_un (G := bb_G) (P := bb_P) (ML := bb_ML) (HD := bb_HD) 27 0 10043 3 [some (.ref 31), some (.int v1), some (.int v2)] [] σ
set_option maxRecDepth 100000 in
set_option maxHeartbeats 1000000 in
theorem e_b_land_0 (σ : en_S) (v1 : Int32) : x_b_land_0 σ v1 =
    if v1 < 0 then
      some (.inr 2, σ)
    else
      if v1 ≤ σ.1 31 1 then
        en_cI (x_rd_readText_0 σ v1) (fun r2 σ1 =>
          if r2 = 0 then
            en_cV (x_ld_copyFrom_p34_50_0 (en_u1 (en_u1 σ1.1 31 2 (σ1.1 66 10)) 31 1 0, σ1.2)) (fun σ3 =>
              en_cV (x_st_begin_p67_0 σ3) (fun σ4 =>
                some (.inl (some (.int 0)), (en_u1 (en_u1 (en_u1 σ4.1 79 0 0) 81 0 0) 31 11 0, σ4.2))) (fun e σ => some (.inr e, σ))) (fun e σ => some (.inr e, σ))
          else
            some (.inl (some (.int r2)), (en_u1 (en_u1 (en_u1 σ1.1 31 2 (σ1.1 66 10)) 31 1 0) 33 0 ((σ1.1 33 0) + 1), σ1.2))) (fun e σ => some (.inr e, σ))
      else
        some (.inr 2, σ) := en_ex_un (G := bb_G) (P := bb_P) (ML := bb_ML) (HD := bb_HD) 56 0 10002 0 [some (.ref 31), some (.int v1), none] [] σ
set_option maxRecDepth 100000 in
set_option maxHeartbeats 1000000 in
theorem e_b_count_0 (σ : en_S) (v1 : Int32) : x_b_count_0 σ v1 =
    if v1 = 0 then
      some (.inl (some (.int (σ.1 34 0))), σ)
    else
      if v1 = 1 then
        some (.inl (some (.int (σ.1 34 1))), σ)
      else
        if v1 = 2 then
          some (.inl (some (.int (σ.1 34 5))), σ)
        else
          if v1 = 3 then
            some (.inl (some (.int (σ.1 34 9))), σ)
          else
            if v1 = 4 then
              some (.inl (some (.int (σ.1 67 1))), σ)
            else
              if v1 = 5 then
                en_cI (x_st_borneBits_p67_0 σ) (fun r8 σ7 =>
                  some (.inl (some (.int r8)), σ7)) (fun e σ => some (.inr e, σ))
              else
                if v1 = 6 then
                  en_cI (x_st_bitsUnder_p67_0 σ (-1)) (fun r6 σ5 =>
                    some (.inl (some (.int r6)), σ5)) (fun e σ => some (.inr e, σ))
                else
                  if v1 = 7 then
                    en_cI (x_st_weightOfAll_p67_0 σ) (fun r4 σ3 =>
                      some (.inl (some (.int r4)), σ3)) (fun e σ => some (.inr e, σ))
                  else
                    if v1 = 8 then
                      en_cI (x_ld_pairs_p34_0 σ) (fun r2 σ1 =>
                        some (.inl (some (.int r2)), σ1)) (fun e σ => some (.inr e, σ))
                    else
                      if v1 = 9 then
                        some (.inl (some (.int (σ.1 79 0))), σ)
                      else
                        if v1 = 10 then
                          some (.inl (some (.int (σ.1 81 0))), σ)
                        else
                          if v1 = 11 then
                            some (.inl (some (.int (σ.1 31 1))), σ)
                          else
                            if v1 = 12 then
                              some (.inl (some (.int (σ.1 33 0))), σ)
                            else
                              if v1 = 13 then
                                some (.inl (some (.int (σ.1 33 1))), σ)
                              else
                                if v1 = 14 then
                                  some (.inl (some (.int (σ.1 33 2))), σ)
                                else
                                  some (.inr 1, σ) := en_ex_un (G := bb_G) (P := bb_P) (ML := bb_ML) (HD := bb_HD) 68 0 10004 0 [some (.ref 31), some (.int v1)] [] σ
set_option maxRecDepth 100000 in
set_option maxHeartbeats 1000000 in
theorem e_b_box_0 (σ : en_S) (v1 : Int32) (v2 : Int32) : x_b_box_0 σ v1 v2 =
    en_cV (x_b_checkBox_0 σ v1) (fun σ1 =>
      if v2 = 0 then
        if en_in v1 6 then
          some (.inl (some (.int (σ1.1 68 v1.toNatClampNeg))), σ1)
        else
          none
      else
        if v2 = 1 then
          en_cI (x_st_townOf_p67_0 σ1 v1) (fun r15 σ14 =>
            some (.inl (some (.int r15)), σ14)) (fun e σ => some (.inr e, σ))
        else
          if v2 = 2 then
            en_cI (x_st_bitsUnder_p67_0 σ1 v1) (fun r13 σ12 =>
              some (.inl (some (.int r13)), σ12)) (fun e σ => some (.inr e, σ))
          else
            if v2 = 3 then
              en_cI (x_st_bitsUnder_p67_0 σ1 v1) (fun r9 σ8 =>
                en_cI (x_ld_leanOf_p34_0 σ8 r9) (fun r11 σ10 =>
                  some (.inl (some (.int r11)), σ10)) (fun e σ => some (.inr e, σ))) (fun e σ => some (.inr e, σ))
            else
              if v2 = 4 then
                en_cI (x_st_bitsUnder_p67_0 σ1 v1) (fun r5 σ4 =>
                  en_cI (x_st_mightOfAll_p67_0 σ4 r5) (fun r7 σ6 =>
                    if en_in v1 6 then
                      some (.inl (some (.int (r7 - (σ6.1 68 v1.toNatClampNeg)))), σ6)
                    else
                      none) (fun e σ => some (.inr e, σ))) (fun e σ => some (.inr e, σ))
              else
                if v2 = 5 then
                  if en_in v1 6 then
                    some (.inl (some (.int (σ1.1 39 v1.toNatClampNeg))), σ1)
                  else
                    none
                else
                  if v2 = 6 then
                    en_cI (x_st_neededBits_p67_0 σ1 v1) (fun r3 σ2 =>
                      some (.inl (some (.int r3)), σ2)) (fun e σ => some (.inr e, σ))
                  else
                    some (.inr 1, σ1)) (fun e σ => some (.inr e, σ)) := en_ex_un (G := bb_G) (P := bb_P) (ML := bb_ML) (HD := bb_HD) 57 0 10005 0 [some (.ref 31), some (.int v1), some (.int v2)] [] σ
set_option maxRecDepth 100000 in
set_option maxHeartbeats 1000000 in
theorem e_b_bearer_0 (σ : en_S) (v1 : Int32) (v2 : Int32) : x_b_bearer_0 σ v1 v2 =
    en_cV (x_b_checkBearer_0 σ v1) (fun σ1 =>
      if v2 = 0 then
        if en_in v1 8 then
          some (.inl (some (.int (σ1.1 41 v1.toNatClampNeg))), σ1)
        else
          none
      else
        if v2 = 1 then
          if en_in v1 8 then
            some (.inl (some (.int (σ1.1 42 v1.toNatClampNeg))), σ1)
          else
            none
        else
          if v2 = 2 then
            if en_in v1 8 then
              some (.inl (some (.int (σ1.1 70 v1.toNatClampNeg))), σ1)
            else
              none
          else
            if v2 = 3 then
              if en_in v1 8 then
                some (.inl (some (.int (σ1.1 71 v1.toNatClampNeg))), σ1)
              else
                none
            else
              if v2 = 4 then
                en_cI (x_st_mightOf_p67_0 σ1 v1) (fun r5 σ4 =>
                  some (.inl (some (.int r5)), σ4)) (fun e σ => some (.inr e, σ))
              else
                if v2 = 5 then
                  en_cI (x_st_loadOf_p67_0 σ1 v1) (fun r3 σ2 =>
                    some (.inl (some (.int r3)), σ2)) (fun e σ => some (.inr e, σ))
                else
                  some (.inr 1, σ1)) (fun e σ => some (.inr e, σ)) := en_ex_un (G := bb_G) (P := bb_P) (ML := bb_ML) (HD := bb_HD) 42 0 10006 0 [some (.ref 31), some (.int v1), some (.int v2)] [] σ
set_option maxRecDepth 100000 in
set_option maxHeartbeats 1000000 in
theorem e_b_refuseAct_0 (σ : en_S) (v1 : Int32) : x_b_refuseAct_0 σ v1 =
    some (.inl (some (.int v1)), (en_u1 σ.1 33 1 ((σ.1 33 1) + 1), σ.2)) := en_ex_un (G := bb_G) (P := bb_P) (ML := bb_ML) (HD := bb_HD) 12 0 10044 0 [some (.ref 31), some (.int v1)] [] σ
set_option maxRecDepth 100000 in
set_option maxHeartbeats 1000000 in
theorem e_b_hand_0 (σ : en_S) (v1 : Int32) (v2 : Int32) : x_b_hand_0 σ v1 v2 =
    en_cV (x_b_checkBearer_0 σ v1) (fun σ1 =>
      en_cV (x_b_checkBox_0 σ1 v2) (fun σ2 =>
        if en_in v1 8 then
          if σ2.1 70 v1.toNatClampNeg = v2 then
            en_cI (x_b_refuseAct_0 σ2 (-2)) (fun r4 σ3 =>
              some (.inl (some (.int r4)), σ3)) (fun e σ => some (.inr e, σ))
          else
            en_cV (x_ps_keep_p79_67_0 σ2) (fun σ5 =>
              if en_in v1 8 then
                some (.inl (some (.int (σ2.1 70 v1.toNatClampNeg))), (en_u1 σ5.1 70 v1.toNatClampNeg v2, σ5.2))
              else
                none) (fun e σ => some (.inr e, σ))
        else
          none) (fun e σ => some (.inr e, σ))) (fun e σ => some (.inr e, σ)) := en_ex_un (G := bb_G) (P := bb_P) (ML := bb_ML) (HD := bb_HD) 34 0 10008 0 [some (.ref 31), some (.int v1), some (.int v2), none] [] σ
set_option maxRecDepth 100000 in
set_option maxHeartbeats 1000000 in
theorem e_b_away_0 (σ : en_S) (v1 : Int32) : x_b_away_0 σ v1 =
    en_cV (x_b_checkBearer_0 σ v1) (fun σ1 =>
      if en_in v1 8 then
        if σ1.1 70 v1.toNatClampNeg = (-1) then
          en_cI (x_b_refuseAct_0 σ1 (-1)) (fun r3 σ2 =>
            some (.inl (some (.int r3)), σ2)) (fun e σ => some (.inr e, σ))
        else
          en_cV (x_ps_keep_p79_67_0 σ1) (fun σ4 =>
            if en_in v1 8 then
              some (.inl (some (.int (σ1.1 70 v1.toNatClampNeg))), (en_u1 σ4.1 70 v1.toNatClampNeg (-1), σ4.2))
            else
              none) (fun e σ => some (.inr e, σ))
      else
        none) (fun e σ => some (.inr e, σ)) := en_ex_un (G := bb_G) (P := bb_P) (ML := bb_ML) (HD := bb_HD) 31 0 10009 0 [some (.ref 31), some (.int v1), none] [] σ
set_option maxRecDepth 100000 in
set_option maxHeartbeats 1000000 in
theorem e_b_change_0 (σ : en_S) (v1 : Int32) (v2 : Int32) : x_b_change_0 σ v1 v2 =
    en_cV (x_b_checkBearer_0 σ v1) (fun σ1 =>
      en_cV (x_b_checkBearer_0 σ1 v2) (fun σ2 =>
        if en_in v1 8 then
          if en_in v2 8 then
            if σ2.1 70 v1.toNatClampNeg = σ2.1 70 v2.toNatClampNeg then
              en_cI (x_b_refuseAct_0 σ2 (-1)) (fun r4 σ3 =>
                some (.inl (some (.int 0)), σ3)) (fun e σ => some (.inr e, σ))
            else
              en_cV (x_ps_keep_p79_67_0 σ2) (fun σ5 =>
                if en_in v1 8 then
                  if en_in v2 8 then
                    some (.inl (some (.int 1)), (en_u1 (en_u1 σ5.1 70 v1.toNatClampNeg (σ2.1 70 v2.toNatClampNeg)) 70 v2.toNatClampNeg (σ2.1 70 v1.toNatClampNeg), σ5.2))
                  else
                    none
                else
                  none) (fun e σ => some (.inr e, σ))
          else
            none
        else
          none) (fun e σ => some (.inr e, σ))) (fun e σ => some (.inr e, σ)) := en_ex_un (G := bb_G) (P := bb_P) (ML := bb_ML) (HD := bb_HD) 48 0 10010 0 [some (.ref 31), some (.int v1), some (.int v2), none, none] [] σ
set_option maxRecDepth 100000 in
set_option maxHeartbeats 1000000 in
theorem e_b_slander_0 (σ : en_S) (v1 : Int32) (v2 : Int32) : x_b_slander_0 σ v1 v2 =
    en_cV (x_b_checkBox_0 σ v1) (fun σ1 =>
      if v2 < 1 then
        en_cI (x_b_refuseAct_0 σ1 (-1)) (fun r3 σ2 =>
          some (.inl (some (.int r3)), σ2)) (fun e σ => some (.inr e, σ))
      else
        if v2 ≤ 30 then
          en_cV (x_ps_keep_p79_67_0 σ1) (fun σ4 =>
            en_cV (x_st_addWeight_p67_0 σ4 v1 (-v2)) (fun σ5 =>
              if en_in v1 6 then
                some (.inl (some (.int (σ5.1 68 v1.toNatClampNeg))), σ5)
              else
                none) (fun e σ => some (.inr e, σ))) (fun e σ => some (.inr e, σ))
        else
          en_cI (x_b_refuseAct_0 σ1 (-1)) (fun r7 σ6 =>
            some (.inl (some (.int r7)), σ6)) (fun e σ => some (.inr e, σ))) (fun e σ => some (.inr e, σ)) := en_ex_un (G := bb_G) (P := bb_P) (ML := bb_ML) (HD := bb_HD) 36 0 10011 0 [some (.ref 31), some (.int v1), some (.int v2)] [] σ
set_option maxRecDepth 100000 in
set_option maxHeartbeats 1000000 in
theorem e_b_praise_0 (σ : en_S) (v1 : Int32) (v2 : Int32) : x_b_praise_0 σ v1 v2 =
    en_cV (x_b_checkBox_0 σ v1) (fun σ1 =>
      if v2 < 1 then
        en_cI (x_b_refuseAct_0 σ1 (-1)) (fun r3 σ2 =>
          some (.inl (some (.int r3)), σ2)) (fun e σ => some (.inr e, σ))
      else
        if v2 ≤ 30 then
          en_cV (x_ps_keep_p79_67_0 σ1) (fun σ4 =>
            en_cV (x_st_addWeight_p67_0 σ4 v1 v2) (fun σ5 =>
              if en_in v1 6 then
                some (.inl (some (.int (σ5.1 68 v1.toNatClampNeg))), σ5)
              else
                none) (fun e σ => some (.inr e, σ))) (fun e σ => some (.inr e, σ))
        else
          en_cI (x_b_refuseAct_0 σ1 (-1)) (fun r7 σ6 =>
            some (.inl (some (.int r7)), σ6)) (fun e σ => some (.inr e, σ))) (fun e σ => some (.inr e, σ)) := en_ex_un (G := bb_G) (P := bb_P) (ML := bb_ML) (HD := bb_HD) 35 0 10012 0 [some (.ref 31), some (.int v1), some (.int v2)] [] σ
set_option maxRecDepth 100000 in
set_option maxHeartbeats 1000000 in
theorem e_b_then_0 (σ : en_S) (v1 : Int32) (v2 : Int32) (v3 : Int32) : x_b_then_0 σ v1 v2 v3 =
    en_cV (x_b_checkBox_0 σ v1) (fun σ1 =>
      en_cV (x_b_checkWhat_0 σ1 v3 3) (fun σ2 =>
        en_cV (x_b_checkRange_0 σ2 v2 0 40) (fun σ3 =>
          en_cI (x_b_lookAhead_0 σ3 v2) (fun r5 σ4 =>
            if v3 = 0 then
              if en_in v1 6 then
                some (.inl (some (.int (σ4.1 74 v1.toNatClampNeg))), σ4)
              else
                none
            else
              if v3 = 1 then
                en_cI (x_st_townOf_p73_0 σ4 v1) (fun r11 σ10 =>
                  some (.inl (some (.int r11)), σ10)) (fun e σ => some (.inr e, σ))
              else
                if v3 = 2 then
                  en_cI (x_st_bitsUnder_p73_0 σ4 v1) (fun r9 σ8 =>
                    some (.inl (some (.int r9)), σ8)) (fun e σ => some (.inr e, σ))
                else
                  en_cI (x_st_isBorne_p73_0 σ4 v1) (fun r7 σ6 =>
                    if r7 = 0 then
                      some (.inl (some (.int 0)), σ6)
                    else
                      some (.inl (some (.int 1)), σ6)) (fun e σ => some (.inr e, σ))) (fun e σ => some (.inr e, σ))) (fun e σ => some (.inr e, σ))) (fun e σ => some (.inr e, σ))) (fun e σ => some (.inr e, σ)) := en_ex_un (G := bb_G) (P := bb_P) (ML := bb_ML) (HD := bb_HD) 44 0 10014 0 [some (.ref 31), some (.int v1), some (.int v2), some (.int v3)] [] σ
set_option maxRecDepth 100000 in
set_option maxHeartbeats 1000000 in
theorem e_b_who_0 (σ : en_S) (v1 : Int32) (v2 : Int32) (v3 : Int32) : x_b_who_0 σ v1 v2 v3 =
    en_cV (x_b_checkBearer_0 σ v1) (fun σ1 =>
      en_cV (x_b_checkWhat_0 σ1 v3 1) (fun σ2 =>
        en_cV (x_b_checkRange_0 σ2 v2 0 40) (fun σ3 =>
          en_cI (x_b_lookAhead_0 σ3 v2) (fun r5 σ4 =>
            if v3 = 0 then
              if en_in v1 8 then
                some (.inl (some (.int (σ4.1 77 v1.toNatClampNeg))), σ4)
              else
                none
            else
              if en_in v1 8 then
                some (.inl (some (.int (σ4.1 76 v1.toNatClampNeg))), σ4)
              else
                none) (fun e σ => some (.inr e, σ))) (fun e σ => some (.inr e, σ))) (fun e σ => some (.inr e, σ))) (fun e σ => some (.inr e, σ)) := en_ex_un (G := bb_G) (P := bb_P) (ML := bb_ML) (HD := bb_HD) 31 0 10015 0 [some (.ref 31), some (.int v1), some (.int v2), some (.int v3)] [] σ
set_option maxRecDepth 100000 in
set_option maxHeartbeats 1000000 in
theorem e_b_fallen_0 (σ : en_S) (v1 : Int32) : x_b_fallen_0 σ v1 =
    en_cV (x_b_checkBox_0 σ v1) (fun σ1 =>
      en_cV (x_st_copyFrom_p73_67_0 σ1) (fun σ2 =>
        x_b_fallen_18 σ2 v1 1) (fun e σ => some (.inr e, σ))) (fun e σ => some (.inr e, σ)) := en_ex_un (G := bb_G) (P := bb_P) (ML := bb_ML) (HD := bb_HD) 12 0 10016 0 [some (.ref 31), some (.int v1), none] [] σ
set_option maxRecDepth 100000 in
set_option maxHeartbeats 1000000 in
theorem e_b_fallen_18 (σ : en_S) (v1 : Int32) (v2 : Int32) : x_b_fallen_18 σ v1 v2 =
    if (40 : Int32) < v2 then
      some (.inl (some (.int (-1))), σ)
    else
      en_cV (x_st_passDay_p73_0 σ) (fun σ1 =>
        en_cI (x_b_hasBit_0 σ1 (σ1.1 73 6) v1) (fun r3 σ2 =>
          if r3 = 0 then
            x_b_fallen_18 σ2 v1 (v2 + 1)
          else
            some (.inl (some (.int v2)), σ2)) (fun e σ => some (.inr e, σ))) (fun e σ => some (.inr e, σ)) := en_ex_un (G := bb_G) (P := bb_P) (ML := bb_ML) (HD := bb_HD) 20 0 10016 18 [some (.ref 31), some (.int v1), some (.int v2)] [] σ
set_option maxRecDepth 100000 in
set_option maxHeartbeats 1000000 in
theorem e_b_rests_0 (σ : en_S) (v1 : Int32) : x_b_rests_0 σ v1 =
    en_cV (x_b_checkBox_0 σ v1) (fun σ1 =>
      en_cI (x_b_firstBorne_0 σ1 v1 0) (fun r3 σ2 =>
        some (.inl (some (.int r3)), σ2)) (fun e σ => some (.inr e, σ))) (fun e σ => some (.inr e, σ)) := en_ex_un (G := bb_G) (P := bb_P) (ML := bb_ML) (HD := bb_HD) 10 0 10017 0 [some (.ref 31), some (.int v1)] [] σ
set_option maxRecDepth 100000 in
set_option maxHeartbeats 1000000 in
theorem e_b_meet_0 (σ : en_S) (v1 : Int32) (v2 : Int32) : x_b_meet_0 σ v1 v2 =
    en_cV (x_b_checkBox_0 σ v1) (fun σ1 =>
      en_cV (x_b_checkBox_0 σ1 v2) (fun σ2 =>
        if v1 = v2 then
          some (.inl (some (.int (-1))), σ2)
        else
          en_cV (x_st_copyFrom_p73_67_0 σ2) (fun σ3 =>
            x_b_meet_30 σ3 v1 v2 0) (fun e σ => some (.inr e, σ))) (fun e σ => some (.inr e, σ))) (fun e σ => some (.inr e, σ)) := en_ex_un (G := bb_G) (P := bb_P) (ML := bb_ML) (HD := bb_HD) 20 0 10018 0 [some (.ref 31), some (.int v1), some (.int v2), none] [] σ
set_option maxRecDepth 100000 in
set_option maxHeartbeats 1000000 in
theorem e_b_meet_30 (σ : en_S) (v1 : Int32) (v2 : Int32) (v3 : Int32) : x_b_meet_30 σ v1 v2 v3 =
    if (40 : Int32) < v3 then
      some (.inl (some (.int (-1))), σ)
    else
      en_cI (x_st_townOf_p73_0 σ v1) (fun r2 σ1 =>
        en_cI (x_st_townOf_p73_0 σ1 v2) (fun r4 σ3 =>
          if r2 = r4 then
            some (.inl (some (.int v3)), σ3)
          else
            en_cV (x_st_passDay_p73_0 σ3) (fun σ5 =>
              x_b_meet_30 σ5 v1 v2 (v3 + 1)) (fun e σ => some (.inr e, σ))) (fun e σ => some (.inr e, σ))) (fun e σ => some (.inr e, σ)) := en_ex_un (G := bb_G) (P := bb_P) (ML := bb_ML) (HD := bb_HD) 23 0 10018 30 [some (.ref 31), some (.int v1), some (.int v2), some (.int v3)] [] σ
set_option maxRecDepth 100000 in
set_option maxHeartbeats 1000000 in
theorem e_b_later_0 (σ : en_S) (v1 : Int32) (v2 : Int32) : x_b_later_0 σ v1 v2 =
    en_cV (x_b_checkWhat_0 σ v2 1) (fun σ1 =>
      en_cV (x_b_checkRange_0 σ1 v1 0 40) (fun σ2 =>
        en_cI (x_b_lookAhead_0 σ2 v1) (fun r4 σ3 =>
          if v2 = 0 then
            en_cI (x_st_heaviest_p73_0 σ3) (fun r6 σ5 =>
              some (.inl (some (.int r6)), σ5)) (fun e σ => some (.inr e, σ))
          else
            some (.inl (some (.int r4)), σ3)) (fun e σ => some (.inr e, σ))) (fun e σ => some (.inr e, σ))) (fun e σ => some (.inr e, σ)) := en_ex_un (G := bb_G) (P := bb_P) (ML := bb_ML) (HD := bb_HD) 22 0 10019 0 [some (.ref 31), some (.int v1), some (.int v2), none] [] σ
set_option maxRecDepth 100000 in
set_option maxHeartbeats 1000000 in
theorem e_b_calls_0 (σ : en_S) (v1 : Int32) (v2 : Int32) : x_b_calls_0 σ v1 v2 =
    en_cV (x_b_checkTown_0 σ v1) (fun σ1 =>
      en_cV (x_b_checkRange_0 σ1 v2 0 40) (fun σ2 =>
        en_cV (x_st_copyFrom_p73_67_0 σ2) (fun σ3 =>
          en_cI (x_st_bitsIn_p73_0 σ3 v1) (fun r5 σ4 =>
            x_b_calls_35 σ4 v1 v2 r5 1) (fun e σ => some (.inr e, σ))) (fun e σ => some (.inr e, σ))) (fun e σ => some (.inr e, σ))) (fun e σ => some (.inr e, σ)) := en_ex_un (G := bb_G) (P := bb_P) (ML := bb_ML) (HD := bb_HD) 21 0 10020 0 [some (.ref 31), some (.int v1), some (.int v2), none, none] [] σ
set_option maxRecDepth 100000 in
set_option maxHeartbeats 1000000 in
theorem e_b_calls_35 (σ : en_S) (v1 : Int32) (v2 : Int32) (v3 : Int32) (v4 : Int32) : x_b_calls_35 σ v1 v2 v3 v4 =
    if v2 < v4 then
      some (.inl (some (.int v3)), σ)
    else
      en_cV (x_st_passDay_p73_0 σ) (fun σ1 =>
        en_cI (x_st_bitsIn_p73_0 σ1 v1) (fun r3 σ2 =>
          x_b_calls_35 σ2 v1 v2 (v3 ||| r3) (v4 + 1)) (fun e σ => some (.inr e, σ))) (fun e σ => some (.inr e, σ)) := en_ex_un (G := bb_G) (P := bb_P) (ML := bb_ML) (HD := bb_HD) 19 0 10020 35 [some (.ref 31), some (.int v1), some (.int v2), some (.int v3), some (.int v4)] [] σ
set_option maxRecDepth 100000 in
set_option maxHeartbeats 1000000 in
theorem e_b_toBear_0 (σ : en_S) (v1 : Int32) : x_b_toBear_0 σ v1 =
    if v1 = (-1) then
      en_cV (x_sh_workOut_0 σ) (fun σ1 =>
        if v1 = (-1) then
          en_cI (x_sh_fewestOfAll_0 σ1) (fun r3 σ2 =>
            some (.inl (some (.int r3)), σ2)) (fun e σ => some (.inr e, σ))
        else
          en_cI (x_sh_rowAt_0 σ1 v1) (fun r5 σ4 =>
            some (.inl (some (.int r5)), σ4)) (fun e σ => some (.inr e, σ))) (fun e σ => some (.inr e, σ))
    else
      en_cV (x_b_checkBox_0 σ v1) (fun σ6 =>
        en_cV (x_sh_workOut_0 σ6) (fun σ7 =>
          if v1 = (-1) then
            en_cI (x_sh_fewestOfAll_0 σ7) (fun r9 σ8 =>
              some (.inl (some (.int r9)), σ8)) (fun e σ => some (.inr e, σ))
          else
            en_cI (x_sh_rowAt_0 σ7 v1) (fun r11 σ10 =>
              some (.inl (some (.int r11)), σ10)) (fun e σ => some (.inr e, σ))) (fun e σ => some (.inr e, σ))) (fun e σ => some (.inr e, σ)) := en_ex_un (G := bb_G) (P := bb_P) (ML := bb_ML) (HD := bb_HD) 40 0 10021 0 [some (.ref 31), some (.int v1)] [] σ
set_option maxRecDepth 100000 in
set_option maxHeartbeats 1000000 in
theorem e_b_crew_0 (σ : en_S) (v1 : Int32) : x_b_crew_0 σ v1 =
    en_cV (x_b_checkBox_0 σ v1) (fun σ1 =>
      en_cI (x_st_bestCrew_p67_0 σ1 v1) (fun r3 σ2 =>
        some (.inl (some (.int r3)), σ2)) (fun e σ => some (.inr e, σ))) (fun e σ => some (.inr e, σ)) := en_ex_un (G := bb_G) (P := bb_P) (ML := bb_ML) (HD := bb_HD) 10 0 10022 0 [some (.ref 31), some (.int v1)] [] σ
set_option maxRecDepth 100000 in
set_option maxHeartbeats 1000000 in
theorem e_b_toSlander_0 (σ : en_S) (v1 : Int32) : x_b_toSlander_0 σ v1 =
    en_cV (x_b_checkBox_0 σ v1) (fun σ1 =>
      en_cI (x_st_bitsUnder_p67_0 σ1 v1) (fun r3 σ2 =>
        en_cI (x_st_mightOfAll_p67_0 σ2 r3) (fun r5 σ4 =>
          if (1 : Int32) ≤ r5 then
            if en_in v1 6 then
              some (.inl (some (.int (if (0 : Int32) < (σ4.1 68 v1.toNatClampNeg) - r5 then (σ4.1 68 v1.toNatClampNeg) - r5 else 0))), σ4)
            else
              none
          else
            some (.inl (some (.int (-1))), σ4)) (fun e σ => some (.inr e, σ))) (fun e σ => some (.inr e, σ))) (fun e σ => some (.inr e, σ)) := en_ex_un (G := bb_G) (P := bb_P) (ML := bb_ML) (HD := bb_HD) 29 0 10023 0 [some (.ref 31), some (.int v1), none] [] σ
set_option maxRecDepth 100000 in
set_option maxHeartbeats 1000000 in
theorem e_b_toWait_0 (σ : en_S) (v1 : Int32) : x_b_toWait_0 σ v1 =
    en_cV (x_b_checkBox_0 σ v1) (fun σ1 =>
      en_cI (x_b_firstBorne_0 σ1 v1 1) (fun r3 σ2 =>
        some (.inl (some (.int r3)), σ2)) (fun e σ => some (.inr e, σ))) (fun e σ => some (.inr e, σ)) := en_ex_un (G := bb_G) (P := bb_P) (ML := bb_ML) (HD := bb_HD) 10 0 10024 0 [some (.ref 31), some (.int v1)] [] σ
set_option maxRecDepth 100000 in
set_option maxHeartbeats 1000000 in
theorem e_b_way_0 (σ : en_S) (v1 : Int32) (v2 : Int32) (v3 : Int32) : x_b_way_0 σ v1 v2 v3 =
    en_cV (x_b_checkTown_0 σ v1) (fun σ1 =>
      en_cV (x_b_checkTown_0 σ1 v2) (fun σ2 =>
        en_cV (x_b_checkWhat_0 σ2 v3 2) (fun σ3 =>
          en_cV (x_ld_measure_p34_105_0 σ3 v1 v3) (fun σ4 =>
            if en_in v2 8 then
              some (.inl (some (.int (σ4.1 105 v2.toNatClampNeg))), σ4)
            else
              none) (fun e σ => some (.inr e, σ))) (fun e σ => some (.inr e, σ))) (fun e σ => some (.inr e, σ))) (fun e σ => some (.inr e, σ)) := en_ex_un (G := bb_G) (P := bb_P) (ML := bb_ML) (HD := bb_HD) 23 0 10025 0 [some (.ref 31), some (.int v1), some (.int v2), some (.int v3)] [] σ
set_option maxRecDepth 100000 in
set_option maxHeartbeats 1000000 in
theorem e_b_see_0 (σ : en_S) (v1 : Int32) (v2 : Int32) (v3 : Int32) : x_b_see_0 σ v1 v2 v3 =
    en_cV (x_b_checkBox_0 σ v1) (fun σ1 =>
      if (8 : Int32) ≤ σ1.1 81 0 then
        x_b_see_38 σ1
      else
        if v2 < 0 then
          x_b_see_38 σ1
        else
          if (12 : Int32) < v2 then
            x_b_see_38 σ1
          else
            if v3 < 1 then
              x_b_see_38 σ1
            else
              if v3 ≤ 99 then
                en_cV (x_se_add_p81_0 σ1 v1 v2 v3) (fun σ2 =>
                  some (.inl (some (.int (σ2.1 81 0))), σ2)) (fun e σ => some (.inr e, σ))
              else
                x_b_see_38 σ1) (fun e σ => some (.inr e, σ)) := en_ex_un (G := bb_G) (P := bb_P) (ML := bb_ML) (HD := bb_HD) 31 0 10026 0 [some (.ref 31), some (.int v1), some (.int v2), some (.int v3)] [] σ
set_option maxRecDepth 100000 in
set_option maxHeartbeats 1000000 in
theorem e_b_see_38 (σ : en_S) : x_b_see_38 σ =
    some (.inl (some (.int (-1))), (en_u1 σ.1 33 2 ((σ.1 33 2) + 1), σ.2)) := en_ex_un (G := bb_G) (P := bb_P) (ML := bb_ML) (HD := bb_HD) 12 0 10026 38 [some (.ref 31), none, none, none] [] σ
set_option maxRecDepth 100000 in
set_option maxHeartbeats 1000000 in
theorem e_b_weighed_0 (σ : en_S) (v1 : Int32) : x_b_weighed_0 σ v1 =
    en_cV (x_b_checkWhat_0 σ v1 2) (fun σ1 =>
      if v1 = 2 then
        en_cI (x_sc_unmetBits_0 σ1) (fun r3 σ2 =>
          if r3 = 0 then
            some (.inl (some (.int 1)), σ2)
          else
            some (.inl (some (.int 0)), σ2)) (fun e σ => some (.inr e, σ))
      else
        en_cV (x_sc_tryAll_0 σ1) (fun σ4 =>
          if v1 = 0 then
            some (.inl (some (.int (σ4.1 100 6))), σ4)
          else
            en_cI (x_sc_firstOne_0 σ4) (fun r6 σ5 =>
              some (.inl (some (.int r6)), σ5)) (fun e σ => some (.inr e, σ))) (fun e σ => some (.inr e, σ))) (fun e σ => some (.inr e, σ)) := en_ex_un (G := bb_G) (P := bb_P) (ML := bb_ML) (HD := bb_HD) 31 0 10028 0 [some (.ref 31), some (.int v1)] [] σ
set_option maxRecDepth 100000 in
set_option maxHeartbeats 1000000 in
theorem e_b_look_0 (σ : en_S) (v1 : Int32) : x_b_look_0 σ v1 =
    en_cV (x_b_checkWhat_0 σ v1 1) (fun σ1 =>
      en_cV (x_sc_tryAll_0 σ1) (fun σ2 =>
        en_cV (x_sc_compareLater_0 σ2) (fun σ3 =>
          if v1 = 0 then
            some (.inl (some (.int (σ3.1 100 7))), σ3)
          else
            some (.inl (some (.int (σ3.1 100 8))), σ3)) (fun e σ => some (.inr e, σ))) (fun e σ => some (.inr e, σ))) (fun e σ => some (.inr e, σ)) := en_ex_un (G := bb_G) (P := bb_P) (ML := bb_ML) (HD := bb_HD) 22 0 10029 0 [some (.ref 31), some (.int v1)] [] σ
set_option maxRecDepth 100000 in
set_option maxHeartbeats 1000000 in
theorem e_b_rain_0 (σ : en_S) (v1 : Int32) (v2 : Int32) (v3 : Int32) : x_b_rain_0 σ v1 v2 v3 =
    en_cV (x_b_checkBox_0 σ v1) (fun σ1 =>
      en_cV (x_b_checkRange_0 σ1 v2 1 5) (fun σ2 =>
        en_cV (x_b_checkRange_0 σ2 v3 0 10) (fun σ3 =>
          x_b_rain_24 σ3 v1 v2 v3 0 0) (fun e σ => some (.inr e, σ))) (fun e σ => some (.inr e, σ))) (fun e σ => some (.inr e, σ)) := en_ex_un (G := bb_G) (P := bb_P) (ML := bb_ML) (HD := bb_HD) 17 0 10030 0 [some (.ref 31), some (.int v1), some (.int v2), some (.int v3), none, none] [] σ
set_option maxRecDepth 100000 in
set_option maxHeartbeats 1000000 in
theorem e_b_rain_24 (σ : en_S) (v1 : Int32) (v2 : Int32) (v3 : Int32) (v4 : Int32) (v5 : Int32) : x_b_rain_24 σ v1 v2 v3 v4 v5 =
    if (1 : Int32) <<< (v2 &&& 31) ≤ v5 then
      some (.inl (some (.int v4)), σ)
    else
      en_cI (x_b_chanceBorne_0 σ v1 v2 v3 v5) (fun r2 σ1 =>
        x_b_rain_24 σ1 v1 v2 v3 (v4 + r2) (v5 + 1)) (fun e σ => some (.inr e, σ)) := en_ex_un (G := bb_G) (P := bb_P) (ML := bb_ML) (HD := bb_HD) 20 0 10030 24 [some (.ref 31), some (.int v1), some (.int v2), some (.int v3), some (.int v4), some (.int v5)] [] σ
set_option maxRecDepth 100000 in
set_option maxHeartbeats 1000000 in
theorem e_b_game_0 (σ : en_S) (v1 : Int32) (v2 : Int32) (v3 : Int32) : x_b_game_0 σ v1 v2 v3 =
    en_cV (x_b_checkBearer_0 σ v1) (fun σ1 =>
      en_cV (x_b_checkBearer_0 σ1 v2) (fun σ2 =>
        en_cV (x_b_checkWhat_0 σ2 v3 1) (fun σ3 =>
          if v1 = v2 then
            some (.inr 2, σ3)
          else
            if en_in v1 8 then
              en_cI (x_ld_hasBox_p34_0 σ3 (σ3.1 70 v1.toNatClampNeg)) (fun r5 σ4 =>
                if r5 = 0 then
                  some (.inl (some (.int (-1))), σ4)
                else
                  if en_in v1 8 then
                    if en_in v2 8 then
                      if σ4.1 70 v1.toNatClampNeg = σ4.1 70 v2.toNatClampNeg then
                        x_b_game_82 σ4 v1 v2 v3 0 (-1) 0
                      else
                        some (.inl (some (.int (-1))), σ4)
                    else
                      none
                  else
                    none) (fun e σ => some (.inr e, σ))
            else
              none) (fun e σ => some (.inr e, σ))) (fun e σ => some (.inr e, σ))) (fun e σ => some (.inr e, σ)) := en_ex_un (G := bb_G) (P := bb_P) (ML := bb_ML) (HD := bb_HD) 45 0 10031 0 [some (.ref 31), some (.int v1), some (.int v2), some (.int v3), none, none, none, none, none] [] σ
set_option maxRecDepth 100000 in
set_option maxHeartbeats 1000000 in
theorem e_b_game_82 (σ : en_S) (v1 : Int32) (v2 : Int32) (v3 : Int32) (v4 : Int32) (v5 : Int32) (v6 : Int32) : x_b_game_82 σ v1 v2 v3 v4 v5 v6 =
    if (4 : Int32) ≤ v6 then
      if v3 = 0 then
        some (.inl (some (.int v4)), σ)
      else
        some (.inl (some (.int v5)), σ)
    else
      en_cI (x_b_coupleRests_0 σ v1 v2 (v6 / (2 : Int32)) (v6 - v6 / (2 : Int32) * (2 : Int32))) (fun r2 σ1 =>
        if r2 = 0 then
          x_b_game_82 σ1 v1 v2 v3 v4 v5 (v6 + 1)
        else
          if v4 = 0 then
            x_b_game_82 σ1 v1 v2 v3 (v4 + 1) ((10 * (v6 / (2 : Int32))) + (v6 - v6 / (2 : Int32) * (2 : Int32))) (v6 + 1)
          else
            x_b_game_82 σ1 v1 v2 v3 (v4 + 1) v5 (v6 + 1)) (fun e σ => some (.inr e, σ)) := en_ex_un (G := bb_G) (P := bb_P) (ML := bb_ML) (HD := bb_HD) 46 0 10031 82 [some (.ref 31), some (.int v1), some (.int v2), some (.int v3), some (.int v4), some (.int v5), some (.int v6), none, none] [] σ
set_option maxRecDepth 100000 in
set_option maxHeartbeats 1000000 in
theorem e_b_years_0 (σ : en_S) (v1 : Int32) (v2 : Int32) (v3 : Int32) : x_b_years_0 σ v1 v2 v3 =
    en_cV (x_b_checkWhat_0 σ v3 2) (fun σ1 =>
      en_cV (x_b_checkRange_0 σ1 v2 0 40) (fun σ2 =>
        en_cV (x_st_copyFrom_p73_67_0 σ2) (fun σ3 =>
          x_b_years_37 (en_u1 σ3.1 104 0 v1, σ3.2) v2 v3 0 0) (fun e σ => some (.inr e, σ))) (fun e σ => some (.inr e, σ))) (fun e σ => some (.inr e, σ)) := en_ex_un (G := bb_G) (P := bb_P) (ML := bb_ML) (HD := bb_HD) 22 0 10032 0 [some (.ref 31), some (.int v1), some (.int v2), some (.int v3), none, none] [] σ
set_option maxRecDepth 100000 in
set_option maxHeartbeats 1000000 in
theorem e_b_years_37 (σ : en_S) (v2 : Int32) (v3 : Int32) (v4 : Int32) (v5 : Int32) : x_b_years_37 σ v2 v3 v4 v5 =
    if v2 ≤ v5 then
      if v3 = 0 then
        some (.inl (some (.int v4)), σ)
      else
        if v3 = 1 then
          en_cI (x_st_weightOfAll_p73_0 σ) (fun r6 σ5 =>
            some (.inl (some (.int r6)), σ5)) (fun e σ => some (.inr e, σ))
        else
          en_cI (x_st_borneBits_p73_0 σ) (fun r2 σ1 =>
            en_cI (x_ji_bitCount_0 σ1 r2) (fun r4 σ3 =>
              some (.inl (some (.int r4)), σ3)) (fun e σ => some (.inr e, σ))) (fun e σ => some (.inr e, σ))
    else
      en_cV (x_b_drawAct_0 σ) (fun σ7 =>
        en_cV (x_st_passDay_p73_0 σ7) (fun σ8 =>
          en_cI (x_ji_bitCount_0 σ8 (σ8.1 73 6)) (fun r10 σ9 =>
            x_b_years_37 σ9 v2 v3 (v4 + r10) (v5 + 1)) (fun e σ => some (.inr e, σ))) (fun e σ => some (.inr e, σ))) (fun e σ => some (.inr e, σ)) := en_ex_un (G := bb_G) (P := bb_P) (ML := bb_ML) (HD := bb_HD) 32 0 10032 37 [some (.ref 31), none, some (.int v2), some (.int v3), some (.int v4), some (.int v5)] [] σ
set_option maxRecDepth 100000 in
set_option maxHeartbeats 1000000 in
theorem e_b_idle_0 (σ : en_S) (v1 : Int32) : x_b_idle_0 σ v1 =
    en_cV (x_b_checkWhat_0 σ v1 1) (fun σ1 =>
      x_b_idle_12 σ1 v1 (-1) (-1) 0) (fun e σ => some (.inr e, σ)) := en_ex_un (G := bb_G) (P := bb_P) (ML := bb_ML) (HD := bb_HD) 11 0 10033 0 [some (.ref 31), some (.int v1), none, none, none, none] [] σ
set_option maxRecDepth 100000 in
set_option maxHeartbeats 1000000 in
theorem e_b_idle_12 (σ : en_S) (v1 : Int32) (v2 : Int32) (v3 : Int32) (v4 : Int32) : x_b_idle_12 σ v1 v2 v3 v4 =
    if σ.1 34 9 ≤ v4 then
      some (.inl (some (.int v2)), σ)
    else
      if v1 = 0 then
        en_cI (x_st_mightOf_p67_0 σ v4) (fun r2 σ1 =>
          if en_in v4 8 then
            if σ1.1 70 v4.toNatClampNeg = (-1) then
              if r2 ≤ v3 then
                x_b_idle_12 σ1 v1 v2 v3 (v4 + 1)
              else
                x_b_idle_12 σ1 v1 v4 r2 (v4 + 1)
            else
              x_b_idle_12 σ1 v1 v2 v3 (v4 + 1)
          else
            none) (fun e σ => some (.inr e, σ))
      else
        if en_in v4 8 then
          if en_in v4 8 then
            if σ.1 70 v4.toNatClampNeg = (-1) then
              if σ.1 42 v4.toNatClampNeg ≤ v3 then
                x_b_idle_12 σ v1 v2 v3 (v4 + 1)
              else
                x_b_idle_12 σ v1 v4 (σ.1 42 v4.toNatClampNeg) (v4 + 1)
            else
              x_b_idle_12 σ v1 v2 v3 (v4 + 1)
          else
            none
        else
          none := en_ex_un (G := bb_G) (P := bb_P) (ML := bb_ML) (HD := bb_HD) 63 0 10033 12 [some (.ref 31), some (.int v1), some (.int v2), some (.int v3), some (.int v4), none] [] σ
set_option maxRecDepth 100000 in
set_option maxHeartbeats 1000000 in
theorem e_b_nearest_0 (σ : en_S) (v1 : Int32) : x_b_nearest_0 σ v1 =
    en_cV (x_b_checkTown_0 σ v1) (fun σ1 =>
      en_cV (x_ld_measure_p34_105_0 σ1 v1 0) (fun σ2 =>
        x_b_nearest_25 σ2 (-1) (-1) 0) (fun e σ => some (.inr e, σ))) (fun e σ => some (.inr e, σ)) := en_ex_un (G := bb_G) (P := bb_P) (ML := bb_ML) (HD := bb_HD) 18 0 10034 0 [some (.ref 31), some (.int v1), none, none, none, none, none] [] σ
set_option maxRecDepth 100000 in
set_option maxHeartbeats 1000000 in
theorem e_b_nearest_25 (σ : en_S) (v2 : Int32) (v3 : Int32) (v4 : Int32) : x_b_nearest_25 σ v2 v3 v4 =
    if σ.1 34 5 ≤ v4 then
      some (.inl (some (.int v2)), σ)
    else
      en_cI (x_st_townOf_p67_0 σ v4) (fun r2 σ1 =>
        en_cI (x_ld_hasTown_p34_0 σ1 r2) (fun r4 σ3 =>
          if r4 = 0 then
            x_b_nearest_25 σ3 v2 v3 (v4 + 1)
          else
            if en_in r2 8 then
              if σ3.1 105 r2.toNatClampNeg = (-1) then
                x_b_nearest_25 σ3 v2 v3 (v4 + 1)
              else
                if v2 = (-1) then
                  x_b_nearest_25 σ3 v4 (σ3.1 105 r2.toNatClampNeg) (v4 + 1)
                else
                  if v3 ≤ σ3.1 105 r2.toNatClampNeg then
                    x_b_nearest_25 σ3 v2 v3 (v4 + 1)
                  else
                    x_b_nearest_25 σ3 v4 (σ3.1 105 r2.toNatClampNeg) (v4 + 1)
            else
              none) (fun e σ => some (.inr e, σ))) (fun e σ => some (.inr e, σ)) := en_ex_un (G := bb_G) (P := bb_P) (ML := bb_ML) (HD := bb_HD) 57 0 10034 25 [some (.ref 31), none, some (.int v2), some (.int v3), some (.int v4), none, none] [] σ
set_option maxRecDepth 100000 in
set_option maxHeartbeats 1000000 in
theorem e_b_ahead_0 (σ : en_S) (v1 : Int32) (v2 : Int32) : x_b_ahead_0 σ v1 v2 =
    en_cV (x_b_checkBox_0 σ v1) (fun σ1 =>
      en_cV (x_b_checkTown_0 σ1 v2) (fun σ2 =>
        if en_in v1 6 then
          x_b_ahead_23 σ2 v1 v2 (σ2.1 69 v1.toNatClampNeg) 0
        else
          none) (fun e σ => some (.inr e, σ))) (fun e σ => some (.inr e, σ)) := en_ex_un (G := bb_G) (P := bb_P) (ML := bb_ML) (HD := bb_HD) 16 0 10035 0 [some (.ref 31), some (.int v1), some (.int v2), none, none] [] σ
set_option maxRecDepth 100000 in
set_option maxHeartbeats 1000000 in
theorem e_b_ahead_23 (σ : en_S) (v1 : Int32) (v2 : Int32) (v3 : Int32) (v4 : Int32) : x_b_ahead_23 σ v1 v2 v3 v4 =
    if en_in v1 6 then
      if σ.1 39 v1.toNatClampNeg ≤ v4 then
        some (.inl (some (.int (-1))), σ)
      else
        en_cI (x_ld_townAt_p34_0 σ v1 v3) (fun r2 σ1 =>
          if r2 = v2 then
            some (.inl (some (.int v4)), σ1)
          else
            en_cI (x_ld_nextPlace_p34_0 σ1 v1 v3) (fun r4 σ3 =>
              x_b_ahead_23 σ3 v1 v2 r4 (v4 + 1)) (fun e σ => some (.inr e, σ))) (fun e σ => some (.inr e, σ))
    else
      none := en_ex_un (G := bb_G) (P := bb_P) (ML := bb_ML) (HD := bb_HD) 28 0 10035 23 [some (.ref 31), some (.int v1), some (.int v2), some (.int v3), some (.int v4)] [] σ
set_option maxRecDepth 100000 in
set_option maxHeartbeats 1000000 in
theorem e_b_alone_0 (σ : en_S) (v1 : Int32) : x_b_alone_0 σ v1 =
    en_cV (x_b_checkBox_0 σ v1) (fun σ1 =>
      x_b_alone_9 σ1 v1 0 0) (fun e σ => some (.inr e, σ)) := en_ex_un (G := bb_G) (P := bb_P) (ML := bb_ML) (HD := bb_HD) 9 0 10036 0 [some (.ref 31), some (.int v1), none, none] [] σ
set_option maxRecDepth 100000 in
set_option maxHeartbeats 1000000 in
theorem e_b_alone_9 (σ : en_S) (v1 : Int32) (v2 : Int32) (v3 : Int32) : x_b_alone_9 σ v1 v2 v3 =
    if σ.1 34 9 ≤ v3 then
      some (.inl (some (.int v2)), σ)
    else
      en_cI (x_st_isBorneBy_p67_0 σ v1 ((1 : Int32) <<< (v3 &&& 31))) (fun r2 σ1 =>
        if r2 = 0 then
          x_b_alone_9 σ1 v1 v2 (v3 + 1)
        else
          x_b_alone_9 σ1 v1 (v2 ||| ((1 : Int32) <<< (v3 &&& 31))) (v3 + 1)) (fun e σ => some (.inr e, σ)) := en_ex_un (G := bb_G) (P := bb_P) (ML := bb_ML) (HD := bb_HD) 27 0 10036 9 [some (.ref 31), some (.int v1), some (.int v2), some (.int v3)] [] σ
set_option maxRecDepth 100000 in
set_option maxHeartbeats 1000000 in
theorem e_b_weariest_0 (σ : en_S) (v1 : Int32) : x_b_weariest_0 σ v1 =
    en_cV (x_b_checkRange_0 σ v1 0 40) (fun σ1 =>
      en_cI (x_b_lookAhead_0 σ1 v1) (fun r3 σ2 =>
        x_b_weariest_20 σ2 (-1) (-1) 0) (fun e σ => some (.inr e, σ))) (fun e σ => some (.inr e, σ)) := en_ex_un (G := bb_G) (P := bb_P) (ML := bb_ML) (HD := bb_HD) 16 0 10037 0 [some (.ref 31), some (.int v1), none, none, none] [] σ
set_option maxRecDepth 100000 in
set_option maxHeartbeats 1000000 in
theorem e_b_weariest_20 (σ : en_S) (v2 : Int32) (v3 : Int32) (v4 : Int32) : x_b_weariest_20 σ v2 v3 v4 =
    if σ.1 34 9 ≤ v4 then
      some (.inl (some (.int v2)), σ)
    else
      if en_in v4 8 then
        if σ.1 77 v4.toNatClampNeg ≤ v3 then
          x_b_weariest_20 σ v2 v3 (v4 + 1)
        else
          if en_in v4 8 then
            x_b_weariest_20 σ v4 (σ.1 77 v4.toNatClampNeg) (v4 + 1)
          else
            none
      else
        none := en_ex_un (G := bb_G) (P := bb_P) (ML := bb_ML) (HD := bb_HD) 28 0 10037 20 [some (.ref 31), none, some (.int v2), some (.int v3), some (.int v4)] [] σ
set_option maxRecDepth 100000 in
set_option maxHeartbeats 1000000 in
theorem e_b_onRoutes_0 (σ : en_S) (v1 : Int32) : x_b_onRoutes_0 σ v1 =
    en_cV (x_b_checkTown_0 σ v1) (fun σ1 =>
      x_b_onRoutes_9 σ1 v1 0 0) (fun e σ => some (.inr e, σ)) := en_ex_un (G := bb_G) (P := bb_P) (ML := bb_ML) (HD := bb_HD) 9 0 10038 0 [some (.ref 31), some (.int v1), none, none, none] [] σ
set_option maxRecDepth 100000 in
set_option maxHeartbeats 1000000 in
theorem e_b_onRoutes_9 (σ : en_S) (v1 : Int32) (v2 : Int32) (v3 : Int32) : x_b_onRoutes_9 σ v1 v2 v3 =
    if σ.1 34 5 ≤ v3 then
      some (.inl (some (.int v2)), σ)
    else
      x_b_onRoutes_23 σ v1 v2 v3 0 := en_ex_un (G := bb_G) (P := bb_P) (ML := bb_ML) (HD := bb_HD) 11 0 10038 9 [some (.ref 31), some (.int v1), some (.int v2), some (.int v3), none] [] σ
set_option maxRecDepth 100000 in
set_option maxHeartbeats 1000000 in
theorem e_b_onRoutes_23 (σ : en_S) (v1 : Int32) (v2 : Int32) (v3 : Int32) (v4 : Int32) : x_b_onRoutes_23 σ v1 v2 v3 v4 =
    if en_in v3 6 then
      if σ.1 39 v3.toNatClampNeg ≤ v4 then
        x_b_onRoutes_9 σ v1 v2 (v3 + 1)
      else
        en_cI (x_ld_townAt_p34_0 σ v3 v4) (fun r2 σ1 =>
          if r2 = v1 then
            x_b_onRoutes_23 σ1 v1 (v2 ||| ((1 : Int32) <<< (v3 &&& 31))) v3 (v4 + 1)
          else
            x_b_onRoutes_23 σ1 v1 v2 v3 (v4 + 1)) (fun e σ => some (.inr e, σ))
    else
      none := en_ex_un (G := bb_G) (P := bb_P) (ML := bb_ML) (HD := bb_HD) 28 0 10038 23 [some (.ref 31), some (.int v1), some (.int v2), some (.int v3), some (.int v4)] [] σ
set_option maxRecDepth 100000 in
set_option maxHeartbeats 1000000 in
theorem e_b_reach_0 (σ : en_S) (v1 : Int32) : x_b_reach_0 σ v1 =
    en_cV (x_b_checkTown_0 σ v1) (fun σ1 =>
      en_cV (x_ld_measure_p34_105_0 σ1 v1 0) (fun σ2 =>
        x_b_reach_22 σ2 0 0) (fun e σ => some (.inr e, σ))) (fun e σ => some (.inr e, σ)) := en_ex_un (G := bb_G) (P := bb_P) (ML := bb_ML) (HD := bb_HD) 16 0 10039 0 [some (.ref 31), some (.int v1), none, none] [] σ
set_option maxRecDepth 100000 in
set_option maxHeartbeats 1000000 in
theorem e_b_reach_22 (σ : en_S) (v2 : Int32) (v3 : Int32) : x_b_reach_22 σ v2 v3 =
    if σ.1 34 0 ≤ v3 then
      some (.inl (some (.int v2)), σ)
    else
      if en_in v3 8 then
        if σ.1 105 v3.toNatClampNeg = (-1) then
          x_b_reach_22 σ v2 (v3 + 1)
        else
          x_b_reach_22 σ (v2 ||| ((1 : Int32) <<< (v3 &&& 31))) (v3 + 1)
      else
        none := en_ex_un (G := bb_G) (P := bb_P) (ML := bb_ML) (HD := bb_HD) 25 0 10039 22 [some (.ref 31), none, some (.int v2), some (.int v3)] [] σ
set_option maxRecDepth 100000 in
set_option maxHeartbeats 1000000 in
theorem e_b_total_0 (σ : en_S) (v1 : Int32) : x_b_total_0 σ v1 =
    en_cV (x_b_checkRange_0 σ v1 0 40) (fun σ1 =>
      en_cI (x_b_lookAhead_0 σ1 v1) (fun r3 σ2 =>
        en_cI (x_st_weightOfAll_p73_0 σ2) (fun r5 σ4 =>
          some (.inl (some (.int r5)), σ4)) (fun e σ => some (.inr e, σ))) (fun e σ => some (.inr e, σ))) (fun e σ => some (.inr e, σ)) := en_ex_un (G := bb_G) (P := bb_P) (ML := bb_ML) (HD := bb_HD) 14 0 10040 0 [some (.ref 31), some (.int v1)] [] σ
set_option maxRecDepth 100000 in
set_option maxHeartbeats 1000000 in
theorem e_b_checkBox_0 (σ : en_S) (v1 : Int32) : x_b_checkBox_0 σ v1 =
    en_cI (x_ld_hasBox_p34_0 σ v1) (fun r2 σ1 =>
      if r2 = 0 then
        some (.inr 1, σ1)
      else
        some (.inl none, σ1)) (fun e σ => some (.inr e, σ)) := en_ex_un (G := bb_G) (P := bb_P) (ML := bb_ML) (HD := bb_HD) 9 0 10045 0 [some (.ref 31), some (.int v1)] [] σ
set_option maxRecDepth 100000 in
set_option maxHeartbeats 1000000 in
theorem e_b_checkBearer_0 (σ : en_S) (v1 : Int32) : x_b_checkBearer_0 σ v1 =
    if v1 < 0 then
      some (.inr 1, σ)
    else
      if v1 < σ.1 34 9 then
        some (.inl none, σ)
      else
        some (.inr 1, σ) := en_ex_un (G := bb_G) (P := bb_P) (ML := bb_ML) (HD := bb_HD) 12 0 10046 0 [some (.ref 31), some (.int v1)] [] σ
set_option maxRecDepth 100000 in
set_option maxHeartbeats 1000000 in
theorem e_b_checkWhat_0 (σ : en_S) (v0 : Int32) (v1 : Int32) : x_b_checkWhat_0 σ v0 v1 =
    if v0 < 0 then
      some (.inr 1, σ)
    else
      if v0 ≤ v1 then
        some (.inl none, σ)
      else
        some (.inr 1, σ) := en_ex_un (G := bb_G) (P := bb_P) (ML := bb_ML) (HD := bb_HD) 10 0 10048 0 [some (.int v0), some (.int v1)] [] σ
set_option maxRecDepth 100000 in
set_option maxHeartbeats 1000000 in
theorem e_b_checkRange_0 (σ : en_S) (v0 : Int32) (v1 : Int32) (v2 : Int32) : x_b_checkRange_0 σ v0 v1 v2 =
    if v0 < v1 then
      some (.inr 2, σ)
    else
      if v0 ≤ v2 then
        some (.inl none, σ)
      else
        some (.inr 2, σ) := en_ex_un (G := bb_G) (P := bb_P) (ML := bb_ML) (HD := bb_HD) 11 0 10049 0 [some (.int v0), some (.int v1), some (.int v2)] [] σ
set_option maxRecDepth 100000 in
set_option maxHeartbeats 1000000 in
theorem e_b_lookAhead_0 (σ : en_S) (v1 : Int32) : x_b_lookAhead_0 σ v1 =
    en_cV (x_st_copyFrom_p73_67_0 σ) (fun σ1 =>
      en_cI (x_st_passDays_p73_0 σ1 v1) (fun r3 σ2 =>
        some (.inl (some (.int r3)), σ2)) (fun e σ => some (.inr e, σ))) (fun e σ => some (.inr e, σ)) := en_ex_un (G := bb_G) (P := bb_P) (ML := bb_ML) (HD := bb_HD) 12 0 10052 0 [some (.ref 31), some (.int v1)] [] σ
set_option maxRecDepth 100000 in
set_option maxHeartbeats 1000000 in
theorem e_b_hasBit_0 (σ : en_S) (v0 : Int32) (v1 : Int32) : x_b_hasBit_0 σ v0 v1 =
    if (v0 >>> (v1 &&& 31)) &&& 1 = 1 then
      some (.inl (some (.int 1)), σ)
    else
      some (.inl (some (.int 0)), σ) := en_ex_un (G := bb_G) (P := bb_P) (ML := bb_ML) (HD := bb_HD) 14 0 10050 0 [some (.int v0), some (.int v1)] [] σ
set_option maxRecDepth 100000 in
set_option maxHeartbeats 1000000 in
theorem e_b_firstBorne_0 (σ : en_S) (v1 : Int32) (v2 : Int32) : x_b_firstBorne_0 σ v1 v2 =
    en_cV (x_st_copyFrom_p73_67_0 σ) (fun σ1 =>
      x_b_firstBorne_13 σ1 v1 v2 0) (fun e σ => some (.inr e, σ)) := en_ex_un (G := bb_G) (P := bb_P) (ML := bb_ML) (HD := bb_HD) 9 0 10053 0 [some (.ref 31), some (.int v1), some (.int v2), none] [] σ
set_option maxRecDepth 100000 in
set_option maxHeartbeats 1000000 in
theorem e_b_firstBorne_13 (σ : en_S) (v1 : Int32) (v2 : Int32) (v3 : Int32) : x_b_firstBorne_13 σ v1 v2 v3 =
    if (40 : Int32) < v3 then
      some (.inl (some (.int (-1))), σ)
    else
      en_cI (x_st_isBorne_p73_0 σ v1) (fun r2 σ1 =>
        if r2 = v2 then
          some (.inl (some (.int v3)), σ1)
        else
          en_cV (x_st_passDay_p73_0 σ1) (fun σ3 =>
            x_b_firstBorne_13 σ3 v1 v2 (v3 + 1)) (fun e σ => some (.inr e, σ))) (fun e σ => some (.inr e, σ)) := en_ex_un (G := bb_G) (P := bb_P) (ML := bb_ML) (HD := bb_HD) 20 0 10053 13 [some (.ref 31), some (.int v1), some (.int v2), some (.int v3)] [] σ
set_option maxRecDepth 100000 in
set_option maxHeartbeats 1000000 in
theorem e_b_checkTown_0 (σ : en_S) (v1 : Int32) : x_b_checkTown_0 σ v1 =
    en_cI (x_ld_hasTown_p34_0 σ v1) (fun r2 σ1 =>
      if r2 = 0 then
        some (.inr 1, σ1)
      else
        some (.inl none, σ1)) (fun e σ => some (.inr e, σ)) := en_ex_un (G := bb_G) (P := bb_P) (ML := bb_ML) (HD := bb_HD) 9 0 10047 0 [some (.ref 31), some (.int v1)] [] σ
set_option maxRecDepth 100000 in
set_option maxHeartbeats 1000000 in
theorem e_b_chanceBorne_0 (σ : en_S) (v1 : Int32) (v2 : Int32) (v3 : Int32) (v4 : Int32) : x_b_chanceBorne_0 σ v1 v2 v3 v4 =
    en_cV (x_st_copyFrom_p73_67_0 σ) (fun σ1 =>
      x_b_chanceBorne_17 σ1 v1 v2 v3 v4 1 0) (fun e σ => some (.inr e, σ)) := en_ex_un (G := bb_G) (P := bb_P) (ML := bb_ML) (HD := bb_HD) 11 0 10054 0 [some (.ref 31), some (.int v1), some (.int v2), some (.int v3), some (.int v4), none, none, none] [] σ
set_option maxRecDepth 100000 in
set_option maxHeartbeats 1000000 in
theorem e_b_chanceBorne_17 (σ : en_S) (v1 : Int32) (v2 : Int32) (v3 : Int32) (v4 : Int32) (v5 : Int32) (v6 : Int32) : x_b_chanceBorne_17 σ v1 v2 v3 v4 v5 v6 =
    if v2 ≤ v6 then
      en_cI (x_st_isBorne_p73_0 σ v1) (fun r2 σ1 =>
        if r2 = 0 then
          some (.inl (some (.int 0)), σ1)
        else
          some (.inl (some (.int v5)), σ1)) (fun e σ => some (.inr e, σ))
    else
      en_cI (x_b_hasBit_0 σ v4 v6) (fun r4 σ3 =>
        if r4 = 0 then
          if r4 = 0 then
            en_cV (x_st_passDay_p73_0 σ3) (fun σ5 =>
              x_b_chanceBorne_17 σ5 v1 v2 v3 v4 (v5 * (10 - v3)) (v6 + 1)) (fun e σ => some (.inr e, σ))
          else
            en_cV (x_st_getWet_p73_0 σ3) (fun σ6 =>
              en_cV (x_st_passDay_p73_0 σ6) (fun σ7 =>
                x_b_chanceBorne_17 σ7 v1 v2 v3 v4 (v5 * (10 - v3)) (v6 + 1)) (fun e σ => some (.inr e, σ))) (fun e σ => some (.inr e, σ))
        else
          if r4 = 0 then
            en_cV (x_st_passDay_p73_0 σ3) (fun σ8 =>
              x_b_chanceBorne_17 σ8 v1 v2 v3 v4 (v5 * v3) (v6 + 1)) (fun e σ => some (.inr e, σ))
          else
            en_cV (x_st_getWet_p73_0 σ3) (fun σ9 =>
              en_cV (x_st_passDay_p73_0 σ9) (fun σ10 =>
                x_b_chanceBorne_17 σ10 v1 v2 v3 v4 (v5 * v3) (v6 + 1)) (fun e σ => some (.inr e, σ))) (fun e σ => some (.inr e, σ))) (fun e σ => some (.inr e, σ)) := en_ex_un (G := bb_G) (P := bb_P) (ML := bb_ML) (HD := bb_HD) 61 0 10054 17 [some (.ref 31), some (.int v1), some (.int v2), some (.int v3), some (.int v4), some (.int v5), some (.int v6), none] [] σ
set_option maxRecDepth 100000 in
set_option maxHeartbeats 1000000 in
theorem e_b_coupleRests_0 (σ : en_S) (v1 : Int32) (v2 : Int32) (v3 : Int32) (v4 : Int32) : x_b_coupleRests_0 σ v1 v2 v3 v4 =
    en_cI (x_b_gainOf_0 σ v1 v3 v2 v4) (fun r2 σ1 =>
      en_cI (x_b_gainOf_0 σ1 v1 (1 - v3) v2 v4) (fun r4 σ3 =>
        if r2 < r4 then
          some (.inl (some (.int 0)), σ3)
        else
          en_cI (x_b_gainOf_0 σ3 v2 v4 v1 v3) (fun r6 σ5 =>
            en_cI (x_b_gainOf_0 σ5 v2 (1 - v4) v1 v3) (fun r8 σ7 =>
              if r6 < r8 then
                some (.inl (some (.int 0)), σ7)
              else
                some (.inl (some (.int 1)), σ7)) (fun e σ => some (.inr e, σ))) (fun e σ => some (.inr e, σ))) (fun e σ => some (.inr e, σ))) (fun e σ => some (.inr e, σ)) := en_ex_un (G := bb_G) (P := bb_P) (ML := bb_ML) (HD := bb_HD) 39 0 10055 0 [some (.ref 31), some (.int v1), some (.int v2), some (.int v3), some (.int v4)] [] σ
set_option maxRecDepth 100000 in
set_option maxHeartbeats 1000000 in
theorem e_b_drawAct_0 (σ : en_S) : x_b_drawAct_0 σ =
    en_cI (x_dr_drawOf_0 σ 6) (fun r2 σ1 =>
      if σ1.1 34 5 = 0 then
        some (.inl none, σ1)
      else
        if σ1.1 34 9 = 0 then
          some (.inl none, σ1)
        else
          if r2 ≤ 3 then
            if r2 ≤ 1 then
              en_cI (x_dr_drawOf_0 σ1 (σ1.1 34 9)) (fun r4 σ3 =>
                if r2 = 0 then
                  en_cI (x_dr_drawOf_0 σ3 (σ3.1 34 5)) (fun r6 σ5 =>
                    if en_in r4 8 then
                      some (.inl none, (en_u1 σ5.1 76 r4.toNatClampNeg r6, σ5.2))
                    else
                      none) (fun e σ => some (.inr e, σ))
                else
                  if en_in r4 8 then
                    some (.inl none, (en_u1 σ3.1 76 r4.toNatClampNeg (-1), σ3.2))
                  else
                    none) (fun e σ => some (.inr e, σ))
            else
              en_cI (x_dr_drawOf_0 σ1 (σ1.1 34 5)) (fun r8 σ7 =>
                en_cI (x_dr_drawOf_0 σ7 10) (fun r10 σ9 =>
                  if r2 = 2 then
                    en_cV (x_st_addWeight_p73_0 σ9 r8 (-(r10 + 1))) (fun σ11 =>
                      some (.inl none, σ11)) (fun e σ => some (.inr e, σ))
                  else
                    en_cV (x_st_addWeight_p73_0 σ9 r8 (r10 + 1)) (fun σ12 =>
                      some (.inl none, σ12)) (fun e σ => some (.inr e, σ))) (fun e σ => some (.inr e, σ))) (fun e σ => some (.inr e, σ))
          else
            some (.inl none, σ1)) (fun e σ => some (.inr e, σ)) := en_ex_un (G := bb_G) (P := bb_P) (ML := bb_ML) (HD := bb_HD) 77 0 10057 0 [some (.ref 31), none, none, none] [] σ
set_option maxRecDepth 100000 in
set_option maxHeartbeats 1000000 in
theorem e_b_within_0 (σ : en_S) (v0 : Int32) (v1 : Int32) (v2 : Int32) : x_b_within_0 σ v0 v1 v2 =
    if v1 ≤ v0 then
      if v0 ≤ v2 then
        some (.inl (some (.int v0)), σ)
      else
        some (.inl (some (.int v2)), σ)
    else
      some (.inl (some (.int v1)), σ) := en_ex_un (G := bb_G) (P := bb_P) (ML := bb_ML) (HD := bb_HD) 15 0 10051 0 [some (.int v0), some (.int v1), some (.int v2)] [] σ
set_option maxRecDepth 100000 in
set_option maxHeartbeats 1000000 in
theorem e_b_gainOf_0 (σ : en_S) (v1 : Int32) (v2 : Int32) (v3 : Int32) (v4 : Int32) : x_b_gainOf_0 σ v1 v2 v3 v4 =
    if en_in v1 8 then
      en_cI (x_st_bitsUnder_p67_0 σ (σ.1 70 v1.toNatClampNeg)) (fun r2 σ1 =>
        en_cI (x_st_isBorneBy_p67_0 σ1 (σ.1 70 v1.toNatClampNeg) ((r2 &&& ((v2 <<< (v1 &&& 31)) ^^^ (-1))) &&& ((v4 <<< (v3 &&& 31)) ^^^ (-1)))) (fun r4 σ3 =>
          if r4 = 0 then
            if v2 = 0 then
              if en_in v1 8 then
                some (.inl (some (.int (0 - (σ3.1 71 v1.toNatClampNeg)))), σ3)
              else
                none
            else
              some (.inl (some (.int 0)), σ3)
          else
            if v2 = 0 then
              if en_in v1 8 then
                some (.inl (some (.int (4 - (σ3.1 71 v1.toNatClampNeg)))), σ3)
              else
                none
            else
              some (.inl (some (.int 4)), σ3)) (fun e σ => some (.inr e, σ))) (fun e σ => some (.inr e, σ))
    else
      none := en_ex_un (G := bb_G) (P := bb_P) (ML := bb_ML) (HD := bb_HD) 62 0 10056 0 [some (.ref 31), some (.int v1), some (.int v2), some (.int v3), some (.int v4), none, none, none] [] σ
set_option maxRecDepth 100000 in
set_option maxHeartbeats 1000000 in
theorem e_dr_drawOf_0 (σ : en_S) (v1 : Int32) : x_dr_drawOf_0 σ v1 =
    if (1 : Int32) ≤ v1 then
      if v1 = 0 then
        none
      else
        some (.inl (some (.int (((en_ushr (((σ.1 104 0) * 1103515245) + 12345) (16 : Int32)) &&& 32767) - ((en_ushr (((σ.1 104 0) * 1103515245) + 12345) (16 : Int32)) &&& 32767) / v1 * v1))), (en_u1 σ.1 104 0 (((σ.1 104 0) * 1103515245) + 12345), σ.2))
    else
      some (.inl (some (.int 0)), (en_u1 σ.1 104 0 (((σ.1 104 0) * 1103515245) + 12345), σ.2)) := en_ex_un (G := bb_G) (P := bb_P) (ML := bb_ML) (HD := bb_HD) 25 0 1001 0 [some (.ref 104), some (.int v1)] [] σ
set_option maxRecDepth 100000 in
set_option maxHeartbeats 1000000 in
theorem e_ld_copyFrom_p34_50_0 (σ : en_S) : x_ld_copyFrom_p34_50_0 σ =
    x_ld_copyFrom_p34_50_31 (en_uf (en_u1 (en_u1 σ.1 34 0 (σ.1 50 0)) 34 1 (σ.1 50 1)) 35 (va_cpy (σ.1 51) (σ.1 35) 0 0 14), σ.2) := en_ex_un (G := bb_G) (P := bb_P) (ML := bb_ML) (HD := bb_HD) 18 0 2002 0 [some (.ref 34), some (.ref 50)] [] σ
set_option maxRecDepth 100000 in
set_option maxHeartbeats 1000000 in
theorem e_ld_copyFrom_p34_50_31 (σ : en_S) : x_ld_copyFrom_p34_50_31 σ =
    x_ld_copyFrom_p34_50_46 (en_uf σ.1 36 (va_cpy (σ.1 52) (σ.1 36) 0 0 14), σ.2) := en_ex_un (G := bb_G) (P := bb_P) (ML := bb_ML) (HD := bb_HD) 10 0 2002 31 [some (.ref 34), some (.ref 50)] [] σ
set_option maxRecDepth 100000 in
set_option maxHeartbeats 1000000 in
theorem e_ld_copyFrom_p34_50_46 (σ : en_S) : x_ld_copyFrom_p34_50_46 σ =
    x_ld_copyFrom_p34_50_61 (en_uf σ.1 37 (va_cpy (σ.1 53) (σ.1 37) 0 0 14), σ.2) := en_ex_un (G := bb_G) (P := bb_P) (ML := bb_ML) (HD := bb_HD) 10 0 2002 46 [some (.ref 34), some (.ref 50)] [] σ
set_option maxRecDepth 100000 in
set_option maxHeartbeats 1000000 in
theorem e_ld_copyFrom_p34_50_61 (σ : en_S) : x_ld_copyFrom_p34_50_61 σ =
    x_ld_copyFrom_p34_50_84 (en_uf (en_u1 σ.1 34 5 (σ.1 50 5)) 38 (va_cpy (σ.1 54) (σ.1 38) 0 0 6), σ.2) := en_ex_un (G := bb_G) (P := bb_P) (ML := bb_ML) (HD := bb_HD) 14 0 2002 61 [some (.ref 34), some (.ref 50)] [] σ
set_option maxRecDepth 100000 in
set_option maxHeartbeats 1000000 in
theorem e_ld_copyFrom_p34_50_84 (σ : en_S) : x_ld_copyFrom_p34_50_84 σ =
    x_ld_copyFrom_p34_50_99 (en_uf σ.1 39 (va_cpy (σ.1 55) (σ.1 39) 0 0 6), σ.2) := en_ex_un (G := bb_G) (P := bb_P) (ML := bb_ML) (HD := bb_HD) 10 0 2002 84 [some (.ref 34), some (.ref 50)] [] σ
set_option maxRecDepth 100000 in
set_option maxHeartbeats 1000000 in
theorem e_ld_copyFrom_p34_50_99 (σ : en_S) : x_ld_copyFrom_p34_50_99 σ =
    x_ld_copyFrom_p34_50_114 (en_uf σ.1 40 (va_cpy (σ.1 56) (σ.1 40) 0 0 36), σ.2) := en_ex_un (G := bb_G) (P := bb_P) (ML := bb_ML) (HD := bb_HD) 10 0 2002 99 [some (.ref 34), some (.ref 50)] [] σ
set_option maxRecDepth 100000 in
set_option maxHeartbeats 1000000 in
theorem e_ld_copyFrom_p34_50_114 (σ : en_S) : x_ld_copyFrom_p34_50_114 σ =
    x_ld_copyFrom_p34_50_137 (en_uf (en_u1 σ.1 34 9 (σ.1 50 9)) 41 (va_cpy (σ.1 57) (σ.1 41) 0 0 8), σ.2) := en_ex_un (G := bb_G) (P := bb_P) (ML := bb_ML) (HD := bb_HD) 14 0 2002 114 [some (.ref 34), some (.ref 50)] [] σ
set_option maxRecDepth 100000 in
set_option maxHeartbeats 1000000 in
theorem e_ld_copyFrom_p34_50_137 (σ : en_S) : x_ld_copyFrom_p34_50_137 σ =
    x_ld_copyFrom_p34_50_152 (en_uf σ.1 42 (va_cpy (σ.1 58) (σ.1 42) 0 0 8), σ.2) := en_ex_un (G := bb_G) (P := bb_P) (ML := bb_ML) (HD := bb_HD) 10 0 2002 137 [some (.ref 34), some (.ref 50)] [] σ
set_option maxRecDepth 100000 in
set_option maxHeartbeats 1000000 in
theorem e_ld_copyFrom_p34_50_152 (σ : en_S) : x_ld_copyFrom_p34_50_152 σ =
    en_cV (x_ru_copyFrom_p44_60_0 (en_uf σ.1 43 (va_cpy (σ.1 59) (σ.1 43) 0 0 8), σ.2)) (fun σ1 =>
      en_cV (x_ru_copyFrom_p47_63_0 σ1) (fun σ2 =>
        some (.inl none, σ2)) (fun e σ => some (.inr e, σ))) (fun e σ => some (.inr e, σ)) := en_ex_un (G := bb_G) (P := bb_P) (ML := bb_ML) (HD := bb_HD) 21 0 2002 152 [some (.ref 34), some (.ref 50)] [] σ
set_option maxRecDepth 100000 in
set_option maxHeartbeats 1000000 in
theorem e_ld_pairs_p34_0 (σ : en_S) : x_ld_pairs_p34_0 σ =
    x_ld_pairs_p34_4 σ 0 0 := en_ex_un (G := bb_G) (P := bb_P) (ML := bb_ML) (HD := bb_HD) 6 0 2010 0 [some (.ref 34), none, none, none] [] σ
set_option maxRecDepth 100000 in
set_option maxHeartbeats 1000000 in
theorem e_ld_pairs_p34_4 (σ : en_S) (v1 : Int32) (v2 : Int32) : x_ld_pairs_p34_4 σ v1 v2 =
    if σ.1 34 9 ≤ v2 then
      some (.inl (some (.int v1)), σ)
    else
      x_ld_pairs_p34_16 σ v1 v2 (v2 + 1) := en_ex_un (G := bb_G) (P := bb_P) (ML := bb_ML) (HD := bb_HD) 12 0 2010 4 [some (.ref 34), some (.int v1), some (.int v2), none] [] σ
set_option maxRecDepth 100000 in
set_option maxHeartbeats 1000000 in
theorem e_ld_pairs_p34_16 (σ : en_S) (v1 : Int32) (v2 : Int32) (v3 : Int32) : x_ld_pairs_p34_16 σ v1 v2 v3 =
    if σ.1 34 9 ≤ v3 then
      x_ld_pairs_p34_4 σ v1 (v2 + 1)
    else
      if en_in v2 8 then
        if en_in v3 8 then
          if σ.1 42 v2.toNatClampNeg = σ.1 42 v3.toNatClampNeg then
            x_ld_pairs_p34_16 σ (v1 + 1) v2 (v3 + 1)
          else
            x_ld_pairs_p34_16 σ v1 v2 (v3 + 1)
        else
          none
      else
        none := en_ex_un (G := bb_G) (P := bb_P) (ML := bb_ML) (HD := bb_HD) 22 0 2010 16 [some (.ref 34), some (.int v1), some (.int v2), some (.int v3)] [] σ
set_option maxRecDepth 100000 in
set_option maxHeartbeats 1000000 in
theorem e_ld_leanOf_p34_0 (σ : en_S) (v1 : Int32) : x_ld_leanOf_p34_0 σ v1 =
    x_ld_leanOf_p34_8 σ v1 0 9 0 := en_ex_un (G := bb_G) (P := bb_P) (ML := bb_ML) (HD := bb_HD) 8 0 2011 0 [some (.ref 34), some (.int v1), none, none, none] [] σ
set_option maxRecDepth 100000 in
set_option maxHeartbeats 1000000 in
theorem e_ld_leanOf_p34_8 (σ : en_S) (v1 : Int32) (v2 : Int32) (v3 : Int32) (v4 : Int32) : x_ld_leanOf_p34_8 σ v1 v2 v3 v4 =
    if σ.1 34 9 ≤ v4 then
      some (.inl (some (.int (if (0 : Int32) < v2 - v3 then v2 - v3 else 0))), σ)
    else
      en_cI (x_b_hasBit_0 σ v1 v4) (fun r2 σ1 =>
        if r2 = 0 then
          x_ld_leanOf_p34_8 σ1 v1 v2 v3 (v4 + 1)
        else
          if en_in v4 8 then
            if en_in v4 8 then
              x_ld_leanOf_p34_8 σ1 v1 (if v2 < σ1.1 42 v4.toNatClampNeg then σ1.1 42 v4.toNatClampNeg else v2) (if σ1.1 42 v4.toNatClampNeg < v3 then σ1.1 42 v4.toNatClampNeg else v3) (v4 + 1)
            else
              none
          else
            none) (fun e σ => some (.inr e, σ)) := en_ex_un (G := bb_G) (P := bb_P) (ML := bb_ML) (HD := bb_HD) 34 0 2011 8 [some (.ref 34), some (.int v1), some (.int v2), some (.int v3), some (.int v4)] [] σ
set_option maxRecDepth 100000 in
set_option maxHeartbeats 1000000 in
theorem e_ld_measure_p34_105_0 (σ : en_S) (v1 : Int32) (v2 : Int32) : x_ld_measure_p34_105_0 σ v1 v2 =
    en_cV (x_ja_fill_p105_0 σ (-1)) (fun σ1 =>
      if en_in v1 8 then
        x_ld_measure_p34_105_12 (en_u1 σ1.1 105 v1.toNatClampNeg 0, σ1.2) v2 1
      else
        none) (fun e σ => some (.inr e, σ)) := en_ex_un (G := bb_G) (P := bb_P) (ML := bb_ML) (HD := bb_HD) 11 0 2012 0 [some (.ref 34), some (.int v1), some (.int v2), some (.ref 105), none, none] [] σ
set_option maxRecDepth 100000 in
set_option maxHeartbeats 1000000 in
theorem e_ld_measure_p34_105_12 (σ : en_S) (v2 : Int32) (v4 : Int32) : x_ld_measure_p34_105_12 σ v2 v4 =
    if σ.1 34 0 ≤ v4 then
      some (.inl none, σ)
    else
      x_ld_measure_p34_105_24 σ v2 v4 0 := en_ex_un (G := bb_G) (P := bb_P) (ML := bb_ML) (HD := bb_HD) 9 0 2012 12 [some (.ref 34), none, some (.int v2), some (.ref 105), some (.int v4), none] [] σ
set_option maxRecDepth 100000 in
set_option maxHeartbeats 1000000 in
theorem e_ld_measure_p34_105_24 (σ : en_S) (v2 : Int32) (v4 : Int32) (v5 : Int32) : x_ld_measure_p34_105_24 σ v2 v4 v5 =
    if σ.1 34 1 ≤ v5 then
      x_ld_measure_p34_105_12 σ v2 (v4 + 1)
    else
      if en_in v5 14 then
        if en_in v5 14 then
          en_cV (x_ld_goAlong_p34_105_0 σ v5 (σ.1 35 v5.toNatClampNeg) (σ.1 36 v5.toNatClampNeg) v2) (fun σ1 =>
            if en_in v5 14 then
              if en_in v5 14 then
                en_cV (x_ld_goAlong_p34_105_0 σ1 v5 (σ1.1 36 v5.toNatClampNeg) (σ1.1 35 v5.toNatClampNeg) v2) (fun σ2 =>
                  x_ld_measure_p34_105_24 σ2 v2 v4 (v5 + 1)) (fun e σ => some (.inr e, σ))
              else
                none
            else
              none) (fun e σ => some (.inr e, σ))
        else
          none
      else
        none := en_ex_un (G := bb_G) (P := bb_P) (ML := bb_ML) (HD := bb_HD) 36 0 2012 24 [some (.ref 34), none, some (.int v2), some (.ref 105), some (.int v4), some (.int v5)] [] σ
set_option maxRecDepth 100000 in
set_option maxHeartbeats 1000000 in
theorem e_ld_hasBox_p34_0 (σ : en_S) (v1 : Int32) : x_ld_hasBox_p34_0 σ v1 =
    if v1 < 0 then
      some (.inl (some (.int 0)), σ)
    else
      if σ.1 34 5 ≤ v1 then
        some (.inl (some (.int 0)), σ)
      else
        some (.inl (some (.int 1)), σ) := en_ex_un (G := bb_G) (P := bb_P) (ML := bb_ML) (HD := bb_HD) 15 0 2004 0 [some (.ref 34), some (.int v1)] [] σ
set_option maxRecDepth 100000 in
set_option maxHeartbeats 1000000 in
theorem e_ld_hasTown_p34_0 (σ : en_S) (v1 : Int32) : x_ld_hasTown_p34_0 σ v1 =
    if v1 < 0 then
      some (.inl (some (.int 0)), σ)
    else
      if σ.1 34 0 ≤ v1 then
        some (.inl (some (.int 0)), σ)
      else
        some (.inl (some (.int 1)), σ) := en_ex_un (G := bb_G) (P := bb_P) (ML := bb_ML) (HD := bb_HD) 15 0 2003 0 [some (.ref 34), some (.int v1)] [] σ
set_option maxRecDepth 100000 in
set_option maxHeartbeats 1000000 in
theorem e_ld_townAt_p34_0 (σ : en_S) (v1 : Int32) (v2 : Int32) : x_ld_townAt_p34_0 σ v1 v2 =
    if (v1 * 6) + v2 < 0 then
      some (.inl (some (.int 0)), σ)
    else
      if (36 : Int32) ≤ (v1 * 6) + v2 then
        some (.inl (some (.int 0)), σ)
      else
        if en_in ((v1 * 6) + v2) 36 then
          some (.inl (some (.int (σ.1 40 (((v1 * 6) + v2).toNatClampNeg)))), σ)
        else
          none := en_ex_un (G := bb_G) (P := bb_P) (ML := bb_ML) (HD := bb_HD) 25 0 2008 0 [some (.ref 34), some (.int v1), some (.int v2), none] [] σ
set_option maxRecDepth 100000 in
set_option maxHeartbeats 1000000 in
theorem e_ld_nextPlace_p34_0 (σ : en_S) (v1 : Int32) (v2 : Int32) : x_ld_nextPlace_p34_0 σ v1 v2 =
    if en_in v1 6 then
      if σ.1 39 v1.toNatClampNeg ≤ v2 + 1 then
        some (.inl (some (.int 0)), σ)
      else
        some (.inl (some (.int (v2 + 1))), σ)
    else
      none := en_ex_un (G := bb_G) (P := bb_P) (ML := bb_ML) (HD := bb_HD) 17 0 2009 0 [some (.ref 34), some (.int v1), some (.int v2)] [] σ
set_option maxRecDepth 100000 in
set_option maxHeartbeats 1000000 in
theorem e_ld_empty_p50_0 (σ : en_S) : x_ld_empty_p50_0 σ =
    en_cV (x_ru_empty_p60_0 (en_u1 (en_u1 (en_u1 (en_u1 σ.1 50 0 4) 50 1 0) 50 5 0) 50 9 0, σ.2)) (fun σ1 =>
      en_cV (x_ru_empty_p63_0 σ1) (fun σ2 =>
        some (.inl none, σ2)) (fun e σ => some (.inr e, σ))) (fun e σ => some (.inr e, σ)) := en_ex_un (G := bb_G) (P := bb_P) (ML := bb_ML) (HD := bb_HD) 21 0 2001 0 [some (.ref 50)] [] σ
set_option maxRecDepth 100000 in
set_option maxHeartbeats 1000000 in
theorem e_ld_goAlong_p34_105_0 (σ : en_S) (v1 : Int32) (v2 : Int32) (v3 : Int32) (v4 : Int32) : x_ld_goAlong_p34_105_0 σ v1 v2 v3 v4 =
    en_cI (x_ld_hasTown_p34_0 σ v2) (fun r2 σ1 =>
      if r2 = 0 then
        some (.inl none, σ1)
      else
        en_cI (x_ld_hasTown_p34_0 σ1 v3) (fun r4 σ3 =>
          if r4 = 0 then
            some (.inl none, σ3)
          else
            if en_in v2 8 then
              if σ3.1 105 v2.toNatClampNeg = (-1) then
                some (.inl none, σ3)
              else
                if en_in v2 8 then
                  if v4 = 0 then
                    if en_in v1 14 then
                      if v4 = 2 then
                        if en_in v2 8 then
                          if en_in v1 14 then
                            x_ld_goAlong_p34_105_68 σ3 v3 (if σ3.1 105 v2.toNatClampNeg < σ3.1 37 v1.toNatClampNeg then σ3.1 37 v1.toNatClampNeg else σ3.1 105 v2.toNatClampNeg)
                          else
                            none
                        else
                          none
                      else
                        x_ld_goAlong_p34_105_68 σ3 v3 ((σ3.1 105 v2.toNatClampNeg) + (σ3.1 37 v1.toNatClampNeg))
                    else
                      none
                  else
                    if v4 = 2 then
                      if en_in v2 8 then
                        if en_in v1 14 then
                          x_ld_goAlong_p34_105_68 σ3 v3 (if σ3.1 105 v2.toNatClampNeg < σ3.1 37 v1.toNatClampNeg then σ3.1 37 v1.toNatClampNeg else σ3.1 105 v2.toNatClampNeg)
                        else
                          none
                      else
                        none
                    else
                      x_ld_goAlong_p34_105_68 σ3 v3 ((σ3.1 105 v2.toNatClampNeg) + 1)
                else
                  none
            else
              none) (fun e σ => some (.inr e, σ))) (fun e σ => some (.inr e, σ)) := en_ex_un (G := bb_G) (P := bb_P) (ML := bb_ML) (HD := bb_HD) 57 0 2013 0 [some (.ref 34), some (.int v1), some (.int v2), some (.int v3), some (.int v4), some (.ref 105), none] [] σ
set_option maxRecDepth 100000 in
set_option maxHeartbeats 1000000 in
theorem e_ld_goAlong_p34_105_68 (σ : en_S) (v3 : Int32) (v6 : Int32) : x_ld_goAlong_p34_105_68 σ v3 v6 =
    if en_in v3 8 then
      if σ.1 105 v3.toNatClampNeg = (-1) then
        if en_in v3 8 then
          some (.inl none, (en_u1 σ.1 105 v3.toNatClampNeg v6, σ.2))
        else
          none
      else
        if en_in v3 8 then
          if σ.1 105 v3.toNatClampNeg ≤ v6 then
            some (.inl none, σ)
          else
            if en_in v3 8 then
              some (.inl none, (en_u1 σ.1 105 v3.toNatClampNeg v6, σ.2))
            else
              none
        else
          none
    else
      none := en_ex_un (G := bb_G) (P := bb_P) (ML := bb_ML) (HD := bb_HD) 23 0 2013 68 [none, none, none, some (.int v3), none, some (.ref 105), some (.int v6)] [] σ
set_option maxRecDepth 100000 in
set_option maxHeartbeats 1000000 in
theorem e_ld_addStop_p50_0 (σ : en_S) (v1 : Int32) (v2 : Int32) (v3 : Int32) : x_ld_addStop_p50_0 σ v1 v2 v3 =
    if (6 : Int32) ≤ v1 then
      some (.inl none, σ)
    else
      if (6 : Int32) ≤ v2 then
        some (.inl none, σ)
      else
        if en_in ((v1 * 6) + v2) 36 then
          if en_in v1 6 then
            some (.inl none, (en_u1 (en_u1 σ.1 56 (((v1 * 6) + v2).toNatClampNeg) v3) 55 v1.toNatClampNeg (v2 + 1), σ.2))
          else
            none
        else
          none := en_ex_un (G := bb_G) (P := bb_P) (ML := bb_ML) (HD := bb_HD) 27 0 2007 0 [some (.ref 50), some (.int v1), some (.int v2), some (.int v3)] [] σ
set_option maxRecDepth 100000 in
set_option maxHeartbeats 1000000 in
theorem e_ld_addRoad_p50_0 (σ : en_S) (v1 : Int32) (v2 : Int32) (v3 : Int32) : x_ld_addRoad_p50_0 σ v1 v2 v3 =
    if (14 : Int32) ≤ σ.1 50 1 then
      some (.inl none, σ)
    else
      if en_in (σ.1 50 1) 14 then
        if en_in (σ.1 50 1) 14 then
          if en_in (σ.1 50 1) 14 then
            some (.inl none, (en_u1 (en_u1 (en_u1 (en_u1 σ.1 51 ((σ.1 50 1).toNatClampNeg) v1) 52 ((σ.1 50 1).toNatClampNeg) v2) 53 ((σ.1 50 1).toNatClampNeg) v3) 50 1 ((σ.1 50 1) + 1), σ.2))
          else
            none
        else
          none
      else
        none := en_ex_un (G := bb_G) (P := bb_P) (ML := bb_ML) (HD := bb_HD) 32 0 2005 0 [some (.ref 50), some (.int v1), some (.int v2), some (.int v3)] [] σ
set_option maxRecDepth 100000 in
set_option maxHeartbeats 1000000 in
theorem e_ld_hasRoad_p50_0 (σ : en_S) (v1 : Int32) (v2 : Int32) : x_ld_hasRoad_p50_0 σ v1 v2 =
    x_ld_hasRoad_p50_2 σ v1 v2 0 := en_ex_un (G := bb_G) (P := bb_P) (ML := bb_ML) (HD := bb_HD) 4 0 2006 0 [some (.ref 50), some (.int v1), some (.int v2), none, none, none] [] σ
set_option maxRecDepth 100000 in
set_option maxHeartbeats 1000000 in
theorem e_ld_hasRoad_p50_2 (σ : en_S) (v1 : Int32) (v2 : Int32) (v3 : Int32) : x_ld_hasRoad_p50_2 σ v1 v2 v3 =
    if σ.1 50 1 ≤ v3 then
      some (.inl (some (.int 0)), σ)
    else
      if en_in v3 14 then
        if σ.1 51 v3.toNatClampNeg = v1 then
          if en_in v3 14 then
            if σ.1 52 v3.toNatClampNeg = v2 then
              x_ld_hasRoad_p50_35 σ v1 v2 v3 1
            else
              x_ld_hasRoad_p50_35 σ v1 v2 v3 0
          else
            none
        else
          x_ld_hasRoad_p50_35 σ v1 v2 v3 0
      else
        none := en_ex_un (G := bb_G) (P := bb_P) (ML := bb_ML) (HD := bb_HD) 24 0 2006 2 [some (.ref 50), some (.int v1), some (.int v2), some (.int v3), none, none] [] σ
set_option maxRecDepth 100000 in
set_option maxHeartbeats 1000000 in
theorem e_ld_hasRoad_p50_35 (σ : en_S) (v1 : Int32) (v2 : Int32) (v3 : Int32) (t0 : Int32) : x_ld_hasRoad_p50_35 σ v1 v2 v3 t0 =
    if en_in v3 14 then
      if σ.1 51 v3.toNatClampNeg = v2 then
        if en_in v3 14 then
          if σ.1 52 v3.toNatClampNeg = v1 then
            if t0 = 0 then
              some (.inl (some (.int 1)), σ)
            else
              some (.inl (some (.int 1)), σ)
          else
            if t0 = 0 then
              x_ld_hasRoad_p50_2 σ v1 v2 (v3 + 1)
            else
              some (.inl (some (.int 1)), σ)
        else
          none
      else
        if t0 = 0 then
          x_ld_hasRoad_p50_2 σ v1 v2 (v3 + 1)
        else
          some (.inl (some (.int 1)), σ)
    else
      none := en_ex_un (G := bb_G) (P := bb_P) (ML := bb_ML) (HD := bb_HD) 46 0 2006 35 [some (.ref 50), some (.int v1), some (.int v2), some (.int v3), none, none] [.int t0] σ
set_option maxRecDepth 100000 in
set_option maxHeartbeats 1000000 in
theorem e_ps_keep_p79_67_0 (σ : en_S) : x_ps_keep_p79_67_0 σ =
    if σ.1 79 0 < 40 then
      en_cV (x_st_writeTo_p67_80_0 σ ((σ.1 79 0) * 29)) (fun σ1 =>
        some (.inl none, (en_u1 σ1.1 79 0 ((σ1.1 79 0) + 1), σ1.2))) (fun e σ => some (.inr e, σ))
    else
      en_cV (x_st_writeTo_p67_80_0 (en_uf (en_u1 σ.1 79 0 39) 80 (va_cpy (σ.1 80) (σ.1 80) 29 0 1131), σ.2) 1131) (fun σ2 =>
        some (.inl none, (en_u1 σ2.1 79 0 ((σ2.1 79 0) + 1), σ2.2))) (fun e σ => some (.inr e, σ)) := en_ex_un (G := bb_G) (P := bb_P) (ML := bb_ML) (HD := bb_HD) 50 0 3001 0 [some (.ref 79), some (.ref 67)] [] σ
set_option maxRecDepth 100000 in
set_option maxHeartbeats 1000000 in
theorem e_ps_takeBack_p79_67_0 (σ : en_S) : x_ps_takeBack_p79_67_0 σ =
    if (1 : Int32) ≤ σ.1 79 0 then
      en_cV (x_st_readFrom_p67_80_0 (en_u1 σ.1 79 0 ((σ.1 79 0) - 1), σ.2) (((σ.1 79 0) - 1) * 29)) (fun σ1 =>
        some (.inl (some (.int 1)), σ1)) (fun e σ => some (.inr e, σ))
    else
      some (.inl (some (.int 0)), σ) := en_ex_un (G := bb_G) (P := bb_P) (ML := bb_ML) (HD := bb_HD) 24 0 3002 0 [some (.ref 79), some (.ref 67)] [] σ
set_option maxRecDepth 100000 in
set_option maxHeartbeats 1000000 in
theorem e_ps_copyFrom_p91_79_0 (σ : en_S) : x_ps_copyFrom_p91_79_0 σ =
    if ¬ (0 : Int32) < 0 ∧ ¬ (0 : Int32) < 0 ∧ ¬ (σ.1 79 0) * 29 < 0 ∧ 0 + ((σ.1 79 0) * 29).toNatClampNeg ≤ 1160 ∧ 0 + ((σ.1 79 0) * 29).toNatClampNeg ≤ 1160 then
      some (.inl none, (en_uf (en_u1 σ.1 91 0 (σ.1 79 0)) 92 (va_cpy (σ.1 80) (σ.1 92) 0 0 (((σ.1 79 0) * 29).toNatClampNeg)), σ.2))
    else
      none := en_ex_un (G := bb_G) (P := bb_P) (ML := bb_ML) (HD := bb_HD) 18 0 3003 0 [some (.ref 91), some (.ref 79)] [] σ
set_option maxRecDepth 100000 in
set_option maxHeartbeats 1000000 in
theorem e_ps_copyFrom_p79_91_0 (σ : en_S) : x_ps_copyFrom_p79_91_0 σ =
    if ¬ (0 : Int32) < 0 ∧ ¬ (0 : Int32) < 0 ∧ ¬ (σ.1 91 0) * 29 < 0 ∧ 0 + ((σ.1 91 0) * 29).toNatClampNeg ≤ 1160 ∧ 0 + ((σ.1 91 0) * 29).toNatClampNeg ≤ 1160 then
      some (.inl none, (en_uf (en_u1 σ.1 79 0 (σ.1 91 0)) 80 (va_cpy (σ.1 92) (σ.1 80) 0 0 (((σ.1 91 0) * 29).toNatClampNeg)), σ.2))
    else
      none := en_ex_un (G := bb_G) (P := bb_P) (ML := bb_ML) (HD := bb_HD) 18 0 3003 0 [some (.ref 79), some (.ref 91)] [] σ
set_option maxRecDepth 100000 in
set_option maxHeartbeats 1000000 in
theorem e_ji_bitCount_0 (σ : en_S) (v0 : Int32) : x_ji_bitCount_0 σ v0 =
    some (.inl (some (.int ((((((((v0 - ((en_ushr v0 (1 : Int32)) &&& 1431655765)) &&& 858993459) + ((en_ushr (v0 - ((en_ushr v0 (1 : Int32)) &&& 1431655765)) (2 : Int32)) &&& 858993459)) + (en_ushr (((v0 - ((en_ushr v0 (1 : Int32)) &&& 1431655765)) &&& 858993459) + ((en_ushr (v0 - ((en_ushr v0 (1 : Int32)) &&& 1431655765)) (2 : Int32)) &&& 858993459)) (4 : Int32))) &&& 252645135) + (en_ushr (((((v0 - ((en_ushr v0 (1 : Int32)) &&& 1431655765)) &&& 858993459) + ((en_ushr (v0 - ((en_ushr v0 (1 : Int32)) &&& 1431655765)) (2 : Int32)) &&& 858993459)) + (en_ushr (((v0 - ((en_ushr v0 (1 : Int32)) &&& 1431655765)) &&& 858993459) + ((en_ushr (v0 - ((en_ushr v0 (1 : Int32)) &&& 1431655765)) (2 : Int32)) &&& 858993459)) (4 : Int32))) &&& 252645135) (8 : Int32))) + (en_ushr ((((((v0 - ((en_ushr v0 (1 : Int32)) &&& 1431655765)) &&& 858993459) + ((en_ushr (v0 - ((en_ushr v0 (1 : Int32)) &&& 1431655765)) (2 : Int32)) &&& 858993459)) + (en_ushr (((v0 - ((en_ushr v0 (1 : Int32)) &&& 1431655765)) &&& 858993459) + ((en_ushr (v0 - ((en_ushr v0 (1 : Int32)) &&& 1431655765)) (2 : Int32)) &&& 858993459)) (4 : Int32))) &&& 252645135) + (en_ushr (((((v0 - ((en_ushr v0 (1 : Int32)) &&& 1431655765)) &&& 858993459) + ((en_ushr (v0 - ((en_ushr v0 (1 : Int32)) &&& 1431655765)) (2 : Int32)) &&& 858993459)) + (en_ushr (((v0 - ((en_ushr v0 (1 : Int32)) &&& 1431655765)) &&& 858993459) + ((en_ushr (v0 - ((en_ushr v0 (1 : Int32)) &&& 1431655765)) (2 : Int32)) &&& 858993459)) (4 : Int32))) &&& 252645135) (8 : Int32))) (16 : Int32))) &&& 63))), σ) := en_ex_un (G := bb_G) (P := bb_P) (ML := bb_ML) (HD := bb_HD) 44 0 13000 0 [some (.int v0)] [] σ
set_option maxRecDepth 100000 in
set_option maxHeartbeats 1000000 in
theorem e_ja_fill_p69_0 (σ : en_S) (v1 : Int32) : x_ja_fill_p69_0 σ v1 =
    x_ja_fill_p69_5 σ v1 0 6 := en_ex_un (G := bb_G) (P := bb_P) (ML := bb_ML) (HD := bb_HD) 7 0 14000 0 [some (.ref 69), some (.int v1), none, none] [] σ
set_option maxRecDepth 100000 in
set_option maxHeartbeats 1000000 in
theorem e_ja_fill_p69_5 (σ : en_S) (v1 : Int32) (v2 : Int32) (v3 : Int32) : x_ja_fill_p69_5 σ v1 v2 v3 =
    if v3 ≤ v2 then
      some (.inl none, σ)
    else
      if en_in v2 6 then
        x_ja_fill_p69_5 (en_u1 σ.1 69 v2.toNatClampNeg v1, σ.2) v1 (v2 + 1) v3
      else
        none := en_ex_un (G := bb_G) (P := bb_P) (ML := bb_ML) (HD := bb_HD) 12 0 14000 5 [some (.ref 69), some (.int v1), some (.int v2), some (.int v3)] [] σ
set_option maxRecDepth 100000 in
set_option maxHeartbeats 1000000 in
theorem e_ja_fill_p71_0 (σ : en_S) (v1 : Int32) : x_ja_fill_p71_0 σ v1 =
    x_ja_fill_p71_5 σ v1 0 8 := en_ex_un (G := bb_G) (P := bb_P) (ML := bb_ML) (HD := bb_HD) 7 0 14000 0 [some (.ref 71), some (.int v1), none, none] [] σ
set_option maxRecDepth 100000 in
set_option maxHeartbeats 1000000 in
theorem e_ja_fill_p71_5 (σ : en_S) (v1 : Int32) (v2 : Int32) (v3 : Int32) : x_ja_fill_p71_5 σ v1 v2 v3 =
    if v3 ≤ v2 then
      some (.inl none, σ)
    else
      if en_in v2 8 then
        x_ja_fill_p71_5 (en_u1 σ.1 71 v2.toNatClampNeg v1, σ.2) v1 (v2 + 1) v3
      else
        none := en_ex_un (G := bb_G) (P := bb_P) (ML := bb_ML) (HD := bb_HD) 12 0 14000 5 [some (.ref 71), some (.int v1), some (.int v2), some (.int v3)] [] σ
set_option maxRecDepth 100000 in
set_option maxHeartbeats 1000000 in
theorem e_ja_fill_p105_0 (σ : en_S) (v1 : Int32) : x_ja_fill_p105_0 σ v1 =
    x_ja_fill_p105_5 σ v1 0 8 := en_ex_un (G := bb_G) (P := bb_P) (ML := bb_ML) (HD := bb_HD) 7 0 14000 0 [some (.ref 105), some (.int v1), none, none] [] σ
set_option maxRecDepth 100000 in
set_option maxHeartbeats 1000000 in
theorem e_ja_fill_p105_5 (σ : en_S) (v1 : Int32) (v2 : Int32) (v3 : Int32) : x_ja_fill_p105_5 σ v1 v2 v3 =
    if v3 ≤ v2 then
      some (.inl none, σ)
    else
      if en_in v2 8 then
        x_ja_fill_p105_5 (en_u1 σ.1 105 v2.toNatClampNeg v1, σ.2) v1 (v2 + 1) v3
      else
        none := en_ex_un (G := bb_G) (P := bb_P) (ML := bb_ML) (HD := bb_HD) 12 0 14000 5 [some (.ref 105), some (.int v1), some (.int v2), some (.int v3)] [] σ
set_option maxRecDepth 100000 in
set_option maxHeartbeats 1000000 in
theorem e_ja_fill_p103_0 (σ : en_S) (v1 : Int32) : x_ja_fill_p103_0 σ v1 =
    x_ja_fill_p103_5 σ v1 0 100 := en_ex_un (G := bb_G) (P := bb_P) (ML := bb_ML) (HD := bb_HD) 7 0 14000 0 [some (.ref 103), some (.int v1), none, none] [] σ
set_option maxRecDepth 100000 in
set_option maxHeartbeats 1000000 in
theorem e_ja_fill_p103_5 (σ : en_S) (v1 : Int32) (v2 : Int32) (v3 : Int32) : x_ja_fill_p103_5 σ v1 v2 v3 =
    if v3 ≤ v2 then
      some (.inl none, σ)
    else
      if en_in v2 100 then
        x_ja_fill_p103_5 (en_u1 σ.1 103 v2.toNatClampNeg v1, σ.2) v1 (v2 + 1) v3
      else
        none := en_ex_un (G := bb_G) (P := bb_P) (ML := bb_ML) (HD := bb_HD) 12 0 14000 5 [some (.ref 103), some (.int v1), some (.int v2), some (.int v3)] [] σ
