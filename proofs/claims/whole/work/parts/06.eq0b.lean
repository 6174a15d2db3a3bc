/-! written by a program: each region's equation -/
set_option maxRecDepth 100000 in
set_option maxHeartbeats 1000000 in
theorem e_m_greater_0 (σ : en_S) (v0 : Int32) (v1 : Int32) : x_m_greater_0 σ v0 v1 =
    if v0 ≤ v1 then
      some (.inl (some (.int v1)), σ)
    else
      some (.inl (some (.int v0)), σ) := en_ex_un (G := bb_G) (P := bb_P) (ML := bb_ML) (HD := bb_HD) 10 0 6 0 [some (.int v0), some (.int v1)] [] σ
set_option maxRecDepth 100000 in
set_option maxHeartbeats 1000000 in
theorem e_m_laysWays_0 (σ : en_S) (v1 : Int32) (v2 : Int32) : x_m_laysWays_0 σ v1 v2 =
    x_m_laysWays_2 σ v1 v2 0 := en_ex_un (G := bb_G) (P := bb_P) (ML := bb_ML) (HD := bb_HD) 4 0 97 0 [some (.ref 0), some (.int v1), some (.int v2), none, none, none, none] [] σ
set_option maxRecDepth 100000 in
set_option maxHeartbeats 1000000 in
theorem e_m_laysWays_2 (σ : en_S) (v1 : Int32) (v2 : Int32) (v3 : Int32) : x_m_laysWays_2 σ v1 v2 v3 =
    if (8 : Int32) ≤ v3 then
      x_m_laysWays_34 σ v2 0
    else
      if v3 = v1 then
        if en_in v3 8 then
          x_m_laysWays_2 (en_u1 σ.1 23 v3.toNatClampNeg 0, σ.2) v1 v2 (v3 + 1)
        else
          none
      else
        if en_in v3 8 then
          x_m_laysWays_2 (en_u1 σ.1 23 v3.toNatClampNeg 99999, σ.2) v1 v2 (v3 + 1)
        else
          none := en_ex_un (G := bb_G) (P := bb_P) (ML := bb_ML) (HD := bb_HD) 22 0 97 2 [some (.ref 0), some (.int v1), some (.int v2), some (.int v3), none, none, none] [] σ
set_option maxRecDepth 100000 in
set_option maxHeartbeats 1000000 in
theorem e_m_laysWays_34 (σ : en_S) (v2 : Int32) (v3 : Int32) : x_m_laysWays_34 σ v2 v3 =
    if σ.1 0 1 ≤ v3 then
      some (.inl none, σ)
    else
      x_m_laysWays_45 σ v2 v3 0 := en_ex_un (G := bb_G) (P := bb_P) (ML := bb_ML) (HD := bb_HD) 9 0 97 34 [some (.ref 0), none, some (.int v2), some (.int v3), none, none, none] [] σ
set_option maxRecDepth 100000 in
set_option maxHeartbeats 1000000 in
theorem e_m_laysWays_45 (σ : en_S) (v2 : Int32) (v3 : Int32) (v4 : Int32) : x_m_laysWays_45 σ v2 v3 v4 =
    if σ.1 0 1 ≤ v4 then
      x_m_laysWays_34 σ v2 (v3 + 1)
    else
      x_m_laysWays_57 σ v2 v3 v4 0 := en_ex_un (G := bb_G) (P := bb_P) (ML := bb_ML) (HD := bb_HD) 10 0 97 45 [some (.ref 0), none, some (.int v2), some (.int v3), some (.int v4), none, none] [] σ
set_option maxRecDepth 100000 in
set_option maxHeartbeats 1000000 in
theorem e_m_laysWays_57 (σ : en_S) (v2 : Int32) (v3 : Int32) (v4 : Int32) (v5 : Int32) : x_m_laysWays_57 σ v2 v3 v4 v5 =
    if σ.1 0 1 ≤ v5 then
      x_m_laysWays_45 σ v2 v3 (v4 + 1)
    else
      if en_in ((8 * v4) + v5) 64 then
        if σ.1 1 (((8 * v4) + v5).toNatClampNeg) = (-1) then
          x_m_laysWays_57 σ v2 v3 v4 (v5 + 1)
        else
          if en_in v4 8 then
            if σ.1 23 v4.toNatClampNeg < 99999 then
              if en_in v5 8 then
                if v2 = 0 then
                  if en_in v4 8 then
                    en_cI (x_m_lesser_0 σ (σ.1 23 v5.toNatClampNeg) ((σ.1 23 v4.toNatClampNeg) + (σ.1 1 (((8 * v4) + v5).toNatClampNeg)))) (fun r2 σ1 =>
                      if en_in v5 8 then
                        x_m_laysWays_57 (en_u1 σ1.1 23 v5.toNatClampNeg r2, σ1.2) v2 v3 v4 (v5 + 1)
                      else
                        none) (fun e σ => some (.inr e, σ))
                  else
                    none
                else
                  if v2 = 1 then
                    if en_in v4 8 then
                      en_cI (x_m_lesser_0 σ (σ.1 23 v5.toNatClampNeg) ((σ.1 23 v4.toNatClampNeg) + 1)) (fun r4 σ3 =>
                        if en_in v5 8 then
                          x_m_laysWays_57 (en_u1 σ3.1 23 v5.toNatClampNeg r4, σ3.2) v2 v3 v4 (v5 + 1)
                        else
                          none) (fun e σ => some (.inr e, σ))
                    else
                      none
                  else
                    if en_in v4 8 then
                      en_cI (x_m_greater_0 σ (σ.1 23 v4.toNatClampNeg) (σ.1 1 (((8 * v4) + v5).toNatClampNeg))) (fun r6 σ5 =>
                        en_cI (x_m_lesser_0 σ5 (σ.1 23 v5.toNatClampNeg) r6) (fun r8 σ7 =>
                          if en_in v5 8 then
                            x_m_laysWays_57 (en_u1 σ7.1 23 v5.toNatClampNeg r8, σ7.2) v2 v3 v4 (v5 + 1)
                          else
                            none) (fun e σ => some (.inr e, σ))) (fun e σ => some (.inr e, σ))
                    else
                      none
              else
                none
            else
              x_m_laysWays_57 σ v2 v3 v4 (v5 + 1)
          else
            none
      else
        none := en_ex_un (G := bb_G) (P := bb_P) (ML := bb_ML) (HD := bb_HD) 75 0 97 57 [some (.ref 0), none, some (.int v2), some (.int v3), some (.int v4), some (.int v5), none] [] σ
set_option maxRecDepth 100000 in
set_option maxHeartbeats 1000000 in
theorem e_m_isSeen_0 (σ : en_S) : x_m_isSeen_0 σ =
    x_m_isSeen_2 σ 0 := en_ex_un (G := bb_G) (P := bb_P) (ML := bb_ML) (HD := bb_HD) 4 0 105 0 [some (.ref 0), none, none] [] σ
set_option maxRecDepth 100000 in
set_option maxHeartbeats 1000000 in
theorem e_m_isSeen_2 (σ : en_S) (v1 : Int32) : x_m_isSeen_2 σ v1 =
    if (12 : Int32) < v1 then
      some (.inl (some (.int 1)), σ)
    else
      x_m_isSeen_10 σ v1 0 := en_ex_un (G := bb_G) (P := bb_P) (ML := bb_ML) (HD := bb_HD) 9 0 105 2 [some (.ref 0), some (.int v1), none] [] σ
set_option maxRecDepth 100000 in
set_option maxHeartbeats 1000000 in
theorem e_m_isSeen_10 (σ : en_S) (v1 : Int32) (v2 : Int32) : x_m_isSeen_10 σ v1 v2 =
    if σ.1 0 55 ≤ v2 then
      if v1 = 5 then
        x_m_isSeen_76 σ v1 0
      else
        en_cV (x_m_dayGoes_0 σ 29) (fun σ1 =>
          x_m_isSeen_2 σ1 (v1 + 1)) (fun e σ => some (.inr e, σ))
    else
      if en_in ((3 * v2) + 1) 24 then
        if σ.1 24 (((3 * v2) + 1).toNatClampNeg) = v1 then
          if en_in (3 * v2) 24 then
            if en_in (30 + (σ.1 24 ((3 * v2).toNatClampNeg))) 58 then
              if en_in ((3 * v2) + 2) 24 then
                if σ.1 18 ((30 + (σ.1 24 ((3 * v2).toNatClampNeg))).toNatClampNeg) = σ.1 24 (((3 * v2) + 2).toNatClampNeg) then
                  x_m_isSeen_10 σ v1 (v2 + 1)
                else
                  some (.inl (some (.int 0)), σ)
              else
                none
            else
              none
          else
            none
        else
          x_m_isSeen_10 σ v1 (v2 + 1)
      else
        none := en_ex_un (G := bb_G) (P := bb_P) (ML := bb_ML) (HD := bb_HD) 52 0 105 10 [some (.ref 0), some (.int v1), some (.int v2)] [] σ
set_option maxRecDepth 100000 in
set_option maxHeartbeats 1000000 in
theorem e_m_isSeen_76 (σ : en_S) (v1 : Int32) (v2 : Int32) : x_m_isSeen_76 σ v1 v2 =
    if σ.1 0 3 ≤ v2 then
      en_cV (x_m_dayGoes_0 σ 29) (fun σ1 =>
        x_m_isSeen_2 σ1 (v1 + 1)) (fun e σ => some (.inr e, σ))
    else
      if en_in (30 + v2) 58 then
        if en_in v2 6 then
          x_m_isSeen_76 (en_u1 σ.1 25 v2.toNatClampNeg (σ.1 18 ((30 + v2).toNatClampNeg)), σ.2) v1 (v2 + 1)
        else
          none
      else
        none := en_ex_un (G := bb_G) (P := bb_P) (ML := bb_ML) (HD := bb_HD) 23 0 105 76 [some (.ref 0), some (.int v1), some (.int v2)] [] σ
set_option maxRecDepth 100000 in
set_option maxHeartbeats 1000000 in
theorem e_m_isGuess_0 (σ : en_S) (v1 : Int32) : x_m_isGuess_0 σ v1 =
    if en_in (1 + (v1 / (99 : Int32))) 58 then
      if σ.1 18 ((1 + (v1 / (99 : Int32))).toNatClampNeg) = (v1 - v1 / (99 : Int32) * (99 : Int32)) + 1 then
        some (.inl (some (.int 0)), σ)
      else
        en_cV (x_m_tries_0 σ) (fun σ1 =>
          if en_in (30 + (v1 / (99 : Int32))) 58 then
            en_cI (x_m_isSeen_0 (en_u1 σ1.1 18 ((30 + (v1 / (99 : Int32))).toNatClampNeg) ((v1 - v1 / (99 : Int32) * (99 : Int32)) + 1), σ1.2)) (fun r3 σ2 =>
              if r3 = 0 ∨ r3 = 1 then
                some (.inl (some (.int r3)), σ2)
              else
                none) (fun e σ => some (.inr e, σ))
          else
            none) (fun e σ => some (.inr e, σ))
    else
      none := en_ex_un (G := bb_G) (P := bb_P) (ML := bb_ML) (HD := bb_HD) 36 0 106 0 [some (.ref 0), some (.int v1), none] [] σ
set_option maxRecDepth 100000 in
set_option maxHeartbeats 1000000 in
theorem e_m_tires_0 (σ : en_S) (v1 : Int32) (v2 : Int32) : x_m_tires_0 σ v1 v2 =
    x_m_tires_2 σ v1 v2 0 := en_ex_un (G := bb_G) (P := bb_P) (ML := bb_ML) (HD := bb_HD) 4 0 59 0 [some (.ref 0), some (.int v1), some (.int v2), none] [] σ
set_option maxRecDepth 100000 in
set_option maxHeartbeats 1000000 in
theorem e_m_tires_2 (σ : en_S) (v1 : Int32) (v2 : Int32) (v3 : Int32) : x_m_tires_2 σ v1 v2 v3 =
    if σ.1 0 4 ≤ v3 then
      some (.inl none, σ)
    else
      if (v2 >>> (v3 &&& 31)) &&& 1 = 1 then
        if en_in ((v1 + 21) + v3) 58 then
          en_cI (x_m_lesser_0 σ 9 ((σ.1 18 (((v1 + 21) + v3).toNatClampNeg)) + 1)) (fun r2 σ1 =>
            if en_in ((v1 + 21) + v3) 58 then
              x_m_tires_2 (en_u1 σ1.1 18 (((v1 + 21) + v3).toNatClampNeg) r2, σ1.2) v1 v2 (v3 + 1)
            else
              none) (fun e σ => some (.inr e, σ))
        else
          none
      else
        x_m_tires_2 σ v1 v2 (v3 + 1) := en_ex_un (G := bb_G) (P := bb_P) (ML := bb_ML) (HD := bb_HD) 38 0 59 2 [some (.ref 0), some (.int v1), some (.int v2), some (.int v3)] [] σ
set_option maxRecDepth 100000 in
set_option maxHeartbeats 1000000 in
theorem e_m_gains_0 (σ : en_S) (v1 : Int32) (v2 : Int32) (v3 : Int32) (v4 : Int32) : x_m_gains_0 σ v1 v2 v3 v4 =
    if en_in (13 + v1) 58 then
      en_cI (x_m_handsAt_0 σ 0 (σ.1 18 ((13 + v1).toNatClampNeg))) (fun r2 σ1 =>
        if v3 = 1 then
          if v4 = 1 then
            x_m_gains_51 σ1 v1 v3 (σ.1 18 ((13 + v1).toNatClampNeg)) ((r2 &&& (((1 : Int32) <<< (v1 &&& 31)) ^^^ (-1))) &&& (((1 : Int32) <<< (v2 &&& 31)) ^^^ (-1)))
          else
            x_m_gains_51 σ1 v1 v3 (σ.1 18 ((13 + v1).toNatClampNeg)) (r2 &&& (((1 : Int32) <<< (v1 &&& 31)) ^^^ (-1)))
        else
          if v4 = 1 then
            x_m_gains_51 σ1 v1 v3 (σ.1 18 ((13 + v1).toNatClampNeg)) (r2 &&& (((1 : Int32) <<< (v2 &&& 31)) ^^^ (-1)))
          else
            x_m_gains_51 σ1 v1 v3 (σ.1 18 ((13 + v1).toNatClampNeg)) r2) (fun e σ => some (.inr e, σ))
    else
      none := en_ex_un (G := bb_G) (P := bb_P) (ML := bb_ML) (HD := bb_HD) 47 0 110 0 [some (.ref 0), some (.int v1), some (.int v2), some (.int v3), some (.int v4), none, none] [] σ
set_option maxRecDepth 100000 in
set_option maxHeartbeats 1000000 in
theorem e_m_gains_51 (σ : en_S) (v1 : Int32) (v3 : Int32) (v5 : Int32) (v6 : Int32) : x_m_gains_51 σ v1 v3 v5 v6 =
    en_cI (x_m_canBear_0 σ 0 v5 v6) (fun r2 σ1 =>
      if r2 = 0 then
        if v3 = 1 then
          some (.inl (some (.int 0)), σ1)
        else
          if en_in (21 + v1) 58 then
            some (.inl (some (.int (0 - (σ1.1 18 ((21 + v1).toNatClampNeg))))), σ1)
          else
            none
      else
        if v3 = 1 then
          some (.inl (some (.int 4)), σ1)
        else
          if en_in (21 + v1) 58 then
            some (.inl (some (.int (4 - (σ1.1 18 ((21 + v1).toNatClampNeg))))), σ1)
          else
            none) (fun e σ => some (.inr e, σ)) := en_ex_un (G := bb_G) (P := bb_P) (ML := bb_ML) (HD := bb_HD) 41 0 110 51 [some (.ref 0), some (.int v1), none, some (.int v3), none, some (.int v5), some (.int v6)] [] σ
set_option maxRecDepth 100000 in
set_option maxHeartbeats 1000000 in
theorem e_m_happens_0 (σ : en_S) : x_m_happens_0 σ =
    en_cI (x_m_draw_0 σ 6) (fun r2 σ1 =>
      if (3 : Int32) < r2 then
        some (.inl none, σ1)
      else
        if σ1.1 0 3 = 0 then
          some (.inl none, σ1)
        else
          if σ1.1 0 4 = 0 then
            some (.inl none, σ1)
          else
            if (2 : Int32) ≤ r2 then
              en_cI (x_m_draw_0 σ1 (σ1.1 0 3)) (fun r4 σ3 =>
                en_cI (x_m_draw_0 σ3 10) (fun r6 σ5 =>
                  if r2 = 2 then
                    en_cV (x_m_weighs_0 σ5 29 r4 (0 - (r6 + 1))) (fun σ7 =>
                      some (.inl none, σ7)) (fun e σ => some (.inr e, σ))
                  else
                    en_cV (x_m_weighs_0 σ5 29 r4 (r6 + 1)) (fun σ8 =>
                      some (.inl none, σ8)) (fun e σ => some (.inr e, σ))) (fun e σ => some (.inr e, σ))) (fun e σ => some (.inr e, σ))
            else
              en_cI (x_m_draw_0 σ1 (σ1.1 0 4)) (fun r10 σ9 =>
                if r2 = 0 then
                  en_cI (x_m_draw_0 σ9 (σ9.1 0 3)) (fun r12 σ11 =>
                    if en_in (42 + r10) 58 then
                      some (.inl none, (en_u1 σ11.1 18 ((42 + r10).toNatClampNeg) r12, σ11.2))
                    else
                      none) (fun e σ => some (.inr e, σ))
                else
                  if en_in (42 + r10) 58 then
                    some (.inl none, (en_u1 σ9.1 18 ((42 + r10).toNatClampNeg) (-1), σ9.2))
                  else
                    none) (fun e σ => some (.inr e, σ))) (fun e σ => some (.inr e, σ)) := en_ex_un (G := bb_G) (P := bb_P) (ML := bb_ML) (HD := bb_HD) 71 0 113 0 [some (.ref 0), none, none, none] [] σ
set_option maxRecDepth 100000 in
set_option maxHeartbeats 1000000 in
theorem e_m_copies_p19_28_0 (σ : en_S) : x_m_copies_p19_28_0 σ =
    x_m_copies_p19_28_2 σ 0 := en_ex_un (G := bb_G) (P := bb_P) (ML := bb_ML) (HD := bb_HD) 4 0 7 0 [some (.ref 0), some (.ref 19), some (.ref 28), none] [] σ
set_option maxRecDepth 100000 in
set_option maxHeartbeats 1000000 in
theorem e_m_copies_p19_28_2 (σ : en_S) (v3 : Int32) : x_m_copies_p19_28_2 σ v3 =
    if (1160 : Int32) ≤ v3 then
      some (.inl none, σ)
    else
      if en_in v3 1160 then
        if en_in v3 1160 then
          x_m_copies_p19_28_2 (en_u1 σ.1 28 v3.toNatClampNeg (σ.1 19 v3.toNatClampNeg), σ.2) (v3 + 1)
        else
          none
      else
        none := en_ex_un (G := bb_G) (P := bb_P) (ML := bb_ML) (HD := bb_HD) 15 0 7 2 [none, some (.ref 19), some (.ref 28), some (.int v3)] [] σ
set_option maxRecDepth 100000 in
set_option maxHeartbeats 1000000 in
theorem e_m_copies_p24_29_0 (σ : en_S) : x_m_copies_p24_29_0 σ =
    x_m_copies_p24_29_2 σ 0 := en_ex_un (G := bb_G) (P := bb_P) (ML := bb_ML) (HD := bb_HD) 4 0 7 0 [some (.ref 0), some (.ref 24), some (.ref 29), none] [] σ
set_option maxRecDepth 100000 in
set_option maxHeartbeats 1000000 in
theorem e_m_copies_p24_29_2 (σ : en_S) (v3 : Int32) : x_m_copies_p24_29_2 σ v3 =
    if (24 : Int32) ≤ v3 then
      some (.inl none, σ)
    else
      if en_in v3 24 then
        if en_in v3 24 then
          x_m_copies_p24_29_2 (en_u1 σ.1 29 v3.toNatClampNeg (σ.1 24 v3.toNatClampNeg), σ.2) (v3 + 1)
        else
          none
      else
        none := en_ex_un (G := bb_G) (P := bb_P) (ML := bb_ML) (HD := bb_HD) 15 0 7 2 [none, some (.ref 24), some (.ref 29), some (.int v3)] [] σ
set_option maxRecDepth 100000 in
set_option maxHeartbeats 1000000 in
theorem e_m_copies_p28_19_0 (σ : en_S) : x_m_copies_p28_19_0 σ =
    x_m_copies_p28_19_2 σ 0 := en_ex_un (G := bb_G) (P := bb_P) (ML := bb_ML) (HD := bb_HD) 4 0 7 0 [some (.ref 0), some (.ref 28), some (.ref 19), none] [] σ
set_option maxRecDepth 100000 in
set_option maxHeartbeats 1000000 in
theorem e_m_copies_p28_19_2 (σ : en_S) (v3 : Int32) : x_m_copies_p28_19_2 σ v3 =
    if (1160 : Int32) ≤ v3 then
      some (.inl none, σ)
    else
      if en_in v3 1160 then
        if en_in v3 1160 then
          x_m_copies_p28_19_2 (en_u1 σ.1 19 v3.toNatClampNeg (σ.1 28 v3.toNatClampNeg), σ.2) (v3 + 1)
        else
          none
      else
        none := en_ex_un (G := bb_G) (P := bb_P) (ML := bb_ML) (HD := bb_HD) 15 0 7 2 [none, some (.ref 28), some (.ref 19), some (.int v3)] [] σ
set_option maxRecDepth 100000 in
set_option maxHeartbeats 1000000 in
theorem e_m_copies_p29_24_0 (σ : en_S) : x_m_copies_p29_24_0 σ =
    x_m_copies_p29_24_2 σ 0 := en_ex_un (G := bb_G) (P := bb_P) (ML := bb_ML) (HD := bb_HD) 4 0 7 0 [some (.ref 0), some (.ref 29), some (.ref 24), none] [] σ
set_option maxRecDepth 100000 in
set_option maxHeartbeats 1000000 in
theorem e_m_copies_p29_24_2 (σ : en_S) (v3 : Int32) : x_m_copies_p29_24_2 σ v3 =
    if (24 : Int32) ≤ v3 then
      some (.inl none, σ)
    else
      if en_in v3 24 then
        if en_in v3 24 then
          x_m_copies_p29_24_2 (en_u1 σ.1 24 v3.toNatClampNeg (σ.1 29 v3.toNatClampNeg), σ.2) (v3 + 1)
        else
          none
      else
        none := en_ex_un (G := bb_G) (P := bb_P) (ML := bb_ML) (HD := bb_HD) 15 0 7 2 [none, some (.ref 29), some (.ref 24), some (.int v3)] [] σ
set_option maxRecDepth 100000 in
set_option maxHeartbeats 1000000 in
theorem e_m_byteAt_0 (σ : en_S) (v1 : Int32) : x_m_byteAt_0 σ v1 =
    if σ.1 0 18 ≤ v1 then
      some (.inl (some (.int 0)), σ)
    else
      if en_in v1 700 then
        some (.inl (some (.int (σ.1 7 v1.toNatClampNeg))), σ)
      else
        none := en_ex_un (G := bb_G) (P := bb_P) (ML := bb_ML) (HD := bb_HD) 14 0 11 0 [some (.ref 0), some (.int v1)] [] σ
set_option maxRecDepth 100000 in
set_option maxHeartbeats 1000000 in
theorem e_m_isLetter_0 (σ : en_S) (v0 : Int32) : x_m_isLetter_0 σ v0 =
    if v0 < 97 then
      some (.inl (some (.int 0)), σ)
    else
      if (122 : Int32) < v0 then
        some (.inl (some (.int 0)), σ)
      else
        some (.inl (some (.int 1)), σ) := en_ex_un (G := bb_G) (P := bb_P) (ML := bb_ML) (HD := bb_HD) 15 0 12 0 [some (.int v0)] [] σ
set_option maxRecDepth 100000 in
set_option maxHeartbeats 1000000 in
theorem e_m_isDigit_0 (σ : en_S) (v0 : Int32) : x_m_isDigit_0 σ v0 =
    if v0 < 48 then
      some (.inl (some (.int 0)), σ)
    else
      if (57 : Int32) < v0 then
        some (.inl (some (.int 0)), σ)
      else
        some (.inl (some (.int 1)), σ) := en_ex_un (G := bb_G) (P := bb_P) (ML := bb_ML) (HD := bb_HD) 15 0 13 0 [some (.int v0)] [] σ
set_option maxRecDepth 100000 in
set_option maxHeartbeats 1000000 in
theorem e_m_knownWord_0 (σ : en_S) : x_m_knownWord_0 σ =
    if σ.1 0 20 = 1 then
      if σ.1 0 22 ≤ 6 then
        x_m_knownWord_21 σ 0
      else
        some (.inl (some (.int (-1))), σ)
    else
      some (.inl (some (.int (-1))), σ) := en_ex_un (G := bb_G) (P := bb_P) (ML := bb_ML) (HD := bb_HD) 16 0 17 0 [some (.ref 0), none] [] σ
set_option maxRecDepth 100000 in
set_option maxHeartbeats 1000000 in
theorem e_m_knownWord_21 (σ : en_S) (v1 : Int32) : x_m_knownWord_21 σ v1 =
    if (17 : Int32) ≤ v1 then
      some (.inl (some (.int (-1))), σ)
    else
      en_cJ (x_m_letters_0 σ v1) (fun r2 σ1 =>
        if lg_cmp r2 (σ1.2 0 25) = 0 then
          some (.inl (some (.int v1)), σ1)
        else
          x_m_knownWord_21 σ1 (v1 + 1)) (fun e σ => some (.inr e, σ)) := en_ex_un (G := bb_G) (P := bb_P) (ML := bb_ML) (HD := bb_HD) 17 0 17 21 [some (.ref 0), some (.int v1)] [] σ
set_option maxRecDepth 100000 in
set_option maxHeartbeats 1000000 in
theorem e_m_begins_0 (σ : en_S) (v1 : Int32) (v2 : Int32) (v3 : Int32) : x_m_begins_0 σ v1 v2 v3 =
    if v1 = 0 then
      if v2 = 0 then
        x_m_begins_18 σ v3
      else
        en_cV (x_m_wrong_0 σ 4) (fun σ1 =>
          x_m_begins_18 σ1 v3) (fun e σ => some (.inr e, σ))
    else
      en_cV (x_m_wrong_0 σ 2) (fun σ2 =>
        if v2 = 0 then
          x_m_begins_18 σ2 v3
        else
          en_cV (x_m_wrong_0 σ2 4) (fun σ3 =>
            x_m_begins_18 σ3 v3) (fun e σ => some (.inr e, σ))) (fun e σ => some (.inr e, σ)) := en_ex_un (G := bb_G) (P := bb_P) (ML := bb_ML) (HD := bb_HD) 17 0 35 0 [some (.ref 0), some (.int v1), some (.int v2), some (.int v3)] [] σ
set_option maxRecDepth 100000 in
set_option maxHeartbeats 1000000 in
theorem e_m_begins_18 (σ : en_S) (v3 : Int32) : x_m_begins_18 σ v3 =
    if v3 = 0 then
      en_cI (x_m_isGood_0 σ) (fun r2 σ1 =>
        if r2 = 0 then
          some (.inl (some (.int 0)), σ1)
        else
          en_cV (x_m_goes_0 σ1) (fun σ3 =>
            some (.inl (some (.int 1)), σ3)) (fun e σ => some (.inr e, σ))) (fun e σ => some (.inr e, σ))
    else
      en_cV (x_m_wrong_0 σ 5) (fun σ4 =>
        en_cI (x_m_isGood_0 σ4) (fun r6 σ5 =>
          if r6 = 0 then
            some (.inl (some (.int 0)), σ5)
          else
            en_cV (x_m_goes_0 σ5) (fun σ7 =>
              some (.inl (some (.int 1)), σ7)) (fun e σ => some (.inr e, σ))) (fun e σ => some (.inr e, σ))) (fun e σ => some (.inr e, σ)) := en_ex_un (G := bb_G) (P := bb_P) (ML := bb_ML) (HD := bb_HD) 25 0 35 18 [some (.ref 0), none, none, some (.int v3)] [] σ
set_option maxRecDepth 100000 in
set_option maxHeartbeats 1000000 in
theorem e_m_isSign_0 (σ : en_S) (v1 : Int32) : x_m_isSign_0 σ v1 =
    if σ.1 0 20 = 3 then
      if σ.1 0 24 = v1 then
        some (.inl (some (.int 1)), σ)
      else
        some (.inl (some (.int 0)), σ)
    else
      some (.inl (some (.int 0)), σ) := en_ex_un (G := bb_G) (P := bb_P) (ML := bb_ML) (HD := bb_HD) 17 0 20 0 [some (.ref 0), some (.int v1)] [] σ
set_option maxRecDepth 100000 in
set_option maxHeartbeats 1000000 in
theorem e_m_need_0 (σ : en_S) (v1 : Int32) : x_m_need_0 σ v1 =
    en_cI (x_m_isGood_0 σ) (fun r2 σ1 =>
      if r2 = 0 then
        some (.inl none, σ1)
      else
        if v1 = 0 then
          en_cV (x_m_wrong_0 σ1 1) (fun σ3 =>
            some (.inl none, σ3)) (fun e σ => some (.inr e, σ))
        else
          en_cV (x_m_goes_0 σ1) (fun σ4 =>
            some (.inl none, σ4)) (fun e σ => some (.inr e, σ))) (fun e σ => some (.inr e, σ)) := en_ex_un (G := bb_G) (P := bb_P) (ML := bb_ML) (HD := bb_HD) 16 0 21 0 [some (.ref 0), some (.int v1)] [] σ
set_option maxRecDepth 100000 in
set_option maxHeartbeats 1000000 in
theorem e_m_number_0 (σ : en_S) (v1 : Int32) (v2 : Int32) : x_m_number_0 σ v1 v2 =
    en_cI (x_m_isGood_0 σ) (fun r2 σ1 =>
      if r2 = 0 then
        some (.inl (some (.int 0)), σ1)
      else
        if σ1.1 0 20 = 2 then
          if (4 : Int32) < σ1.1 0 22 then
            en_cV (x_m_wrong_0 σ1 2) (fun σ3 =>
              x_m_number_54 σ3) (fun e σ => some (.inr e, σ))
          else
            if σ1.1 0 23 < v1 then
              en_cV (x_m_wrong_0 σ1 2) (fun σ4 =>
                x_m_number_54 σ4) (fun e σ => some (.inr e, σ))
            else
              if σ1.1 0 23 ≤ v2 then
                x_m_number_54 σ1
              else
                en_cV (x_m_wrong_0 σ1 2) (fun σ5 =>
                  x_m_number_54 σ5) (fun e σ => some (.inr e, σ))
        else
          en_cV (x_m_wrong_0 σ1 1) (fun σ6 =>
            x_m_number_54 σ6) (fun e σ => some (.inr e, σ))) (fun e σ => some (.inr e, σ)) := en_ex_un (G := bb_G) (P := bb_P) (ML := bb_ML) (HD := bb_HD) 36 0 22 0 [some (.ref 0), some (.int v1), some (.int v2), none] [] σ
set_option maxRecDepth 100000 in
set_option maxHeartbeats 1000000 in
theorem e_m_number_54 (σ : en_S) : x_m_number_54 σ =
    en_cI (x_m_isGood_0 σ) (fun r2 σ1 =>
      if r2 = 0 then
        some (.inl (some (.int (σ.1 0 23))), σ1)
      else
        en_cV (x_m_goes_0 σ1) (fun σ3 =>
          some (.inl (some (.int (σ.1 0 23))), σ3)) (fun e σ => some (.inr e, σ))) (fun e σ => some (.inr e, σ)) := en_ex_un (G := bb_G) (P := bb_P) (ML := bb_ML) (HD := bb_HD) 14 0 22 54 [some (.ref 0), none, none, none] [] σ
set_option maxRecDepth 100000 in
set_option maxHeartbeats 1000000 in
theorem e_m_readsRoad_0 (σ : en_S) : x_m_readsRoad_0 σ =
    en_cI (x_m_townsNow_0 σ) (fun r2 σ1 =>
      en_cI (x_m_isOneOf_0 σ1 r2) (fun r4 σ3 =>
        if r4 = 0 then
          some (.inl none, σ3)
        else
          en_cV (x_m_goes_0 (en_u1 σ3.1 0 26 1, σ3.2)) (fun σ5 =>
            en_cI (x_m_townsNow_0 σ5) (fun r7 σ6 =>
              en_cI (x_m_isOneOf_0 σ6 r7) (fun r9 σ8 =>
                if r9 = 0 then
                  some (.inl none, σ8)
                else
                  if σ3.1 0 23 = σ8.1 0 23 then
                    en_cV (x_m_wrong_0 σ8 4) (fun σ10 =>
                      x_m_readsRoad_68 σ10 (σ3.1 0 23) (σ8.1 0 23)) (fun e σ => some (.inr e, σ))
                  else
                    if en_in ((8 * (σ3.1 0 23)) + (σ8.1 0 23)) 64 then
                      if σ8.1 9 (((8 * (σ3.1 0 23)) + (σ8.1 0 23)).toNatClampNeg) = (-1) then
                        x_m_readsRoad_68 σ8 (σ3.1 0 23) (σ8.1 0 23)
                      else
                        en_cV (x_m_wrong_0 σ8 4) (fun σ11 =>
                          x_m_readsRoad_68 σ11 (σ3.1 0 23) (σ8.1 0 23)) (fun e σ => some (.inr e, σ))
                    else
                      none) (fun e σ => some (.inr e, σ))) (fun e σ => some (.inr e, σ))) (fun e σ => some (.inr e, σ))) (fun e σ => some (.inr e, σ))) (fun e σ => some (.inr e, σ)) := en_ex_un (G := bb_G) (P := bb_P) (ML := bb_ML) (HD := bb_HD) 44 0 37 0 [some (.ref 0), none, none, none] [] σ
set_option maxRecDepth 100000 in
set_option maxHeartbeats 1000000 in
theorem e_m_readsRoad_68 (σ : en_S) (v1 : Int32) (v2 : Int32) : x_m_readsRoad_68 σ v1 v2 =
    en_cI (x_m_isGood_0 σ) (fun r2 σ1 =>
      if r2 = 0 then
        some (.inl none, σ1)
      else
        en_cV (x_m_goes_0 σ1) (fun σ3 =>
          en_cI (x_m_number_0 σ3 0 9) (fun r5 σ4 =>
            x_m_readsRoad_88 σ4 v1 v2 r5) (fun e σ => some (.inr e, σ))) (fun e σ => some (.inr e, σ))) (fun e σ => some (.inr e, σ)) := en_ex_un (G := bb_G) (P := bb_P) (ML := bb_ML) (HD := bb_HD) 13 0 37 68 [some (.ref 0), some (.int v1), some (.int v2), none] [] σ
set_option maxRecDepth 100000 in
set_option maxHeartbeats 1000000 in
theorem e_m_readsRoad_88 (σ : en_S) (v1 : Int32) (v2 : Int32) (v3 : Int32) : x_m_readsRoad_88 σ v1 v2 v3 =
    if en_in ((8 * v1) + v2) 64 then
      if en_in ((8 * v2) + v1) 64 then
        x_m_readsRoad_112 (en_u1 (en_u1 σ.1 9 (((8 * v1) + v2).toNatClampNeg) v3) 9 (((8 * v2) + v1).toNatClampNeg) v3, σ.2)
      else
        none
    else
      none := en_ex_un (G := bb_G) (P := bb_P) (ML := bb_ML) (HD := bb_HD) 20 0 37 88 [some (.ref 0), some (.int v1), some (.int v2), some (.int v3)] [] σ
set_option maxRecDepth 100000 in
set_option maxHeartbeats 1000000 in
theorem e_m_readsRoad_112 (σ : en_S) : x_m_readsRoad_112 σ =
    some (.inl none, (en_u1 σ.1 0 28 ((σ.1 0 28) + 1), σ.2)) := en_ex_un (G := bb_G) (P := bb_P) (ML := bb_ML) (HD := bb_HD) 9 0 37 112 [some (.ref 0), none, none, none] [] σ
set_option maxRecDepth 100000 in
set_option maxHeartbeats 1000000 in
theorem e_m_readsBox_0 (σ : en_S) : x_m_readsBox_0 σ =
    en_cI (x_m_number_0 σ 1 99) (fun r2 σ1 =>
      if en_in (1 + (σ.1 0 29)) 29 then
        if en_in (7 + (σ.1 0 29)) 29 then
          x_m_readsBox_34 (en_u1 (en_u1 σ1.1 14 ((1 + (σ.1 0 29)).toNatClampNeg) r2) 14 ((7 + (σ.1 0 29)).toNatClampNeg) 0, σ1.2) (σ.1 0 29) 0 1
        else
          none
      else
        none) (fun e σ => some (.inr e, σ)) := en_ex_un (G := bb_G) (P := bb_P) (ML := bb_ML) (HD := bb_HD) 26 0 38 0 [some (.ref 0), none, none, none] [] σ
set_option maxRecDepth 100000 in
set_option maxHeartbeats 1000000 in
theorem e_m_readsBox_34 (σ : en_S) (v1 : Int32) (v2 : Int32) (v3 : Int32) : x_m_readsBox_34 σ v1 v2 v3 =
    if v3 = 0 then
      if en_in v1 6 then
        en_cI (x_m_isGood_0 (en_u1 σ.1 11 v1.toNatClampNeg v2, σ.2)) (fun r2 σ1 =>
          if r2 = 0 then
            some (.inl none, σ1)
          else
            some (.inl none, (en_u1 σ1.1 0 29 ((σ1.1 0 29) + 1), σ1.2))) (fun e σ => some (.inr e, σ))
      else
        none
    else
      en_cI (x_m_isGood_0 σ) (fun r4 σ3 =>
        if r4 = 0 then
          if en_in v1 6 then
            en_cI (x_m_isGood_0 (en_u1 σ3.1 11 v1.toNatClampNeg v2, σ3.2)) (fun r6 σ5 =>
              if r6 = 0 then
                some (.inl none, σ5)
              else
                some (.inl none, (en_u1 σ5.1 0 29 ((σ5.1 0 29) + 1), σ5.2))) (fun e σ => some (.inr e, σ))
          else
            none
        else
          if v2 = 6 then
            if σ3.1 0 20 = 2 then
              en_cV (x_m_wrong_0 σ3 2) (fun σ7 =>
                x_m_readsBox_64 σ7 v1 v2) (fun e σ => some (.inr e, σ))
            else
              x_m_readsBox_64 σ3 v1 v2
          else
            x_m_readsBox_64 σ3 v1 v2) (fun e σ => some (.inr e, σ)) := en_ex_un (G := bb_G) (P := bb_P) (ML := bb_ML) (HD := bb_HD) 49 0 38 34 [some (.ref 0), some (.int v1), some (.int v2), some (.int v3)] [] σ
set_option maxRecDepth 100000 in
set_option maxHeartbeats 1000000 in
theorem e_m_readsBox_64 (σ : en_S) (v1 : Int32) (v2 : Int32) : x_m_readsBox_64 σ v1 v2 =
    en_cI (x_m_townsNow_0 σ) (fun r2 σ1 =>
      en_cI (x_m_isOneOf_0 σ1 r2) (fun r4 σ3 =>
        if r4 = 0 then
          some (.inl none, σ3)
        else
          if en_in ((6 * v1) + v2) 36 then
            en_cV (x_m_goes_0 (en_u1 (en_u1 σ3.1 0 26 1) 10 (((6 * v1) + v2).toNatClampNeg) (σ3.1 0 23), σ3.2)) (fun σ5 =>
              if σ5.1 0 20 = 2 then
                x_m_readsBox_34 σ5 v1 (v2 + 1) 1
              else
                x_m_readsBox_34 σ5 v1 (v2 + 1) 0) (fun e σ => some (.inr e, σ))
          else
            none) (fun e σ => some (.inr e, σ))) (fun e σ => some (.inr e, σ)) := en_ex_un (G := bb_G) (P := bb_P) (ML := bb_ML) (HD := bb_HD) 35 0 38 64 [some (.ref 0), some (.int v1), some (.int v2), none] [] σ
set_option maxRecDepth 100000 in
set_option maxHeartbeats 1000000 in
theorem e_m_readsBearer_0 (σ : en_S) : x_m_readsBearer_0 σ =
    en_cI (x_m_number_0 σ 1 40) (fun r2 σ1 =>
      if en_in (σ.1 0 30) 8 then
        en_cI (x_m_number_0 (en_u1 σ1.1 12 ((σ.1 0 30).toNatClampNeg) r2, σ1.2) 1 9) (fun r4 σ3 =>
          if en_in (σ.1 0 30) 8 then
            if en_in (13 + (σ.1 0 30)) 29 then
              if en_in (21 + (σ.1 0 30)) 29 then
                en_cI (x_m_isGood_0 (en_u1 (en_u1 (en_u1 σ3.1 13 ((σ.1 0 30).toNatClampNeg) r4) 14 ((13 + (σ.1 0 30)).toNatClampNeg) (-1)) 14 ((21 + (σ.1 0 30)).toNatClampNeg) 0, σ3.2)) (fun r6 σ5 =>
                  if r6 = 0 then
                    x_m_readsBearer_100 σ5
                  else
                    en_cI (x_m_knownWord_0 σ5) (fun r8 σ7 =>
                      if r8 = 11 then
                        en_cV (x_m_goes_0 σ7) (fun σ9 =>
                          en_cI (x_m_isOneOf_0 σ9 (σ9.1 0 29)) (fun r11 σ10 =>
                            if r11 = 0 then
                              some (.inl none, σ10)
                            else
                              if en_in (13 + (σ.1 0 30)) 29 then
                                en_cV (x_m_goes_0 (en_u1 σ10.1 14 ((13 + (σ.1 0 30)).toNatClampNeg) (σ10.1 0 23), σ10.2)) (fun σ12 =>
                                  x_m_readsBearer_100 σ12) (fun e σ => some (.inr e, σ))
                              else
                                none) (fun e σ => some (.inr e, σ))) (fun e σ => some (.inr e, σ))
                      else
                        x_m_readsBearer_100 σ7) (fun e σ => some (.inr e, σ))) (fun e σ => some (.inr e, σ))
              else
                none
            else
              none
          else
            none) (fun e σ => some (.inr e, σ))
      else
        none) (fun e σ => some (.inr e, σ)) := en_ex_un (G := bb_G) (P := bb_P) (ML := bb_ML) (HD := bb_HD) 60 0 39 0 [some (.ref 0), none] [] σ
set_option maxRecDepth 100000 in
set_option maxHeartbeats 1000000 in
theorem e_m_readsBearer_100 (σ : en_S) : x_m_readsBearer_100 σ =
    en_cI (x_m_isGood_0 σ) (fun r2 σ1 =>
      if r2 = 0 then
        some (.inl none, σ1)
      else
        some (.inl none, (en_u1 σ1.1 0 30 ((σ1.1 0 30) + 1), σ1.2))) (fun e σ => some (.inr e, σ)) := en_ex_un (G := bb_G) (P := bb_P) (ML := bb_ML) (HD := bb_HD) 13 0 39 100 [some (.ref 0), none] [] σ
set_option maxRecDepth 100000 in
set_option maxHeartbeats 1000000 in
theorem e_m_expression_0 (σ : en_S) : x_m_expression_0 σ =
    en_cI (x_m_isGood_0 σ) (fun r2 σ1 =>
      if r2 = 0 then
        some (.inl none, σ1)
      else
        en_cV (x_m_deeper_0 (en_u1 (en_u1 σ1.1 0 34 0) 0 35 0, σ1.2)) (fun σ3 =>
          en_cV (x_m_operand_0 σ3 1) (fun σ4 =>
            x_m_expression_29 σ4 1) (fun e σ => some (.inr e, σ))) (fun e σ => some (.inr e, σ))) (fun e σ => some (.inr e, σ)) := en_ex_un (G := bb_G) (P := bb_P) (ML := bb_ML) (HD := bb_HD) 19 0 34 0 [some (.ref 0), none, none] [] σ
set_option maxRecDepth 100000 in
set_option maxHeartbeats 1000000 in
theorem e_m_expression_29 (σ : en_S) (v1 : Int32) : x_m_expression_29 σ v1 =
    if v1 = 0 then
      en_cI (x_m_isGood_0 σ) (fun r2 σ1 =>
        if r2 = 0 then
          x_m_expression_345 σ1
        else
          if σ1.1 0 35 ≤ 1 then
            x_m_expression_345 σ1
          else
            en_cV (x_m_wrong_0 σ1 1) (fun σ3 =>
              x_m_expression_345 σ3) (fun e σ => some (.inr e, σ))) (fun e σ => some (.inr e, σ))
    else
      en_cI (x_m_isGood_0 σ) (fun r5 σ4 =>
        if r5 = 0 then
          en_cI (x_m_isGood_0 σ4) (fun r7 σ6 =>
            if r7 = 0 then
              x_m_expression_345 σ6
            else
              if σ6.1 0 35 ≤ 1 then
                x_m_expression_345 σ6
              else
                en_cV (x_m_wrong_0 σ6 1) (fun σ8 =>
                  x_m_expression_345 σ8) (fun e σ => some (.inr e, σ))) (fun e σ => some (.inr e, σ))
        else
          en_cI (x_m_knownWord_0 σ4) (fun r10 σ9 =>
            if r10 = 14 then
              if r10 = 14 then
                x_m_expression_69 σ9 v1 r10 2
              else
                x_m_expression_69 σ9 v1 r10 1
            else
              if r10 = 15 then
                if r10 = 14 then
                  x_m_expression_69 σ9 v1 r10 2
                else
                  x_m_expression_69 σ9 v1 r10 1
              else
                en_cI (x_m_isSign_0 σ9 60) (fun r12 σ11 =>
                  if r12 = 0 then
                    en_cI (x_m_isSign_0 σ11 61) (fun r14 σ13 =>
                      if r14 = 0 then
                        x_m_expression_186 σ13 v1
                      else
                        x_m_expression_127 σ13 v1) (fun e σ => some (.inr e, σ))
                  else
                    x_m_expression_127 σ11 v1) (fun e σ => some (.inr e, σ))) (fun e σ => some (.inr e, σ))) (fun e σ => some (.inr e, σ)) := en_ex_un (G := bb_G) (P := bb_P) (ML := bb_ML) (HD := bb_HD) 58 0 34 29 [some (.ref 0), some (.int v1), none] [] σ
set_option maxRecDepth 100000 in
set_option maxHeartbeats 1000000 in
theorem e_m_expression_127 (σ : en_S) (v1 : Int32) : x_m_expression_127 σ v1 =
    if en_in (σ.1 0 35) 9 then
      if σ.1 17 ((σ.1 0 35).toNatClampNeg) = 0 then
        en_cV (x_m_drops_0 σ 4) (fun σ1 =>
          en_cI (x_m_isSign_0 σ1 60) (fun r3 σ2 =>
            if r3 = 0 then
              en_cV (x_m_waitsFor_0 σ2 7) (fun σ4 =>
                if en_in (σ4.1 0 35) 9 then
                  en_cV (x_m_goes_0 (en_u1 σ4.1 17 ((σ4.1 0 35).toNatClampNeg) (vp_nar .boolean 1), σ4.2)) (fun σ5 =>
                    en_cV (x_m_operand_0 σ5 0) (fun σ6 =>
                      x_m_expression_29 σ6 v1) (fun e σ => some (.inr e, σ))) (fun e σ => some (.inr e, σ))
                else
                  none) (fun e σ => some (.inr e, σ))
            else
              en_cV (x_m_waitsFor_0 σ2 6) (fun σ7 =>
                if en_in (σ7.1 0 35) 9 then
                  en_cV (x_m_goes_0 (en_u1 σ7.1 17 ((σ7.1 0 35).toNatClampNeg) (vp_nar .boolean 1), σ7.2)) (fun σ8 =>
                    en_cV (x_m_operand_0 σ8 0) (fun σ9 =>
                      x_m_expression_29 σ9 v1) (fun e σ => some (.inr e, σ))) (fun e σ => some (.inr e, σ))
                else
                  none) (fun e σ => some (.inr e, σ))) (fun e σ => some (.inr e, σ))) (fun e σ => some (.inr e, σ))
      else
        x_m_expression_186 σ v1
    else
      none := en_ex_un (G := bb_G) (P := bb_P) (ML := bb_ML) (HD := bb_HD) 47 0 34 127 [some (.ref 0), some (.int v1), none] [] σ
set_option maxRecDepth 100000 in
set_option maxHeartbeats 1000000 in
theorem e_m_expression_186 (σ : en_S) (v1 : Int32) : x_m_expression_186 σ v1 =
    en_cI (x_m_isSign_0 σ 43) (fun r2 σ1 =>
      if r2 = 0 then
        en_cI (x_m_isSign_0 σ1 45) (fun r4 σ3 =>
          if r4 = 0 then
            en_cI (x_m_isSign_0 σ3 42) (fun r6 σ5 =>
              if r6 = 0 then
                en_cI (x_m_isSign_0 σ5 47) (fun r8 σ7 =>
                  if r8 = 0 then
                    en_cI (x_m_isSign_0 σ7 41) (fun r10 σ9 =>
                      if r10 = 0 then
                        x_m_expression_29 σ9 0
                      else
                        en_cI (x_m_isOpened_0 σ9) (fun r12 σ11 =>
                          if r12 = 0 then
                            x_m_expression_29 σ11 0
                          else
                            en_cV (x_m_closes_0 σ11) (fun σ13 =>
                              x_m_expression_29 σ13 v1) (fun e σ => some (.inr e, σ))) (fun e σ => some (.inr e, σ))) (fun e σ => some (.inr e, σ))
                  else
                    x_m_expression_259 σ7 v1) (fun e σ => some (.inr e, σ))
              else
                x_m_expression_259 σ5 v1) (fun e σ => some (.inr e, σ))
          else
            x_m_expression_204 σ3 v1) (fun e σ => some (.inr e, σ))
      else
        x_m_expression_204 σ1 v1) (fun e σ => some (.inr e, σ)) := en_ex_un (G := bb_G) (P := bb_P) (ML := bb_ML) (HD := bb_HD) 35 0 34 186 [some (.ref 0), some (.int v1), none] [] σ
set_option maxRecDepth 100000 in
set_option maxHeartbeats 1000000 in
theorem e_m_expression_204 (σ : en_S) (v1 : Int32) : x_m_expression_204 σ v1 =
    en_cV (x_m_drops_0 σ 5) (fun σ1 =>
      en_cI (x_m_isSign_0 σ1 43) (fun r3 σ2 =>
        if r3 = 0 then
          en_cV (x_m_waitsFor_0 σ2 9) (fun σ4 =>
            en_cV (x_m_goes_0 σ4) (fun σ5 =>
              en_cV (x_m_operand_0 σ5 0) (fun σ6 =>
                x_m_expression_29 σ6 v1) (fun e σ => some (.inr e, σ))) (fun e σ => some (.inr e, σ))) (fun e σ => some (.inr e, σ))
        else
          en_cV (x_m_waitsFor_0 σ2 8) (fun σ7 =>
            en_cV (x_m_goes_0 σ7) (fun σ8 =>
              en_cV (x_m_operand_0 σ8 0) (fun σ9 =>
                x_m_expression_29 σ9 v1) (fun e σ => some (.inr e, σ))) (fun e σ => some (.inr e, σ))) (fun e σ => some (.inr e, σ))) (fun e σ => some (.inr e, σ))) (fun e σ => some (.inr e, σ)) := en_ex_un (G := bb_G) (P := bb_P) (ML := bb_ML) (HD := bb_HD) 29 0 34 204 [some (.ref 0), some (.int v1), none] [] σ
set_option maxRecDepth 100000 in
set_option maxHeartbeats 1000000 in
theorem e_m_expression_259 (σ : en_S) (v1 : Int32) : x_m_expression_259 σ v1 =
    en_cV (x_m_drops_0 σ 6) (fun σ1 =>
      en_cI (x_m_isSign_0 σ1 42) (fun r3 σ2 =>
        if r3 = 0 then
          en_cV (x_m_waitsFor_0 σ2 11) (fun σ4 =>
            en_cV (x_m_goes_0 σ4) (fun σ5 =>
              en_cV (x_m_operand_0 σ5 0) (fun σ6 =>
                x_m_expression_29 σ6 v1) (fun e σ => some (.inr e, σ))) (fun e σ => some (.inr e, σ))) (fun e σ => some (.inr e, σ))
        else
          en_cV (x_m_waitsFor_0 σ2 10) (fun σ7 =>
            en_cV (x_m_goes_0 σ7) (fun σ8 =>
              en_cV (x_m_operand_0 σ8 0) (fun σ9 =>
                x_m_expression_29 σ9 v1) (fun e σ => some (.inr e, σ))) (fun e σ => some (.inr e, σ))) (fun e σ => some (.inr e, σ))) (fun e σ => some (.inr e, σ))) (fun e σ => some (.inr e, σ)) := en_ex_un (G := bb_G) (P := bb_P) (ML := bb_ML) (HD := bb_HD) 29 0 34 259 [some (.ref 0), some (.int v1), none] [] σ
set_option maxRecDepth 100000 in
set_option maxHeartbeats 1000000 in
theorem e_m_expression_69 (σ : en_S) (v1 : Int32) (v2 : Int32) (t0 : Int32) : x_m_expression_69 σ v1 v2 t0 =
    en_cV (x_m_drops_0 σ t0) (fun σ1 =>
      if v2 = 14 then
        en_cV (x_m_waitsFor_0 σ1 4) (fun σ2 =>
          if en_in (σ2.1 0 35) 9 then
            en_cV (x_m_goes_0 (en_u1 σ2.1 17 ((σ2.1 0 35).toNatClampNeg) (vp_nar .boolean 0), σ2.2)) (fun σ3 =>
              en_cV (x_m_operand_0 σ3 1) (fun σ4 =>
                x_m_expression_29 σ4 v1) (fun e σ => some (.inr e, σ))) (fun e σ => some (.inr e, σ))
          else
            none) (fun e σ => some (.inr e, σ))
      else
        en_cV (x_m_waitsFor_0 σ1 5) (fun σ5 =>
          if en_in (σ5.1 0 35) 9 then
            en_cV (x_m_goes_0 (en_u1 σ5.1 17 ((σ5.1 0 35).toNatClampNeg) (vp_nar .boolean 0), σ5.2)) (fun σ6 =>
              en_cV (x_m_operand_0 σ6 1) (fun σ7 =>
                x_m_expression_29 σ7 v1) (fun e σ => some (.inr e, σ))) (fun e σ => some (.inr e, σ))
          else
            none) (fun e σ => some (.inr e, σ))) (fun e σ => some (.inr e, σ)) := en_ex_un (G := bb_G) (P := bb_P) (ML := bb_ML) (HD := bb_HD) 38 0 34 69 [some (.ref 0), some (.int v1), some (.int v2)] [.int t0, .ref 0] σ
set_option maxRecDepth 100000 in
set_option maxHeartbeats 1000000 in
theorem e_m_expression_345 (σ : en_S) : x_m_expression_345 σ =
    en_cV (x_m_drops_0 σ 0) (fun σ1 =>
      en_cV (x_m_puts_0 σ1 0) (fun σ2 =>
        some (.inl none, σ2)) (fun e σ => some (.inr e, σ))) (fun e σ => some (.inr e, σ)) := en_ex_un (G := bb_G) (P := bb_P) (ML := bb_ML) (HD := bb_HD) 9 0 34 345 [some (.ref 0), none, none] [] σ
set_option maxRecDepth 100000 in
set_option maxHeartbeats 1000000 in
theorem e_m_wrong_0 (σ : en_S) (v1 : Int32) : x_m_wrong_0 σ v1 =
    if σ.1 0 15 = 0 then
      some (.inl none, (en_u1 (en_u1 σ.1 0 15 v1) 0 16 (σ.1 0 21), σ.2))
    else
      some (.inl none, σ) := en_ex_un (G := bb_G) (P := bb_P) (ML := bb_ML) (HD := bb_HD) 14 0 18 0 [some (.ref 0), some (.int v1)] [] σ
set_option maxRecDepth 100000 in
set_option maxHeartbeats 1000000 in
theorem e_m_boxGoes_0 (σ : en_S) (v1 : Int32) (v2 : Int32) : x_m_boxGoes_0 σ v1 v2 =
    if σ.1 0 5 = (-1) then
      en_cI (x_m_isBorne_0 σ v1 v2) (fun r2 σ1 =>
        if r2 = 0 then
          x_m_boxGoes_45 σ1 v1 v2 (-1) v2 v1
        else
          x_m_boxGoes_45 σ1 v1 v2 1 v2 v1) (fun e σ => some (.inr e, σ))
    else
      en_cI (x_m_asks_0 σ (σ.1 0 5) v1 v2) (fun r4 σ3 =>
        en_cI (x_m_bounded_0 σ3 r4 (-9) 9) (fun r6 σ5 =>
          x_m_boxGoes_45 σ5 v1 v2 r6 v2 v1) (fun e σ => some (.inr e, σ))) (fun e σ => some (.inr e, σ)) := en_ex_un (G := bb_G) (P := bb_P) (ML := bb_ML) (HD := bb_HD) 27 0 60 0 [some (.ref 0), some (.int v1), some (.int v2), none] [] σ
set_option maxRecDepth 100000 in
set_option maxHeartbeats 1000000 in
theorem e_m_boxGoes_45 (σ : en_S) (v1 : Int32) (v2 : Int32) (t0 : Int32) (t1 : Int32) (t2 : Int32) : x_m_boxGoes_45 σ v1 v2 t0 t1 t2 =
    en_cV (x_m_weighs_0 σ t2 t1 t0) (fun σ1 =>
      if σ1.1 0 6 = (-1) then
        en_cI (x_m_isBorne_0 σ1 v1 v2) (fun r3 σ2 =>
          if r3 = 0 then
            x_m_boxGoes_105 σ2 v1 v2 0
          else
            en_cI (x_m_handsAt_0 σ2 v1 v2) (fun r5 σ4 =>
              en_cI (x_m_leanBy_0 σ4 r5) (fun r7 σ6 =>
                if r7 ≤ 5 then
                  x_m_boxGoes_105 σ6 v1 v2 0
                else
                  x_m_boxGoes_105 σ6 v1 v2 1) (fun e σ => some (.inr e, σ))) (fun e σ => some (.inr e, σ))) (fun e σ => some (.inr e, σ))
      else
        en_cI (x_m_asks_0 σ1 (σ1.1 0 6) v1 v2) (fun r9 σ8 =>
          if r9 ≤ 0 then
            x_m_boxGoes_105 σ8 v1 v2 0
          else
            x_m_boxGoes_105 σ8 v1 v2 1) (fun e σ => some (.inr e, σ))) (fun e σ => some (.inr e, σ)) := en_ex_un (G := bb_G) (P := bb_P) (ML := bb_ML) (HD := bb_HD) 36 0 60 45 [some (.ref 0), some (.int v1), some (.int v2), none] [.int t0, .int t1, .int t2, .ref 0] σ
set_option maxRecDepth 100000 in
set_option maxHeartbeats 1000000 in
theorem e_m_boxGoes_105 (σ : en_S) (v1 : Int32) (v2 : Int32) (t0 : Int32) : x_m_boxGoes_105 σ v1 v2 t0 =
    if t0 = 0 then
      en_cI (x_m_isBorne_0 σ v1 v2) (fun r2 σ1 =>
        if r2 = 0 then
          some (.inl none, σ1)
        else
          if en_in ((v1 + 7) + v2) 58 then
            if en_in v2 6 then
              if (σ1.1 3 v2.toNatClampNeg) = 0 then
                none
              else
                if en_in ((v1 + 7) + v2) 58 then
                  en_cI (x_m_handsAt_0 (en_u1 σ1.1 18 (((v1 + 7) + v2).toNatClampNeg) (((σ1.1 18 (((v1 + 7) + v2).toNatClampNeg)) + 1) - ((σ1.1 18 (((v1 + 7) + v2).toNatClampNeg)) + 1) / (σ1.1 3 v2.toNatClampNeg) * (σ1.1 3 v2.toNatClampNeg)), σ1.2) v1 v2) (fun r4 σ3 =>
                    en_cV (x_m_tires_0 σ3 v1 r4) (fun σ5 =>
                      some (.inl none, (en_u1 σ5.1 0 52 ((σ5.1 0 52) + 1), σ5.2))) (fun e σ => some (.inr e, σ))) (fun e σ => some (.inr e, σ))
                else
                  none
            else
              none
          else
            none) (fun e σ => some (.inr e, σ))
    else
      en_cV (x_m_letsFall_0 σ v1 v2) (fun σ6 =>
        some (.inl none, σ6)) (fun e σ => some (.inr e, σ)) := en_ex_un (G := bb_G) (P := bb_P) (ML := bb_ML) (HD := bb_HD) 54 0 60 105 [some (.ref 0), some (.int v1), some (.int v2), none] [.int t0] σ
set_option maxRecDepth 100000 in
set_option maxHeartbeats 1000000 in
theorem e_m_weighs_0 (σ : en_S) (v1 : Int32) (v2 : Int32) (v3 : Int32) : x_m_weighs_0 σ v1 v2 v3 =
    if en_in ((v1 + 1) + v2) 58 then
      en_cI (x_m_bounded_0 σ ((σ.1 18 (((v1 + 1) + v2).toNatClampNeg)) + v3) 1 99) (fun r2 σ1 =>
        if en_in ((v1 + 1) + v2) 58 then
          some (.inl none, (en_u1 σ1.1 18 (((v1 + 1) + v2).toNatClampNeg) r2, σ1.2))
        else
          none) (fun e σ => some (.inr e, σ))
    else
      none := en_ex_un (G := bb_G) (P := bb_P) (ML := bb_ML) (HD := bb_HD) 24 0 57 0 [some (.ref 0), some (.int v1), some (.int v2), some (.int v3)] [] σ
set_option maxRecDepth 100000 in
set_option maxHeartbeats 1000000 in
theorem e_m_daysGo_0 (σ : en_S) (v1 : Int32) : x_m_daysGo_0 σ v1 =
    x_m_daysGo_2 σ v1 0 := en_ex_un (G := bb_G) (P := bb_P) (ML := bb_ML) (HD := bb_HD) 4 0 62 0 [some (.ref 0), some (.int v1), none] [] σ
set_option maxRecDepth 100000 in
set_option maxHeartbeats 1000000 in
theorem e_m_daysGo_2 (σ : en_S) (v1 : Int32) (v2 : Int32) : x_m_daysGo_2 σ v1 v2 =
    if v1 ≤ v2 then
      some (.inl none, σ)
    else
      en_cV (x_m_dayGoes_0 σ 29) (fun σ1 =>
        x_m_daysGo_2 σ1 v1 (v2 + 1)) (fun e σ => some (.inr e, σ)) := en_ex_un (G := bb_G) (P := bb_P) (ML := bb_ML) (HD := bb_HD) 11 0 62 2 [some (.ref 0), some (.int v1), some (.int v2)] [] σ
set_option maxRecDepth 100000 in
set_option maxHeartbeats 1000000 in
theorem e_m_draw_0 (σ : en_S) (v1 : Int32) : x_m_draw_0 σ v1 =
    if v1 = 0 then
      none
    else
      some (.inl (some (.int ((((((σ.1 0 59) * 1103515245) + 12345) >>> ((16 : Int32) &&& 31)) &&& 32767) - (((((σ.1 0 59) * 1103515245) + 12345) >>> ((16 : Int32) &&& 31)) &&& 32767) / v1 * v1))), (en_u1 σ.1 0 59 (((σ.1 0 59) * 1103515245) + 12345), σ.2)) := en_ex_un (G := bb_G) (P := bb_P) (ML := bb_ML) (HD := bb_HD) 19 0 112 0 [some (.ref 0), some (.int v1)] [] σ
set_option maxRecDepth 100000 in
set_option maxHeartbeats 1000000 in
theorem e_m_letters_0 (σ : en_S) (v0 : Int32) : x_m_letters_0 σ v0 =
    if v0 = 0 then
      en_cJ (x_m_spelled_0 σ 119 101 105 103 104 116) (fun r34 σ33 =>
        some (.inl (some (.long r34)), σ33)) (fun e σ => some (.inr e, σ))
    else
      if v0 = 1 then
        en_cJ (x_m_spelled_0 σ 104 97 110 100 115 0) (fun r32 σ31 =>
          some (.inl (some (.long r32)), σ31)) (fun e σ => some (.inr e, σ))
      else
        if v0 = 2 then
          en_cJ (x_m_spelled_0 σ 109 105 103 104 116 0) (fun r30 σ29 =>
            some (.inl (some (.long r30)), σ29)) (fun e σ => some (.inr e, σ))
        else
          if v0 = 3 then
            en_cJ (x_m_spelled_0 σ 108 101 97 110 0 0) (fun r28 σ27 =>
              some (.inl (some (.long r28)), σ27)) (fun e σ => some (.inr e, σ))
          else
            if v0 = 4 then
              en_cJ (x_m_spelled_0 σ 98 111 114 110 101 0) (fun r26 σ25 =>
                some (.inl (some (.long r26)), σ25)) (fun e σ => some (.inr e, σ))
            else
              if v0 = 5 then
                en_cJ (x_m_spelled_0 σ 116 111 119 110 0 0) (fun r24 σ23 =>
                  some (.inl (some (.long r24)), σ23)) (fun e σ => some (.inr e, σ))
              else
                if v0 = 6 then
                  en_cJ (x_m_spelled_0 σ 100 97 121 0 0 0) (fun r22 σ21 =>
                    some (.inl (some (.long r22)), σ21)) (fun e σ => some (.inr e, σ))
                else
                  if v0 = 7 then
                    en_cJ (x_m_spelled_0 σ 116 111 119 110 115 0) (fun r20 σ19 =>
                      some (.inl (some (.long r20)), σ19)) (fun e σ => some (.inr e, σ))
                  else
                    if v0 = 8 then
                      en_cJ (x_m_spelled_0 σ 114 111 97 100 0 0) (fun r18 σ17 =>
                        some (.inl (some (.long r18)), σ17)) (fun e σ => some (.inr e, σ))
                    else
                      if v0 = 9 then
                        en_cJ (x_m_spelled_0 σ 98 111 120 0 0 0) (fun r16 σ15 =>
                          some (.inl (some (.long r16)), σ15)) (fun e σ => some (.inr e, σ))
                      else
                        if v0 = 10 then
                          en_cJ (x_m_spelled_0 σ 98 101 97 114 101 114) (fun r14 σ13 =>
                            some (.inl (some (.long r14)), σ13)) (fun e σ => some (.inr e, σ))
                        else
                          if v0 = 11 then
                            en_cJ (x_m_spelled_0 σ 117 110 100 101 114 0) (fun r12 σ11 =>
                              some (.inl (some (.long r12)), σ11)) (fun e σ => some (.inr e, σ))
                          else
                            if v0 = 12 then
                              en_cJ (x_m_spelled_0 σ 116 97 108 107 0 0) (fun r10 σ9 =>
                                some (.inl (some (.long r10)), σ9)) (fun e σ => some (.inr e, σ))
                            else
                              if v0 = 13 then
                                en_cJ (x_m_spelled_0 σ 102 97 108 108 115 0) (fun r8 σ7 =>
                                  some (.inl (some (.long r8)), σ7)) (fun e σ => some (.inr e, σ))
                              else
                                if v0 = 14 then
                                  en_cJ (x_m_spelled_0 σ 97 110 100 0 0 0) (fun r6 σ5 =>
                                    some (.inl (some (.long r6)), σ5)) (fun e σ => some (.inr e, σ))
                                else
                                  if v0 = 15 then
                                    en_cJ (x_m_spelled_0 σ 111 114 0 0 0 0) (fun r4 σ3 =>
                                      some (.inl (some (.long r4)), σ3)) (fun e σ => some (.inr e, σ))
                                  else
                                    en_cJ (x_m_spelled_0 σ 110 111 116 0 0 0) (fun r2 σ1 =>
                                      some (.inl (some (.long r2)), σ1)) (fun e σ => some (.inr e, σ)) := en_ex_un (G := bb_G) (P := bb_P) (ML := bb_ML) (HD := bb_HD) 140 0 16 0 [some (.int v0)] [] σ
set_option maxRecDepth 100000 in
set_option maxHeartbeats 1000000 in
theorem e_m_isOneOf_0 (σ : en_S) (v1 : Int32) : x_m_isOneOf_0 σ v1 =
    en_cI (x_m_isGood_0 σ) (fun r2 σ1 =>
      if r2 = 0 then
        some (.inl (some (.int 0)), σ1)
      else
        if σ1.1 0 20 = 2 then
          if σ1.1 0 22 ≤ 4 then
            if σ1.1 0 23 < v1 then
              en_cI (x_m_isGood_0 σ1) (fun r4 σ3 =>
                if r4 = 0 ∨ r4 = 1 then
                  some (.inl (some (.int r4)), σ3)
                else
                  none) (fun e σ => some (.inr e, σ))
            else
              en_cV (x_m_wrong_0 σ1 3) (fun σ5 =>
                en_cI (x_m_isGood_0 σ5) (fun r7 σ6 =>
                  if r7 = 0 ∨ r7 = 1 then
                    some (.inl (some (.int r7)), σ6)
                  else
                    none) (fun e σ => some (.inr e, σ))) (fun e σ => some (.inr e, σ))
          else
            en_cV (x_m_wrong_0 σ1 2) (fun σ8 =>
              en_cI (x_m_isGood_0 σ8) (fun r10 σ9 =>
                if r10 = 0 ∨ r10 = 1 then
                  some (.inl (some (.int r10)), σ9)
                else
                  none) (fun e σ => some (.inr e, σ))) (fun e σ => some (.inr e, σ))
        else
          en_cV (x_m_wrong_0 σ1 1) (fun σ11 =>
            en_cI (x_m_isGood_0 σ11) (fun r13 σ12 =>
              if r13 = 0 ∨ r13 = 1 then
                some (.inl (some (.int r13)), σ12)
              else
                none) (fun e σ => some (.inr e, σ))) (fun e σ => some (.inr e, σ))) (fun e σ => some (.inr e, σ)) := en_ex_un (G := bb_G) (P := bb_P) (ML := bb_ML) (HD := bb_HD) 42 0 23 0 [some (.ref 0), some (.int v1)] [] σ
set_option maxRecDepth 100000 in
set_option maxHeartbeats 1000000 in
theorem e_m_deeper_0 (σ : en_S) : x_m_deeper_0 σ =
    if (6 : Int32) ≤ σ.1 0 35 then
      if σ.1 0 20 = 2 then
        en_cV (x_m_wrong_0 σ 2) (fun σ1 =>
          some (.inl none, σ1)) (fun e σ => some (.inr e, σ))
      else
        if σ.1 0 20 = 1 then
          en_cV (x_m_wrong_0 σ 2) (fun σ2 =>
            some (.inl none, σ2)) (fun e σ => some (.inr e, σ))
        else
          en_cI (x_m_isSign_0 σ 40) (fun r4 σ3 =>
            if r4 = 0 then
              en_cV (x_m_wrong_0 σ3 1) (fun σ5 =>
                some (.inl none, σ5)) (fun e σ => some (.inr e, σ))
            else
              en_cV (x_m_wrong_0 σ3 2) (fun σ6 =>
                some (.inl none, σ6)) (fun e σ => some (.inr e, σ))) (fun e σ => some (.inr e, σ))
    else
      if en_in ((σ.1 0 35) + 1) 9 then
        some (.inl none, (en_u1 (en_u1 σ.1 0 35 ((σ.1 0 35) + 1)) 17 (((σ.1 0 35) + 1).toNatClampNeg) (vp_nar .boolean 0), σ.2))
      else
        none := en_ex_un (G := bb_G) (P := bb_P) (ML := bb_ML) (HD := bb_HD) 47 0 30 0 [some (.ref 0)] [] σ
set_option maxRecDepth 100000 in
set_option maxHeartbeats 1000000 in
theorem e_m_operand_0 (σ : en_S) (v1 : Int32) : x_m_operand_0 σ v1 =
    x_m_operand_4 σ v1 1 := en_ex_un (G := bb_G) (P := bb_P) (ML := bb_ML) (HD := bb_HD) 6 0 31 0 [some (.ref 0), some (.int v1), none, none, none] [] σ
set_option maxRecDepth 100000 in
set_option maxHeartbeats 1000000 in
theorem e_m_operand_4 (σ : en_S) (v2 : Int32) (v3 : Int32) : x_m_operand_4 σ v2 v3 =
    if v3 = 0 then
      en_cV (x_m_part_0 σ) (fun σ1 =>
        some (.inl none, σ1)) (fun e σ => some (.inr e, σ))
    else
      en_cI (x_m_isGood_0 σ) (fun r3 σ2 =>
        if r3 = 0 then
          en_cV (x_m_part_0 σ2) (fun σ4 =>
            some (.inl none, σ4)) (fun e σ => some (.inr e, σ))
        else
          x_m_operand_18 σ2 v2 0) (fun e σ => some (.inr e, σ)) := en_ex_un (G := bb_G) (P := bb_P) (ML := bb_ML) (HD := bb_HD) 15 0 31 4 [some (.ref 0), none, some (.int v2), some (.int v3), none] [] σ
set_option maxRecDepth 100000 in
set_option maxHeartbeats 1000000 in
theorem e_m_operand_18 (σ : en_S) (v2 : Int32) (v4 : Int32) : x_m_operand_18 σ v2 v4 =
    en_cI (x_m_isGood_0 σ) (fun r2 σ1 =>
      if r2 = 0 then
        x_m_operand_75 σ1 v2
      else
        if v2 = 0 then
          x_m_operand_75 σ1 v2
        else
          en_cI (x_m_knownWord_0 σ1) (fun r4 σ3 =>
            if r4 = 16 then
              if v4 = 6 then
                en_cV (x_m_wrong_0 σ3 2) (fun σ5 =>
                  en_cI (x_m_isGood_0 σ5) (fun r7 σ6 =>
                    if r7 = 0 then
                      x_m_operand_18 σ6 v2 (v4 + 1)
                    else
                      en_cV (x_m_waitsFor_0 σ6 3) (fun σ8 =>
                        en_cV (x_m_goes_0 σ8) (fun σ9 =>
                          x_m_operand_18 σ9 v2 (v4 + 1)) (fun e σ => some (.inr e, σ))) (fun e σ => some (.inr e, σ))) (fun e σ => some (.inr e, σ))) (fun e σ => some (.inr e, σ))
              else
                en_cI (x_m_isGood_0 σ3) (fun r11 σ10 =>
                  if r11 = 0 then
                    x_m_operand_18 σ10 v2 (v4 + 1)
                  else
                    en_cV (x_m_waitsFor_0 σ10 3) (fun σ12 =>
                      en_cV (x_m_goes_0 σ12) (fun σ13 =>
                        x_m_operand_18 σ13 v2 (v4 + 1)) (fun e σ => some (.inr e, σ))) (fun e σ => some (.inr e, σ))) (fun e σ => some (.inr e, σ))
            else
              x_m_operand_75 σ3 v2) (fun e σ => some (.inr e, σ))) (fun e σ => some (.inr e, σ)) := en_ex_un (G := bb_G) (P := bb_P) (ML := bb_ML) (HD := bb_HD) 39 0 31 18 [some (.ref 0), none, some (.int v2), none, some (.int v4)] [] σ
set_option maxRecDepth 100000 in
set_option maxHeartbeats 1000000 in
theorem e_m_operand_75 (σ : en_S) (v2 : Int32) : x_m_operand_75 σ v2 =
    en_cI (x_m_isGood_0 σ) (fun r2 σ1 =>
      if r2 = 0 then
        x_m_operand_4 σ1 v2 0
      else
        en_cI (x_m_isSign_0 σ1 40) (fun r4 σ3 =>
          if r4 = 0 then
            x_m_operand_4 σ3 v2 0
          else
            en_cV (x_m_waitsFor_0 σ3 14) (fun σ5 =>
              en_cV (x_m_goes_0 σ5) (fun σ6 =>
                en_cV (x_m_deeper_0 σ6) (fun σ7 =>
                  x_m_operand_4 σ7 1 1) (fun e σ => some (.inr e, σ))) (fun e σ => some (.inr e, σ))) (fun e σ => some (.inr e, σ))) (fun e σ => some (.inr e, σ))) (fun e σ => some (.inr e, σ)) := en_ex_un (G := bb_G) (P := bb_P) (ML := bb_ML) (HD := bb_HD) 34 0 31 75 [some (.ref 0), none, some (.int v2), none, none] [] σ
set_option maxRecDepth 100000 in
set_option maxHeartbeats 1000000 in
theorem e_m_drops_0 (σ : en_S) (v1 : Int32) : x_m_drops_0 σ v1 =
    if σ.1 0 34 ≤ 0 then
      some (.inl none, σ)
    else
      if en_in ((σ.1 0 34) - 1) 950 then
        en_cI (x_m_isOpen_0 σ (σ.1 16 (((σ.1 0 34) - 1).toNatClampNeg))) (fun r2 σ1 =>
          if r2 = 0 then
            if en_in ((σ1.1 0 34) - 1) 950 then
              en_cI (x_m_strength_0 σ1 (σ1.1 16 (((σ1.1 0 34) - 1).toNatClampNeg))) (fun r4 σ3 =>
                if r4 < v1 then
                  some (.inl none, σ3)
                else
                  if en_in ((σ3.1 0 34) - 1) 950 then
                    en_cV (x_m_puts_0 (en_u1 σ3.1 0 34 ((σ3.1 0 34) - 1), σ3.2) (σ3.1 16 (((σ3.1 0 34) - 1).toNatClampNeg))) (fun σ5 =>
                      x_m_drops_0 σ5 v1) (fun e σ => some (.inr e, σ))
                  else
                    none) (fun e σ => some (.inr e, σ))
            else
              none
          else
            some (.inl none, σ1)) (fun e σ => some (.inr e, σ))
      else
        none := en_ex_un (G := bb_G) (P := bb_P) (ML := bb_ML) (HD := bb_HD) 41 0 27 0 [some (.ref 0), some (.int v1)] [] σ
set_option maxRecDepth 100000 in
set_option maxHeartbeats 1000000 in
theorem e_m_puts_0 (σ : en_S) (v1 : Int32) : x_m_puts_0 σ v1 =
    if en_in (σ.1 0 33) 1400 then
      some (.inl none, (en_u1 (en_u1 σ.1 15 ((σ.1 0 33).toNatClampNeg) v1) 0 33 ((σ.1 0 33) + 1), σ.2))
    else
      none := en_ex_un (G := bb_G) (P := bb_P) (ML := bb_ML) (HD := bb_HD) 15 0 24 0 [some (.ref 0), some (.int v1)] [] σ
set_option maxRecDepth 100000 in
set_option maxHeartbeats 1000000 in
theorem e_m_waitsFor_0 (σ : en_S) (v1 : Int32) : x_m_waitsFor_0 σ v1 =
    if en_in (σ.1 0 34) 950 then
      some (.inl none, (en_u1 (en_u1 σ.1 16 ((σ.1 0 34).toNatClampNeg) v1) 0 34 ((σ.1 0 34) + 1), σ.2))
    else
      none := en_ex_un (G := bb_G) (P := bb_P) (ML := bb_ML) (HD := bb_HD) 15 0 28 0 [some (.ref 0), some (.int v1)] [] σ
set_option maxRecDepth 100000 in
set_option maxHeartbeats 1000000 in
theorem e_m_isOpened_0 (σ : en_S) : x_m_isOpened_0 σ =
    x_m_isOpened_7 σ ((σ.1 0 34) - 1) := en_ex_un (G := bb_G) (P := bb_P) (ML := bb_ML) (HD := bb_HD) 7 0 32 0 [some (.ref 0), none] [] σ
set_option maxRecDepth 100000 in
set_option maxHeartbeats 1000000 in
theorem e_m_isOpened_7 (σ : en_S) (v1 : Int32) : x_m_isOpened_7 σ v1 =
    if v1 < 0 then
      if v1 < 0 then
        some (.inl (some (.int 0)), σ)
      else
        some (.inl (some (.int 1)), σ)
    else
      if en_in v1 950 then
        en_cI (x_m_isOpen_0 σ (σ.1 16 v1.toNatClampNeg)) (fun r2 σ1 =>
          if r2 = 0 then
            x_m_isOpened_7 σ1 (v1 + (-1))
          else
            if v1 < 0 then
              some (.inl (some (.int 0)), σ1)
            else
              some (.inl (some (.int 1)), σ1)) (fun e σ => some (.inr e, σ))
      else
        none := en_ex_un (G := bb_G) (P := bb_P) (ML := bb_ML) (HD := bb_HD) 26 0 32 7 [some (.ref 0), some (.int v1)] [] σ
set_option maxRecDepth 100000 in
set_option maxHeartbeats 1000000 in
theorem e_m_closes_0 (σ : en_S) : x_m_closes_0 σ =
    en_cV (x_m_drops_0 σ 0) (fun σ1 =>
      en_cV (x_m_goes_0 (en_u1 (en_u1 σ1.1 0 34 ((σ1.1 0 34) - 1)) 0 35 ((σ1.1 0 35) - 1), σ1.2)) (fun σ2 =>
        some (.inl none, σ2)) (fun e σ => some (.inr e, σ))) (fun e σ => some (.inr e, σ)) := en_ex_un (G := bb_G) (P := bb_P) (ML := bb_ML) (HD := bb_HD) 20 0 33 0 [some (.ref 0)] [] σ
set_option maxRecDepth 100000 in
set_option maxHeartbeats 1000000 in
theorem e_m_letsFall_0 (σ : en_S) (v1 : Int32) (v2 : Int32) : x_m_letsFall_0 σ v1 v2 =
    en_cI (x_m_handsAt_0 σ v1 v2) (fun r2 σ1 =>
      if en_in ((v1 + 1) + v2) 58 then
        en_cI (x_m_greater_0 σ1 1 ((σ1.1 18 (((v1 + 1) + v2).toNatClampNeg)) / (2 : Int32))) (fun r4 σ3 =>
          if en_in ((v1 + 1) + v2) 58 then
            x_m_letsFall_36 (en_u1 σ3.1 18 (((v1 + 1) + v2).toNatClampNeg) r4, σ3.2) v1 v2 r2 0
          else
            none) (fun e σ => some (.inr e, σ))
      else
        none) (fun e σ => some (.inr e, σ)) := en_ex_un (G := bb_G) (P := bb_P) (ML := bb_ML) (HD := bb_HD) 29 0 58 0 [some (.ref 0), some (.int v1), some (.int v2), none, none] [] σ
set_option maxRecDepth 100000 in
set_option maxHeartbeats 1000000 in
theorem e_m_letsFall_36 (σ : en_S) (v1 : Int32) (v2 : Int32) (v3 : Int32) (v4 : Int32) : x_m_letsFall_36 σ v1 v2 v3 v4 =
    if σ.1 0 4 ≤ v4 then
      some (.inl none, (en_u1 (en_u1 σ.1 0 51 ((σ.1 0 51) ||| v3)) 0 50 ((σ.1 0 50) ||| ((1 : Int32) <<< (v2 &&& 31))), σ.2))
    else
      if (v3 >>> (v4 &&& 31)) &&& 1 = 1 then
        if en_in ((v1 + 13) + v4) 58 then
          x_m_letsFall_36 (en_u1 σ.1 18 (((v1 + 13) + v4).toNatClampNeg) (-1), σ.2) v1 v2 v3 (v4 + 1)
        else
          none
      else
        x_m_letsFall_36 σ v1 v2 v3 (v4 + 1) := en_ex_un (G := bb_G) (P := bb_P) (ML := bb_ML) (HD := bb_HD) 41 0 58 36 [some (.ref 0), some (.int v1), some (.int v2), some (.int v3), some (.int v4)] [] σ
set_option maxRecDepth 100000 in
set_option maxHeartbeats 1000000 in
theorem e_m_asks_0 (σ : en_S) (v1 : Int32) (v2 : Int32) (v3 : Int32) : x_m_asks_0 σ v1 v2 v3 =
    en_cI (x_m_handsAt_0 σ v2 v3) (fun r2 σ1 =>
      if en_in ((v2 + 1) + v3) 58 then
        en_cI (x_m_bits_0 (en_u1 σ1.1 20 0 (σ1.1 18 (((v2 + 1) + v3).toNatClampNeg)), σ1.2) r2) (fun r4 σ3 =>
          en_cI (x_m_mightBy_0 (en_u1 σ3.1 20 1 r4, σ3.2) v2 r2) (fun r6 σ5 =>
            en_cI (x_m_leanBy_0 (en_u1 σ5.1 20 2 r6, σ5.2) r2) (fun r8 σ7 =>
              en_cI (x_m_isBorne_0 (en_u1 σ7.1 20 3 r8, σ7.2) v2 v3) (fun r10 σ9 =>
                if r10 = 0 then
                  x_m_asks_79 σ9 v1 v2 v3 0 4
                else
                  x_m_asks_79 σ9 v1 v2 v3 1 4) (fun e σ => some (.inr e, σ))) (fun e σ => some (.inr e, σ))) (fun e σ => some (.inr e, σ))) (fun e σ => some (.inr e, σ))
      else
        none) (fun e σ => some (.inr e, σ)) := en_ex_un (G := bb_G) (P := bb_P) (ML := bb_ML) (HD := bb_HD) 51 0 56 0 [some (.ref 0), some (.int v1), some (.int v2), some (.int v3), none] [] σ
set_option maxRecDepth 100000 in
set_option maxHeartbeats 1000000 in
theorem e_m_asks_79 (σ : en_S) (v1 : Int32) (v2 : Int32) (v3 : Int32) (t0 : Int32) (t1 : Int32) : x_m_asks_79 σ v1 v2 v3 t0 t1 =
    if en_in t1 7 then
      en_cI (x_m_townOf_0 (en_u1 σ.1 20 t1.toNatClampNeg t0, σ.2) v2 v3) (fun r2 σ1 =>
        if en_in (v2 + 0) 58 then
          en_cI (x_m_reckons_0 (en_u1 (en_u1 σ1.1 20 5 r2) 20 6 (σ1.1 18 ((v2 + 0).toNatClampNeg)), σ1.2) v1) (fun r4 σ3 =>
            some (.inl (some (.int r4)), σ3)) (fun e σ => some (.inr e, σ))
        else
          none) (fun e σ => some (.inr e, σ))
    else
      none := en_ex_un (G := bb_G) (P := bb_P) (ML := bb_ML) (HD := bb_HD) 25 0 56 79 [some (.ref 0), some (.int v1), some (.int v2), some (.int v3), none] [.int t0, .int t1, .ref 20] σ
set_option maxRecDepth 100000 in
set_option maxHeartbeats 1000000 in
theorem e_m_bounded_0 (σ : en_S) (v0 : Int32) (v1 : Int32) (v2 : Int32) : x_m_bounded_0 σ v0 v1 v2 =
    if v1 ≤ v0 then
      if v0 ≤ v2 then
        some (.inl (some (.int v0)), σ)
      else
        some (.inl (some (.int v2)), σ)
    else
      some (.inl (some (.int v1)), σ) := en_ex_un (G := bb_G) (P := bb_P) (ML := bb_ML) (HD := bb_HD) 16 0 4 0 [some (.int v0), some (.int v1), some (.int v2)] [] σ
set_option maxRecDepth 100000 in
set_option maxHeartbeats 1000000 in
theorem e_m_spelled_0 (σ : en_S) (v0 : Int32) (v1 : Int32) (v2 : Int32) (v3 : Int32) (v4 : Int32) (v5 : Int32) : x_m_spelled_0 σ v0 v1 v2 v3 v4 v5 =
    if v2 = 0 then
      if v3 = 0 then
        x_m_spelled_48 σ v4 v5 (((v0.toInt64 - 96) <<< ((5 : Int32).toInt64 &&& 63)) ||| ((v1 - 96).toInt64))
      else
        x_m_spelled_48 σ v4 v5 (((((v0.toInt64 - 96) <<< ((5 : Int32).toInt64 &&& 63)) ||| ((v1 - 96).toInt64)) <<< ((5 : Int32).toInt64 &&& 63)) ||| ((v3 - 96).toInt64))
    else
      if v3 = 0 then
        x_m_spelled_48 σ v4 v5 (((((v0.toInt64 - 96) <<< ((5 : Int32).toInt64 &&& 63)) ||| ((v1 - 96).toInt64)) <<< ((5 : Int32).toInt64 &&& 63)) ||| ((v2 - 96).toInt64))
      else
        x_m_spelled_48 σ v4 v5 (((((((v0.toInt64 - 96) <<< ((5 : Int32).toInt64 &&& 63)) ||| ((v1 - 96).toInt64)) <<< ((5 : Int32).toInt64 &&& 63)) ||| ((v2 - 96).toInt64)) <<< ((5 : Int32).toInt64 &&& 63)) ||| ((v3 - 96).toInt64)) := en_ex_un (G := bb_G) (P := bb_P) (ML := bb_ML) (HD := bb_HD) 47 0 15 0 [some (.int v0), some (.int v1), some (.int v2), some (.int v3), some (.int v4), some (.int v5), none, none] [] σ
set_option maxRecDepth 100000 in
set_option maxHeartbeats 1000000 in
theorem e_m_spelled_48 (σ : en_S) (v4 : Int32) (v5 : Int32) (v6 : Int64) : x_m_spelled_48 σ v4 v5 v6 =
    if v4 = 0 then
      if v5 = 0 then
        some (.inl (some (.long v6)), σ)
      else
        some (.inl (some (.long ((v6 <<< ((5 : Int32).toInt64 &&& 63)) ||| ((v5 - 96).toInt64)))), σ)
    else
      if v5 = 0 then
        some (.inl (some (.long ((v6 <<< ((5 : Int32).toInt64 &&& 63)) ||| ((v4 - 96).toInt64)))), σ)
      else
        some (.inl (some (.long ((((v6 <<< ((5 : Int32).toInt64 &&& 63)) ||| ((v4 - 96).toInt64)) <<< ((5 : Int32).toInt64 &&& 63)) ||| ((v5 - 96).toInt64)))), σ) := en_ex_un (G := bb_G) (P := bb_P) (ML := bb_ML) (HD := bb_HD) 43 0 15 48 [none, none, none, none, some (.int v4), some (.int v5), some (.long v6), none] [] σ
set_option maxRecDepth 100000 in
set_option maxHeartbeats 1000000 in
theorem e_m_part_0 (σ : en_S) : x_m_part_0 σ =
    en_cI (x_m_isGood_0 σ) (fun r2 σ1 =>
      if r2 = 0 then
        some (.inl none, σ1)
      else
        if σ1.1 0 20 = 2 then
          if σ1.1 0 22 ≤ 4 then
            en_cV (x_m_puts_0 σ1 1) (fun σ3 =>
              en_cV (x_m_puts_0 σ3 (σ3.1 0 23)) (fun σ4 =>
                x_m_part_91 σ4) (fun e σ => some (.inr e, σ))) (fun e σ => some (.inr e, σ))
          else
            en_cV (x_m_wrong_0 σ1 2) (fun σ5 =>
              en_cV (x_m_puts_0 σ5 1) (fun σ6 =>
                en_cV (x_m_puts_0 σ6 (σ6.1 0 23)) (fun σ7 =>
                  x_m_part_91 σ7) (fun e σ => some (.inr e, σ))) (fun e σ => some (.inr e, σ))) (fun e σ => some (.inr e, σ))
        else
          if σ1.1 0 20 = 1 then
            en_cI (x_m_knownWord_0 σ1) (fun r9 σ8 =>
              if r9 < 0 then
                en_cV (x_m_wrong_0 σ8 3) (fun σ10 =>
                  x_m_part_73 σ10 r9) (fun e σ => some (.inr e, σ))
              else
                if r9 ≤ 6 then
                  x_m_part_73 σ8 r9
                else
                  en_cV (x_m_wrong_0 σ8 3) (fun σ11 =>
                    x_m_part_73 σ11 r9) (fun e σ => some (.inr e, σ))) (fun e σ => some (.inr e, σ))
          else
            en_cV (x_m_wrong_0 σ1 1) (fun σ12 =>
              x_m_part_91 σ12) (fun e σ => some (.inr e, σ))) (fun e σ => some (.inr e, σ)) := en_ex_un (G := bb_G) (P := bb_P) (ML := bb_ML) (HD := bb_HD) 54 0 29 0 [some (.ref 0), none] [] σ
set_option maxRecDepth 100000 in
set_option maxHeartbeats 1000000 in
theorem e_m_part_73 (σ : en_S) (v1 : Int32) : x_m_part_73 σ v1 =
    en_cV (x_m_puts_0 σ 2) (fun σ1 =>
      en_cV (x_m_puts_0 σ1 v1) (fun σ2 =>
        x_m_part_91 σ2) (fun e σ => some (.inr e, σ))) (fun e σ => some (.inr e, σ)) := en_ex_un (G := bb_G) (P := bb_P) (ML := bb_ML) (HD := bb_HD) 9 0 29 73 [some (.ref 0), some (.int v1)] [] σ
set_option maxRecDepth 100000 in
set_option maxHeartbeats 1000000 in
theorem e_m_part_91 (σ : en_S) : x_m_part_91 σ =
    en_cI (x_m_isGood_0 σ) (fun r2 σ1 =>
      if r2 = 0 then
        some (.inl none, σ1)
      else
        en_cV (x_m_goes_0 σ1) (fun σ3 =>
          some (.inl none, σ3)) (fun e σ => some (.inr e, σ))) (fun e σ => some (.inr e, σ)) := en_ex_un (G := bb_G) (P := bb_P) (ML := bb_ML) (HD := bb_HD) 9 0 29 91 [some (.ref 0), none] [] σ
set_option maxRecDepth 100000 in
set_option maxHeartbeats 1000000 in
theorem e_m_isOpen_0 (σ : en_S) (v0 : Int32) : x_m_isOpen_0 σ v0 =
    if v0 < 14 then
      some (.inl (some (.int 0)), σ)
    else
      some (.inl (some (.int 1)), σ) := en_ex_un (G := bb_G) (P := bb_P) (ML := bb_ML) (HD := bb_HD) 10 0 25 0 [some (.int v0)] [] σ
set_option maxRecDepth 100000 in
set_option maxHeartbeats 1000000 in
theorem e_m_strength_0 (σ : en_S) (v0 : Int32) : x_m_strength_0 σ v0 =
    if v0 = 5 then
      some (.inl (some (.int 1)), σ)
    else
      if v0 = 4 then
        some (.inl (some (.int 2)), σ)
      else
        if v0 = 3 then
          some (.inl (some (.int 3)), σ)
        else
          if v0 = 6 then
            some (.inl (some (.int 4)), σ)
          else
            if v0 = 7 then
              some (.inl (some (.int 4)), σ)
            else
              if v0 = 8 then
                some (.inl (some (.int 5)), σ)
              else
                if v0 = 9 then
                  some (.inl (some (.int 5)), σ)
                else
                  some (.inl (some (.int 6)), σ) := en_ex_un (G := bb_G) (P := bb_P) (ML := bb_ML) (HD := bb_HD) 46 0 26 0 [some (.int v0)] [] σ
set_option maxRecDepth 100000 in
set_option maxHeartbeats 1000000 in
theorem e_m_reckons_0 (σ : en_S) (v1 : Int32) : x_m_reckons_0 σ v1 =
    x_m_reckons_4 σ 0 v1 := en_ex_un (G := bb_G) (P := bb_P) (ML := bb_ML) (HD := bb_HD) 6 0 48 0 [some (.ref 0), some (.int v1), none, none, none] [] σ
set_option maxRecDepth 100000 in
set_option maxHeartbeats 1000000 in
theorem e_m_reckons_4 (σ : en_S) (v2 : Int32) (v3 : Int32) : x_m_reckons_4 σ v2 v3 =
    if en_in v3 1400 then
      if σ.1 6 v3.toNatClampNeg = 0 then
        some (.inl (some (.int (σ.1 21 0))), σ)
      else
        if en_in v3 1400 then
          if σ.1 6 v3.toNatClampNeg = 1 then
            x_m_reckons_36 σ v2 (v3 + 1) (σ.1 6 v3.toNatClampNeg)
          else
            if σ.1 6 v3.toNatClampNeg = 2 then
              x_m_reckons_36 σ v2 (v3 + 1) (σ.1 6 v3.toNatClampNeg)
            else
              if σ.1 6 v3.toNatClampNeg = 3 then
                if en_in (v2 - 1) 950 then
                  if σ.1 21 ((v2 - 1).toNatClampNeg) = 0 then
                    if en_in (v2 - 1) 950 then
                      x_m_reckons_4 (en_u1 σ.1 21 ((v2 - 1).toNatClampNeg) 1, σ.2) v2 (v3 + 1)
                    else
                      none
                  else
                    if en_in (v2 - 1) 950 then
                      x_m_reckons_4 (en_u1 σ.1 21 ((v2 - 1).toNatClampNeg) 0, σ.2) v2 (v3 + 1)
                    else
                      none
                else
                  none
              else
                if en_in ((v2 + (-1)) - 1) 950 then
                  if en_in (v2 + (-1)) 950 then
                    en_cI (x_m_works_0 σ (σ.1 6 v3.toNatClampNeg) (σ.1 21 (((v2 + (-1)) - 1).toNatClampNeg)) (σ.1 21 ((v2 + (-1)).toNatClampNeg))) (fun r2 σ1 =>
                      if en_in ((v2 + (-1)) - 1) 950 then
                        x_m_reckons_4 (en_u1 σ1.1 21 (((v2 + (-1)) - 1).toNatClampNeg) r2, σ1.2) (v2 + (-1)) (v3 + 1)
                      else
                        none) (fun e σ => some (.inr e, σ))
                  else
                    none
                else
                  none
        else
          none
    else
      none := en_ex_un (G := bb_G) (P := bb_P) (ML := bb_ML) (HD := bb_HD) 68 0 48 4 [some (.ref 0), none, some (.int v2), some (.int v3), none] [] σ
set_option maxRecDepth 100000 in
set_option maxHeartbeats 1000000 in
theorem e_m_reckons_36 (σ : en_S) (v2 : Int32) (v3 : Int32) (v4 : Int32) : x_m_reckons_36 σ v2 v3 v4 =
    if v4 = 1 then
      if en_in v3 1400 then
        if en_in v2 950 then
          x_m_reckons_4 (en_u1 σ.1 21 v2.toNatClampNeg (σ.1 6 v3.toNatClampNeg), σ.2) (v2 + 1) (v3 + 1)
        else
          none
      else
        none
    else
      if en_in v3 1400 then
        if en_in (σ.1 6 v3.toNatClampNeg) 7 then
          if en_in v2 950 then
            x_m_reckons_4 (en_u1 σ.1 21 v2.toNatClampNeg (σ.1 20 ((σ.1 6 v3.toNatClampNeg).toNatClampNeg)), σ.2) (v2 + 1) (v3 + 1)
          else
            none
        else
          none
      else
        none := en_ex_un (G := bb_G) (P := bb_P) (ML := bb_ML) (HD := bb_HD) 30 0 48 36 [some (.ref 0), none, some (.int v2), some (.int v3), some (.int v4)] [] σ
set_option maxRecDepth 100000 in
set_option maxHeartbeats 1000000 in
theorem e_m_works_0 (σ : en_S) (v0 : Int32) (v1 : Int32) (v2 : Int32) : x_m_works_0 σ v0 v1 v2 =
    if v0 = 4 then
      if v1 = 0 then
        some (.inl (some (.int 0)), σ)
      else
        if v2 = 0 then
          some (.inl (some (.int 0)), σ)
        else
          some (.inl (some (.int 1)), σ)
    else
      if v0 = 5 then
        if v1 = 0 then
          if v2 = 0 then
            some (.inl (some (.int 0)), σ)
          else
            some (.inl (some (.int 1)), σ)
        else
          some (.inl (some (.int 1)), σ)
      else
        if v0 = 6 then
          if v2 ≤ v1 then
            some (.inl (some (.int 0)), σ)
          else
            some (.inl (some (.int 1)), σ)
        else
          if v0 = 7 then
            if v1 = v2 then
              some (.inl (some (.int 1)), σ)
            else
              some (.inl (some (.int 0)), σ)
          else
            if v0 = 8 then
              some (.inl (some (.int (v1 + v2))), σ)
            else
              if v0 = 9 then
                some (.inl (some (.int (v1 - v2))), σ)
              else
                if v0 = 10 then
                  some (.inl (some (.int (v1 * v2))), σ)
                else
                  if v2 = 0 then
                    some (.inl (some (.int 0)), σ)
                  else
                    if v2 = 0 then
                      none
                    else
                      some (.inl (some (.int (v1 / v2))), σ) := en_ex_un (G := bb_G) (P := bb_P) (ML := bb_ML) (HD := bb_HD) 64 0 47 0 [some (.int v0), some (.int v1), some (.int v2)] [] σ
