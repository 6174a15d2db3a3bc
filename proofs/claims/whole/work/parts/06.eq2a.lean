/-! written by a program: each region's equation -/
set_option maxRecDepth 100000 in
set_option maxHeartbeats 1000000 in
theorem e_rd_readText_0 (σ : en_S) (v1 : Int32) : x_rd_readText_0 σ v1 =
    en_cV (x_ld_empty_p50_0 (en_u1 (en_u1 (en_u1 (en_u1 (en_u1 (en_u1 σ.1 66 2 (if (700 : Int32) < v1 then 700 else v1)) 66 4 0) 66 7 0) 66 8 0) 66 9 0) 66 10 (-1), σ.2)) (fun σ1 =>
      en_cV (x_rd_nextToken_0 σ1) (fun σ2 =>
        x_rd_readText_51 σ2 0) (fun e σ => some (.inr e, σ))) (fun e σ => some (.inr e, σ)) := en_ex_un (G := bb_G) (P := bb_P) (ML := bb_ML) (HD := bb_HD) 31 0 4001 0 [some (.ref 66), some (.int v1), none] [] σ
set_option maxRecDepth 100000 in
set_option maxHeartbeats 1000000 in
theorem e_rd_readText_51 (σ : en_S) (v2 : Int32) : x_rd_readText_51 σ v2 =
    if (700 : Int32) ≤ v2 then
      some (.inl (some (.int (σ.1 66 9))), σ)
    else
      if σ.1 66 9 = 0 then
        if σ.1 66 5 = 0 then
          some (.inl (some (.int (σ.1 66 9))), σ)
        else
          en_cV (x_rd_readLine_0 σ) (fun σ1 =>
            en_cV (x_rd_readSign_0 σ1 59) (fun σ2 =>
              x_rd_readText_51 σ2 (v2 + 1)) (fun e σ => some (.inr e, σ))) (fun e σ => some (.inr e, σ))
      else
        some (.inl (some (.int (σ.1 66 9))), σ) := en_ex_un (G := bb_G) (P := bb_P) (ML := bb_ML) (HD := bb_HD) 27 0 4001 51 [some (.ref 66), none, some (.int v2)] [] σ
set_option maxRecDepth 100000 in
set_option maxHeartbeats 1000000 in
theorem e_rd_nextToken_0 (σ : en_S) : x_rd_nextToken_0 σ =
    x_rd_nextToken_8 (en_u1 σ.1 66 3 (σ.1 66 4), σ.2) := en_ex_un (G := bb_G) (P := bb_P) (ML := bb_ML) (HD := bb_HD) 6 0 4003 0 [some (.ref 66)] [] σ
set_option maxRecDepth 100000 in
set_option maxHeartbeats 1000000 in
theorem e_rd_nextToken_8 (σ : en_S) : x_rd_nextToken_8 σ =
    if σ.1 66 2 ≤ σ.1 66 3 then
      x_rd_nextToken_60 σ
    else
      if en_in (σ.1 66 3) 700 then
        if σ.1 32 ((σ.1 66 3).toNatClampNeg) = 32 then
          x_rd_nextToken_8 (en_u1 σ.1 66 3 ((σ.1 66 3) + 1), σ.2)
        else
          if en_in (σ.1 66 3) 700 then
            if σ.1 32 ((σ.1 66 3).toNatClampNeg) = 10 then
              x_rd_nextToken_8 (en_u1 σ.1 66 3 ((σ.1 66 3) + 1), σ.2)
            else
              x_rd_nextToken_60 σ
          else
            none
      else
        none := en_ex_un (G := bb_G) (P := bb_P) (ML := bb_ML) (HD := bb_HD) 35 0 4003 8 [some (.ref 66)] [] σ
set_option maxRecDepth 100000 in
set_option maxHeartbeats 1000000 in
theorem e_rd_nextToken_60 (σ : en_S) : x_rd_nextToken_60 σ =
    if σ.1 66 3 < σ.1 66 2 then
      if en_in (σ.1 66 3) 700 then
        en_cI (x_rd_isLetter_0 (en_u1 (en_u1 σ.1 66 4 (σ.1 66 3)) 66 6 0, σ.2) (σ.1 32 ((σ.1 66 3).toNatClampNeg))) (fun r2 σ1 =>
          if r2 = 0 then
            if en_in (σ1.1 66 3) 700 then
              en_cI (x_rd_isDigit_0 σ1 (σ1.1 32 ((σ1.1 66 3).toNatClampNeg))) (fun r4 σ3 =>
                if r4 = 0 then
                  if en_in (σ3.1 66 3) 700 then
                    if en_ixF ((((σ3.1 32 ((σ3.1 66 3).toNatClampNeg)) &&& 255).toUInt32 % 65536).toInt32) [59, 40, 41, 43, 45, 42, 47, 60, 61] 0 < 0 then
                      some (.inl none, (en_u1 (en_u1 σ3.1 66 5 4) 66 4 ((σ3.1 66 4) + 1), σ3.2))
                    else
                      some (.inl none, (en_u1 (en_u1 σ3.1 66 5 3) 66 4 ((σ3.1 66 4) + 1), σ3.2))
                  else
                    none
                else
                  x_rd_nextToken_171 (en_u1 σ3.1 66 5 2, σ3.2)) (fun e σ => some (.inr e, σ))
            else
              none
          else
            x_rd_nextToken_112 (en_u1 σ1.1 66 5 1, σ1.2)) (fun e σ => some (.inr e, σ))
      else
        none
    else
      some (.inl none, (en_u1 (en_u1 (en_u1 σ.1 66 4 (σ.1 66 3)) 66 6 0) 66 5 0, σ.2)) := en_ex_un (G := bb_G) (P := bb_P) (ML := bb_ML) (HD := bb_HD) 70 0 4003 60 [some (.ref 66)] [] σ
set_option maxRecDepth 100000 in
set_option maxHeartbeats 1000000 in
theorem e_rd_nextToken_112 (σ : en_S) : x_rd_nextToken_112 σ =
    if σ.1 66 2 ≤ σ.1 66 4 then
      some (.inl none, σ)
    else
      if en_in (σ.1 66 4) 700 then
        en_cI (x_rd_isLetter_0 σ (σ.1 32 ((σ.1 66 4).toNatClampNeg))) (fun r2 σ1 =>
          if r2 = 0 then
            some (.inl none, σ1)
          else
            x_rd_nextToken_112 (en_u1 σ1.1 66 4 ((σ1.1 66 4) + 1), σ1.2)) (fun e σ => some (.inr e, σ))
      else
        none := en_ex_un (G := bb_G) (P := bb_P) (ML := bb_ML) (HD := bb_HD) 23 0 4003 112 [some (.ref 66)] [] σ
set_option maxRecDepth 100000 in
set_option maxHeartbeats 1000000 in
theorem e_rd_nextToken_171 (σ : en_S) : x_rd_nextToken_171 σ =
    if σ.1 66 2 ≤ σ.1 66 4 then
      some (.inl none, σ)
    else
      if en_in (σ.1 66 4) 700 then
        en_cI (x_rd_isDigit_0 σ (σ.1 32 ((σ.1 66 4).toNatClampNeg))) (fun r2 σ1 =>
          if r2 = 0 then
            some (.inl none, σ1)
          else
            if en_in (σ1.1 66 4) 700 then
              x_rd_nextToken_171 (en_u1 (en_u1 σ1.1 66 6 ((((σ1.1 66 6) * 10) + (σ1.1 32 ((σ1.1 66 4).toNatClampNeg))) - 48)) 66 4 ((σ1.1 66 4) + 1), σ1.2)
            else
              none) (fun e σ => some (.inr e, σ))
      else
        none := en_ex_un (G := bb_G) (P := bb_P) (ML := bb_ML) (HD := bb_HD) 37 0 4003 171 [some (.ref 66)] [] σ
set_option maxRecDepth 100000 in
set_option maxHeartbeats 1000000 in
theorem e_rd_readLine_0 (σ : en_S) : x_rd_readLine_0 σ =
    en_cI (x_rd_isWord_p1001_0 σ) (fun r2 σ1 =>
      if r2 = 0 then
        en_cI (x_rd_isWord_p1002_0 σ1) (fun r4 σ3 =>
          if r4 = 0 then
            en_cI (x_rd_isWord_p1003_0 σ3) (fun r6 σ5 =>
              if r6 = 0 then
                en_cI (x_rd_isWord_p1004_0 σ5) (fun r8 σ7 =>
                  if r8 = 0 then
                    en_cI (x_rd_isWord_p1005_0 σ7) (fun r10 σ9 =>
                      if r10 = 0 then
                        en_cI (x_rd_isWord_p1006_0 σ9) (fun r12 σ11 =>
                          if r12 = 0 then
                            en_cV (x_rd_refuse_0 σ11 1) (fun σ13 =>
                              some (.inl none, σ13)) (fun e σ => some (.inr e, σ))
                          else
                            en_cV (x_rd_readRule_p63_0 σ11) (fun σ14 =>
                              some (.inl none, σ14)) (fun e σ => some (.inr e, σ))) (fun e σ => some (.inr e, σ))
                      else
                        en_cV (x_rd_readRule_p60_0 σ9) (fun σ15 =>
                          some (.inl none, σ15)) (fun e σ => some (.inr e, σ))) (fun e σ => some (.inr e, σ))
                  else
                    en_cV (x_rd_readBearer_0 σ7) (fun σ16 =>
                      some (.inl none, σ16)) (fun e σ => some (.inr e, σ))) (fun e σ => some (.inr e, σ))
              else
                en_cV (x_rd_readBox_0 σ5) (fun σ17 =>
                  some (.inl none, σ17)) (fun e σ => some (.inr e, σ))) (fun e σ => some (.inr e, σ))
          else
            en_cV (x_rd_readRoad_0 σ3) (fun σ18 =>
              some (.inl none, σ18)) (fun e σ => some (.inr e, σ))) (fun e σ => some (.inr e, σ))
      else
        en_cV (x_rd_readTowns_0 σ1) (fun σ19 =>
          some (.inl none, σ19)) (fun e σ => some (.inr e, σ))) (fun e σ => some (.inr e, σ)) := en_ex_un (G := bb_G) (P := bb_P) (ML := bb_ML) (HD := bb_HD) 60 0 4008 0 [some (.ref 66)] [] σ
set_option maxRecDepth 100000 in
set_option maxHeartbeats 1000000 in
theorem e_rd_readSign_0 (σ : en_S) (v1 : Int32) : x_rd_readSign_0 σ v1 =
    if σ.1 66 9 = 0 then
      en_cI (x_rd_isSign_0 σ v1) (fun r2 σ1 =>
        if r2 = 0 then
          en_cV (x_rd_refuse_0 σ1 1) (fun σ3 =>
            some (.inl none, σ3)) (fun e σ => some (.inr e, σ))
        else
          en_cV (x_rd_nextToken_0 σ1) (fun σ4 =>
            some (.inl none, σ4)) (fun e σ => some (.inr e, σ))) (fun e σ => some (.inr e, σ))
    else
      some (.inl none, σ) := en_ex_un (G := bb_G) (P := bb_P) (ML := bb_ML) (HD := bb_HD) 18 0 4009 0 [some (.ref 66), some (.int v1)] [] σ
set_option maxRecDepth 100000 in
set_option maxHeartbeats 1000000 in
theorem e_rd_isLetter_0 (σ : en_S) (v0 : Int32) : x_rd_isLetter_0 σ v0 =
    if v0 < 97 then
      some (.inl (some (.int 0)), σ)
    else
      if (122 : Int32) < v0 then
        some (.inl (some (.int 0)), σ)
      else
        some (.inl (some (.int 1)), σ) := en_ex_un (G := bb_G) (P := bb_P) (ML := bb_ML) (HD := bb_HD) 15 0 4004 0 [some (.int v0)] [] σ
set_option maxRecDepth 100000 in
set_option maxHeartbeats 1000000 in
theorem e_rd_isDigit_0 (σ : en_S) (v0 : Int32) : x_rd_isDigit_0 σ v0 =
    if v0 < 48 then
      some (.inl (some (.int 0)), σ)
    else
      if (57 : Int32) < v0 then
        some (.inl (some (.int 0)), σ)
      else
        some (.inl (some (.int 1)), σ) := en_ex_un (G := bb_G) (P := bb_P) (ML := bb_ML) (HD := bb_HD) 15 0 4005 0 [some (.int v0)] [] σ
set_option maxRecDepth 100000 in
set_option maxHeartbeats 1000000 in
theorem e_rd_isWord_p1001_0 (σ : en_S) : x_rd_isWord_p1001_0 σ =
    if σ.1 66 5 = 1 then
      if (σ.1 66 4) - (σ.1 66 3) = 5 then
        x_rd_isWord_p1001_28 σ 0
      else
        some (.inl (some (.int 0)), σ)
    else
      some (.inl (some (.int 0)), σ) := en_ex_un (G := bb_G) (P := bb_P) (ML := bb_ML) (HD := bb_HD) 20 0 4006 0 [some (.ref 66), some (.ref 1001), none] [] σ
set_option maxRecDepth 100000 in
set_option maxHeartbeats 1000000 in
theorem e_rd_isWord_p1001_28 (σ : en_S) (v2 : Int32) : x_rd_isWord_p1001_28 σ v2 =
    if (5 : Int32) ≤ v2 then
      some (.inl (some (.int 1)), σ)
    else
      if en_in ((σ.1 66 3) + v2) 700 then
        if 1000 ≤ 1001 ∧ en_small [.int (σ.1 32 (((σ.1 66 3) + v2).toNatClampNeg))] = true ∧ en_in v2 5 then
          if σ.1 32 (((σ.1 66 3) + v2).toNatClampNeg) = ([116, 111, 119, 110, 115]).getD v2.toNatClampNeg 0 &&& 255 then
            x_rd_isWord_p1001_28 σ (v2 + 1)
          else
            some (.inl (some (.int 0)), σ)
        else
          none
      else
        none := en_ex_un (G := bb_G) (P := bb_P) (ML := bb_ML) (HD := bb_HD) 23 0 4006 28 [some (.ref 66), some (.ref 1001), some (.int v2)] [] σ
set_option maxRecDepth 100000 in
set_option maxHeartbeats 1000000 in
theorem e_rd_isWord_p1002_0 (σ : en_S) : x_rd_isWord_p1002_0 σ =
    if σ.1 66 5 = 1 then
      if (σ.1 66 4) - (σ.1 66 3) = 4 then
        x_rd_isWord_p1002_28 σ 0
      else
        some (.inl (some (.int 0)), σ)
    else
      some (.inl (some (.int 0)), σ) := en_ex_un (G := bb_G) (P := bb_P) (ML := bb_ML) (HD := bb_HD) 20 0 4006 0 [some (.ref 66), some (.ref 1002), none] [] σ
set_option maxRecDepth 100000 in
set_option maxHeartbeats 1000000 in
theorem e_rd_isWord_p1002_28 (σ : en_S) (v2 : Int32) : x_rd_isWord_p1002_28 σ v2 =
    if (4 : Int32) ≤ v2 then
      some (.inl (some (.int 1)), σ)
    else
      if en_in ((σ.1 66 3) + v2) 700 then
        if 1000 ≤ 1002 ∧ en_small [.int (σ.1 32 (((σ.1 66 3) + v2).toNatClampNeg))] = true ∧ en_in v2 4 then
          if σ.1 32 (((σ.1 66 3) + v2).toNatClampNeg) = ([114, 111, 97, 100]).getD v2.toNatClampNeg 0 &&& 255 then
            x_rd_isWord_p1002_28 σ (v2 + 1)
          else
            some (.inl (some (.int 0)), σ)
        else
          none
      else
        none := en_ex_un (G := bb_G) (P := bb_P) (ML := bb_ML) (HD := bb_HD) 23 0 4006 28 [some (.ref 66), some (.ref 1002), some (.int v2)] [] σ
set_option maxRecDepth 100000 in
set_option maxHeartbeats 1000000 in
theorem e_rd_isWord_p1003_0 (σ : en_S) : x_rd_isWord_p1003_0 σ =
    if σ.1 66 5 = 1 then
      if (σ.1 66 4) - (σ.1 66 3) = 3 then
        x_rd_isWord_p1003_28 σ 0
      else
        some (.inl (some (.int 0)), σ)
    else
      some (.inl (some (.int 0)), σ) := en_ex_un (G := bb_G) (P := bb_P) (ML := bb_ML) (HD := bb_HD) 20 0 4006 0 [some (.ref 66), some (.ref 1003), none] [] σ
set_option maxRecDepth 100000 in
set_option maxHeartbeats 1000000 in
theorem e_rd_isWord_p1003_28 (σ : en_S) (v2 : Int32) : x_rd_isWord_p1003_28 σ v2 =
    if (3 : Int32) ≤ v2 then
      some (.inl (some (.int 1)), σ)
    else
      if en_in ((σ.1 66 3) + v2) 700 then
        if 1000 ≤ 1003 ∧ en_small [.int (σ.1 32 (((σ.1 66 3) + v2).toNatClampNeg))] = true ∧ en_in v2 3 then
          if σ.1 32 (((σ.1 66 3) + v2).toNatClampNeg) = ([98, 111, 120]).getD v2.toNatClampNeg 0 &&& 255 then
            x_rd_isWord_p1003_28 σ (v2 + 1)
          else
            some (.inl (some (.int 0)), σ)
        else
          none
      else
        none := en_ex_un (G := bb_G) (P := bb_P) (ML := bb_ML) (HD := bb_HD) 23 0 4006 28 [some (.ref 66), some (.ref 1003), some (.int v2)] [] σ
set_option maxRecDepth 100000 in
set_option maxHeartbeats 1000000 in
theorem e_rd_isWord_p1004_0 (σ : en_S) : x_rd_isWord_p1004_0 σ =
    if σ.1 66 5 = 1 then
      if (σ.1 66 4) - (σ.1 66 3) = 6 then
        x_rd_isWord_p1004_28 σ 0
      else
        some (.inl (some (.int 0)), σ)
    else
      some (.inl (some (.int 0)), σ) := en_ex_un (G := bb_G) (P := bb_P) (ML := bb_ML) (HD := bb_HD) 20 0 4006 0 [some (.ref 66), some (.ref 1004), none] [] σ
set_option maxRecDepth 100000 in
set_option maxHeartbeats 1000000 in
theorem e_rd_isWord_p1004_28 (σ : en_S) (v2 : Int32) : x_rd_isWord_p1004_28 σ v2 =
    if (6 : Int32) ≤ v2 then
      some (.inl (some (.int 1)), σ)
    else
      if en_in ((σ.1 66 3) + v2) 700 then
        if 1000 ≤ 1004 ∧ en_small [.int (σ.1 32 (((σ.1 66 3) + v2).toNatClampNeg))] = true ∧ en_in v2 6 then
          if σ.1 32 (((σ.1 66 3) + v2).toNatClampNeg) = ([98, 101, 97, 114, 101, 114]).getD v2.toNatClampNeg 0 &&& 255 then
            x_rd_isWord_p1004_28 σ (v2 + 1)
          else
            some (.inl (some (.int 0)), σ)
        else
          none
      else
        none := en_ex_un (G := bb_G) (P := bb_P) (ML := bb_ML) (HD := bb_HD) 23 0 4006 28 [some (.ref 66), some (.ref 1004), some (.int v2)] [] σ
set_option maxRecDepth 100000 in
set_option maxHeartbeats 1000000 in
theorem e_rd_isWord_p1005_0 (σ : en_S) : x_rd_isWord_p1005_0 σ =
    if σ.1 66 5 = 1 then
      if (σ.1 66 4) - (σ.1 66 3) = 4 then
        x_rd_isWord_p1005_28 σ 0
      else
        some (.inl (some (.int 0)), σ)
    else
      some (.inl (some (.int 0)), σ) := en_ex_un (G := bb_G) (P := bb_P) (ML := bb_ML) (HD := bb_HD) 20 0 4006 0 [some (.ref 66), some (.ref 1005), none] [] σ
set_option maxRecDepth 100000 in
set_option maxHeartbeats 1000000 in
theorem e_rd_isWord_p1005_28 (σ : en_S) (v2 : Int32) : x_rd_isWord_p1005_28 σ v2 =
    if (4 : Int32) ≤ v2 then
      some (.inl (some (.int 1)), σ)
    else
      if en_in ((σ.1 66 3) + v2) 700 then
        if 1000 ≤ 1005 ∧ en_small [.int (σ.1 32 (((σ.1 66 3) + v2).toNatClampNeg))] = true ∧ en_in v2 4 then
          if σ.1 32 (((σ.1 66 3) + v2).toNatClampNeg) = ([116, 97, 108, 107]).getD v2.toNatClampNeg 0 &&& 255 then
            x_rd_isWord_p1005_28 σ (v2 + 1)
          else
            some (.inl (some (.int 0)), σ)
        else
          none
      else
        none := en_ex_un (G := bb_G) (P := bb_P) (ML := bb_ML) (HD := bb_HD) 23 0 4006 28 [some (.ref 66), some (.ref 1005), some (.int v2)] [] σ
set_option maxRecDepth 100000 in
set_option maxHeartbeats 1000000 in
theorem e_rd_isWord_p1006_0 (σ : en_S) : x_rd_isWord_p1006_0 σ =
    if σ.1 66 5 = 1 then
      if (σ.1 66 4) - (σ.1 66 3) = 5 then
        x_rd_isWord_p1006_28 σ 0
      else
        some (.inl (some (.int 0)), σ)
    else
      some (.inl (some (.int 0)), σ) := en_ex_un (G := bb_G) (P := bb_P) (ML := bb_ML) (HD := bb_HD) 20 0 4006 0 [some (.ref 66), some (.ref 1006), none] [] σ
set_option maxRecDepth 100000 in
set_option maxHeartbeats 1000000 in
theorem e_rd_isWord_p1006_28 (σ : en_S) (v2 : Int32) : x_rd_isWord_p1006_28 σ v2 =
    if (5 : Int32) ≤ v2 then
      some (.inl (some (.int 1)), σ)
    else
      if en_in ((σ.1 66 3) + v2) 700 then
        if 1000 ≤ 1006 ∧ en_small [.int (σ.1 32 (((σ.1 66 3) + v2).toNatClampNeg))] = true ∧ en_in v2 5 then
          if σ.1 32 (((σ.1 66 3) + v2).toNatClampNeg) = ([102, 97, 108, 108, 115]).getD v2.toNatClampNeg 0 &&& 255 then
            x_rd_isWord_p1006_28 σ (v2 + 1)
          else
            some (.inl (some (.int 0)), σ)
        else
          none
      else
        none := en_ex_un (G := bb_G) (P := bb_P) (ML := bb_ML) (HD := bb_HD) 23 0 4006 28 [some (.ref 66), some (.ref 1006), some (.int v2)] [] σ
set_option maxRecDepth 100000 in
set_option maxHeartbeats 1000000 in
theorem e_rd_refuse_0 (σ : en_S) (v1 : Int32) : x_rd_refuse_0 σ v1 =
    some (.inl none, (en_u1 (en_u1 σ.1 66 9 v1) 66 10 (σ.1 66 3), σ.2)) := en_ex_un (G := bb_G) (P := bb_P) (ML := bb_ML) (HD := bb_HD) 10 0 4002 0 [some (.ref 66), some (.int v1)] [] σ
set_option maxRecDepth 100000 in
set_option maxHeartbeats 1000000 in
theorem e_rd_readRule_p63_0 (σ : en_S) : x_rd_readRule_p63_0 σ =
    if σ.1 63 0 = 0 then
      en_cV (x_rd_nextToken_0 (en_u1 σ.1 63 0 1, σ.2)) (fun σ1 =>
        en_cV (x_rd_readExpr_0_p63_0 σ1 0) (fun σ2 =>
          some (.inl none, σ2)) (fun e σ => some (.inr e, σ))) (fun e σ => some (.inr e, σ))
    else
      en_cV (x_rd_refuse_0 σ 5) (fun σ3 =>
        some (.inl none, σ3)) (fun e σ => some (.inr e, σ)) := en_ex_un (G := bb_G) (P := bb_P) (ML := bb_ML) (HD := bb_HD) 19 0 4016 0 [some (.ref 66), some (.ref 63)] [] σ
set_option maxRecDepth 100000 in
set_option maxHeartbeats 1000000 in
theorem e_rd_readRule_p60_0 (σ : en_S) : x_rd_readRule_p60_0 σ =
    if σ.1 60 0 = 0 then
      en_cV (x_rd_nextToken_0 (en_u1 σ.1 60 0 1, σ.2)) (fun σ1 =>
        en_cV (x_rd_readExpr_0_p60_0 σ1 0) (fun σ2 =>
          some (.inl none, σ2)) (fun e σ => some (.inr e, σ))) (fun e σ => some (.inr e, σ))
    else
      en_cV (x_rd_refuse_0 σ 5) (fun σ3 =>
        some (.inl none, σ3)) (fun e σ => some (.inr e, σ)) := en_ex_un (G := bb_G) (P := bb_P) (ML := bb_ML) (HD := bb_HD) 19 0 4016 0 [some (.ref 66), some (.ref 60)] [] σ
set_option maxRecDepth 100000 in
set_option maxHeartbeats 1000000 in
theorem e_rd_readBearer_0 (σ : en_S) : x_rd_readBearer_0 σ =
    if σ.1 50 9 < 8 then
      en_cV (x_rd_nextToken_0 σ) (fun σ1 =>
        en_cI (x_rd_readNumber_0 σ1 1 40) (fun r3 σ2 =>
          if en_in (σ.1 50 9) 8 then
            en_cI (x_rd_readNumber_0 (en_u1 σ2.1 57 ((σ.1 50 9).toNatClampNeg) r3, σ2.2) 1 9) (fun r5 σ4 =>
              if en_in (σ.1 50 9) 8 then
                if en_in (σ.1 50 9) 8 then
                  if σ4.1 66 9 = 0 then
                    en_cI (x_rd_isWord_p1007_0 (en_u1 (en_u1 σ4.1 58 ((σ.1 50 9).toNatClampNeg) r5) 59 ((σ.1 50 9).toNatClampNeg) (-1), σ4.2)) (fun r7 σ6 =>
                      if r7 = 0 then
                        x_rd_readBearer_107 σ6
                      else
                        en_cV (x_rd_nextToken_0 σ6) (fun σ8 =>
                          en_cI (x_rd_readName_0 σ8 (σ8.1 50 5) (-1)) (fun r10 σ9 =>
                            if en_in (σ.1 50 9) 8 then
                              x_rd_readBearer_107 (en_u1 σ9.1 59 ((σ.1 50 9).toNatClampNeg) r10, σ9.2)
                            else
                              none) (fun e σ => some (.inr e, σ))) (fun e σ => some (.inr e, σ))) (fun e σ => some (.inr e, σ))
                  else
                    x_rd_readBearer_107 (en_u1 (en_u1 σ4.1 58 ((σ.1 50 9).toNatClampNeg) r5) 59 ((σ.1 50 9).toNatClampNeg) (-1), σ4.2)
                else
                  none
              else
                none) (fun e σ => some (.inr e, σ))
          else
            none) (fun e σ => some (.inr e, σ))) (fun e σ => some (.inr e, σ))
    else
      en_cV (x_rd_refuse_0 σ 2) (fun σ11 =>
        some (.inl none, σ11)) (fun e σ => some (.inr e, σ)) := en_ex_un (G := bb_G) (P := bb_P) (ML := bb_ML) (HD := bb_HD) 59 0 4015 0 [some (.ref 66), none] [] σ
set_option maxRecDepth 100000 in
set_option maxHeartbeats 1000000 in
theorem e_rd_readBearer_107 (σ : en_S) : x_rd_readBearer_107 σ =
    some (.inl none, (en_u1 σ.1 50 9 ((σ.1 50 9) + 1), σ.2)) := en_ex_un (G := bb_G) (P := bb_P) (ML := bb_ML) (HD := bb_HD) 10 0 4015 107 [some (.ref 66), none] [] σ
set_option maxRecDepth 100000 in
set_option maxHeartbeats 1000000 in
theorem e_rd_readBox_0 (σ : en_S) : x_rd_readBox_0 σ =
    if σ.1 50 5 < 6 then
      en_cV (x_rd_nextToken_0 σ) (fun σ1 =>
        en_cI (x_rd_readNumber_0 σ1 1 99) (fun r3 σ2 =>
          if en_in (σ.1 50 5) 6 then
            en_cI (x_rd_readName_0 (en_u1 (en_u1 σ2.1 54 ((σ.1 50 5).toNatClampNeg) r3) 66 8 1, σ2.2) (σ2.1 50 0) (-1)) (fun r5 σ4 =>
              en_cV (x_ld_addStop_p50_0 σ4 (σ.1 50 5) 0 r5) (fun σ6 =>
                x_rd_readBox_68 σ6 (σ.1 50 5) 1) (fun e σ => some (.inr e, σ))) (fun e σ => some (.inr e, σ))
          else
            none) (fun e σ => some (.inr e, σ))) (fun e σ => some (.inr e, σ))
    else
      en_cV (x_rd_refuse_0 σ 2) (fun σ7 =>
        some (.inl none, σ7)) (fun e σ => some (.inr e, σ)) := en_ex_un (G := bb_G) (P := bb_P) (ML := bb_ML) (HD := bb_HD) 40 0 4014 0 [some (.ref 66), none, none] [] σ
set_option maxRecDepth 100000 in
set_option maxHeartbeats 1000000 in
theorem e_rd_readBox_68 (σ : en_S) (v1 : Int32) (v2 : Int32) : x_rd_readBox_68 σ v1 v2 =
    if (6 : Int32) < v2 then
      some (.inl none, (en_u1 σ.1 50 5 ((σ.1 50 5) + 1), σ.2))
    else
      if σ.1 66 9 = 0 then
        if σ.1 66 5 = 2 then
          if v2 = 6 then
            en_cV (x_rd_refuse_0 σ 2) (fun σ1 =>
              x_rd_readBox_68 σ1 v1 (v2 + 1)) (fun e σ => some (.inr e, σ))
          else
            en_cI (x_rd_readName_0 σ (σ.1 50 0) (-1)) (fun r3 σ2 =>
              en_cV (x_ld_addStop_p50_0 σ2 v1 v2 r3) (fun σ4 =>
                x_rd_readBox_68 σ4 v1 (v2 + 1)) (fun e σ => some (.inr e, σ))) (fun e σ => some (.inr e, σ))
        else
          some (.inl none, (en_u1 σ.1 50 5 ((σ.1 50 5) + 1), σ.2))
      else
        some (.inl none, (en_u1 σ.1 50 5 ((σ.1 50 5) + 1), σ.2)) := en_ex_un (G := bb_G) (P := bb_P) (ML := bb_ML) (HD := bb_HD) 58 0 4014 68 [some (.ref 66), some (.int v1), some (.int v2)] [] σ
set_option maxRecDepth 100000 in
set_option maxHeartbeats 1000000 in
theorem e_rd_readRoad_0 (σ : en_S) : x_rd_readRoad_0 σ =
    if σ.1 50 1 < 14 then
      en_cV (x_rd_nextToken_0 σ) (fun σ1 =>
        en_cI (x_rd_readName_0 (en_u1 σ1.1 66 8 1, σ1.2) (σ1.1 50 0) (-1)) (fun r3 σ2 =>
          en_cI (x_rd_readName_0 σ2 (σ2.1 50 0) r3) (fun r5 σ4 =>
            en_cI (x_rd_readNumber_0 σ4 0 9) (fun r7 σ6 =>
              en_cV (x_ld_addRoad_p50_0 σ6 r3 r5 r7) (fun σ8 =>
                some (.inl none, σ8)) (fun e σ => some (.inr e, σ))) (fun e σ => some (.inr e, σ))) (fun e σ => some (.inr e, σ))) (fun e σ => some (.inr e, σ))) (fun e σ => some (.inr e, σ))
    else
      en_cV (x_rd_refuse_0 σ 2) (fun σ9 =>
        some (.inl none, σ9)) (fun e σ => some (.inr e, σ)) := en_ex_un (G := bb_G) (P := bb_P) (ML := bb_ML) (HD := bb_HD) 42 0 4013 0 [some (.ref 66), none, none, none] [] σ
set_option maxRecDepth 100000 in
set_option maxHeartbeats 1000000 in
theorem e_rd_readTowns_0 (σ : en_S) : x_rd_readTowns_0 σ =
    if σ.1 66 8 = 0 then
      if σ.1 66 7 = 0 then
        en_cV (x_rd_nextToken_0 (en_u1 σ.1 66 7 1, σ.2)) (fun σ1 =>
          en_cI (x_rd_readNumber_0 σ1 2 8) (fun r3 σ2 =>
            some (.inl none, (en_u1 σ2.1 50 0 r3, σ2.2))) (fun e σ => some (.inr e, σ))) (fun e σ => some (.inr e, σ))
      else
        en_cV (x_rd_refuse_0 σ 5) (fun σ4 =>
          some (.inl none, σ4)) (fun e σ => some (.inr e, σ))
    else
      en_cV (x_rd_refuse_0 σ 4) (fun σ5 =>
        some (.inl none, σ5)) (fun e σ => some (.inr e, σ)) := en_ex_un (G := bb_G) (P := bb_P) (ML := bb_ML) (HD := bb_HD) 31 0 4012 0 [some (.ref 66)] [] σ
set_option maxRecDepth 100000 in
set_option maxHeartbeats 1000000 in
theorem e_rd_isSign_0 (σ : en_S) (v1 : Int32) : x_rd_isSign_0 σ v1 =
    if σ.1 66 5 = 3 then
      if en_in (σ.1 66 3) 700 then
        if σ.1 32 ((σ.1 66 3).toNatClampNeg) = v1 then
          some (.inl (some (.int 1)), σ)
        else
          some (.inl (some (.int 0)), σ)
      else
        none
    else
      some (.inl (some (.int 0)), σ) := en_ex_un (G := bb_G) (P := bb_P) (ML := bb_ML) (HD := bb_HD) 20 0 4007 0 [some (.ref 66), some (.int v1)] [] σ
set_option maxRecDepth 100000 in
set_option maxHeartbeats 1000000 in
theorem e_rd_readExpr_0_p63_0 (σ : en_S) (v2 : Int32) : x_rd_readExpr_0_p63_0 σ v2 =
    if v2 ≤ 5 then
      en_cV (x_rd_readAnd_0_p63_0 σ v2) (fun σ1 =>
        x_rd_readExpr_0_p63_48 σ1 v2 0) (fun e σ => some (.inr e, σ))
    else
      if σ.1 66 5 = 2 then
        en_cV (x_rd_refuse_0 σ 2) (fun σ2 =>
          some (.inl none, σ2)) (fun e σ => some (.inr e, σ))
      else
        if σ.1 66 5 = 1 then
          en_cV (x_rd_refuse_0 σ 2) (fun σ3 =>
            some (.inl none, σ3)) (fun e σ => some (.inr e, σ))
        else
          en_cI (x_rd_isSign_0 σ 40) (fun r5 σ4 =>
            if r5 = 0 then
              en_cV (x_rd_refuse_0 σ4 1) (fun σ6 =>
                some (.inl none, σ6)) (fun e σ => some (.inr e, σ))
            else
              en_cV (x_rd_refuse_0 σ4 2) (fun σ7 =>
                some (.inl none, σ7)) (fun e σ => some (.inr e, σ))) (fun e σ => some (.inr e, σ)) := en_ex_un (G := bb_G) (P := bb_P) (ML := bb_ML) (HD := bb_HD) 39 0 4017 0 [some (.ref 66), some (.ref 63), some (.int v2), none] [] σ
set_option maxRecDepth 100000 in
set_option maxHeartbeats 1000000 in
theorem e_rd_readExpr_0_p63_48 (σ : en_S) (v2 : Int32) (v3 : Int32) : x_rd_readExpr_0_p63_48 σ v2 v3 =
    if (700 : Int32) ≤ v3 then
      some (.inl none, σ)
    else
      if σ.1 66 9 = 0 then
        en_cI (x_rd_isWord_p1008_0 σ) (fun r2 σ1 =>
          if r2 = 0 then
            some (.inl none, σ1)
          else
            en_cV (x_rd_nextToken_0 σ1) (fun σ3 =>
              en_cV (x_rd_readAnd_0_p63_0 σ3 v2) (fun σ4 =>
                en_cV (x_ru_add_p63_0 σ4 (-9)) (fun σ5 =>
                  x_rd_readExpr_0_p63_48 σ5 v2 (v3 + 1)) (fun e σ => some (.inr e, σ))) (fun e σ => some (.inr e, σ))) (fun e σ => some (.inr e, σ))) (fun e σ => some (.inr e, σ))
      else
        some (.inl none, σ) := en_ex_un (G := bb_G) (P := bb_P) (ML := bb_ML) (HD := bb_HD) 26 0 4017 48 [some (.ref 66), some (.ref 63), some (.int v2), some (.int v3)] [] σ
set_option maxRecDepth 100000 in
set_option maxHeartbeats 1000000 in
theorem e_rd_readExpr_0_p60_0 (σ : en_S) (v2 : Int32) : x_rd_readExpr_0_p60_0 σ v2 =
    if v2 ≤ 5 then
      en_cV (x_rd_readAnd_0_p60_0 σ v2) (fun σ1 =>
        x_rd_readExpr_0_p60_48 σ1 v2 0) (fun e σ => some (.inr e, σ))
    else
      if σ.1 66 5 = 2 then
        en_cV (x_rd_refuse_0 σ 2) (fun σ2 =>
          some (.inl none, σ2)) (fun e σ => some (.inr e, σ))
      else
        if σ.1 66 5 = 1 then
          en_cV (x_rd_refuse_0 σ 2) (fun σ3 =>
            some (.inl none, σ3)) (fun e σ => some (.inr e, σ))
        else
          en_cI (x_rd_isSign_0 σ 40) (fun r5 σ4 =>
            if r5 = 0 then
              en_cV (x_rd_refuse_0 σ4 1) (fun σ6 =>
                some (.inl none, σ6)) (fun e σ => some (.inr e, σ))
            else
              en_cV (x_rd_refuse_0 σ4 2) (fun σ7 =>
                some (.inl none, σ7)) (fun e σ => some (.inr e, σ))) (fun e σ => some (.inr e, σ)) := en_ex_un (G := bb_G) (P := bb_P) (ML := bb_ML) (HD := bb_HD) 39 0 4017 0 [some (.ref 66), some (.ref 60), some (.int v2), none] [] σ
set_option maxRecDepth 100000 in
set_option maxHeartbeats 1000000 in
theorem e_rd_readExpr_0_p60_48 (σ : en_S) (v2 : Int32) (v3 : Int32) : x_rd_readExpr_0_p60_48 σ v2 v3 =
    if (700 : Int32) ≤ v3 then
      some (.inl none, σ)
    else
      if σ.1 66 9 = 0 then
        en_cI (x_rd_isWord_p1008_0 σ) (fun r2 σ1 =>
          if r2 = 0 then
            some (.inl none, σ1)
          else
            en_cV (x_rd_nextToken_0 σ1) (fun σ3 =>
              en_cV (x_rd_readAnd_0_p60_0 σ3 v2) (fun σ4 =>
                en_cV (x_ru_add_p60_0 σ4 (-9)) (fun σ5 =>
                  x_rd_readExpr_0_p60_48 σ5 v2 (v3 + 1)) (fun e σ => some (.inr e, σ))) (fun e σ => some (.inr e, σ))) (fun e σ => some (.inr e, σ))) (fun e σ => some (.inr e, σ))
      else
        some (.inl none, σ) := en_ex_un (G := bb_G) (P := bb_P) (ML := bb_ML) (HD := bb_HD) 26 0 4017 48 [some (.ref 66), some (.ref 60), some (.int v2), some (.int v3)] [] σ
set_option maxRecDepth 100000 in
set_option maxHeartbeats 1000000 in
theorem e_rd_readNumber_0 (σ : en_S) (v1 : Int32) (v2 : Int32) : x_rd_readNumber_0 σ v1 v2 =
    if σ.1 66 9 = 0 then
      if σ.1 66 5 = 2 then
        if (4 : Int32) < (σ.1 66 4) - (σ.1 66 3) then
          en_cV (x_rd_refuse_0 σ 2) (fun σ1 =>
            some (.inl (some (.int (σ.1 66 6))), σ1)) (fun e σ => some (.inr e, σ))
        else
          if σ.1 66 6 < v1 then
            en_cV (x_rd_refuse_0 σ 2) (fun σ2 =>
              some (.inl (some (.int (σ.1 66 6))), σ2)) (fun e σ => some (.inr e, σ))
          else
            if σ.1 66 6 ≤ v2 then
              en_cV (x_rd_nextToken_0 σ) (fun σ3 =>
                some (.inl (some (.int (σ.1 66 6))), σ3)) (fun e σ => some (.inr e, σ))
            else
              en_cV (x_rd_refuse_0 σ 2) (fun σ4 =>
                some (.inl (some (.int (σ.1 66 6))), σ4)) (fun e σ => some (.inr e, σ))
      else
        en_cV (x_rd_refuse_0 σ 1) (fun σ5 =>
          some (.inl (some (.int (σ.1 66 6))), σ5)) (fun e σ => some (.inr e, σ))
    else
      some (.inl (some (.int v1)), σ) := en_ex_un (G := bb_G) (P := bb_P) (ML := bb_ML) (HD := bb_HD) 55 0 4010 0 [some (.ref 66), some (.int v1), some (.int v2), none] [] σ
set_option maxRecDepth 100000 in
set_option maxHeartbeats 1000000 in
theorem e_rd_isWord_p1007_0 (σ : en_S) : x_rd_isWord_p1007_0 σ =
    if σ.1 66 5 = 1 then
      if (σ.1 66 4) - (σ.1 66 3) = 5 then
        x_rd_isWord_p1007_28 σ 0
      else
        some (.inl (some (.int 0)), σ)
    else
      some (.inl (some (.int 0)), σ) := en_ex_un (G := bb_G) (P := bb_P) (ML := bb_ML) (HD := bb_HD) 20 0 4006 0 [some (.ref 66), some (.ref 1007), none] [] σ
set_option maxRecDepth 100000 in
set_option maxHeartbeats 1000000 in
theorem e_rd_isWord_p1007_28 (σ : en_S) (v2 : Int32) : x_rd_isWord_p1007_28 σ v2 =
    if (5 : Int32) ≤ v2 then
      some (.inl (some (.int 1)), σ)
    else
      if en_in ((σ.1 66 3) + v2) 700 then
        if 1000 ≤ 1007 ∧ en_small [.int (σ.1 32 (((σ.1 66 3) + v2).toNatClampNeg))] = true ∧ en_in v2 5 then
          if σ.1 32 (((σ.1 66 3) + v2).toNatClampNeg) = ([117, 110, 100, 101, 114]).getD v2.toNatClampNeg 0 &&& 255 then
            x_rd_isWord_p1007_28 σ (v2 + 1)
          else
            some (.inl (some (.int 0)), σ)
        else
          none
      else
        none := en_ex_un (G := bb_G) (P := bb_P) (ML := bb_ML) (HD := bb_HD) 23 0 4006 28 [some (.ref 66), some (.ref 1007), some (.int v2)] [] σ
set_option maxRecDepth 100000 in
set_option maxHeartbeats 1000000 in
theorem e_rd_readName_0 (σ : en_S) (v1 : Int32) (v2 : Int32) : x_rd_readName_0 σ v1 v2 =
    if σ.1 66 9 = 0 then
      if σ.1 66 5 = 2 then
        if (σ.1 66 4) - (σ.1 66 3) ≤ 4 then
          if σ.1 66 6 < v1 then
            if v2 = (-1) then
              en_cV (x_rd_nextToken_0 σ) (fun σ1 =>
                x_rd_readName_98 σ1 (σ.1 66 6)) (fun e σ => some (.inr e, σ))
            else
              if σ.1 66 6 = v2 then
                en_cV (x_rd_refuse_0 σ 4) (fun σ2 =>
                  x_rd_readName_98 σ2 (σ.1 66 6)) (fun e σ => some (.inr e, σ))
              else
                en_cI (x_ld_hasRoad_p50_0 σ v2 (σ.1 66 6)) (fun r4 σ3 =>
                  if r4 = 0 then
                    en_cV (x_rd_nextToken_0 σ3) (fun σ5 =>
                      x_rd_readName_98 σ5 (σ.1 66 6)) (fun e σ => some (.inr e, σ))
                  else
                    en_cV (x_rd_refuse_0 σ3 4) (fun σ6 =>
                      x_rd_readName_98 σ6 (σ.1 66 6)) (fun e σ => some (.inr e, σ))) (fun e σ => some (.inr e, σ))
          else
            en_cV (x_rd_refuse_0 σ 3) (fun σ7 =>
              x_rd_readName_98 σ7 (σ.1 66 6)) (fun e σ => some (.inr e, σ))
        else
          en_cV (x_rd_refuse_0 σ 2) (fun σ8 =>
            x_rd_readName_98 σ8 (σ.1 66 6)) (fun e σ => some (.inr e, σ))
      else
        en_cV (x_rd_refuse_0 σ 1) (fun σ9 =>
          x_rd_readName_98 σ9 (σ.1 66 6)) (fun e σ => some (.inr e, σ))
    else
      some (.inl (some (.int 0)), σ) := en_ex_un (G := bb_G) (P := bb_P) (ML := bb_ML) (HD := bb_HD) 60 0 4011 0 [some (.ref 66), some (.int v1), some (.int v2), none] [] σ
set_option maxRecDepth 100000 in
set_option maxHeartbeats 1000000 in
theorem e_rd_readName_98 (σ : en_S) (v3 : Int32) : x_rd_readName_98 σ v3 =
    some (.inl (some (.int v3)), σ) := en_ex_un (G := bb_G) (P := bb_P) (ML := bb_ML) (HD := bb_HD) 4 0 4011 98 [none, none, none, some (.int v3)] [] σ
set_option maxRecDepth 100000 in
set_option maxHeartbeats 1000000 in
theorem e_rd_readAnd_0_p63_0 (σ : en_S) (v2 : Int32) : x_rd_readAnd_0_p63_0 σ v2 =
    en_cV (x_rd_readNot_0_p63_0 σ v2) (fun σ1 =>
      x_rd_readAnd_0_p63_8 σ1 v2 0) (fun e σ => some (.inr e, σ)) := en_ex_un (G := bb_G) (P := bb_P) (ML := bb_ML) (HD := bb_HD) 8 0 4018 0 [some (.ref 66), some (.ref 63), some (.int v2), none] [] σ
set_option maxRecDepth 100000 in
set_option maxHeartbeats 1000000 in
theorem e_rd_readAnd_0_p63_8 (σ : en_S) (v2 : Int32) (v3 : Int32) : x_rd_readAnd_0_p63_8 σ v2 v3 =
    if (700 : Int32) ≤ v3 then
      some (.inl none, σ)
    else
      if σ.1 66 9 = 0 then
        en_cI (x_rd_isWord_p1009_0 σ) (fun r2 σ1 =>
          if r2 = 0 then
            some (.inl none, σ1)
          else
            en_cV (x_rd_nextToken_0 σ1) (fun σ3 =>
              en_cV (x_rd_readNot_0_p63_0 σ3 v2) (fun σ4 =>
                en_cV (x_ru_add_p63_0 σ4 (-10)) (fun σ5 =>
                  x_rd_readAnd_0_p63_8 σ5 v2 (v3 + 1)) (fun e σ => some (.inr e, σ))) (fun e σ => some (.inr e, σ))) (fun e σ => some (.inr e, σ))) (fun e σ => some (.inr e, σ))
      else
        some (.inl none, σ) := en_ex_un (G := bb_G) (P := bb_P) (ML := bb_ML) (HD := bb_HD) 26 0 4018 8 [some (.ref 66), some (.ref 63), some (.int v2), some (.int v3)] [] σ
set_option maxRecDepth 100000 in
set_option maxHeartbeats 1000000 in
theorem e_rd_isWord_p1008_0 (σ : en_S) : x_rd_isWord_p1008_0 σ =
    if σ.1 66 5 = 1 then
      if (σ.1 66 4) - (σ.1 66 3) = 2 then
        x_rd_isWord_p1008_28 σ 0
      else
        some (.inl (some (.int 0)), σ)
    else
      some (.inl (some (.int 0)), σ) := en_ex_un (G := bb_G) (P := bb_P) (ML := bb_ML) (HD := bb_HD) 20 0 4006 0 [some (.ref 66), some (.ref 1008), none] [] σ
set_option maxRecDepth 100000 in
set_option maxHeartbeats 1000000 in
theorem e_rd_isWord_p1008_28 (σ : en_S) (v2 : Int32) : x_rd_isWord_p1008_28 σ v2 =
    if (2 : Int32) ≤ v2 then
      some (.inl (some (.int 1)), σ)
    else
      if en_in ((σ.1 66 3) + v2) 700 then
        if 1000 ≤ 1008 ∧ en_small [.int (σ.1 32 (((σ.1 66 3) + v2).toNatClampNeg))] = true ∧ en_in v2 2 then
          if σ.1 32 (((σ.1 66 3) + v2).toNatClampNeg) = ([111, 114]).getD v2.toNatClampNeg 0 &&& 255 then
            x_rd_isWord_p1008_28 σ (v2 + 1)
          else
            some (.inl (some (.int 0)), σ)
        else
          none
      else
        none := en_ex_un (G := bb_G) (P := bb_P) (ML := bb_ML) (HD := bb_HD) 23 0 4006 28 [some (.ref 66), some (.ref 1008), some (.int v2)] [] σ
set_option maxRecDepth 100000 in
set_option maxHeartbeats 1000000 in
theorem e_rd_readAnd_0_p60_0 (σ : en_S) (v2 : Int32) : x_rd_readAnd_0_p60_0 σ v2 =
    en_cV (x_rd_readNot_0_p60_0 σ v2) (fun σ1 =>
      x_rd_readAnd_0_p60_8 σ1 v2 0) (fun e σ => some (.inr e, σ)) := en_ex_un (G := bb_G) (P := bb_P) (ML := bb_ML) (HD := bb_HD) 8 0 4018 0 [some (.ref 66), some (.ref 60), some (.int v2), none] [] σ
set_option maxRecDepth 100000 in
set_option maxHeartbeats 1000000 in
theorem e_rd_readAnd_0_p60_8 (σ : en_S) (v2 : Int32) (v3 : Int32) : x_rd_readAnd_0_p60_8 σ v2 v3 =
    if (700 : Int32) ≤ v3 then
      some (.inl none, σ)
    else
      if σ.1 66 9 = 0 then
        en_cI (x_rd_isWord_p1009_0 σ) (fun r2 σ1 =>
          if r2 = 0 then
            some (.inl none, σ1)
          else
            en_cV (x_rd_nextToken_0 σ1) (fun σ3 =>
              en_cV (x_rd_readNot_0_p60_0 σ3 v2) (fun σ4 =>
                en_cV (x_ru_add_p60_0 σ4 (-10)) (fun σ5 =>
                  x_rd_readAnd_0_p60_8 σ5 v2 (v3 + 1)) (fun e σ => some (.inr e, σ))) (fun e σ => some (.inr e, σ))) (fun e σ => some (.inr e, σ))) (fun e σ => some (.inr e, σ))
      else
        some (.inl none, σ) := en_ex_un (G := bb_G) (P := bb_P) (ML := bb_ML) (HD := bb_HD) 26 0 4018 8 [some (.ref 66), some (.ref 60), some (.int v2), some (.int v3)] [] σ
set_option maxRecDepth 100000 in
set_option maxHeartbeats 1000000 in
theorem e_rd_readNot_0_p63_0 (σ : en_S) (v2 : Int32) : x_rd_readNot_0_p63_0 σ v2 =
    x_rd_readNot_0_p63_2 σ v2 0 := en_ex_un (G := bb_G) (P := bb_P) (ML := bb_ML) (HD := bb_HD) 4 0 4019 0 [some (.ref 66), some (.ref 63), some (.int v2), none, none] [] σ
set_option maxRecDepth 100000 in
set_option maxHeartbeats 1000000 in
theorem e_rd_readNot_0_p63_2 (σ : en_S) (v2 : Int32) (v3 : Int32) : x_rd_readNot_0_p63_2 σ v2 v3 =
    if (6 : Int32) ≤ v3 then
      en_cI (x_rd_isWord_p1010_0 σ) (fun r2 σ1 =>
        if r2 = 0 then
          en_cV (x_rd_readSum_0_p63_0 σ1 v2) (fun σ3 =>
            if σ3.1 66 9 = 0 then
              en_cI (x_rd_isSign_0 σ3 60) (fun r5 σ4 =>
                if r5 = 0 then
                  en_cI (x_rd_isSign_0 σ4 61) (fun r7 σ6 =>
                    if r7 = 0 then
                      x_rd_readNot_0_p63_110 σ6 v3 0
                    else
                      x_rd_readNot_0_p63_73 σ6 v2 v3) (fun e σ => some (.inr e, σ))
                else
                  x_rd_readNot_0_p63_73 σ4 v2 v3) (fun e σ => some (.inr e, σ))
            else
              x_rd_readNot_0_p63_110 σ3 v3 0) (fun e σ => some (.inr e, σ))
        else
          en_cV (x_rd_refuse_0 σ1 2) (fun σ8 =>
            some (.inl none, σ8)) (fun e σ => some (.inr e, σ))) (fun e σ => some (.inr e, σ))
    else
      en_cI (x_rd_isWord_p1010_0 σ) (fun r10 σ9 =>
        if r10 = 0 then
          en_cI (x_rd_isWord_p1010_0 σ9) (fun r12 σ11 =>
            if r12 = 0 then
              en_cV (x_rd_readSum_0_p63_0 σ11 v2) (fun σ13 =>
                if σ13.1 66 9 = 0 then
                  en_cI (x_rd_isSign_0 σ13 60) (fun r15 σ14 =>
                    if r15 = 0 then
                      en_cI (x_rd_isSign_0 σ14 61) (fun r17 σ16 =>
                        if r17 = 0 then
                          x_rd_readNot_0_p63_110 σ16 v3 0
                        else
                          x_rd_readNot_0_p63_73 σ16 v2 v3) (fun e σ => some (.inr e, σ))
                    else
                      x_rd_readNot_0_p63_73 σ14 v2 v3) (fun e σ => some (.inr e, σ))
                else
                  x_rd_readNot_0_p63_110 σ13 v3 0) (fun e σ => some (.inr e, σ))
            else
              en_cV (x_rd_refuse_0 σ11 2) (fun σ18 =>
                some (.inl none, σ18)) (fun e σ => some (.inr e, σ))) (fun e σ => some (.inr e, σ))
        else
          en_cV (x_rd_nextToken_0 σ9) (fun σ19 =>
            x_rd_readNot_0_p63_2 σ19 v2 (v3 + 1)) (fun e σ => some (.inr e, σ))) (fun e σ => some (.inr e, σ)) := en_ex_un (G := bb_G) (P := bb_P) (ML := bb_ML) (HD := bb_HD) 67 0 4019 2 [some (.ref 66), some (.ref 63), some (.int v2), some (.int v3), none] [] σ
set_option maxRecDepth 100000 in
set_option maxHeartbeats 1000000 in
theorem e_rd_readNot_0_p63_73 (σ : en_S) (v2 : Int32) (v3 : Int32) : x_rd_readNot_0_p63_73 σ v2 v3 =
    en_cI (x_rd_isSign_0 σ 60) (fun r2 σ1 =>
      if r2 = 0 then
        en_cV (x_rd_nextToken_0 σ1) (fun σ3 =>
          en_cV (x_rd_readSum_0_p63_0 σ3 v2) (fun σ4 =>
            en_cV (x_ru_add_p63_0 σ4 (-12)) (fun σ5 =>
              x_rd_readNot_0_p63_110 σ5 v3 0) (fun e σ => some (.inr e, σ))) (fun e σ => some (.inr e, σ))) (fun e σ => some (.inr e, σ))
      else
        en_cV (x_rd_nextToken_0 σ1) (fun σ6 =>
          en_cV (x_rd_readSum_0_p63_0 σ6 v2) (fun σ7 =>
            en_cV (x_ru_add_p63_0 σ7 (-11)) (fun σ8 =>
              x_rd_readNot_0_p63_110 σ8 v3 0) (fun e σ => some (.inr e, σ))) (fun e σ => some (.inr e, σ))) (fun e σ => some (.inr e, σ))) (fun e σ => some (.inr e, σ)) := en_ex_un (G := bb_G) (P := bb_P) (ML := bb_ML) (HD := bb_HD) 33 0 4019 73 [some (.ref 66), some (.ref 63), some (.int v2), some (.int v3), none] [] σ
set_option maxRecDepth 100000 in
set_option maxHeartbeats 1000000 in
theorem e_rd_readNot_0_p63_110 (σ : en_S) (v3 : Int32) (v4 : Int32) : x_rd_readNot_0_p63_110 σ v3 v4 =
    if v3 ≤ v4 then
      some (.inl none, σ)
    else
      en_cV (x_ru_add_p63_0 σ (-8)) (fun σ1 =>
        x_rd_readNot_0_p63_110 σ1 v3 (v4 + 1)) (fun e σ => some (.inr e, σ)) := en_ex_un (G := bb_G) (P := bb_P) (ML := bb_ML) (HD := bb_HD) 11 0 4019 110 [none, some (.ref 63), none, some (.int v3), some (.int v4)] [] σ
set_option maxRecDepth 100000 in
set_option maxHeartbeats 1000000 in
theorem e_rd_isWord_p1009_0 (σ : en_S) : x_rd_isWord_p1009_0 σ =
    if σ.1 66 5 = 1 then
      if (σ.1 66 4) - (σ.1 66 3) = 3 then
        x_rd_isWord_p1009_28 σ 0
      else
        some (.inl (some (.int 0)), σ)
    else
      some (.inl (some (.int 0)), σ) := en_ex_un (G := bb_G) (P := bb_P) (ML := bb_ML) (HD := bb_HD) 20 0 4006 0 [some (.ref 66), some (.ref 1009), none] [] σ
set_option maxRecDepth 100000 in
set_option maxHeartbeats 1000000 in
theorem e_rd_isWord_p1009_28 (σ : en_S) (v2 : Int32) : x_rd_isWord_p1009_28 σ v2 =
    if (3 : Int32) ≤ v2 then
      some (.inl (some (.int 1)), σ)
    else
      if en_in ((σ.1 66 3) + v2) 700 then
        if 1000 ≤ 1009 ∧ en_small [.int (σ.1 32 (((σ.1 66 3) + v2).toNatClampNeg))] = true ∧ en_in v2 3 then
          if σ.1 32 (((σ.1 66 3) + v2).toNatClampNeg) = ([97, 110, 100]).getD v2.toNatClampNeg 0 &&& 255 then
            x_rd_isWord_p1009_28 σ (v2 + 1)
          else
            some (.inl (some (.int 0)), σ)
        else
          none
      else
        none := en_ex_un (G := bb_G) (P := bb_P) (ML := bb_ML) (HD := bb_HD) 23 0 4006 28 [some (.ref 66), some (.ref 1009), some (.int v2)] [] σ
set_option maxRecDepth 100000 in
set_option maxHeartbeats 1000000 in
theorem e_rd_readNot_0_p60_0 (σ : en_S) (v2 : Int32) : x_rd_readNot_0_p60_0 σ v2 =
    x_rd_readNot_0_p60_2 σ v2 0 := en_ex_un (G := bb_G) (P := bb_P) (ML := bb_ML) (HD := bb_HD) 4 0 4019 0 [some (.ref 66), some (.ref 60), some (.int v2), none, none] [] σ
set_option maxRecDepth 100000 in
set_option maxHeartbeats 1000000 in
theorem e_rd_readNot_0_p60_2 (σ : en_S) (v2 : Int32) (v3 : Int32) : x_rd_readNot_0_p60_2 σ v2 v3 =
    if (6 : Int32) ≤ v3 then
      en_cI (x_rd_isWord_p1010_0 σ) (fun r2 σ1 =>
        if r2 = 0 then
          en_cV (x_rd_readSum_0_p60_0 σ1 v2) (fun σ3 =>
            if σ3.1 66 9 = 0 then
              en_cI (x_rd_isSign_0 σ3 60) (fun r5 σ4 =>
                if r5 = 0 then
                  en_cI (x_rd_isSign_0 σ4 61) (fun r7 σ6 =>
                    if r7 = 0 then
                      x_rd_readNot_0_p60_110 σ6 v3 0
                    else
                      x_rd_readNot_0_p60_73 σ6 v2 v3) (fun e σ => some (.inr e, σ))
                else
                  x_rd_readNot_0_p60_73 σ4 v2 v3) (fun e σ => some (.inr e, σ))
            else
              x_rd_readNot_0_p60_110 σ3 v3 0) (fun e σ => some (.inr e, σ))
        else
          en_cV (x_rd_refuse_0 σ1 2) (fun σ8 =>
            some (.inl none, σ8)) (fun e σ => some (.inr e, σ))) (fun e σ => some (.inr e, σ))
    else
      en_cI (x_rd_isWord_p1010_0 σ) (fun r10 σ9 =>
        if r10 = 0 then
          en_cI (x_rd_isWord_p1010_0 σ9) (fun r12 σ11 =>
            if r12 = 0 then
              en_cV (x_rd_readSum_0_p60_0 σ11 v2) (fun σ13 =>
                if σ13.1 66 9 = 0 then
                  en_cI (x_rd_isSign_0 σ13 60) (fun r15 σ14 =>
                    if r15 = 0 then
                      en_cI (x_rd_isSign_0 σ14 61) (fun r17 σ16 =>
                        if r17 = 0 then
                          x_rd_readNot_0_p60_110 σ16 v3 0
                        else
                          x_rd_readNot_0_p60_73 σ16 v2 v3) (fun e σ => some (.inr e, σ))
                    else
                      x_rd_readNot_0_p60_73 σ14 v2 v3) (fun e σ => some (.inr e, σ))
                else
                  x_rd_readNot_0_p60_110 σ13 v3 0) (fun e σ => some (.inr e, σ))
            else
              en_cV (x_rd_refuse_0 σ11 2) (fun σ18 =>
                some (.inl none, σ18)) (fun e σ => some (.inr e, σ))) (fun e σ => some (.inr e, σ))
        else
          en_cV (x_rd_nextToken_0 σ9) (fun σ19 =>
            x_rd_readNot_0_p60_2 σ19 v2 (v3 + 1)) (fun e σ => some (.inr e, σ))) (fun e σ => some (.inr e, σ)) := en_ex_un (G := bb_G) (P := bb_P) (ML := bb_ML) (HD := bb_HD) 67 0 4019 2 [some (.ref 66), some (.ref 60), some (.int v2), some (.int v3), none] [] σ
set_option maxRecDepth 100000 in
set_option maxHeartbeats 1000000 in
theorem e_rd_readNot_0_p60_73 (σ : en_S) (v2 : Int32) (v3 : Int32) : x_rd_readNot_0_p60_73 σ v2 v3 =
    en_cI (x_rd_isSign_0 σ 60) (fun r2 σ1 =>
      if r2 = 0 then
        en_cV (x_rd_nextToken_0 σ1) (fun σ3 =>
          en_cV (x_rd_readSum_0_p60_0 σ3 v2) (fun σ4 =>
            en_cV (x_ru_add_p60_0 σ4 (-12)) (fun σ5 =>
              x_rd_readNot_0_p60_110 σ5 v3 0) (fun e σ => some (.inr e, σ))) (fun e σ => some (.inr e, σ))) (fun e σ => some (.inr e, σ))
      else
        en_cV (x_rd_nextToken_0 σ1) (fun σ6 =>
          en_cV (x_rd_readSum_0_p60_0 σ6 v2) (fun σ7 =>
            en_cV (x_ru_add_p60_0 σ7 (-11)) (fun σ8 =>
              x_rd_readNot_0_p60_110 σ8 v3 0) (fun e σ => some (.inr e, σ))) (fun e σ => some (.inr e, σ))) (fun e σ => some (.inr e, σ))) (fun e σ => some (.inr e, σ)) := en_ex_un (G := bb_G) (P := bb_P) (ML := bb_ML) (HD := bb_HD) 33 0 4019 73 [some (.ref 66), some (.ref 60), some (.int v2), some (.int v3), none] [] σ
set_option maxRecDepth 100000 in
set_option maxHeartbeats 1000000 in
theorem e_rd_readNot_0_p60_110 (σ : en_S) (v3 : Int32) (v4 : Int32) : x_rd_readNot_0_p60_110 σ v3 v4 =
    if v3 ≤ v4 then
      some (.inl none, σ)
    else
      en_cV (x_ru_add_p60_0 σ (-8)) (fun σ1 =>
        x_rd_readNot_0_p60_110 σ1 v3 (v4 + 1)) (fun e σ => some (.inr e, σ)) := en_ex_un (G := bb_G) (P := bb_P) (ML := bb_ML) (HD := bb_HD) 11 0 4019 110 [none, some (.ref 60), none, some (.int v3), some (.int v4)] [] σ
set_option maxRecDepth 100000 in
set_option maxHeartbeats 1000000 in
theorem e_rd_isWord_p1010_0 (σ : en_S) : x_rd_isWord_p1010_0 σ =
    if σ.1 66 5 = 1 then
      if (σ.1 66 4) - (σ.1 66 3) = 3 then
        x_rd_isWord_p1010_28 σ 0
      else
        some (.inl (some (.int 0)), σ)
    else
      some (.inl (some (.int 0)), σ) := en_ex_un (G := bb_G) (P := bb_P) (ML := bb_ML) (HD := bb_HD) 20 0 4006 0 [some (.ref 66), some (.ref 1010), none] [] σ
set_option maxRecDepth 100000 in
set_option maxHeartbeats 1000000 in
theorem e_rd_isWord_p1010_28 (σ : en_S) (v2 : Int32) : x_rd_isWord_p1010_28 σ v2 =
    if (3 : Int32) ≤ v2 then
      some (.inl (some (.int 1)), σ)
    else
      if en_in ((σ.1 66 3) + v2) 700 then
        if 1000 ≤ 1010 ∧ en_small [.int (σ.1 32 (((σ.1 66 3) + v2).toNatClampNeg))] = true ∧ en_in v2 3 then
          if σ.1 32 (((σ.1 66 3) + v2).toNatClampNeg) = ([110, 111, 116]).getD v2.toNatClampNeg 0 &&& 255 then
            x_rd_isWord_p1010_28 σ (v2 + 1)
          else
            some (.inl (some (.int 0)), σ)
        else
          none
      else
        none := en_ex_un (G := bb_G) (P := bb_P) (ML := bb_ML) (HD := bb_HD) 23 0 4006 28 [some (.ref 66), some (.ref 1010), some (.int v2)] [] σ
set_option maxRecDepth 100000 in
set_option maxHeartbeats 1000000 in
theorem e_rd_readSum_0_p63_0 (σ : en_S) (v2 : Int32) : x_rd_readSum_0_p63_0 σ v2 =
    en_cV (x_rd_readProduct_0_p63_0 σ v2) (fun σ1 =>
      x_rd_readSum_0_p63_8 σ1 v2 0) (fun e σ => some (.inr e, σ)) := en_ex_un (G := bb_G) (P := bb_P) (ML := bb_ML) (HD := bb_HD) 8 0 4020 0 [some (.ref 66), some (.ref 63), some (.int v2), none, none] [] σ
set_option maxRecDepth 100000 in
set_option maxHeartbeats 1000000 in
theorem e_rd_readSum_0_p63_8 (σ : en_S) (v2 : Int32) (v3 : Int32) : x_rd_readSum_0_p63_8 σ v2 v3 =
    if (700 : Int32) ≤ v3 then
      some (.inl none, σ)
    else
      if σ.1 66 9 = 0 then
        en_cI (x_rd_isSign_0 σ 43) (fun r2 σ1 =>
          if r2 = 0 then
            en_cI (x_rd_isSign_0 σ1 45) (fun r4 σ3 =>
              if r4 = 0 then
                some (.inl none, σ3)
              else
                en_cI (x_rd_isSign_0 σ3 43) (fun r6 σ5 =>
                  if r6 = 0 then
                    x_rd_readSum_0_p63_56 σ5 v2 v3 (-14)
                  else
                    x_rd_readSum_0_p63_56 σ5 v2 v3 (-13)) (fun e σ => some (.inr e, σ))) (fun e σ => some (.inr e, σ))
          else
            en_cI (x_rd_isSign_0 σ1 43) (fun r8 σ7 =>
              if r8 = 0 then
                x_rd_readSum_0_p63_56 σ7 v2 v3 (-14)
              else
                x_rd_readSum_0_p63_56 σ7 v2 v3 (-13)) (fun e σ => some (.inr e, σ))) (fun e σ => some (.inr e, σ))
      else
        some (.inl none, σ) := en_ex_un (G := bb_G) (P := bb_P) (ML := bb_ML) (HD := bb_HD) 33 0 4020 8 [some (.ref 66), some (.ref 63), some (.int v2), some (.int v3), none] [] σ
set_option maxRecDepth 100000 in
set_option maxHeartbeats 1000000 in
theorem e_rd_readSum_0_p63_56 (σ : en_S) (v2 : Int32) (v3 : Int32) (t0 : Int32) : x_rd_readSum_0_p63_56 σ v2 v3 t0 =
    en_cV (x_rd_nextToken_0 σ) (fun σ1 =>
      en_cV (x_rd_readProduct_0_p63_0 σ1 v2) (fun σ2 =>
        en_cV (x_ru_add_p63_0 σ2 t0) (fun σ3 =>
          x_rd_readSum_0_p63_8 σ3 v2 (v3 + 1)) (fun e σ => some (.inr e, σ))) (fun e σ => some (.inr e, σ))) (fun e σ => some (.inr e, σ)) := en_ex_un (G := bb_G) (P := bb_P) (ML := bb_ML) (HD := bb_HD) 14 0 4020 56 [some (.ref 66), some (.ref 63), some (.int v2), some (.int v3), none] [.int t0] σ
set_option maxRecDepth 100000 in
set_option maxHeartbeats 1000000 in
theorem e_rd_readSum_0_p60_0 (σ : en_S) (v2 : Int32) : x_rd_readSum_0_p60_0 σ v2 =
    en_cV (x_rd_readProduct_0_p60_0 σ v2) (fun σ1 =>
      x_rd_readSum_0_p60_8 σ1 v2 0) (fun e σ => some (.inr e, σ)) := en_ex_un (G := bb_G) (P := bb_P) (ML := bb_ML) (HD := bb_HD) 8 0 4020 0 [some (.ref 66), some (.ref 60), some (.int v2), none, none] [] σ
set_option maxRecDepth 100000 in
set_option maxHeartbeats 1000000 in
theorem e_rd_readSum_0_p60_8 (σ : en_S) (v2 : Int32) (v3 : Int32) : x_rd_readSum_0_p60_8 σ v2 v3 =
    if (700 : Int32) ≤ v3 then
      some (.inl none, σ)
    else
      if σ.1 66 9 = 0 then
        en_cI (x_rd_isSign_0 σ 43) (fun r2 σ1 =>
          if r2 = 0 then
            en_cI (x_rd_isSign_0 σ1 45) (fun r4 σ3 =>
              if r4 = 0 then
                some (.inl none, σ3)
              else
                en_cI (x_rd_isSign_0 σ3 43) (fun r6 σ5 =>
                  if r6 = 0 then
                    x_rd_readSum_0_p60_56 σ5 v2 v3 (-14)
                  else
                    x_rd_readSum_0_p60_56 σ5 v2 v3 (-13)) (fun e σ => some (.inr e, σ))) (fun e σ => some (.inr e, σ))
          else
            en_cI (x_rd_isSign_0 σ1 43) (fun r8 σ7 =>
              if r8 = 0 then
                x_rd_readSum_0_p60_56 σ7 v2 v3 (-14)
              else
                x_rd_readSum_0_p60_56 σ7 v2 v3 (-13)) (fun e σ => some (.inr e, σ))) (fun e σ => some (.inr e, σ))
      else
        some (.inl none, σ) := en_ex_un (G := bb_G) (P := bb_P) (ML := bb_ML) (HD := bb_HD) 33 0 4020 8 [some (.ref 66), some (.ref 60), some (.int v2), some (.int v3), none] [] σ
set_option maxRecDepth 100000 in
set_option maxHeartbeats 1000000 in
theorem e_rd_readSum_0_p60_56 (σ : en_S) (v2 : Int32) (v3 : Int32) (t0 : Int32) : x_rd_readSum_0_p60_56 σ v2 v3 t0 =
    en_cV (x_rd_nextToken_0 σ) (fun σ1 =>
      en_cV (x_rd_readProduct_0_p60_0 σ1 v2) (fun σ2 =>
        en_cV (x_ru_add_p60_0 σ2 t0) (fun σ3 =>
          x_rd_readSum_0_p60_8 σ3 v2 (v3 + 1)) (fun e σ => some (.inr e, σ))) (fun e σ => some (.inr e, σ))) (fun e σ => some (.inr e, σ)) := en_ex_un (G := bb_G) (P := bb_P) (ML := bb_ML) (HD := bb_HD) 14 0 4020 56 [some (.ref 66), some (.ref 60), some (.int v2), some (.int v3), none] [.int t0] σ
set_option maxRecDepth 100000 in
set_option maxHeartbeats 1000000 in
theorem e_rd_readProduct_0_p63_0 (σ : en_S) (v2 : Int32) : x_rd_readProduct_0_p63_0 σ v2 =
    en_cV (x_rd_readPart_0_p63_0 σ v2) (fun σ1 =>
      x_rd_readProduct_0_p63_8 σ1 v2 0) (fun e σ => some (.inr e, σ)) := en_ex_un (G := bb_G) (P := bb_P) (ML := bb_ML) (HD := bb_HD) 8 0 4021 0 [some (.ref 66), some (.ref 63), some (.int v2), none, none] [] σ
set_option maxRecDepth 100000 in
set_option maxHeartbeats 1000000 in
theorem e_rd_readProduct_0_p63_8 (σ : en_S) (v2 : Int32) (v3 : Int32) : x_rd_readProduct_0_p63_8 σ v2 v3 =
    if (700 : Int32) ≤ v3 then
      some (.inl none, σ)
    else
      if σ.1 66 9 = 0 then
        en_cI (x_rd_isSign_0 σ 42) (fun r2 σ1 =>
          if r2 = 0 then
            en_cI (x_rd_isSign_0 σ1 47) (fun r4 σ3 =>
              if r4 = 0 then
                some (.inl none, σ3)
              else
                en_cI (x_rd_isSign_0 σ3 42) (fun r6 σ5 =>
                  if r6 = 0 then
                    x_rd_readProduct_0_p63_56 σ5 v2 v3 (-16)
                  else
                    x_rd_readProduct_0_p63_56 σ5 v2 v3 (-15)) (fun e σ => some (.inr e, σ))) (fun e σ => some (.inr e, σ))
          else
            en_cI (x_rd_isSign_0 σ1 42) (fun r8 σ7 =>
              if r8 = 0 then
                x_rd_readProduct_0_p63_56 σ7 v2 v3 (-16)
              else
                x_rd_readProduct_0_p63_56 σ7 v2 v3 (-15)) (fun e σ => some (.inr e, σ))) (fun e σ => some (.inr e, σ))
      else
        some (.inl none, σ) := en_ex_un (G := bb_G) (P := bb_P) (ML := bb_ML) (HD := bb_HD) 33 0 4021 8 [some (.ref 66), some (.ref 63), some (.int v2), some (.int v3), none] [] σ
set_option maxRecDepth 100000 in
set_option maxHeartbeats 1000000 in
theorem e_rd_readProduct_0_p63_56 (σ : en_S) (v2 : Int32) (v3 : Int32) (t0 : Int32) : x_rd_readProduct_0_p63_56 σ v2 v3 t0 =
    en_cV (x_rd_nextToken_0 σ) (fun σ1 =>
      en_cV (x_rd_readPart_0_p63_0 σ1 v2) (fun σ2 =>
        en_cV (x_ru_add_p63_0 σ2 t0) (fun σ3 =>
          x_rd_readProduct_0_p63_8 σ3 v2 (v3 + 1)) (fun e σ => some (.inr e, σ))) (fun e σ => some (.inr e, σ))) (fun e σ => some (.inr e, σ)) := en_ex_un (G := bb_G) (P := bb_P) (ML := bb_ML) (HD := bb_HD) 14 0 4021 56 [some (.ref 66), some (.ref 63), some (.int v2), some (.int v3), none] [.int t0] σ
set_option maxRecDepth 100000 in
set_option maxHeartbeats 1000000 in
theorem e_rd_readProduct_0_p60_0 (σ : en_S) (v2 : Int32) : x_rd_readProduct_0_p60_0 σ v2 =
    en_cV (x_rd_readPart_0_p60_0 σ v2) (fun σ1 =>
      x_rd_readProduct_0_p60_8 σ1 v2 0) (fun e σ => some (.inr e, σ)) := en_ex_un (G := bb_G) (P := bb_P) (ML := bb_ML) (HD := bb_HD) 8 0 4021 0 [some (.ref 66), some (.ref 60), some (.int v2), none, none] [] σ
set_option maxRecDepth 100000 in
set_option maxHeartbeats 1000000 in
theorem e_rd_readProduct_0_p60_8 (σ : en_S) (v2 : Int32) (v3 : Int32) : x_rd_readProduct_0_p60_8 σ v2 v3 =
    if (700 : Int32) ≤ v3 then
      some (.inl none, σ)
    else
      if σ.1 66 9 = 0 then
        en_cI (x_rd_isSign_0 σ 42) (fun r2 σ1 =>
          if r2 = 0 then
            en_cI (x_rd_isSign_0 σ1 47) (fun r4 σ3 =>
              if r4 = 0 then
                some (.inl none, σ3)
              else
                en_cI (x_rd_isSign_0 σ3 42) (fun r6 σ5 =>
                  if r6 = 0 then
                    x_rd_readProduct_0_p60_56 σ5 v2 v3 (-16)
                  else
                    x_rd_readProduct_0_p60_56 σ5 v2 v3 (-15)) (fun e σ => some (.inr e, σ))) (fun e σ => some (.inr e, σ))
          else
            en_cI (x_rd_isSign_0 σ1 42) (fun r8 σ7 =>
              if r8 = 0 then
                x_rd_readProduct_0_p60_56 σ7 v2 v3 (-16)
              else
                x_rd_readProduct_0_p60_56 σ7 v2 v3 (-15)) (fun e σ => some (.inr e, σ))) (fun e σ => some (.inr e, σ))
      else
        some (.inl none, σ) := en_ex_un (G := bb_G) (P := bb_P) (ML := bb_ML) (HD := bb_HD) 33 0 4021 8 [some (.ref 66), some (.ref 60), some (.int v2), some (.int v3), none] [] σ
set_option maxRecDepth 100000 in
set_option maxHeartbeats 1000000 in
theorem e_rd_readProduct_0_p60_56 (σ : en_S) (v2 : Int32) (v3 : Int32) (t0 : Int32) : x_rd_readProduct_0_p60_56 σ v2 v3 t0 =
    en_cV (x_rd_nextToken_0 σ) (fun σ1 =>
      en_cV (x_rd_readPart_0_p60_0 σ1 v2) (fun σ2 =>
        en_cV (x_ru_add_p60_0 σ2 t0) (fun σ3 =>
          x_rd_readProduct_0_p60_8 σ3 v2 (v3 + 1)) (fun e σ => some (.inr e, σ))) (fun e σ => some (.inr e, σ))) (fun e σ => some (.inr e, σ)) := en_ex_un (G := bb_G) (P := bb_P) (ML := bb_ML) (HD := bb_HD) 14 0 4021 56 [some (.ref 66), some (.ref 60), some (.int v2), some (.int v3), none] [.int t0] σ
set_option maxRecDepth 100000 in
set_option maxHeartbeats 1000000 in
theorem e_rd_readPart_0_p63_0 (σ : en_S) (v2 : Int32) : x_rd_readPart_0_p63_0 σ v2 =
    en_cI (x_rd_isSign_0 σ 40) (fun r2 σ1 =>
      if r2 = 0 then
        if σ1.1 66 5 = 2 then
          en_cI (x_rd_readNumber_0 σ1 0 9999) (fun r4 σ3 =>
            en_cV (x_ru_add_p63_0 σ3 r4) (fun σ5 =>
              some (.inl none, σ5)) (fun e σ => some (.inr e, σ))) (fun e σ => some (.inr e, σ))
        else
          if σ1.1 66 5 = 1 then
            en_cI (x_rd_valueStep_0 σ1) (fun r7 σ6 =>
              if r7 = 0 then
                en_cV (x_rd_refuse_0 σ6 3) (fun σ8 =>
                  some (.inl none, σ8)) (fun e σ => some (.inr e, σ))
              else
                en_cI (x_rd_valueStep_0 σ6) (fun r10 σ9 =>
                  en_cV (x_ru_add_p63_0 σ9 r10) (fun σ11 =>
                    en_cV (x_rd_nextToken_0 σ11) (fun σ12 =>
                      some (.inl none, σ12)) (fun e σ => some (.inr e, σ))) (fun e σ => some (.inr e, σ))) (fun e σ => some (.inr e, σ))) (fun e σ => some (.inr e, σ))
          else
            en_cV (x_rd_refuse_0 σ1 1) (fun σ13 =>
              some (.inl none, σ13)) (fun e σ => some (.inr e, σ))
      else
        en_cV (x_rd_nextToken_0 σ1) (fun σ14 =>
          en_cV (x_rd_readExpr_1_p63_0 σ14 (v2 + 1)) (fun σ15 =>
            en_cV (x_rd_readSign_0 σ15 41) (fun σ16 =>
              some (.inl none, σ16)) (fun e σ => some (.inr e, σ))) (fun e σ => some (.inr e, σ))) (fun e σ => some (.inr e, σ))) (fun e σ => some (.inr e, σ)) := en_ex_un (G := bb_G) (P := bb_P) (ML := bb_ML) (HD := bb_HD) 55 0 4022 0 [some (.ref 66), some (.ref 63), some (.int v2)] [] σ
set_option maxRecDepth 100000 in
set_option maxHeartbeats 1000000 in
theorem e_rd_readPart_0_p60_0 (σ : en_S) (v2 : Int32) : x_rd_readPart_0_p60_0 σ v2 =
    en_cI (x_rd_isSign_0 σ 40) (fun r2 σ1 =>
      if r2 = 0 then
        if σ1.1 66 5 = 2 then
          en_cI (x_rd_readNumber_0 σ1 0 9999) (fun r4 σ3 =>
            en_cV (x_ru_add_p60_0 σ3 r4) (fun σ5 =>
              some (.inl none, σ5)) (fun e σ => some (.inr e, σ))) (fun e σ => some (.inr e, σ))
        else
          if σ1.1 66 5 = 1 then
            en_cI (x_rd_valueStep_0 σ1) (fun r7 σ6 =>
              if r7 = 0 then
                en_cV (x_rd_refuse_0 σ6 3) (fun σ8 =>
                  some (.inl none, σ8)) (fun e σ => some (.inr e, σ))
              else
                en_cI (x_rd_valueStep_0 σ6) (fun r10 σ9 =>
                  en_cV (x_ru_add_p60_0 σ9 r10) (fun σ11 =>
                    en_cV (x_rd_nextToken_0 σ11) (fun σ12 =>
                      some (.inl none, σ12)) (fun e σ => some (.inr e, σ))) (fun e σ => some (.inr e, σ))) (fun e σ => some (.inr e, σ))) (fun e σ => some (.inr e, σ))
          else
            en_cV (x_rd_refuse_0 σ1 1) (fun σ13 =>
              some (.inl none, σ13)) (fun e σ => some (.inr e, σ))
      else
        en_cV (x_rd_nextToken_0 σ1) (fun σ14 =>
          en_cV (x_rd_readExpr_1_p60_0 σ14 (v2 + 1)) (fun σ15 =>
            en_cV (x_rd_readSign_0 σ15 41) (fun σ16 =>
              some (.inl none, σ16)) (fun e σ => some (.inr e, σ))) (fun e σ => some (.inr e, σ))) (fun e σ => some (.inr e, σ))) (fun e σ => some (.inr e, σ)) := en_ex_un (G := bb_G) (P := bb_P) (ML := bb_ML) (HD := bb_HD) 55 0 4022 0 [some (.ref 66), some (.ref 60), some (.int v2)] [] σ
set_option maxRecDepth 100000 in
set_option maxHeartbeats 1000000 in
theorem e_rd_valueStep_0 (σ : en_S) : x_rd_valueStep_0 σ =
    en_cI (x_rd_isWord_p1011_0 σ) (fun r2 σ1 =>
      if r2 = 0 then
        en_cI (x_rd_isWord_p1012_0 σ1) (fun r4 σ3 =>
          if r4 = 0 then
            en_cI (x_rd_isWord_p1013_0 σ3) (fun r6 σ5 =>
              if r6 = 0 then
                en_cI (x_rd_isWord_p1014_0 σ5) (fun r8 σ7 =>
                  if r8 = 0 then
                    en_cI (x_rd_isWord_p1015_0 σ7) (fun r10 σ9 =>
                      if r10 = 0 then
                        en_cI (x_rd_isWord_p1016_0 σ9) (fun r12 σ11 =>
                          if r12 = 0 then
                            en_cI (x_rd_isWord_p1017_0 σ11) (fun r14 σ13 =>
                              if r14 = 0 then
                                some (.inl (some (.int 0)), σ13)
                              else
                                some (.inl (some (.int (-7))), σ13)) (fun e σ => some (.inr e, σ))
                          else
                            some (.inl (some (.int (-6))), σ11)) (fun e σ => some (.inr e, σ))
                      else
                        some (.inl (some (.int (-5))), σ9)) (fun e σ => some (.inr e, σ))
                  else
                    some (.inl (some (.int (-4))), σ7)) (fun e σ => some (.inr e, σ))
              else
                some (.inl (some (.int (-3))), σ5)) (fun e σ => some (.inr e, σ))
          else
            some (.inl (some (.int (-2))), σ3)) (fun e σ => some (.inr e, σ))
      else
        some (.inl (some (.int (-1))), σ1)) (fun e σ => some (.inr e, σ)) := en_ex_un (G := bb_G) (P := bb_P) (ML := bb_ML) (HD := bb_HD) 47 0 4023 0 [some (.ref 66)] [] σ
set_option maxRecDepth 100000 in
set_option maxHeartbeats 1000000 in
theorem e_rd_readExpr_1_p63_0 (σ : en_S) (v2 : Int32) : x_rd_readExpr_1_p63_0 σ v2 =
    if v2 ≤ 5 then
      en_cV (x_rd_readAnd_1_p63_0 σ v2) (fun σ1 =>
        x_rd_readExpr_1_p63_48 σ1 v2 0) (fun e σ => some (.inr e, σ))
    else
      if σ.1 66 5 = 2 then
        en_cV (x_rd_refuse_0 σ 2) (fun σ2 =>
          some (.inl none, σ2)) (fun e σ => some (.inr e, σ))
      else
        if σ.1 66 5 = 1 then
          en_cV (x_rd_refuse_0 σ 2) (fun σ3 =>
            some (.inl none, σ3)) (fun e σ => some (.inr e, σ))
        else
          en_cI (x_rd_isSign_0 σ 40) (fun r5 σ4 =>
            if r5 = 0 then
              en_cV (x_rd_refuse_0 σ4 1) (fun σ6 =>
                some (.inl none, σ6)) (fun e σ => some (.inr e, σ))
            else
              en_cV (x_rd_refuse_0 σ4 2) (fun σ7 =>
                some (.inl none, σ7)) (fun e σ => some (.inr e, σ))) (fun e σ => some (.inr e, σ)) := en_ex_un (G := bb_G) (P := bb_P) (ML := bb_ML) (HD := bb_HD) 39 0 21017 0 [some (.ref 66), some (.ref 63), some (.int v2), none] [] σ
set_option maxRecDepth 100000 in
set_option maxHeartbeats 1000000 in
theorem e_rd_readExpr_1_p63_48 (σ : en_S) (v2 : Int32) (v3 : Int32) : x_rd_readExpr_1_p63_48 σ v2 v3 =
    if (700 : Int32) ≤ v3 then
      some (.inl none, σ)
    else
      if σ.1 66 9 = 0 then
        en_cI (x_rd_isWord_p1008_0 σ) (fun r2 σ1 =>
          if r2 = 0 then
            some (.inl none, σ1)
          else
            en_cV (x_rd_nextToken_0 σ1) (fun σ3 =>
              en_cV (x_rd_readAnd_1_p63_0 σ3 v2) (fun σ4 =>
                en_cV (x_ru_add_p63_0 σ4 (-9)) (fun σ5 =>
                  x_rd_readExpr_1_p63_48 σ5 v2 (v3 + 1)) (fun e σ => some (.inr e, σ))) (fun e σ => some (.inr e, σ))) (fun e σ => some (.inr e, σ))) (fun e σ => some (.inr e, σ))
      else
        some (.inl none, σ) := en_ex_un (G := bb_G) (P := bb_P) (ML := bb_ML) (HD := bb_HD) 26 0 21017 48 [some (.ref 66), some (.ref 63), some (.int v2), some (.int v3)] [] σ
set_option maxRecDepth 100000 in
set_option maxHeartbeats 1000000 in
theorem e_rd_readExpr_1_p60_0 (σ : en_S) (v2 : Int32) : x_rd_readExpr_1_p60_0 σ v2 =
    if v2 ≤ 5 then
      en_cV (x_rd_readAnd_1_p60_0 σ v2) (fun σ1 =>
        x_rd_readExpr_1_p60_48 σ1 v2 0) (fun e σ => some (.inr e, σ))
    else
      if σ.1 66 5 = 2 then
        en_cV (x_rd_refuse_0 σ 2) (fun σ2 =>
          some (.inl none, σ2)) (fun e σ => some (.inr e, σ))
      else
        if σ.1 66 5 = 1 then
          en_cV (x_rd_refuse_0 σ 2) (fun σ3 =>
            some (.inl none, σ3)) (fun e σ => some (.inr e, σ))
        else
          en_cI (x_rd_isSign_0 σ 40) (fun r5 σ4 =>
            if r5 = 0 then
              en_cV (x_rd_refuse_0 σ4 1) (fun σ6 =>
                some (.inl none, σ6)) (fun e σ => some (.inr e, σ))
            else
              en_cV (x_rd_refuse_0 σ4 2) (fun σ7 =>
                some (.inl none, σ7)) (fun e σ => some (.inr e, σ))) (fun e σ => some (.inr e, σ)) := en_ex_un (G := bb_G) (P := bb_P) (ML := bb_ML) (HD := bb_HD) 39 0 21017 0 [some (.ref 66), some (.ref 60), some (.int v2), none] [] σ
set_option maxRecDepth 100000 in
set_option maxHeartbeats 1000000 in
theorem e_rd_readExpr_1_p60_48 (σ : en_S) (v2 : Int32) (v3 : Int32) : x_rd_readExpr_1_p60_48 σ v2 v3 =
    if (700 : Int32) ≤ v3 then
      some (.inl none, σ)
    else
      if σ.1 66 9 = 0 then
        en_cI (x_rd_isWord_p1008_0 σ) (fun r2 σ1 =>
          if r2 = 0 then
            some (.inl none, σ1)
          else
            en_cV (x_rd_nextToken_0 σ1) (fun σ3 =>
              en_cV (x_rd_readAnd_1_p60_0 σ3 v2) (fun σ4 =>
                en_cV (x_ru_add_p60_0 σ4 (-9)) (fun σ5 =>
                  x_rd_readExpr_1_p60_48 σ5 v2 (v3 + 1)) (fun e σ => some (.inr e, σ))) (fun e σ => some (.inr e, σ))) (fun e σ => some (.inr e, σ))) (fun e σ => some (.inr e, σ))
      else
        some (.inl none, σ) := en_ex_un (G := bb_G) (P := bb_P) (ML := bb_ML) (HD := bb_HD) 26 0 21017 48 [some (.ref 66), some (.ref 60), some (.int v2), some (.int v3)] [] σ
set_option maxRecDepth 100000 in
set_option maxHeartbeats 1000000 in
theorem e_rd_isWord_p1011_0 (σ : en_S) : x_rd_isWord_p1011_0 σ =
    if σ.1 66 5 = 1 then
      if (σ.1 66 4) - (σ.1 66 3) = 6 then
        x_rd_isWord_p1011_28 σ 0
      else
        some (.inl (some (.int 0)), σ)
    else
      some (.inl (some (.int 0)), σ) := en_ex_un (G := bb_G) (P := bb_P) (ML := bb_ML) (HD := bb_HD) 20 0 4006 0 [some (.ref 66), some (.ref 1011), none] [] σ
set_option maxRecDepth 100000 in
set_option maxHeartbeats 1000000 in
theorem e_rd_isWord_p1011_28 (σ : en_S) (v2 : Int32) : x_rd_isWord_p1011_28 σ v2 =
    if (6 : Int32) ≤ v2 then
      some (.inl (some (.int 1)), σ)
    else
      if en_in ((σ.1 66 3) + v2) 700 then
        if 1000 ≤ 1011 ∧ en_small [.int (σ.1 32 (((σ.1 66 3) + v2).toNatClampNeg))] = true ∧ en_in v2 6 then
          if σ.1 32 (((σ.1 66 3) + v2).toNatClampNeg) = ([119, 101, 105, 103, 104, 116]).getD v2.toNatClampNeg 0 &&& 255 then
            x_rd_isWord_p1011_28 σ (v2 + 1)
          else
            some (.inl (some (.int 0)), σ)
        else
          none
      else
        none := en_ex_un (G := bb_G) (P := bb_P) (ML := bb_ML) (HD := bb_HD) 23 0 4006 28 [some (.ref 66), some (.ref 1011), some (.int v2)] [] σ
set_option maxRecDepth 100000 in
set_option maxHeartbeats 1000000 in
theorem e_rd_isWord_p1012_0 (σ : en_S) : x_rd_isWord_p1012_0 σ =
    if σ.1 66 5 = 1 then
      if (σ.1 66 4) - (σ.1 66 3) = 5 then
        x_rd_isWord_p1012_28 σ 0
      else
        some (.inl (some (.int 0)), σ)
    else
      some (.inl (some (.int 0)), σ) := en_ex_un (G := bb_G) (P := bb_P) (ML := bb_ML) (HD := bb_HD) 20 0 4006 0 [some (.ref 66), some (.ref 1012), none] [] σ
set_option maxRecDepth 100000 in
set_option maxHeartbeats 1000000 in
theorem e_rd_isWord_p1012_28 (σ : en_S) (v2 : Int32) : x_rd_isWord_p1012_28 σ v2 =
    if (5 : Int32) ≤ v2 then
      some (.inl (some (.int 1)), σ)
    else
      if en_in ((σ.1 66 3) + v2) 700 then
        if 1000 ≤ 1012 ∧ en_small [.int (σ.1 32 (((σ.1 66 3) + v2).toNatClampNeg))] = true ∧ en_in v2 5 then
          if σ.1 32 (((σ.1 66 3) + v2).toNatClampNeg) = ([104, 97, 110, 100, 115]).getD v2.toNatClampNeg 0 &&& 255 then
            x_rd_isWord_p1012_28 σ (v2 + 1)
          else
            some (.inl (some (.int 0)), σ)
        else
          none
      else
        none := en_ex_un (G := bb_G) (P := bb_P) (ML := bb_ML) (HD := bb_HD) 23 0 4006 28 [some (.ref 66), some (.ref 1012), some (.int v2)] [] σ
set_option maxRecDepth 100000 in
set_option maxHeartbeats 1000000 in
theorem e_rd_isWord_p1013_0 (σ : en_S) : x_rd_isWord_p1013_0 σ =
    if σ.1 66 5 = 1 then
      if (σ.1 66 4) - (σ.1 66 3) = 5 then
        x_rd_isWord_p1013_28 σ 0
      else
        some (.inl (some (.int 0)), σ)
    else
      some (.inl (some (.int 0)), σ) := en_ex_un (G := bb_G) (P := bb_P) (ML := bb_ML) (HD := bb_HD) 20 0 4006 0 [some (.ref 66), some (.ref 1013), none] [] σ
set_option maxRecDepth 100000 in
set_option maxHeartbeats 1000000 in
theorem e_rd_isWord_p1013_28 (σ : en_S) (v2 : Int32) : x_rd_isWord_p1013_28 σ v2 =
    if (5 : Int32) ≤ v2 then
      some (.inl (some (.int 1)), σ)
    else
      if en_in ((σ.1 66 3) + v2) 700 then
        if 1000 ≤ 1013 ∧ en_small [.int (σ.1 32 (((σ.1 66 3) + v2).toNatClampNeg))] = true ∧ en_in v2 5 then
          if σ.1 32 (((σ.1 66 3) + v2).toNatClampNeg) = ([109, 105, 103, 104, 116]).getD v2.toNatClampNeg 0 &&& 255 then
            x_rd_isWord_p1013_28 σ (v2 + 1)
          else
            some (.inl (some (.int 0)), σ)
        else
          none
      else
        none := en_ex_un (G := bb_G) (P := bb_P) (ML := bb_ML) (HD := bb_HD) 23 0 4006 28 [some (.ref 66), some (.ref 1013), some (.int v2)] [] σ
set_option maxRecDepth 100000 in
set_option maxHeartbeats 1000000 in
theorem e_rd_isWord_p1014_0 (σ : en_S) : x_rd_isWord_p1014_0 σ =
    if σ.1 66 5 = 1 then
      if (σ.1 66 4) - (σ.1 66 3) = 4 then
        x_rd_isWord_p1014_28 σ 0
      else
        some (.inl (some (.int 0)), σ)
    else
      some (.inl (some (.int 0)), σ) := en_ex_un (G := bb_G) (P := bb_P) (ML := bb_ML) (HD := bb_HD) 20 0 4006 0 [some (.ref 66), some (.ref 1014), none] [] σ
set_option maxRecDepth 100000 in
set_option maxHeartbeats 1000000 in
theorem e_rd_isWord_p1014_28 (σ : en_S) (v2 : Int32) : x_rd_isWord_p1014_28 σ v2 =
    if (4 : Int32) ≤ v2 then
      some (.inl (some (.int 1)), σ)
    else
      if en_in ((σ.1 66 3) + v2) 700 then
        if 1000 ≤ 1014 ∧ en_small [.int (σ.1 32 (((σ.1 66 3) + v2).toNatClampNeg))] = true ∧ en_in v2 4 then
          if σ.1 32 (((σ.1 66 3) + v2).toNatClampNeg) = ([108, 101, 97, 110]).getD v2.toNatClampNeg 0 &&& 255 then
            x_rd_isWord_p1014_28 σ (v2 + 1)
          else
            some (.inl (some (.int 0)), σ)
        else
          none
      else
        none := en_ex_un (G := bb_G) (P := bb_P) (ML := bb_ML) (HD := bb_HD) 23 0 4006 28 [some (.ref 66), some (.ref 1014), some (.int v2)] [] σ
set_option maxRecDepth 100000 in
set_option maxHeartbeats 1000000 in
theorem e_rd_isWord_p1015_0 (σ : en_S) : x_rd_isWord_p1015_0 σ =
    if σ.1 66 5 = 1 then
      if (σ.1 66 4) - (σ.1 66 3) = 5 then
        x_rd_isWord_p1015_28 σ 0
      else
        some (.inl (some (.int 0)), σ)
    else
      some (.inl (some (.int 0)), σ) := en_ex_un (G := bb_G) (P := bb_P) (ML := bb_ML) (HD := bb_HD) 20 0 4006 0 [some (.ref 66), some (.ref 1015), none] [] σ
set_option maxRecDepth 100000 in
set_option maxHeartbeats 1000000 in
theorem e_rd_isWord_p1015_28 (σ : en_S) (v2 : Int32) : x_rd_isWord_p1015_28 σ v2 =
    if (5 : Int32) ≤ v2 then
      some (.inl (some (.int 1)), σ)
    else
      if en_in ((σ.1 66 3) + v2) 700 then
        if 1000 ≤ 1015 ∧ en_small [.int (σ.1 32 (((σ.1 66 3) + v2).toNatClampNeg))] = true ∧ en_in v2 5 then
          if σ.1 32 (((σ.1 66 3) + v2).toNatClampNeg) = ([98, 111, 114, 110, 101]).getD v2.toNatClampNeg 0 &&& 255 then
            x_rd_isWord_p1015_28 σ (v2 + 1)
          else
            some (.inl (some (.int 0)), σ)
        else
          none
      else
        none := en_ex_un (G := bb_G) (P := bb_P) (ML := bb_ML) (HD := bb_HD) 23 0 4006 28 [some (.ref 66), some (.ref 1015), some (.int v2)] [] σ
set_option maxRecDepth 100000 in
set_option maxHeartbeats 1000000 in
theorem e_rd_isWord_p1016_0 (σ : en_S) : x_rd_isWord_p1016_0 σ =
    if σ.1 66 5 = 1 then
      if (σ.1 66 4) - (σ.1 66 3) = 4 then
        x_rd_isWord_p1016_28 σ 0
      else
        some (.inl (some (.int 0)), σ)
    else
      some (.inl (some (.int 0)), σ) := en_ex_un (G := bb_G) (P := bb_P) (ML := bb_ML) (HD := bb_HD) 20 0 4006 0 [some (.ref 66), some (.ref 1016), none] [] σ
set_option maxRecDepth 100000 in
set_option maxHeartbeats 1000000 in
theorem e_rd_isWord_p1016_28 (σ : en_S) (v2 : Int32) : x_rd_isWord_p1016_28 σ v2 =
    if (4 : Int32) ≤ v2 then
      some (.inl (some (.int 1)), σ)
    else
      if en_in ((σ.1 66 3) + v2) 700 then
        if 1000 ≤ 1016 ∧ en_small [.int (σ.1 32 (((σ.1 66 3) + v2).toNatClampNeg))] = true ∧ en_in v2 4 then
          if σ.1 32 (((σ.1 66 3) + v2).toNatClampNeg) = ([116, 111, 119, 110]).getD v2.toNatClampNeg 0 &&& 255 then
            x_rd_isWord_p1016_28 σ (v2 + 1)
          else
            some (.inl (some (.int 0)), σ)
        else
          none
      else
        none := en_ex_un (G := bb_G) (P := bb_P) (ML := bb_ML) (HD := bb_HD) 23 0 4006 28 [some (.ref 66), some (.ref 1016), some (.int v2)] [] σ
set_option maxRecDepth 100000 in
set_option maxHeartbeats 1000000 in
theorem e_rd_isWord_p1017_0 (σ : en_S) : x_rd_isWord_p1017_0 σ =
    if σ.1 66 5 = 1 then
      if (σ.1 66 4) - (σ.1 66 3) = 3 then
        x_rd_isWord_p1017_28 σ 0
      else
        some (.inl (some (.int 0)), σ)
    else
      some (.inl (some (.int 0)), σ) := en_ex_un (G := bb_G) (P := bb_P) (ML := bb_ML) (HD := bb_HD) 20 0 4006 0 [some (.ref 66), some (.ref 1017), none] [] σ
set_option maxRecDepth 100000 in
set_option maxHeartbeats 1000000 in
theorem e_rd_isWord_p1017_28 (σ : en_S) (v2 : Int32) : x_rd_isWord_p1017_28 σ v2 =
    if (3 : Int32) ≤ v2 then
      some (.inl (some (.int 1)), σ)
    else
      if en_in ((σ.1 66 3) + v2) 700 then
        if 1000 ≤ 1017 ∧ en_small [.int (σ.1 32 (((σ.1 66 3) + v2).toNatClampNeg))] = true ∧ en_in v2 3 then
          if σ.1 32 (((σ.1 66 3) + v2).toNatClampNeg) = ([100, 97, 121]).getD v2.toNatClampNeg 0 &&& 255 then
            x_rd_isWord_p1017_28 σ (v2 + 1)
          else
            some (.inl (some (.int 0)), σ)
        else
          none
      else
        none := en_ex_un (G := bb_G) (P := bb_P) (ML := bb_ML) (HD := bb_HD) 23 0 4006 28 [some (.ref 66), some (.ref 1017), some (.int v2)] [] σ
set_option maxRecDepth 100000 in
set_option maxHeartbeats 1000000 in
theorem e_rd_readAnd_1_p63_0 (σ : en_S) (v2 : Int32) : x_rd_readAnd_1_p63_0 σ v2 =
    en_cV (x_rd_readNot_1_p63_0 σ v2) (fun σ1 =>
      x_rd_readAnd_1_p63_8 σ1 v2 0) (fun e σ => some (.inr e, σ)) := en_ex_un (G := bb_G) (P := bb_P) (ML := bb_ML) (HD := bb_HD) 8 0 21018 0 [some (.ref 66), some (.ref 63), some (.int v2), none] [] σ
set_option maxRecDepth 100000 in
set_option maxHeartbeats 1000000 in
theorem e_rd_readAnd_1_p63_8 (σ : en_S) (v2 : Int32) (v3 : Int32) : x_rd_readAnd_1_p63_8 σ v2 v3 =
    if (700 : Int32) ≤ v3 then
      some (.inl none, σ)
    else
      if σ.1 66 9 = 0 then
        en_cI (x_rd_isWord_p1009_0 σ) (fun r2 σ1 =>
          if r2 = 0 then
            some (.inl none, σ1)
          else
            en_cV (x_rd_nextToken_0 σ1) (fun σ3 =>
              en_cV (x_rd_readNot_1_p63_0 σ3 v2) (fun σ4 =>
                en_cV (x_ru_add_p63_0 σ4 (-10)) (fun σ5 =>
                  x_rd_readAnd_1_p63_8 σ5 v2 (v3 + 1)) (fun e σ => some (.inr e, σ))) (fun e σ => some (.inr e, σ))) (fun e σ => some (.inr e, σ))) (fun e σ => some (.inr e, σ))
      else
        some (.inl none, σ) := en_ex_un (G := bb_G) (P := bb_P) (ML := bb_ML) (HD := bb_HD) 26 0 21018 8 [some (.ref 66), some (.ref 63), some (.int v2), some (.int v3)] [] σ
set_option maxRecDepth 100000 in
set_option maxHeartbeats 1000000 in
theorem e_rd_readAnd_1_p60_0 (σ : en_S) (v2 : Int32) : x_rd_readAnd_1_p60_0 σ v2 =
    en_cV (x_rd_readNot_1_p60_0 σ v2) (fun σ1 =>
      x_rd_readAnd_1_p60_8 σ1 v2 0) (fun e σ => some (.inr e, σ)) := en_ex_un (G := bb_G) (P := bb_P) (ML := bb_ML) (HD := bb_HD) 8 0 21018 0 [some (.ref 66), some (.ref 60), some (.int v2), none] [] σ
set_option maxRecDepth 100000 in
set_option maxHeartbeats 1000000 in
theorem e_rd_readAnd_1_p60_8 (σ : en_S) (v2 : Int32) (v3 : Int32) : x_rd_readAnd_1_p60_8 σ v2 v3 =
    if (700 : Int32) ≤ v3 then
      some (.inl none, σ)
    else
      if σ.1 66 9 = 0 then
        en_cI (x_rd_isWord_p1009_0 σ) (fun r2 σ1 =>
          if r2 = 0 then
            some (.inl none, σ1)
          else
            en_cV (x_rd_nextToken_0 σ1) (fun σ3 =>
              en_cV (x_rd_readNot_1_p60_0 σ3 v2) (fun σ4 =>
                en_cV (x_ru_add_p60_0 σ4 (-10)) (fun σ5 =>
                  x_rd_readAnd_1_p60_8 σ5 v2 (v3 + 1)) (fun e σ => some (.inr e, σ))) (fun e σ => some (.inr e, σ))) (fun e σ => some (.inr e, σ))) (fun e σ => some (.inr e, σ))
      else
        some (.inl none, σ) := en_ex_un (G := bb_G) (P := bb_P) (ML := bb_ML) (HD := bb_HD) 26 0 21018 8 [some (.ref 66), some (.ref 60), some (.int v2), some (.int v3)] [] σ
set_option maxRecDepth 100000 in
set_option maxHeartbeats 1000000 in
theorem e_rd_readNot_1_p63_0 (σ : en_S) (v2 : Int32) : x_rd_readNot_1_p63_0 σ v2 =
    x_rd_readNot_1_p63_2 σ v2 0 := en_ex_un (G := bb_G) (P := bb_P) (ML := bb_ML) (HD := bb_HD) 4 0 21019 0 [some (.ref 66), some (.ref 63), some (.int v2), none, none] [] σ
set_option maxRecDepth 100000 in
set_option maxHeartbeats 1000000 in
theorem e_rd_readNot_1_p63_2 (σ : en_S) (v2 : Int32) (v3 : Int32) : x_rd_readNot_1_p63_2 σ v2 v3 =
    if (6 : Int32) ≤ v3 then
      en_cI (x_rd_isWord_p1010_0 σ) (fun r2 σ1 =>
        if r2 = 0 then
          en_cV (x_rd_readSum_1_p63_0 σ1 v2) (fun σ3 =>
            if σ3.1 66 9 = 0 then
              en_cI (x_rd_isSign_0 σ3 60) (fun r5 σ4 =>
                if r5 = 0 then
                  en_cI (x_rd_isSign_0 σ4 61) (fun r7 σ6 =>
                    if r7 = 0 then
                      x_rd_readNot_1_p63_110 σ6 v3 0
                    else
                      x_rd_readNot_1_p63_73 σ6 v2 v3) (fun e σ => some (.inr e, σ))
                else
                  x_rd_readNot_1_p63_73 σ4 v2 v3) (fun e σ => some (.inr e, σ))
            else
              x_rd_readNot_1_p63_110 σ3 v3 0) (fun e σ => some (.inr e, σ))
        else
          en_cV (x_rd_refuse_0 σ1 2) (fun σ8 =>
            some (.inl none, σ8)) (fun e σ => some (.inr e, σ))) (fun e σ => some (.inr e, σ))
    else
      en_cI (x_rd_isWord_p1010_0 σ) (fun r10 σ9 =>
        if r10 = 0 then
          en_cI (x_rd_isWord_p1010_0 σ9) (fun r12 σ11 =>
            if r12 = 0 then
              en_cV (x_rd_readSum_1_p63_0 σ11 v2) (fun σ13 =>
                if σ13.1 66 9 = 0 then
                  en_cI (x_rd_isSign_0 σ13 60) (fun r15 σ14 =>
                    if r15 = 0 then
                      en_cI (x_rd_isSign_0 σ14 61) (fun r17 σ16 =>
                        if r17 = 0 then
                          x_rd_readNot_1_p63_110 σ16 v3 0
                        else
                          x_rd_readNot_1_p63_73 σ16 v2 v3) (fun e σ => some (.inr e, σ))
                    else
                      x_rd_readNot_1_p63_73 σ14 v2 v3) (fun e σ => some (.inr e, σ))
                else
                  x_rd_readNot_1_p63_110 σ13 v3 0) (fun e σ => some (.inr e, σ))
            else
              en_cV (x_rd_refuse_0 σ11 2) (fun σ18 =>
                some (.inl none, σ18)) (fun e σ => some (.inr e, σ))) (fun e σ => some (.inr e, σ))
        else
          en_cV (x_rd_nextToken_0 σ9) (fun σ19 =>
            x_rd_readNot_1_p63_2 σ19 v2 (v3 + 1)) (fun e σ => some (.inr e, σ))) (fun e σ => some (.inr e, σ)) := en_ex_un (G := bb_G) (P := bb_P) (ML := bb_ML) (HD := bb_HD) 67 0 21019 2 [some (.ref 66), some (.ref 63), some (.int v2), some (.int v3), none] [] σ
set_option maxRecDepth 100000 in
set_option maxHeartbeats 1000000 in
theorem e_rd_readNot_1_p63_73 (σ : en_S) (v2 : Int32) (v3 : Int32) : x_rd_readNot_1_p63_73 σ v2 v3 =
    en_cI (x_rd_isSign_0 σ 60) (fun r2 σ1 =>
      if r2 = 0 then
        en_cV (x_rd_nextToken_0 σ1) (fun σ3 =>
          en_cV (x_rd_readSum_1_p63_0 σ3 v2) (fun σ4 =>
            en_cV (x_ru_add_p63_0 σ4 (-12)) (fun σ5 =>
              x_rd_readNot_1_p63_110 σ5 v3 0) (fun e σ => some (.inr e, σ))) (fun e σ => some (.inr e, σ))) (fun e σ => some (.inr e, σ))
      else
        en_cV (x_rd_nextToken_0 σ1) (fun σ6 =>
          en_cV (x_rd_readSum_1_p63_0 σ6 v2) (fun σ7 =>
            en_cV (x_ru_add_p63_0 σ7 (-11)) (fun σ8 =>
              x_rd_readNot_1_p63_110 σ8 v3 0) (fun e σ => some (.inr e, σ))) (fun e σ => some (.inr e, σ))) (fun e σ => some (.inr e, σ))) (fun e σ => some (.inr e, σ)) := en_ex_un (G := bb_G) (P := bb_P) (ML := bb_ML) (HD := bb_HD) 33 0 21019 73 [some (.ref 66), some (.ref 63), some (.int v2), some (.int v3), none] [] σ
set_option maxRecDepth 100000 in
set_option maxHeartbeats 1000000 in
theorem e_rd_readNot_1_p63_110 (σ : en_S) (v3 : Int32) (v4 : Int32) : x_rd_readNot_1_p63_110 σ v3 v4 =
    if v3 ≤ v4 then
      some (.inl none, σ)
    else
      en_cV (x_ru_add_p63_0 σ (-8)) (fun σ1 =>
        x_rd_readNot_1_p63_110 σ1 v3 (v4 + 1)) (fun e σ => some (.inr e, σ)) := en_ex_un (G := bb_G) (P := bb_P) (ML := bb_ML) (HD := bb_HD) 11 0 21019 110 [none, some (.ref 63), none, some (.int v3), some (.int v4)] [] σ
set_option maxRecDepth 100000 in
set_option maxHeartbeats 1000000 in
theorem e_rd_readNot_1_p60_0 (σ : en_S) (v2 : Int32) : x_rd_readNot_1_p60_0 σ v2 =
    x_rd_readNot_1_p60_2 σ v2 0 := en_ex_un (G := bb_G) (P := bb_P) (ML := bb_ML) (HD := bb_HD) 4 0 21019 0 [some (.ref 66), some (.ref 60), some (.int v2), none, none] [] σ
set_option maxRecDepth 100000 in
set_option maxHeartbeats 1000000 in
theorem e_rd_readNot_1_p60_2 (σ : en_S) (v2 : Int32) (v3 : Int32) : x_rd_readNot_1_p60_2 σ v2 v3 =
    if (6 : Int32) ≤ v3 then
      en_cI (x_rd_isWord_p1010_0 σ) (fun r2 σ1 =>
        if r2 = 0 then
          en_cV (x_rd_readSum_1_p60_0 σ1 v2) (fun σ3 =>
            if σ3.1 66 9 = 0 then
              en_cI (x_rd_isSign_0 σ3 60) (fun r5 σ4 =>
                if r5 = 0 then
                  en_cI (x_rd_isSign_0 σ4 61) (fun r7 σ6 =>
                    if r7 = 0 then
                      x_rd_readNot_1_p60_110 σ6 v3 0
                    else
                      x_rd_readNot_1_p60_73 σ6 v2 v3) (fun e σ => some (.inr e, σ))
                else
                  x_rd_readNot_1_p60_73 σ4 v2 v3) (fun e σ => some (.inr e, σ))
            else
              x_rd_readNot_1_p60_110 σ3 v3 0) (fun e σ => some (.inr e, σ))
        else
          en_cV (x_rd_refuse_0 σ1 2) (fun σ8 =>
            some (.inl none, σ8)) (fun e σ => some (.inr e, σ))) (fun e σ => some (.inr e, σ))
    else
      en_cI (x_rd_isWord_p1010_0 σ) (fun r10 σ9 =>
        if r10 = 0 then
          en_cI (x_rd_isWord_p1010_0 σ9) (fun r12 σ11 =>
            if r12 = 0 then
              en_cV (x_rd_readSum_1_p60_0 σ11 v2) (fun σ13 =>
                if σ13.1 66 9 = 0 then
                  en_cI (x_rd_isSign_0 σ13 60) (fun r15 σ14 =>
                    if r15 = 0 then
                      en_cI (x_rd_isSign_0 σ14 61) (fun r17 σ16 =>
                        if r17 = 0 then
                          x_rd_readNot_1_p60_110 σ16 v3 0
                        else
                          x_rd_readNot_1_p60_73 σ16 v2 v3) (fun e σ => some (.inr e, σ))
                    else
                      x_rd_readNot_1_p60_73 σ14 v2 v3) (fun e σ => some (.inr e, σ))
                else
                  x_rd_readNot_1_p60_110 σ13 v3 0) (fun e σ => some (.inr e, σ))
            else
              en_cV (x_rd_refuse_0 σ11 2) (fun σ18 =>
                some (.inl none, σ18)) (fun e σ => some (.inr e, σ))) (fun e σ => some (.inr e, σ))
        else
          en_cV (x_rd_nextToken_0 σ9) (fun σ19 =>
            x_rd_readNot_1_p60_2 σ19 v2 (v3 + 1)) (fun e σ => some (.inr e, σ))) (fun e σ => some (.inr e, σ)) := en_ex_un (G := bb_G) (P := bb_P) (ML := bb_ML) (HD := bb_HD) 67 0 21019 2 [some (.ref 66), some (.ref 60), some (.int v2), some (.int v3), none] [] σ
set_option maxRecDepth 100000 in
set_option maxHeartbeats 1000000 in
theorem e_rd_readNot_1_p60_73 (σ : en_S) (v2 : Int32) (v3 : Int32) : x_rd_readNot_1_p60_73 σ v2 v3 =
    en_cI (x_rd_isSign_0 σ 60) (fun r2 σ1 =>
      if r2 = 0 then
        en_cV (x_rd_nextToken_0 σ1) (fun σ3 =>
          en_cV (x_rd_readSum_1_p60_0 σ3 v2) (fun σ4 =>
            en_cV (x_ru_add_p60_0 σ4 (-12)) (fun σ5 =>
              x_rd_readNot_1_p60_110 σ5 v3 0) (fun e σ => some (.inr e, σ))) (fun e σ => some (.inr e, σ))) (fun e σ => some (.inr e, σ))
      else
        en_cV (x_rd_nextToken_0 σ1) (fun σ6 =>
          en_cV (x_rd_readSum_1_p60_0 σ6 v2) (fun σ7 =>
            en_cV (x_ru_add_p60_0 σ7 (-11)) (fun σ8 =>
              x_rd_readNot_1_p60_110 σ8 v3 0) (fun e σ => some (.inr e, σ))) (fun e σ => some (.inr e, σ))) (fun e σ => some (.inr e, σ))) (fun e σ => some (.inr e, σ)) := en_ex_un (G := bb_G) (P := bb_P) (ML := bb_ML) (HD := bb_HD) 33 0 21019 73 [some (.ref 66), some (.ref 60), some (.int v2), some (.int v3), none] [] σ
set_option maxRecDepth 100000 in
set_option maxHeartbeats 1000000 in
theorem e_rd_readNot_1_p60_110 (σ : en_S) (v3 : Int32) (v4 : Int32) : x_rd_readNot_1_p60_110 σ v3 v4 =
    if v3 ≤ v4 then
      some (.inl none, σ)
    else
      en_cV (x_ru_add_p60_0 σ (-8)) (fun σ1 =>
        x_rd_readNot_1_p60_110 σ1 v3 (v4 + 1)) (fun e σ => some (.inr e, σ)) := en_ex_un (G := bb_G) (P := bb_P) (ML := bb_ML) (HD := bb_HD) 11 0 21019 110 [none, some (.ref 60), none, some (.int v3), some (.int v4)] [] σ
set_option maxRecDepth 100000 in
set_option maxHeartbeats 1000000 in
theorem e_rd_readSum_1_p63_0 (σ : en_S) (v2 : Int32) : x_rd_readSum_1_p63_0 σ v2 =
    en_cV (x_rd_readProduct_1_p63_0 σ v2) (fun σ1 =>
      x_rd_readSum_1_p63_8 σ1 v2 0) (fun e σ => some (.inr e, σ)) := en_ex_un (G := bb_G) (P := bb_P) (ML := bb_ML) (HD := bb_HD) 8 0 21020 0 [some (.ref 66), some (.ref 63), some (.int v2), none, none] [] σ
set_option maxRecDepth 100000 in
set_option maxHeartbeats 1000000 in
theorem e_rd_readSum_1_p63_8 (σ : en_S) (v2 : Int32) (v3 : Int32) : x_rd_readSum_1_p63_8 σ v2 v3 =
    if (700 : Int32) ≤ v3 then
      some (.inl none, σ)
    else
      if σ.1 66 9 = 0 then
        en_cI (x_rd_isSign_0 σ 43) (fun r2 σ1 =>
          if r2 = 0 then
            en_cI (x_rd_isSign_0 σ1 45) (fun r4 σ3 =>
              if r4 = 0 then
                some (.inl none, σ3)
              else
                en_cI (x_rd_isSign_0 σ3 43) (fun r6 σ5 =>
                  if r6 = 0 then
                    x_rd_readSum_1_p63_56 σ5 v2 v3 (-14)
                  else
                    x_rd_readSum_1_p63_56 σ5 v2 v3 (-13)) (fun e σ => some (.inr e, σ))) (fun e σ => some (.inr e, σ))
          else
            en_cI (x_rd_isSign_0 σ1 43) (fun r8 σ7 =>
              if r8 = 0 then
                x_rd_readSum_1_p63_56 σ7 v2 v3 (-14)
              else
                x_rd_readSum_1_p63_56 σ7 v2 v3 (-13)) (fun e σ => some (.inr e, σ))) (fun e σ => some (.inr e, σ))
      else
        some (.inl none, σ) := en_ex_un (G := bb_G) (P := bb_P) (ML := bb_ML) (HD := bb_HD) 33 0 21020 8 [some (.ref 66), some (.ref 63), some (.int v2), some (.int v3), none] [] σ
set_option maxRecDepth 100000 in
set_option maxHeartbeats 1000000 in
theorem e_rd_readSum_1_p63_56 (σ : en_S) (v2 : Int32) (v3 : Int32) (t0 : Int32) : x_rd_readSum_1_p63_56 σ v2 v3 t0 =
    en_cV (x_rd_nextToken_0 σ) (fun σ1 =>
      en_cV (x_rd_readProduct_1_p63_0 σ1 v2) (fun σ2 =>
        en_cV (x_ru_add_p63_0 σ2 t0) (fun σ3 =>
          x_rd_readSum_1_p63_8 σ3 v2 (v3 + 1)) (fun e σ => some (.inr e, σ))) (fun e σ => some (.inr e, σ))) (fun e σ => some (.inr e, σ)) := en_ex_un (G := bb_G) (P := bb_P) (ML := bb_ML) (HD := bb_HD) 14 0 21020 56 [some (.ref 66), some (.ref 63), some (.int v2), some (.int v3), none] [.int t0] σ
set_option maxRecDepth 100000 in
set_option maxHeartbeats 1000000 in
theorem e_rd_readSum_1_p60_0 (σ : en_S) (v2 : Int32) : x_rd_readSum_1_p60_0 σ v2 =
    en_cV (x_rd_readProduct_1_p60_0 σ v2) (fun σ1 =>
      x_rd_readSum_1_p60_8 σ1 v2 0) (fun e σ => some (.inr e, σ)) := en_ex_un (G := bb_G) (P := bb_P) (ML := bb_ML) (HD := bb_HD) 8 0 21020 0 [some (.ref 66), some (.ref 60), some (.int v2), none, none] [] σ
set_option maxRecDepth 100000 in
set_option maxHeartbeats 1000000 in
theorem e_rd_readSum_1_p60_8 (σ : en_S) (v2 : Int32) (v3 : Int32) : x_rd_readSum_1_p60_8 σ v2 v3 =
    if (700 : Int32) ≤ v3 then
      some (.inl none, σ)
    else
      if σ.1 66 9 = 0 then
        en_cI (x_rd_isSign_0 σ 43) (fun r2 σ1 =>
          if r2 = 0 then
            en_cI (x_rd_isSign_0 σ1 45) (fun r4 σ3 =>
              if r4 = 0 then
                some (.inl none, σ3)
              else
                en_cI (x_rd_isSign_0 σ3 43) (fun r6 σ5 =>
                  if r6 = 0 then
                    x_rd_readSum_1_p60_56 σ5 v2 v3 (-14)
                  else
                    x_rd_readSum_1_p60_56 σ5 v2 v3 (-13)) (fun e σ => some (.inr e, σ))) (fun e σ => some (.inr e, σ))
          else
            en_cI (x_rd_isSign_0 σ1 43) (fun r8 σ7 =>
              if r8 = 0 then
                x_rd_readSum_1_p60_56 σ7 v2 v3 (-14)
              else
                x_rd_readSum_1_p60_56 σ7 v2 v3 (-13)) (fun e σ => some (.inr e, σ))) (fun e σ => some (.inr e, σ))
      else
        some (.inl none, σ) := en_ex_un (G := bb_G) (P := bb_P) (ML := bb_ML) (HD := bb_HD) 33 0 21020 8 [some (.ref 66), some (.ref 60), some (.int v2), some (.int v3), none] [] σ
set_option maxRecDepth 100000 in
set_option maxHeartbeats 1000000 in
theorem e_rd_readSum_1_p60_56 (σ : en_S) (v2 : Int32) (v3 : Int32) (t0 : Int32) : x_rd_readSum_1_p60_56 σ v2 v3 t0 =
    en_cV (x_rd_nextToken_0 σ) (fun σ1 =>
      en_cV (x_rd_readProduct_1_p60_0 σ1 v2) (fun σ2 =>
        en_cV (x_ru_add_p60_0 σ2 t0) (fun σ3 =>
          x_rd_readSum_1_p60_8 σ3 v2 (v3 + 1)) (fun e σ => some (.inr e, σ))) (fun e σ => some (.inr e, σ))) (fun e σ => some (.inr e, σ)) := en_ex_un (G := bb_G) (P := bb_P) (ML := bb_ML) (HD := bb_HD) 14 0 21020 56 [some (.ref 66), some (.ref 60), some (.int v2), some (.int v3), none] [.int t0] σ
set_option maxRecDepth 100000 in
set_option maxHeartbeats 1000000 in
theorem e_rd_readProduct_1_p63_0 (σ : en_S) (v2 : Int32) : x_rd_readProduct_1_p63_0 σ v2 =
    en_cV (x_rd_readPart_1_p63_0 σ v2) (fun σ1 =>
      x_rd_readProduct_1_p63_8 σ1 v2 0) (fun e σ => some (.inr e, σ)) := en_ex_un (G := bb_G) (P := bb_P) (ML := bb_ML) (HD := bb_HD) 8 0 21021 0 [some (.ref 66), some (.ref 63), some (.int v2), none, none] [] σ
set_option maxRecDepth 100000 in
set_option maxHeartbeats 1000000 in
theorem e_rd_readProduct_1_p63_8 (σ : en_S) (v2 : Int32) (v3 : Int32) : x_rd_readProduct_1_p63_8 σ v2 v3 =
    if (700 : Int32) ≤ v3 then
      some (.inl none, σ)
    else
      if σ.1 66 9 = 0 then
        en_cI (x_rd_isSign_0 σ 42) (fun r2 σ1 =>
          if r2 = 0 then
            en_cI (x_rd_isSign_0 σ1 47) (fun r4 σ3 =>
              if r4 = 0 then
                some (.inl none, σ3)
              else
                en_cI (x_rd_isSign_0 σ3 42) (fun r6 σ5 =>
                  if r6 = 0 then
                    x_rd_readProduct_1_p63_56 σ5 v2 v3 (-16)
                  else
                    x_rd_readProduct_1_p63_56 σ5 v2 v3 (-15)) (fun e σ => some (.inr e, σ))) (fun e σ => some (.inr e, σ))
          else
            en_cI (x_rd_isSign_0 σ1 42) (fun r8 σ7 =>
              if r8 = 0 then
                x_rd_readProduct_1_p63_56 σ7 v2 v3 (-16)
              else
                x_rd_readProduct_1_p63_56 σ7 v2 v3 (-15)) (fun e σ => some (.inr e, σ))) (fun e σ => some (.inr e, σ))
      else
        some (.inl none, σ) := en_ex_un (G := bb_G) (P := bb_P) (ML := bb_ML) (HD := bb_HD) 33 0 21021 8 [some (.ref 66), some (.ref 63), some (.int v2), some (.int v3), none] [] σ
set_option maxRecDepth 100000 in
set_option maxHeartbeats 1000000 in
theorem e_rd_readProduct_1_p63_56 (σ : en_S) (v2 : Int32) (v3 : Int32) (t0 : Int32) : x_rd_readProduct_1_p63_56 σ v2 v3 t0 =
    en_cV (x_rd_nextToken_0 σ) (fun σ1 =>
      en_cV (x_rd_readPart_1_p63_0 σ1 v2) (fun σ2 =>
        en_cV (x_ru_add_p63_0 σ2 t0) (fun σ3 =>
          x_rd_readProduct_1_p63_8 σ3 v2 (v3 + 1)) (fun e σ => some (.inr e, σ))) (fun e σ => some (.inr e, σ))) (fun e σ => some (.inr e, σ)) := en_ex_un (G := bb_G) (P := bb_P) (ML := bb_ML) (HD := bb_HD) 14 0 21021 56 [some (.ref 66), some (.ref 63), some (.int v2), some (.int v3), none] [.int t0] σ
set_option maxRecDepth 100000 in
set_option maxHeartbeats 1000000 in
theorem e_rd_readProduct_1_p60_0 (σ : en_S) (v2 : Int32) : x_rd_readProduct_1_p60_0 σ v2 =
    en_cV (x_rd_readPart_1_p60_0 σ v2) (fun σ1 =>
      x_rd_readProduct_1_p60_8 σ1 v2 0) (fun e σ => some (.inr e, σ)) := en_ex_un (G := bb_G) (P := bb_P) (ML := bb_ML) (HD := bb_HD) 8 0 21021 0 [some (.ref 66), some (.ref 60), some (.int v2), none, none] [] σ
set_option maxRecDepth 100000 in
set_option maxHeartbeats 1000000 in
theorem e_rd_readProduct_1_p60_8 (σ : en_S) (v2 : Int32) (v3 : Int32) : x_rd_readProduct_1_p60_8 σ v2 v3 =
    if (700 : Int32) ≤ v3 then
      some (.inl none, σ)
    else
      if σ.1 66 9 = 0 then
        en_cI (x_rd_isSign_0 σ 42) (fun r2 σ1 =>
          if r2 = 0 then
            en_cI (x_rd_isSign_0 σ1 47) (fun r4 σ3 =>
              if r4 = 0 then
                some (.inl none, σ3)
              else
                en_cI (x_rd_isSign_0 σ3 42) (fun r6 σ5 =>
                  if r6 = 0 then
                    x_rd_readProduct_1_p60_56 σ5 v2 v3 (-16)
                  else
                    x_rd_readProduct_1_p60_56 σ5 v2 v3 (-15)) (fun e σ => some (.inr e, σ))) (fun e σ => some (.inr e, σ))
          else
            en_cI (x_rd_isSign_0 σ1 42) (fun r8 σ7 =>
              if r8 = 0 then
                x_rd_readProduct_1_p60_56 σ7 v2 v3 (-16)
              else
                x_rd_readProduct_1_p60_56 σ7 v2 v3 (-15)) (fun e σ => some (.inr e, σ))) (fun e σ => some (.inr e, σ))
      else
        some (.inl none, σ) := en_ex_un (G := bb_G) (P := bb_P) (ML := bb_ML) (HD := bb_HD) 33 0 21021 8 [some (.ref 66), some (.ref 60), some (.int v2), some (.int v3), none] [] σ
set_option maxRecDepth 100000 in
set_option maxHeartbeats 1000000 in
theorem e_rd_readProduct_1_p60_56 (σ : en_S) (v2 : Int32) (v3 : Int32) (t0 : Int32) : x_rd_readProduct_1_p60_56 σ v2 v3 t0 =
    en_cV (x_rd_nextToken_0 σ) (fun σ1 =>
      en_cV (x_rd_readPart_1_p60_0 σ1 v2) (fun σ2 =>
        en_cV (x_ru_add_p60_0 σ2 t0) (fun σ3 =>
          x_rd_readProduct_1_p60_8 σ3 v2 (v3 + 1)) (fun e σ => some (.inr e, σ))) (fun e σ => some (.inr e, σ))) (fun e σ => some (.inr e, σ)) := en_ex_un (G := bb_G) (P := bb_P) (ML := bb_ML) (HD := bb_HD) 14 0 21021 56 [some (.ref 66), some (.ref 60), some (.int v2), some (.int v3), none] [.int t0] σ
set_option maxRecDepth 100000 in
set_option maxHeartbeats 1000000 in
theorem e_rd_readPart_1_p63_0 (σ : en_S) (v2 : Int32) : x_rd_readPart_1_p63_0 σ v2 =
    en_cI (x_rd_isSign_0 σ 40) (fun r2 σ1 =>
      if r2 = 0 then
        if σ1.1 66 5 = 2 then
          en_cI (x_rd_readNumber_0 σ1 0 9999) (fun r4 σ3 =>
            en_cV (x_ru_add_p63_0 σ3 r4) (fun σ5 =>
              some (.inl none, σ5)) (fun e σ => some (.inr e, σ))) (fun e σ => some (.inr e, σ))
        else
          if σ1.1 66 5 = 1 then
            en_cI (x_rd_valueStep_0 σ1) (fun r7 σ6 =>
              if r7 = 0 then
                en_cV (x_rd_refuse_0 σ6 3) (fun σ8 =>
                  some (.inl none, σ8)) (fun e σ => some (.inr e, σ))
              else
                en_cI (x_rd_valueStep_0 σ6) (fun r10 σ9 =>
                  en_cV (x_ru_add_p63_0 σ9 r10) (fun σ11 =>
                    en_cV (x_rd_nextToken_0 σ11) (fun σ12 =>
                      some (.inl none, σ12)) (fun e σ => some (.inr e, σ))) (fun e σ => some (.inr e, σ))) (fun e σ => some (.inr e, σ))) (fun e σ => some (.inr e, σ))
          else
            en_cV (x_rd_refuse_0 σ1 1) (fun σ13 =>
              some (.inl none, σ13)) (fun e σ => some (.inr e, σ))
      else
        en_cV (x_rd_nextToken_0 σ1) (fun σ14 =>
          en_cV (x_rd_readExpr_2_p63_0 σ14 (v2 + 1)) (fun σ15 =>
            en_cV (x_rd_readSign_0 σ15 41) (fun σ16 =>
              some (.inl none, σ16)) (fun e σ => some (.inr e, σ))) (fun e σ => some (.inr e, σ))) (fun e σ => some (.inr e, σ))) (fun e σ => some (.inr e, σ)) := en_ex_un (G := bb_G) (P := bb_P) (ML := bb_ML) (HD := bb_HD) 55 0 21022 0 [some (.ref 66), some (.ref 63), some (.int v2)] [] σ
set_option maxRecDepth 100000 in
set_option maxHeartbeats 1000000 in
theorem e_rd_readPart_1_p60_0 (σ : en_S) (v2 : Int32) : x_rd_readPart_1_p60_0 σ v2 =
    en_cI (x_rd_isSign_0 σ 40) (fun r2 σ1 =>
      if r2 = 0 then
        if σ1.1 66 5 = 2 then
          en_cI (x_rd_readNumber_0 σ1 0 9999) (fun r4 σ3 =>
            en_cV (x_ru_add_p60_0 σ3 r4) (fun σ5 =>
              some (.inl none, σ5)) (fun e σ => some (.inr e, σ))) (fun e σ => some (.inr e, σ))
        else
          if σ1.1 66 5 = 1 then
            en_cI (x_rd_valueStep_0 σ1) (fun r7 σ6 =>
              if r7 = 0 then
                en_cV (x_rd_refuse_0 σ6 3) (fun σ8 =>
                  some (.inl none, σ8)) (fun e σ => some (.inr e, σ))
              else
                en_cI (x_rd_valueStep_0 σ6) (fun r10 σ9 =>
                  en_cV (x_ru_add_p60_0 σ9 r10) (fun σ11 =>
                    en_cV (x_rd_nextToken_0 σ11) (fun σ12 =>
                      some (.inl none, σ12)) (fun e σ => some (.inr e, σ))) (fun e σ => some (.inr e, σ))) (fun e σ => some (.inr e, σ))) (fun e σ => some (.inr e, σ))
          else
            en_cV (x_rd_refuse_0 σ1 1) (fun σ13 =>
              some (.inl none, σ13)) (fun e σ => some (.inr e, σ))
      else
        en_cV (x_rd_nextToken_0 σ1) (fun σ14 =>
          en_cV (x_rd_readExpr_2_p60_0 σ14 (v2 + 1)) (fun σ15 =>
            en_cV (x_rd_readSign_0 σ15 41) (fun σ16 =>
              some (.inl none, σ16)) (fun e σ => some (.inr e, σ))) (fun e σ => some (.inr e, σ))) (fun e σ => some (.inr e, σ))) (fun e σ => some (.inr e, σ)) := en_ex_un (G := bb_G) (P := bb_P) (ML := bb_ML) (HD := bb_HD) 55 0 21022 0 [some (.ref 66), some (.ref 60), some (.int v2)] [] σ
set_option maxRecDepth 100000 in
set_option maxHeartbeats 1000000 in
theorem e_rd_readExpr_2_p63_0 (σ : en_S) (v2 : Int32) : x_rd_readExpr_2_p63_0 σ v2 =
    if v2 ≤ 5 then
      en_cV (x_rd_readAnd_2_p63_0 σ v2) (fun σ1 =>
        x_rd_readExpr_2_p63_48 σ1 v2 0) (fun e σ => some (.inr e, σ))
    else
      if σ.1 66 5 = 2 then
        en_cV (x_rd_refuse_0 σ 2) (fun σ2 =>
          some (.inl none, σ2)) (fun e σ => some (.inr e, σ))
      else
        if σ.1 66 5 = 1 then
          en_cV (x_rd_refuse_0 σ 2) (fun σ3 =>
            some (.inl none, σ3)) (fun e σ => some (.inr e, σ))
        else
          en_cI (x_rd_isSign_0 σ 40) (fun r5 σ4 =>
            if r5 = 0 then
              en_cV (x_rd_refuse_0 σ4 1) (fun σ6 =>
                some (.inl none, σ6)) (fun e σ => some (.inr e, σ))
            else
              en_cV (x_rd_refuse_0 σ4 2) (fun σ7 =>
                some (.inl none, σ7)) (fun e σ => some (.inr e, σ))) (fun e σ => some (.inr e, σ)) := en_ex_un (G := bb_G) (P := bb_P) (ML := bb_ML) (HD := bb_HD) 39 0 22017 0 [some (.ref 66), some (.ref 63), some (.int v2), none] [] σ
set_option maxRecDepth 100000 in
set_option maxHeartbeats 1000000 in
theorem e_rd_readExpr_2_p63_48 (σ : en_S) (v2 : Int32) (v3 : Int32) : x_rd_readExpr_2_p63_48 σ v2 v3 =
    if (700 : Int32) ≤ v3 then
      some (.inl none, σ)
    else
      if σ.1 66 9 = 0 then
        en_cI (x_rd_isWord_p1008_0 σ) (fun r2 σ1 =>
          if r2 = 0 then
            some (.inl none, σ1)
          else
            en_cV (x_rd_nextToken_0 σ1) (fun σ3 =>
              en_cV (x_rd_readAnd_2_p63_0 σ3 v2) (fun σ4 =>
                en_cV (x_ru_add_p63_0 σ4 (-9)) (fun σ5 =>
                  x_rd_readExpr_2_p63_48 σ5 v2 (v3 + 1)) (fun e σ => some (.inr e, σ))) (fun e σ => some (.inr e, σ))) (fun e σ => some (.inr e, σ))) (fun e σ => some (.inr e, σ))
      else
        some (.inl none, σ) := en_ex_un (G := bb_G) (P := bb_P) (ML := bb_ML) (HD := bb_HD) 26 0 22017 48 [some (.ref 66), some (.ref 63), some (.int v2), some (.int v3)] [] σ
set_option maxRecDepth 100000 in
set_option maxHeartbeats 1000000 in
theorem e_rd_readExpr_2_p60_0 (σ : en_S) (v2 : Int32) : x_rd_readExpr_2_p60_0 σ v2 =
    if v2 ≤ 5 then
      en_cV (x_rd_readAnd_2_p60_0 σ v2) (fun σ1 =>
        x_rd_readExpr_2_p60_48 σ1 v2 0) (fun e σ => some (.inr e, σ))
    else
      if σ.1 66 5 = 2 then
        en_cV (x_rd_refuse_0 σ 2) (fun σ2 =>
          some (.inl none, σ2)) (fun e σ => some (.inr e, σ))
      else
        if σ.1 66 5 = 1 then
          en_cV (x_rd_refuse_0 σ 2) (fun σ3 =>
            some (.inl none, σ3)) (fun e σ => some (.inr e, σ))
        else
          en_cI (x_rd_isSign_0 σ 40) (fun r5 σ4 =>
            if r5 = 0 then
              en_cV (x_rd_refuse_0 σ4 1) (fun σ6 =>
                some (.inl none, σ6)) (fun e σ => some (.inr e, σ))
            else
              en_cV (x_rd_refuse_0 σ4 2) (fun σ7 =>
                some (.inl none, σ7)) (fun e σ => some (.inr e, σ))) (fun e σ => some (.inr e, σ)) := en_ex_un (G := bb_G) (P := bb_P) (ML := bb_ML) (HD := bb_HD) 39 0 22017 0 [some (.ref 66), some (.ref 60), some (.int v2), none] [] σ
set_option maxRecDepth 100000 in
set_option maxHeartbeats 1000000 in
theorem e_rd_readExpr_2_p60_48 (σ : en_S) (v2 : Int32) (v3 : Int32) : x_rd_readExpr_2_p60_48 σ v2 v3 =
    if (700 : Int32) ≤ v3 then
      some (.inl none, σ)
    else
      if σ.1 66 9 = 0 then
        en_cI (x_rd_isWord_p1008_0 σ) (fun r2 σ1 =>
          if r2 = 0 then
            some (.inl none, σ1)
          else
            en_cV (x_rd_nextToken_0 σ1) (fun σ3 =>
              en_cV (x_rd_readAnd_2_p60_0 σ3 v2) (fun σ4 =>
                en_cV (x_ru_add_p60_0 σ4 (-9)) (fun σ5 =>
                  x_rd_readExpr_2_p60_48 σ5 v2 (v3 + 1)) (fun e σ => some (.inr e, σ))) (fun e σ => some (.inr e, σ))) (fun e σ => some (.inr e, σ))) (fun e σ => some (.inr e, σ))
      else
        some (.inl none, σ) := en_ex_un (G := bb_G) (P := bb_P) (ML := bb_ML) (HD := bb_HD) 26 0 22017 48 [some (.ref 66), some (.ref 60), some (.int v2), some (.int v3)] [] σ
set_option maxRecDepth 100000 in
set_option maxHeartbeats 1000000 in
theorem e_rd_readAnd_2_p63_0 (σ : en_S) (v2 : Int32) : x_rd_readAnd_2_p63_0 σ v2 =
    en_cV (x_rd_readNot_2_p63_0 σ v2) (fun σ1 =>
      x_rd_readAnd_2_p63_8 σ1 v2 0) (fun e σ => some (.inr e, σ)) := en_ex_un (G := bb_G) (P := bb_P) (ML := bb_ML) (HD := bb_HD) 8 0 22018 0 [some (.ref 66), some (.ref 63), some (.int v2), none] [] σ
set_option maxRecDepth 100000 in
set_option maxHeartbeats 1000000 in
theorem e_rd_readAnd_2_p63_8 (σ : en_S) (v2 : Int32) (v3 : Int32) : x_rd_readAnd_2_p63_8 σ v2 v3 =
    if (700 : Int32) ≤ v3 then
      some (.inl none, σ)
    else
      if σ.1 66 9 = 0 then
        en_cI (x_rd_isWord_p1009_0 σ) (fun r2 σ1 =>
          if r2 = 0 then
            some (.inl none, σ1)
          else
            en_cV (x_rd_nextToken_0 σ1) (fun σ3 =>
              en_cV (x_rd_readNot_2_p63_0 σ3 v2) (fun σ4 =>
                en_cV (x_ru_add_p63_0 σ4 (-10)) (fun σ5 =>
                  x_rd_readAnd_2_p63_8 σ5 v2 (v3 + 1)) (fun e σ => some (.inr e, σ))) (fun e σ => some (.inr e, σ))) (fun e σ => some (.inr e, σ))) (fun e σ => some (.inr e, σ))
      else
        some (.inl none, σ) := en_ex_un (G := bb_G) (P := bb_P) (ML := bb_ML) (HD := bb_HD) 26 0 22018 8 [some (.ref 66), some (.ref 63), some (.int v2), some (.int v3)] [] σ
set_option maxRecDepth 100000 in
set_option maxHeartbeats 1000000 in
theorem e_rd_readAnd_2_p60_0 (σ : en_S) (v2 : Int32) : x_rd_readAnd_2_p60_0 σ v2 =
    en_cV (x_rd_readNot_2_p60_0 σ v2) (fun σ1 =>
      x_rd_readAnd_2_p60_8 σ1 v2 0) (fun e σ => some (.inr e, σ)) := en_ex_un (G := bb_G) (P := bb_P) (ML := bb_ML) (HD := bb_HD) 8 0 22018 0 [some (.ref 66), some (.ref 60), some (.int v2), none] [] σ
set_option maxRecDepth 100000 in
set_option maxHeartbeats 1000000 in
theorem e_rd_readAnd_2_p60_8 (σ : en_S) (v2 : Int32) (v3 : Int32) : x_rd_readAnd_2_p60_8 σ v2 v3 =
    if (700 : Int32) ≤ v3 then
      some (.inl none, σ)
    else
      if σ.1 66 9 = 0 then
        en_cI (x_rd_isWord_p1009_0 σ) (fun r2 σ1 =>
          if r2 = 0 then
            some (.inl none, σ1)
          else
            en_cV (x_rd_nextToken_0 σ1) (fun σ3 =>
              en_cV (x_rd_readNot_2_p60_0 σ3 v2) (fun σ4 =>
                en_cV (x_ru_add_p60_0 σ4 (-10)) (fun σ5 =>
                  x_rd_readAnd_2_p60_8 σ5 v2 (v3 + 1)) (fun e σ => some (.inr e, σ))) (fun e σ => some (.inr e, σ))) (fun e σ => some (.inr e, σ))) (fun e σ => some (.inr e, σ))
      else
        some (.inl none, σ) := en_ex_un (G := bb_G) (P := bb_P) (ML := bb_ML) (HD := bb_HD) 26 0 22018 8 [some (.ref 66), some (.ref 60), some (.int v2), some (.int v3)] [] σ
set_option maxRecDepth 100000 in
set_option maxHeartbeats 1000000 in
theorem e_rd_readNot_2_p63_0 (σ : en_S) (v2 : Int32) : x_rd_readNot_2_p63_0 σ v2 =
    x_rd_readNot_2_p63_2 σ v2 0 := en_ex_un (G := bb_G) (P := bb_P) (ML := bb_ML) (HD := bb_HD) 4 0 22019 0 [some (.ref 66), some (.ref 63), some (.int v2), none, none] [] σ
set_option maxRecDepth 100000 in
set_option maxHeartbeats 1000000 in
theorem e_rd_readNot_2_p63_2 (σ : en_S) (v2 : Int32) (v3 : Int32) : x_rd_readNot_2_p63_2 σ v2 v3 =
    if (6 : Int32) ≤ v3 then
      en_cI (x_rd_isWord_p1010_0 σ) (fun r2 σ1 =>
        if r2 = 0 then
          en_cV (x_rd_readSum_2_p63_0 σ1 v2) (fun σ3 =>
            if σ3.1 66 9 = 0 then
              en_cI (x_rd_isSign_0 σ3 60) (fun r5 σ4 =>
                if r5 = 0 then
                  en_cI (x_rd_isSign_0 σ4 61) (fun r7 σ6 =>
                    if r7 = 0 then
                      x_rd_readNot_2_p63_110 σ6 v3 0
                    else
                      x_rd_readNot_2_p63_73 σ6 v2 v3) (fun e σ => some (.inr e, σ))
                else
                  x_rd_readNot_2_p63_73 σ4 v2 v3) (fun e σ => some (.inr e, σ))
            else
              x_rd_readNot_2_p63_110 σ3 v3 0) (fun e σ => some (.inr e, σ))
        else
          en_cV (x_rd_refuse_0 σ1 2) (fun σ8 =>
            some (.inl none, σ8)) (fun e σ => some (.inr e, σ))) (fun e σ => some (.inr e, σ))
    else
      en_cI (x_rd_isWord_p1010_0 σ) (fun r10 σ9 =>
        if r10 = 0 then
          en_cI (x_rd_isWord_p1010_0 σ9) (fun r12 σ11 =>
            if r12 = 0 then
              en_cV (x_rd_readSum_2_p63_0 σ11 v2) (fun σ13 =>
                if σ13.1 66 9 = 0 then
                  en_cI (x_rd_isSign_0 σ13 60) (fun r15 σ14 =>
                    if r15 = 0 then
                      en_cI (x_rd_isSign_0 σ14 61) (fun r17 σ16 =>
                        if r17 = 0 then
                          x_rd_readNot_2_p63_110 σ16 v3 0
                        else
                          x_rd_readNot_2_p63_73 σ16 v2 v3) (fun e σ => some (.inr e, σ))
                    else
                      x_rd_readNot_2_p63_73 σ14 v2 v3) (fun e σ => some (.inr e, σ))
                else
                  x_rd_readNot_2_p63_110 σ13 v3 0) (fun e σ => some (.inr e, σ))
            else
              en_cV (x_rd_refuse_0 σ11 2) (fun σ18 =>
                some (.inl none, σ18)) (fun e σ => some (.inr e, σ))) (fun e σ => some (.inr e, σ))
        else
          en_cV (x_rd_nextToken_0 σ9) (fun σ19 =>
            x_rd_readNot_2_p63_2 σ19 v2 (v3 + 1)) (fun e σ => some (.inr e, σ))) (fun e σ => some (.inr e, σ)) := en_ex_un (G := bb_G) (P := bb_P) (ML := bb_ML) (HD := bb_HD) 67 0 22019 2 [some (.ref 66), some (.ref 63), some (.int v2), some (.int v3), none] [] σ
set_option maxRecDepth 100000 in
set_option maxHeartbeats 1000000 in
theorem e_rd_readNot_2_p63_73 (σ : en_S) (v2 : Int32) (v3 : Int32) : x_rd_readNot_2_p63_73 σ v2 v3 =
    en_cI (x_rd_isSign_0 σ 60) (fun r2 σ1 =>
      if r2 = 0 then
        en_cV (x_rd_nextToken_0 σ1) (fun σ3 =>
          en_cV (x_rd_readSum_2_p63_0 σ3 v2) (fun σ4 =>
            en_cV (x_ru_add_p63_0 σ4 (-12)) (fun σ5 =>
              x_rd_readNot_2_p63_110 σ5 v3 0) (fun e σ => some (.inr e, σ))) (fun e σ => some (.inr e, σ))) (fun e σ => some (.inr e, σ))
      else
        en_cV (x_rd_nextToken_0 σ1) (fun σ6 =>
          en_cV (x_rd_readSum_2_p63_0 σ6 v2) (fun σ7 =>
            en_cV (x_ru_add_p63_0 σ7 (-11)) (fun σ8 =>
              x_rd_readNot_2_p63_110 σ8 v3 0) (fun e σ => some (.inr e, σ))) (fun e σ => some (.inr e, σ))) (fun e σ => some (.inr e, σ))) (fun e σ => some (.inr e, σ)) := en_ex_un (G := bb_G) (P := bb_P) (ML := bb_ML) (HD := bb_HD) 33 0 22019 73 [some (.ref 66), some (.ref 63), some (.int v2), some (.int v3), none] [] σ
set_option maxRecDepth 100000 in
set_option maxHeartbeats 1000000 in
theorem e_rd_readNot_2_p63_110 (σ : en_S) (v3 : Int32) (v4 : Int32) : x_rd_readNot_2_p63_110 σ v3 v4 =
    if v3 ≤ v4 then
      some (.inl none, σ)
    else
      en_cV (x_ru_add_p63_0 σ (-8)) (fun σ1 =>
        x_rd_readNot_2_p63_110 σ1 v3 (v4 + 1)) (fun e σ => some (.inr e, σ)) := en_ex_un (G := bb_G) (P := bb_P) (ML := bb_ML) (HD := bb_HD) 11 0 22019 110 [none, some (.ref 63), none, some (.int v3), some (.int v4)] [] σ
set_option maxRecDepth 100000 in
set_option maxHeartbeats 1000000 in
theorem e_rd_readNot_2_p60_0 (σ : en_S) (v2 : Int32) : x_rd_readNot_2_p60_0 σ v2 =
    x_rd_readNot_2_p60_2 σ v2 0 := en_ex_un (G := bb_G) (P := bb_P) (ML := bb_ML) (HD := bb_HD) 4 0 22019 0 [some (.ref 66), some (.ref 60), some (.int v2), none, none] [] σ
set_option maxRecDepth 100000 in
set_option maxHeartbeats 1000000 in
theorem e_rd_readNot_2_p60_2 (σ : en_S) (v2 : Int32) (v3 : Int32) : x_rd_readNot_2_p60_2 σ v2 v3 =
    if (6 : Int32) ≤ v3 then
      en_cI (x_rd_isWord_p1010_0 σ) (fun r2 σ1 =>
        if r2 = 0 then
          en_cV (x_rd_readSum_2_p60_0 σ1 v2) (fun σ3 =>
            if σ3.1 66 9 = 0 then
              en_cI (x_rd_isSign_0 σ3 60) (fun r5 σ4 =>
                if r5 = 0 then
                  en_cI (x_rd_isSign_0 σ4 61) (fun r7 σ6 =>
                    if r7 = 0 then
                      x_rd_readNot_2_p60_110 σ6 v3 0
                    else
                      x_rd_readNot_2_p60_73 σ6 v2 v3) (fun e σ => some (.inr e, σ))
                else
                  x_rd_readNot_2_p60_73 σ4 v2 v3) (fun e σ => some (.inr e, σ))
            else
              x_rd_readNot_2_p60_110 σ3 v3 0) (fun e σ => some (.inr e, σ))
        else
          en_cV (x_rd_refuse_0 σ1 2) (fun σ8 =>
            some (.inl none, σ8)) (fun e σ => some (.inr e, σ))) (fun e σ => some (.inr e, σ))
    else
      en_cI (x_rd_isWord_p1010_0 σ) (fun r10 σ9 =>
        if r10 = 0 then
          en_cI (x_rd_isWord_p1010_0 σ9) (fun r12 σ11 =>
            if r12 = 0 then
              en_cV (x_rd_readSum_2_p60_0 σ11 v2) (fun σ13 =>
                if σ13.1 66 9 = 0 then
                  en_cI (x_rd_isSign_0 σ13 60) (fun r15 σ14 =>
                    if r15 = 0 then
                      en_cI (x_rd_isSign_0 σ14 61) (fun r17 σ16 =>
                        if r17 = 0 then
                          x_rd_readNot_2_p60_110 σ16 v3 0
                        else
                          x_rd_readNot_2_p60_73 σ16 v2 v3) (fun e σ => some (.inr e, σ))
                    else
                      x_rd_readNot_2_p60_73 σ14 v2 v3) (fun e σ => some (.inr e, σ))
                else
                  x_rd_readNot_2_p60_110 σ13 v3 0) (fun e σ => some (.inr e, σ))
            else
              en_cV (x_rd_refuse_0 σ11 2) (fun σ18 =>
                some (.inl none, σ18)) (fun e σ => some (.inr e, σ))) (fun e σ => some (.inr e, σ))
        else
          en_cV (x_rd_nextToken_0 σ9) (fun σ19 =>
            x_rd_readNot_2_p60_2 σ19 v2 (v3 + 1)) (fun e σ => some (.inr e, σ))) (fun e σ => some (.inr e, σ)) := en_ex_un (G := bb_G) (P := bb_P) (ML := bb_ML) (HD := bb_HD) 67 0 22019 2 [some (.ref 66), some (.ref 60), some (.int v2), some (.int v3), none] [] σ
set_option maxRecDepth 100000 in
set_option maxHeartbeats 1000000 in
theorem e_rd_readNot_2_p60_73 (σ : en_S) (v2 : Int32) (v3 : Int32) : x_rd_readNot_2_p60_73 σ v2 v3 =
    en_cI (x_rd_isSign_0 σ 60) (fun r2 σ1 =>
      if r2 = 0 then
        en_cV (x_rd_nextToken_0 σ1) (fun σ3 =>
          en_cV (x_rd_readSum_2_p60_0 σ3 v2) (fun σ4 =>
            en_cV (x_ru_add_p60_0 σ4 (-12)) (fun σ5 =>
              x_rd_readNot_2_p60_110 σ5 v3 0) (fun e σ => some (.inr e, σ))) (fun e σ => some (.inr e, σ))) (fun e σ => some (.inr e, σ))
      else
        en_cV (x_rd_nextToken_0 σ1) (fun σ6 =>
          en_cV (x_rd_readSum_2_p60_0 σ6 v2) (fun σ7 =>
            en_cV (x_ru_add_p60_0 σ7 (-11)) (fun σ8 =>
              x_rd_readNot_2_p60_110 σ8 v3 0) (fun e σ => some (.inr e, σ))) (fun e σ => some (.inr e, σ))) (fun e σ => some (.inr e, σ))) (fun e σ => some (.inr e, σ)) := en_ex_un (G := bb_G) (P := bb_P) (ML := bb_ML) (HD := bb_HD) 33 0 22019 73 [some (.ref 66), some (.ref 60), some (.int v2), some (.int v3), none] [] σ
set_option maxRecDepth 100000 in
set_option maxHeartbeats 1000000 in
theorem e_rd_readNot_2_p60_110 (σ : en_S) (v3 : Int32) (v4 : Int32) : x_rd_readNot_2_p60_110 σ v3 v4 =
    if v3 ≤ v4 then
      some (.inl none, σ)
    else
      en_cV (x_ru_add_p60_0 σ (-8)) (fun σ1 =>
        x_rd_readNot_2_p60_110 σ1 v3 (v4 + 1)) (fun e σ => some (.inr e, σ)) := en_ex_un (G := bb_G) (P := bb_P) (ML := bb_ML) (HD := bb_HD) 11 0 22019 110 [none, some (.ref 60), none, some (.int v3), some (.int v4)] [] σ
set_option maxRecDepth 100000 in
set_option maxHeartbeats 1000000 in
theorem e_rd_readSum_2_p63_0 (σ : en_S) (v2 : Int32) : x_rd_readSum_2_p63_0 σ v2 =
    en_cV (x_rd_readProduct_2_p63_0 σ v2) (fun σ1 =>
      x_rd_readSum_2_p63_8 σ1 v2 0) (fun e σ => some (.inr e, σ)) := en_ex_un (G := bb_G) (P := bb_P) (ML := bb_ML) (HD := bb_HD) 8 0 22020 0 [some (.ref 66), some (.ref 63), some (.int v2), none, none] [] σ
set_option maxRecDepth 100000 in
set_option maxHeartbeats 1000000 in
theorem e_rd_readSum_2_p63_8 (σ : en_S) (v2 : Int32) (v3 : Int32) : x_rd_readSum_2_p63_8 σ v2 v3 =
    if (700 : Int32) ≤ v3 then
      some (.inl none, σ)
    else
      if σ.1 66 9 = 0 then
        en_cI (x_rd_isSign_0 σ 43) (fun r2 σ1 =>
          if r2 = 0 then
            en_cI (x_rd_isSign_0 σ1 45) (fun r4 σ3 =>
              if r4 = 0 then
                some (.inl none, σ3)
              else
                en_cI (x_rd_isSign_0 σ3 43) (fun r6 σ5 =>
                  if r6 = 0 then
                    x_rd_readSum_2_p63_56 σ5 v2 v3 (-14)
                  else
                    x_rd_readSum_2_p63_56 σ5 v2 v3 (-13)) (fun e σ => some (.inr e, σ))) (fun e σ => some (.inr e, σ))
          else
            en_cI (x_rd_isSign_0 σ1 43) (fun r8 σ7 =>
              if r8 = 0 then
                x_rd_readSum_2_p63_56 σ7 v2 v3 (-14)
              else
                x_rd_readSum_2_p63_56 σ7 v2 v3 (-13)) (fun e σ => some (.inr e, σ))) (fun e σ => some (.inr e, σ))
      else
        some (.inl none, σ) := en_ex_un (G := bb_G) (P := bb_P) (ML := bb_ML) (HD := bb_HD) 33 0 22020 8 [some (.ref 66), some (.ref 63), some (.int v2), some (.int v3), none] [] σ
set_option maxRecDepth 100000 in
set_option maxHeartbeats 1000000 in
theorem e_rd_readSum_2_p63_56 (σ : en_S) (v2 : Int32) (v3 : Int32) (t0 : Int32) : x_rd_readSum_2_p63_56 σ v2 v3 t0 =
    en_cV (x_rd_nextToken_0 σ) (fun σ1 =>
      en_cV (x_rd_readProduct_2_p63_0 σ1 v2) (fun σ2 =>
        en_cV (x_ru_add_p63_0 σ2 t0) (fun σ3 =>
          x_rd_readSum_2_p63_8 σ3 v2 (v3 + 1)) (fun e σ => some (.inr e, σ))) (fun e σ => some (.inr e, σ))) (fun e σ => some (.inr e, σ)) := en_ex_un (G := bb_G) (P := bb_P) (ML := bb_ML) (HD := bb_HD) 14 0 22020 56 [some (.ref 66), some (.ref 63), some (.int v2), some (.int v3), none] [.int t0] σ
set_option maxRecDepth 100000 in
set_option maxHeartbeats 1000000 in
theorem e_rd_readSum_2_p60_0 (σ : en_S) (v2 : Int32) : x_rd_readSum_2_p60_0 σ v2 =
    en_cV (x_rd_readProduct_2_p60_0 σ v2) (fun σ1 =>
      x_rd_readSum_2_p60_8 σ1 v2 0) (fun e σ => some (.inr e, σ)) := en_ex_un (G := bb_G) (P := bb_P) (ML := bb_ML) (HD := bb_HD) 8 0 22020 0 [some (.ref 66), some (.ref 60), some (.int v2), none, none] [] σ
set_option maxRecDepth 100000 in
set_option maxHeartbeats 1000000 in
theorem e_rd_readSum_2_p60_8 (σ : en_S) (v2 : Int32) (v3 : Int32) : x_rd_readSum_2_p60_8 σ v2 v3 =
    if (700 : Int32) ≤ v3 then
      some (.inl none, σ)
    else
      if σ.1 66 9 = 0 then
        en_cI (x_rd_isSign_0 σ 43) (fun r2 σ1 =>
          if r2 = 0 then
            en_cI (x_rd_isSign_0 σ1 45) (fun r4 σ3 =>
              if r4 = 0 then
                some (.inl none, σ3)
              else
                en_cI (x_rd_isSign_0 σ3 43) (fun r6 σ5 =>
                  if r6 = 0 then
                    x_rd_readSum_2_p60_56 σ5 v2 v3 (-14)
                  else
                    x_rd_readSum_2_p60_56 σ5 v2 v3 (-13)) (fun e σ => some (.inr e, σ))) (fun e σ => some (.inr e, σ))
          else
            en_cI (x_rd_isSign_0 σ1 43) (fun r8 σ7 =>
              if r8 = 0 then
                x_rd_readSum_2_p60_56 σ7 v2 v3 (-14)
              else
                x_rd_readSum_2_p60_56 σ7 v2 v3 (-13)) (fun e σ => some (.inr e, σ))) (fun e σ => some (.inr e, σ))
      else
        some (.inl none, σ) := en_ex_un (G := bb_G) (P := bb_P) (ML := bb_ML) (HD := bb_HD) 33 0 22020 8 [some (.ref 66), some (.ref 60), some (.int v2), some (.int v3), none] [] σ
set_option maxRecDepth 100000 in
set_option maxHeartbeats 1000000 in
theorem e_rd_readSum_2_p60_56 (σ : en_S) (v2 : Int32) (v3 : Int32) (t0 : Int32) : x_rd_readSum_2_p60_56 σ v2 v3 t0 =
    en_cV (x_rd_nextToken_0 σ) (fun σ1 =>
      en_cV (x_rd_readProduct_2_p60_0 σ1 v2) (fun σ2 =>
        en_cV (x_ru_add_p60_0 σ2 t0) (fun σ3 =>
          x_rd_readSum_2_p60_8 σ3 v2 (v3 + 1)) (fun e σ => some (.inr e, σ))) (fun e σ => some (.inr e, σ))) (fun e σ => some (.inr e, σ)) := en_ex_un (G := bb_G) (P := bb_P) (ML := bb_ML) (HD := bb_HD) 14 0 22020 56 [some (.ref 66), some (.ref 60), some (.int v2), some (.int v3), none] [.int t0] σ
set_option maxRecDepth 100000 in
set_option maxHeartbeats 1000000 in
theorem e_rd_readProduct_2_p63_0 (σ : en_S) (v2 : Int32) : x_rd_readProduct_2_p63_0 σ v2 =
    en_cV (x_rd_readPart_2_p63_0 σ v2) (fun σ1 =>
      x_rd_readProduct_2_p63_8 σ1 v2 0) (fun e σ => some (.inr e, σ)) := en_ex_un (G := bb_G) (P := bb_P) (ML := bb_ML) (HD := bb_HD) 8 0 22021 0 [some (.ref 66), some (.ref 63), some (.int v2), none, none] [] σ
set_option maxRecDepth 100000 in
set_option maxHeartbeats 1000000 in
theorem e_rd_readProduct_2_p63_8 (σ : en_S) (v2 : Int32) (v3 : Int32) : x_rd_readProduct_2_p63_8 σ v2 v3 =
    if (700 : Int32) ≤ v3 then
      some (.inl none, σ)
    else
      if σ.1 66 9 = 0 then
        en_cI (x_rd_isSign_0 σ 42) (fun r2 σ1 =>
          if r2 = 0 then
            en_cI (x_rd_isSign_0 σ1 47) (fun r4 σ3 =>
              if r4 = 0 then
                some (.inl none, σ3)
              else
                en_cI (x_rd_isSign_0 σ3 42) (fun r6 σ5 =>
                  if r6 = 0 then
                    x_rd_readProduct_2_p63_56 σ5 v2 v3 (-16)
                  else
                    x_rd_readProduct_2_p63_56 σ5 v2 v3 (-15)) (fun e σ => some (.inr e, σ))) (fun e σ => some (.inr e, σ))
          else
            en_cI (x_rd_isSign_0 σ1 42) (fun r8 σ7 =>
              if r8 = 0 then
                x_rd_readProduct_2_p63_56 σ7 v2 v3 (-16)
              else
                x_rd_readProduct_2_p63_56 σ7 v2 v3 (-15)) (fun e σ => some (.inr e, σ))) (fun e σ => some (.inr e, σ))
      else
        some (.inl none, σ) := en_ex_un (G := bb_G) (P := bb_P) (ML := bb_ML) (HD := bb_HD) 33 0 22021 8 [some (.ref 66), some (.ref 63), some (.int v2), some (.int v3), none] [] σ
set_option maxRecDepth 100000 in
set_option maxHeartbeats 1000000 in
theorem e_rd_readProduct_2_p63_56 (σ : en_S) (v2 : Int32) (v3 : Int32) (t0 : Int32) : x_rd_readProduct_2_p63_56 σ v2 v3 t0 =
    en_cV (x_rd_nextToken_0 σ) (fun σ1 =>
      en_cV (x_rd_readPart_2_p63_0 σ1 v2) (fun σ2 =>
        en_cV (x_ru_add_p63_0 σ2 t0) (fun σ3 =>
          x_rd_readProduct_2_p63_8 σ3 v2 (v3 + 1)) (fun e σ => some (.inr e, σ))) (fun e σ => some (.inr e, σ))) (fun e σ => some (.inr e, σ)) := en_ex_un (G := bb_G) (P := bb_P) (ML := bb_ML) (HD := bb_HD) 14 0 22021 56 [some (.ref 66), some (.ref 63), some (.int v2), some (.int v3), none] [.int t0] σ
set_option maxRecDepth 100000 in
set_option maxHeartbeats 1000000 in
theorem e_rd_readProduct_2_p60_0 (σ : en_S) (v2 : Int32) : x_rd_readProduct_2_p60_0 σ v2 =
    en_cV (x_rd_readPart_2_p60_0 σ v2) (fun σ1 =>
      x_rd_readProduct_2_p60_8 σ1 v2 0) (fun e σ => some (.inr e, σ)) := en_ex_un (G := bb_G) (P := bb_P) (ML := bb_ML) (HD := bb_HD) 8 0 22021 0 [some (.ref 66), some (.ref 60), some (.int v2), none, none] [] σ
set_option maxRecDepth 100000 in
set_option maxHeartbeats 1000000 in
theorem e_rd_readProduct_2_p60_8 (σ : en_S) (v2 : Int32) (v3 : Int32) : x_rd_readProduct_2_p60_8 σ v2 v3 =
    if (700 : Int32) ≤ v3 then
      some (.inl none, σ)
    else
      if σ.1 66 9 = 0 then
        en_cI (x_rd_isSign_0 σ 42) (fun r2 σ1 =>
          if r2 = 0 then
            en_cI (x_rd_isSign_0 σ1 47) (fun r4 σ3 =>
              if r4 = 0 then
                some (.inl none, σ3)
              else
                en_cI (x_rd_isSign_0 σ3 42) (fun r6 σ5 =>
                  if r6 = 0 then
                    x_rd_readProduct_2_p60_56 σ5 v2 v3 (-16)
                  else
                    x_rd_readProduct_2_p60_56 σ5 v2 v3 (-15)) (fun e σ => some (.inr e, σ))) (fun e σ => some (.inr e, σ))
          else
            en_cI (x_rd_isSign_0 σ1 42) (fun r8 σ7 =>
              if r8 = 0 then
                x_rd_readProduct_2_p60_56 σ7 v2 v3 (-16)
              else
                x_rd_readProduct_2_p60_56 σ7 v2 v3 (-15)) (fun e σ => some (.inr e, σ))) (fun e σ => some (.inr e, σ))
      else
        some (.inl none, σ) := en_ex_un (G := bb_G) (P := bb_P) (ML := bb_ML) (HD := bb_HD) 33 0 22021 8 [some (.ref 66), some (.ref 60), some (.int v2), some (.int v3), none] [] σ
set_option maxRecDepth 100000 in
set_option maxHeartbeats 1000000 in
theorem e_rd_readProduct_2_p60_56 (σ : en_S) (v2 : Int32) (v3 : Int32) (t0 : Int32) : x_rd_readProduct_2_p60_56 σ v2 v3 t0 =
    en_cV (x_rd_nextToken_0 σ) (fun σ1 =>
      en_cV (x_rd_readPart_2_p60_0 σ1 v2) (fun σ2 =>
        en_cV (x_ru_add_p60_0 σ2 t0) (fun σ3 =>
          x_rd_readProduct_2_p60_8 σ3 v2 (v3 + 1)) (fun e σ => some (.inr e, σ))) (fun e σ => some (.inr e, σ))) (fun e σ => some (.inr e, σ)) := en_ex_un (G := bb_G) (P := bb_P) (ML := bb_ML) (HD := bb_HD) 14 0 22021 56 [some (.ref 66), some (.ref 60), some (.int v2), some (.int v3), none] [.int t0] σ
set_option maxRecDepth 100000 in
set_option maxHeartbeats 1000000 in
theorem e_rd_readPart_2_p63_0 (σ : en_S) (v2 : Int32) : x_rd_readPart_2_p63_0 σ v2 =
    en_cI (x_rd_isSign_0 σ 40) (fun r2 σ1 =>
      if r2 = 0 then
        if σ1.1 66 5 = 2 then
          en_cI (x_rd_readNumber_0 σ1 0 9999) (fun r4 σ3 =>
            en_cV (x_ru_add_p63_0 σ3 r4) (fun σ5 =>
              some (.inl none, σ5)) (fun e σ => some (.inr e, σ))) (fun e σ => some (.inr e, σ))
        else
          if σ1.1 66 5 = 1 then
            en_cI (x_rd_valueStep_0 σ1) (fun r7 σ6 =>
              if r7 = 0 then
                en_cV (x_rd_refuse_0 σ6 3) (fun σ8 =>
                  some (.inl none, σ8)) (fun e σ => some (.inr e, σ))
              else
                en_cI (x_rd_valueStep_0 σ6) (fun r10 σ9 =>
                  en_cV (x_ru_add_p63_0 σ9 r10) (fun σ11 =>
                    en_cV (x_rd_nextToken_0 σ11) (fun σ12 =>
                      some (.inl none, σ12)) (fun e σ => some (.inr e, σ))) (fun e σ => some (.inr e, σ))) (fun e σ => some (.inr e, σ))) (fun e σ => some (.inr e, σ))
          else
            en_cV (x_rd_refuse_0 σ1 1) (fun σ13 =>
              some (.inl none, σ13)) (fun e σ => some (.inr e, σ))
      else
        en_cV (x_rd_nextToken_0 σ1) (fun σ14 =>
          en_cV (x_rd_readExpr_3_p63_0 σ14 (v2 + 1)) (fun σ15 =>
            en_cV (x_rd_readSign_0 σ15 41) (fun σ16 =>
              some (.inl none, σ16)) (fun e σ => some (.inr e, σ))) (fun e σ => some (.inr e, σ))) (fun e σ => some (.inr e, σ))) (fun e σ => some (.inr e, σ)) := en_ex_un (G := bb_G) (P := bb_P) (ML := bb_ML) (HD := bb_HD) 55 0 22022 0 [some (.ref 66), some (.ref 63), some (.int v2)] [] σ
set_option maxRecDepth 100000 in
set_option maxHeartbeats 1000000 in
theorem e_rd_readPart_2_p60_0 (σ : en_S) (v2 : Int32) : x_rd_readPart_2_p60_0 σ v2 =
    en_cI (x_rd_isSign_0 σ 40) (fun r2 σ1 =>
      if r2 = 0 then
        if σ1.1 66 5 = 2 then
          en_cI (x_rd_readNumber_0 σ1 0 9999) (fun r4 σ3 =>
            en_cV (x_ru_add_p60_0 σ3 r4) (fun σ5 =>
              some (.inl none, σ5)) (fun e σ => some (.inr e, σ))) (fun e σ => some (.inr e, σ))
        else
          if σ1.1 66 5 = 1 then
            en_cI (x_rd_valueStep_0 σ1) (fun r7 σ6 =>
              if r7 = 0 then
                en_cV (x_rd_refuse_0 σ6 3) (fun σ8 =>
                  some (.inl none, σ8)) (fun e σ => some (.inr e, σ))
              else
                en_cI (x_rd_valueStep_0 σ6) (fun r10 σ9 =>
                  en_cV (x_ru_add_p60_0 σ9 r10) (fun σ11 =>
                    en_cV (x_rd_nextToken_0 σ11) (fun σ12 =>
                      some (.inl none, σ12)) (fun e σ => some (.inr e, σ))) (fun e σ => some (.inr e, σ))) (fun e σ => some (.inr e, σ))) (fun e σ => some (.inr e, σ))
          else
            en_cV (x_rd_refuse_0 σ1 1) (fun σ13 =>
              some (.inl none, σ13)) (fun e σ => some (.inr e, σ))
      else
        en_cV (x_rd_nextToken_0 σ1) (fun σ14 =>
          en_cV (x_rd_readExpr_3_p60_0 σ14 (v2 + 1)) (fun σ15 =>
            en_cV (x_rd_readSign_0 σ15 41) (fun σ16 =>
              some (.inl none, σ16)) (fun e σ => some (.inr e, σ))) (fun e σ => some (.inr e, σ))) (fun e σ => some (.inr e, σ))) (fun e σ => some (.inr e, σ)) := en_ex_un (G := bb_G) (P := bb_P) (ML := bb_ML) (HD := bb_HD) 55 0 22022 0 [some (.ref 66), some (.ref 60), some (.int v2)] [] σ
set_option maxRecDepth 100000 in
set_option maxHeartbeats 1000000 in
theorem e_rd_readExpr_3_p63_0 (σ : en_S) (v2 : Int32) : x_rd_readExpr_3_p63_0 σ v2 =
    if v2 ≤ 5 then
      en_cV (x_rd_readAnd_3_p63_0 σ v2) (fun σ1 =>
        x_rd_readExpr_3_p63_48 σ1 v2 0) (fun e σ => some (.inr e, σ))
    else
      if σ.1 66 5 = 2 then
        en_cV (x_rd_refuse_0 σ 2) (fun σ2 =>
          some (.inl none, σ2)) (fun e σ => some (.inr e, σ))
      else
        if σ.1 66 5 = 1 then
          en_cV (x_rd_refuse_0 σ 2) (fun σ3 =>
            some (.inl none, σ3)) (fun e σ => some (.inr e, σ))
        else
          en_cI (x_rd_isSign_0 σ 40) (fun r5 σ4 =>
            if r5 = 0 then
              en_cV (x_rd_refuse_0 σ4 1) (fun σ6 =>
                some (.inl none, σ6)) (fun e σ => some (.inr e, σ))
            else
              en_cV (x_rd_refuse_0 σ4 2) (fun σ7 =>
                some (.inl none, σ7)) (fun e σ => some (.inr e, σ))) (fun e σ => some (.inr e, σ)) := en_ex_un (G := bb_G) (P := bb_P) (ML := bb_ML) (HD := bb_HD) 39 0 23017 0 [some (.ref 66), some (.ref 63), some (.int v2), none] [] σ
