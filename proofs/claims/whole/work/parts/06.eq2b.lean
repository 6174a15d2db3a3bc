/-! written by a program: each region's equation -/
set_option maxRecDepth 100000 in
set_option maxHeartbeats 1000000 in
theorem e_rd_readExpr_3_p63_48 (σ : en_S) (v2 : Int32) (v3 : Int32) : x_rd_readExpr_3_p63_48 σ v2 v3 =
    if (700 : Int32) ≤ v3 then
      some (.inl none, σ)
    else
      if σ.1 66 9 = 0 then
        en_cI (x_rd_isWord_p1008_0 σ) (fun r2 σ1 =>
          if r2 = 0 then
            some (.inl none, σ1)
          else
            en_cV (x_rd_nextToken_0 σ1) (fun σ3 =>
              en_cV (x_rd_readAnd_3_p63_0 σ3 v2) (fun σ4 =>
                en_cV (x_ru_add_p63_0 σ4 (-9)) (fun σ5 =>
                  x_rd_readExpr_3_p63_48 σ5 v2 (v3 + 1)) (fun e σ => some (.inr e, σ))) (fun e σ => some (.inr e, σ))) (fun e σ => some (.inr e, σ))) (fun e σ => some (.inr e, σ))
      else
        some (.inl none, σ) := en_ex_un (G := bb_G) (P := bb_P) (ML := bb_ML) (HD := bb_HD) 26 0 23017 48 [some (.ref 66), some (.ref 63), some (.int v2), some (.int v3)] [] σ
set_option maxRecDepth 100000 in
set_option maxHeartbeats 1000000 in
theorem e_rd_readExpr_3_p60_0 (σ : en_S) (v2 : Int32) : x_rd_readExpr_3_p60_0 σ v2 =
    if v2 ≤ 5 then
      en_cV (x_rd_readAnd_3_p60_0 σ v2) (fun σ1 =>
        x_rd_readExpr_3_p60_48 σ1 v2 0) (fun e σ => some (.inr e, σ))
    else
      if σ.1 66 5 = 2 then
        en_cV (x_rd_refuse_0 σ 2) (fun σ2 =>
          some (.inl none, σ2)) (fun e σ => some (.inr e, σ))
      else
        if σ.1 66 5 = 1 then
          en_cV (x_rd_refuse_0 σ 2) (fun σ3 =>
            some (.inl none, σ3)) (fun e σ => some (.inr e, σ))
        else
          en_cI (x_rd_isSign_0 σ 40) (fun r5 σ4 =>
            if r5 = 0 then
              en_cV (x_rd_refuse_0 σ4 1) (fun σ6 =>
                some (.inl none, σ6)) (fun e σ => some (.inr e, σ))
            else
              en_cV (x_rd_refuse_0 σ4 2) (fun σ7 =>
                some (.inl none, σ7)) (fun e σ => some (.inr e, σ))) (fun e σ => some (.inr e, σ)) := en_ex_un (G := bb_G) (P := bb_P) (ML := bb_ML) (HD := bb_HD) 39 0 23017 0 [some (.ref 66), some (.ref 60), some (.int v2), none] [] σ
set_option maxRecDepth 100000 in
set_option maxHeartbeats 1000000 in
theorem e_rd_readExpr_3_p60_48 (σ : en_S) (v2 : Int32) (v3 : Int32) : x_rd_readExpr_3_p60_48 σ v2 v3 =
    if (700 : Int32) ≤ v3 then
      some (.inl none, σ)
    else
      if σ.1 66 9 = 0 then
        en_cI (x_rd_isWord_p1008_0 σ) (fun r2 σ1 =>
          if r2 = 0 then
            some (.inl none, σ1)
          else
            en_cV (x_rd_nextToken_0 σ1) (fun σ3 =>
              en_cV (x_rd_readAnd_3_p60_0 σ3 v2) (fun σ4 =>
                en_cV (x_ru_add_p60_0 σ4 (-9)) (fun σ5 =>
                  x_rd_readExpr_3_p60_48 σ5 v2 (v3 + 1)) (fun e σ => some (.inr e, σ))) (fun e σ => some (.inr e, σ))) (fun e σ => some (.inr e, σ))) (fun e σ => some (.inr e, σ))
      else
        some (.inl none, σ) := en_ex_un (G := bb_G) (P := bb_P) (ML := bb_ML) (HD := bb_HD) 26 0 23017 48 [some (.ref 66), some (.ref 60), some (.int v2), some (.int v3)] [] σ
set_option maxRecDepth 100000 in
set_option maxHeartbeats 1000000 in
theorem e_rd_readAnd_3_p63_0 (σ : en_S) (v2 : Int32) : x_rd_readAnd_3_p63_0 σ v2 =
    en_cV (x_rd_readNot_3_p63_0 σ v2) (fun σ1 =>
      x_rd_readAnd_3_p63_8 σ1 v2 0) (fun e σ => some (.inr e, σ)) := en_ex_un (G := bb_G) (P := bb_P) (ML := bb_ML) (HD := bb_HD) 8 0 23018 0 [some (.ref 66), some (.ref 63), some (.int v2), none] [] σ
set_option maxRecDepth 100000 in
set_option maxHeartbeats 1000000 in
theorem e_rd_readAnd_3_p63_8 (σ : en_S) (v2 : Int32) (v3 : Int32) : x_rd_readAnd_3_p63_8 σ v2 v3 =
    if (700 : Int32) ≤ v3 then
      some (.inl none, σ)
    else
      if σ.1 66 9 = 0 then
        en_cI (x_rd_isWord_p1009_0 σ) (fun r2 σ1 =>
          if r2 = 0 then
            some (.inl none, σ1)
          else
            en_cV (x_rd_nextToken_0 σ1) (fun σ3 =>
              en_cV (x_rd_readNot_3_p63_0 σ3 v2) (fun σ4 =>
                en_cV (x_ru_add_p63_0 σ4 (-10)) (fun σ5 =>
                  x_rd_readAnd_3_p63_8 σ5 v2 (v3 + 1)) (fun e σ => some (.inr e, σ))) (fun e σ => some (.inr e, σ))) (fun e σ => some (.inr e, σ))) (fun e σ => some (.inr e, σ))
      else
        some (.inl none, σ) := en_ex_un (G := bb_G) (P := bb_P) (ML := bb_ML) (HD := bb_HD) 26 0 23018 8 [some (.ref 66), some (.ref 63), some (.int v2), some (.int v3)] [] σ
set_option maxRecDepth 100000 in
set_option maxHeartbeats 1000000 in
theorem e_rd_readAnd_3_p60_0 (σ : en_S) (v2 : Int32) : x_rd_readAnd_3_p60_0 σ v2 =
    en_cV (x_rd_readNot_3_p60_0 σ v2) (fun σ1 =>
      x_rd_readAnd_3_p60_8 σ1 v2 0) (fun e σ => some (.inr e, σ)) := en_ex_un (G := bb_G) (P := bb_P) (ML := bb_ML) (HD := bb_HD) 8 0 23018 0 [some (.ref 66), some (.ref 60), some (.int v2), none] [] σ
set_option maxRecDepth 100000 in
set_option maxHeartbeats 1000000 in
theorem e_rd_readAnd_3_p60_8 (σ : en_S) (v2 : Int32) (v3 : Int32) : x_rd_readAnd_3_p60_8 σ v2 v3 =
    if (700 : Int32) ≤ v3 then
      some (.inl none, σ)
    else
      if σ.1 66 9 = 0 then
        en_cI (x_rd_isWord_p1009_0 σ) (fun r2 σ1 =>
          if r2 = 0 then
            some (.inl none, σ1)
          else
            en_cV (x_rd_nextToken_0 σ1) (fun σ3 =>
              en_cV (x_rd_readNot_3_p60_0 σ3 v2) (fun σ4 =>
                en_cV (x_ru_add_p60_0 σ4 (-10)) (fun σ5 =>
                  x_rd_readAnd_3_p60_8 σ5 v2 (v3 + 1)) (fun e σ => some (.inr e, σ))) (fun e σ => some (.inr e, σ))) (fun e σ => some (.inr e, σ))) (fun e σ => some (.inr e, σ))
      else
        some (.inl none, σ) := en_ex_un (G := bb_G) (P := bb_P) (ML := bb_ML) (HD := bb_HD) 26 0 23018 8 [some (.ref 66), some (.ref 60), some (.int v2), some (.int v3)] [] σ
set_option maxRecDepth 100000 in
set_option maxHeartbeats 1000000 in
theorem e_rd_readNot_3_p63_0 (σ : en_S) (v2 : Int32) : x_rd_readNot_3_p63_0 σ v2 =
    x_rd_readNot_3_p63_2 σ v2 0 := en_ex_un (G := bb_G) (P := bb_P) (ML := bb_ML) (HD := bb_HD) 4 0 23019 0 [some (.ref 66), some (.ref 63), some (.int v2), none, none] [] σ
set_option maxRecDepth 100000 in
set_option maxHeartbeats 1000000 in
theorem e_rd_readNot_3_p63_2 (σ : en_S) (v2 : Int32) (v3 : Int32) : x_rd_readNot_3_p63_2 σ v2 v3 =
    if (6 : Int32) ≤ v3 then
      en_cI (x_rd_isWord_p1010_0 σ) (fun r2 σ1 =>
        if r2 = 0 then
          en_cV (x_rd_readSum_3_p63_0 σ1 v2) (fun σ3 =>
            if σ3.1 66 9 = 0 then
              en_cI (x_rd_isSign_0 σ3 60) (fun r5 σ4 =>
                if r5 = 0 then
                  en_cI (x_rd_isSign_0 σ4 61) (fun r7 σ6 =>
                    if r7 = 0 then
                      x_rd_readNot_3_p63_110 σ6 v3 0
                    else
                      x_rd_readNot_3_p63_73 σ6 v2 v3) (fun e σ => some (.inr e, σ))
                else
                  x_rd_readNot_3_p63_73 σ4 v2 v3) (fun e σ => some (.inr e, σ))
            else
              x_rd_readNot_3_p63_110 σ3 v3 0) (fun e σ => some (.inr e, σ))
        else
          en_cV (x_rd_refuse_0 σ1 2) (fun σ8 =>
            some (.inl none, σ8)) (fun e σ => some (.inr e, σ))) (fun e σ => some (.inr e, σ))
    else
      en_cI (x_rd_isWord_p1010_0 σ) (fun r10 σ9 =>
        if r10 = 0 then
          en_cI (x_rd_isWord_p1010_0 σ9) (fun r12 σ11 =>
            if r12 = 0 then
              en_cV (x_rd_readSum_3_p63_0 σ11 v2) (fun σ13 =>
                if σ13.1 66 9 = 0 then
                  en_cI (x_rd_isSign_0 σ13 60) (fun r15 σ14 =>
                    if r15 = 0 then
                      en_cI (x_rd_isSign_0 σ14 61) (fun r17 σ16 =>
                        if r17 = 0 then
                          x_rd_readNot_3_p63_110 σ16 v3 0
                        else
                          x_rd_readNot_3_p63_73 σ16 v2 v3) (fun e σ => some (.inr e, σ))
                    else
                      x_rd_readNot_3_p63_73 σ14 v2 v3) (fun e σ => some (.inr e, σ))
                else
                  x_rd_readNot_3_p63_110 σ13 v3 0) (fun e σ => some (.inr e, σ))
            else
              en_cV (x_rd_refuse_0 σ11 2) (fun σ18 =>
                some (.inl none, σ18)) (fun e σ => some (.inr e, σ))) (fun e σ => some (.inr e, σ))
        else
          en_cV (x_rd_nextToken_0 σ9) (fun σ19 =>
            x_rd_readNot_3_p63_2 σ19 v2 (v3 + 1)) (fun e σ => some (.inr e, σ))) (fun e σ => some (.inr e, σ)) := en_ex_un (G := bb_G) (P := bb_P) (ML := bb_ML) (HD := bb_HD) 67 0 23019 2 [some (.ref 66), some (.ref 63), some (.int v2), some (.int v3), none] [] σ
set_option maxRecDepth 100000 in
set_option maxHeartbeats 1000000 in
theorem e_rd_readNot_3_p63_73 (σ : en_S) (v2 : Int32) (v3 : Int32) : x_rd_readNot_3_p63_73 σ v2 v3 =
    en_cI (x_rd_isSign_0 σ 60) (fun r2 σ1 =>
      if r2 = 0 then
        en_cV (x_rd_nextToken_0 σ1) (fun σ3 =>
          en_cV (x_rd_readSum_3_p63_0 σ3 v2) (fun σ4 =>
            en_cV (x_ru_add_p63_0 σ4 (-12)) (fun σ5 =>
              x_rd_readNot_3_p63_110 σ5 v3 0) (fun e σ => some (.inr e, σ))) (fun e σ => some (.inr e, σ))) (fun e σ => some (.inr e, σ))
      else
        en_cV (x_rd_nextToken_0 σ1) (fun σ6 =>
          en_cV (x_rd_readSum_3_p63_0 σ6 v2) (fun σ7 =>
            en_cV (x_ru_add_p63_0 σ7 (-11)) (fun σ8 =>
              x_rd_readNot_3_p63_110 σ8 v3 0) (fun e σ => some (.inr e, σ))) (fun e σ => some (.inr e, σ))) (fun e σ => some (.inr e, σ))) (fun e σ => some (.inr e, σ)) := en_ex_un (G := bb_G) (P := bb_P) (ML := bb_ML) (HD := bb_HD) 33 0 23019 73 [some (.ref 66), some (.ref 63), some (.int v2), some (.int v3), none] [] σ
set_option maxRecDepth 100000 in
set_option maxHeartbeats 1000000 in
theorem e_rd_readNot_3_p63_110 (σ : en_S) (v3 : Int32) (v4 : Int32) : x_rd_readNot_3_p63_110 σ v3 v4 =
    if v3 ≤ v4 then
      some (.inl none, σ)
    else
      en_cV (x_ru_add_p63_0 σ (-8)) (fun σ1 =>
        x_rd_readNot_3_p63_110 σ1 v3 (v4 + 1)) (fun e σ => some (.inr e, σ)) := en_ex_un (G := bb_G) (P := bb_P) (ML := bb_ML) (HD := bb_HD) 11 0 23019 110 [none, some (.ref 63), none, some (.int v3), some (.int v4)] [] σ
set_option maxRecDepth 100000 in
set_option maxHeartbeats 1000000 in
theorem e_rd_readNot_3_p60_0 (σ : en_S) (v2 : Int32) : x_rd_readNot_3_p60_0 σ v2 =
    x_rd_readNot_3_p60_2 σ v2 0 := en_ex_un (G := bb_G) (P := bb_P) (ML := bb_ML) (HD := bb_HD) 4 0 23019 0 [some (.ref 66), some (.ref 60), some (.int v2), none, none] [] σ
set_option maxRecDepth 100000 in
set_option maxHeartbeats 1000000 in
theorem e_rd_readNot_3_p60_2 (σ : en_S) (v2 : Int32) (v3 : Int32) : x_rd_readNot_3_p60_2 σ v2 v3 =
    if (6 : Int32) ≤ v3 then
      en_cI (x_rd_isWord_p1010_0 σ) (fun r2 σ1 =>
        if r2 = 0 then
          en_cV (x_rd_readSum_3_p60_0 σ1 v2) (fun σ3 =>
            if σ3.1 66 9 = 0 then
              en_cI (x_rd_isSign_0 σ3 60) (fun r5 σ4 =>
                if r5 = 0 then
                  en_cI (x_rd_isSign_0 σ4 61) (fun r7 σ6 =>
                    if r7 = 0 then
                      x_rd_readNot_3_p60_110 σ6 v3 0
                    else
                      x_rd_readNot_3_p60_73 σ6 v2 v3) (fun e σ => some (.inr e, σ))
                else
                  x_rd_readNot_3_p60_73 σ4 v2 v3) (fun e σ => some (.inr e, σ))
            else
              x_rd_readNot_3_p60_110 σ3 v3 0) (fun e σ => some (.inr e, σ))
        else
          en_cV (x_rd_refuse_0 σ1 2) (fun σ8 =>
            some (.inl none, σ8)) (fun e σ => some (.inr e, σ))) (fun e σ => some (.inr e, σ))
    else
      en_cI (x_rd_isWord_p1010_0 σ) (fun r10 σ9 =>
        if r10 = 0 then
          en_cI (x_rd_isWord_p1010_0 σ9) (fun r12 σ11 =>
            if r12 = 0 then
              en_cV (x_rd_readSum_3_p60_0 σ11 v2) (fun σ13 =>
                if σ13.1 66 9 = 0 then
                  en_cI (x_rd_isSign_0 σ13 60) (fun r15 σ14 =>
                    if r15 = 0 then
                      en_cI (x_rd_isSign_0 σ14 61) (fun r17 σ16 =>
                        if r17 = 0 then
                          x_rd_readNot_3_p60_110 σ16 v3 0
                        else
                          x_rd_readNot_3_p60_73 σ16 v2 v3) (fun e σ => some (.inr e, σ))
                    else
                      x_rd_readNot_3_p60_73 σ14 v2 v3) (fun e σ => some (.inr e, σ))
                else
                  x_rd_readNot_3_p60_110 σ13 v3 0) (fun e σ => some (.inr e, σ))
            else
              en_cV (x_rd_refuse_0 σ11 2) (fun σ18 =>
                some (.inl none, σ18)) (fun e σ => some (.inr e, σ))) (fun e σ => some (.inr e, σ))
        else
          en_cV (x_rd_nextToken_0 σ9) (fun σ19 =>
            x_rd_readNot_3_p60_2 σ19 v2 (v3 + 1)) (fun e σ => some (.inr e, σ))) (fun e σ => some (.inr e, σ)) := en_ex_un (G := bb_G) (P := bb_P) (ML := bb_ML) (HD := bb_HD) 67 0 23019 2 [some (.ref 66), some (.ref 60), some (.int v2), some (.int v3), none] [] σ
set_option maxRecDepth 100000 in
set_option maxHeartbeats 1000000 in
theorem e_rd_readNot_3_p60_73 (σ : en_S) (v2 : Int32) (v3 : Int32) : x_rd_readNot_3_p60_73 σ v2 v3 =
    en_cI (x_rd_isSign_0 σ 60) (fun r2 σ1 =>
      if r2 = 0 then
        en_cV (x_rd_nextToken_0 σ1) (fun σ3 =>
          en_cV (x_rd_readSum_3_p60_0 σ3 v2) (fun σ4 =>
            en_cV (x_ru_add_p60_0 σ4 (-12)) (fun σ5 =>
              x_rd_readNot_3_p60_110 σ5 v3 0) (fun e σ => some (.inr e, σ))) (fun e σ => some (.inr e, σ))) (fun e σ => some (.inr e, σ))
      else
        en_cV (x_rd_nextToken_0 σ1) (fun σ6 =>
          en_cV (x_rd_readSum_3_p60_0 σ6 v2) (fun σ7 =>
            en_cV (x_ru_add_p60_0 σ7 (-11)) (fun σ8 =>
              x_rd_readNot_3_p60_110 σ8 v3 0) (fun e σ => some (.inr e, σ))) (fun e σ => some (.inr e, σ))) (fun e σ => some (.inr e, σ))) (fun e σ => some (.inr e, σ)) := en_ex_un (G := bb_G) (P := bb_P) (ML := bb_ML) (HD := bb_HD) 33 0 23019 73 [some (.ref 66), some (.ref 60), some (.int v2), some (.int v3), none] [] σ
set_option maxRecDepth 100000 in
set_option maxHeartbeats 1000000 in
theorem e_rd_readNot_3_p60_110 (σ : en_S) (v3 : Int32) (v4 : Int32) : x_rd_readNot_3_p60_110 σ v3 v4 =
    if v3 ≤ v4 then
      some (.inl none, σ)
    else
      en_cV (x_ru_add_p60_0 σ (-8)) (fun σ1 =>
        x_rd_readNot_3_p60_110 σ1 v3 (v4 + 1)) (fun e σ => some (.inr e, σ)) := en_ex_un (G := bb_G) (P := bb_P) (ML := bb_ML) (HD := bb_HD) 11 0 23019 110 [none, some (.ref 60), none, some (.int v3), some (.int v4)] [] σ
set_option maxRecDepth 100000 in
set_option maxHeartbeats 1000000 in
theorem e_rd_readSum_3_p63_0 (σ : en_S) (v2 : Int32) : x_rd_readSum_3_p63_0 σ v2 =
    en_cV (x_rd_readProduct_3_p63_0 σ v2) (fun σ1 =>
      x_rd_readSum_3_p63_8 σ1 v2 0) (fun e σ => some (.inr e, σ)) := en_ex_un (G := bb_G) (P := bb_P) (ML := bb_ML) (HD := bb_HD) 8 0 23020 0 [some (.ref 66), some (.ref 63), some (.int v2), none, none] [] σ
set_option maxRecDepth 100000 in
set_option maxHeartbeats 1000000 in
theorem e_rd_readSum_3_p63_8 (σ : en_S) (v2 : Int32) (v3 : Int32) : x_rd_readSum_3_p63_8 σ v2 v3 =
    if (700 : Int32) ≤ v3 then
      some (.inl none, σ)
    else
      if σ.1 66 9 = 0 then
        en_cI (x_rd_isSign_0 σ 43) (fun r2 σ1 =>
          if r2 = 0 then
            en_cI (x_rd_isSign_0 σ1 45) (fun r4 σ3 =>
              if r4 = 0 then
                some (.inl none, σ3)
              else
                en_cI (x_rd_isSign_0 σ3 43) (fun r6 σ5 =>
                  if r6 = 0 then
                    x_rd_readSum_3_p63_56 σ5 v2 v3 (-14)
                  else
                    x_rd_readSum_3_p63_56 σ5 v2 v3 (-13)) (fun e σ => some (.inr e, σ))) (fun e σ => some (.inr e, σ))
          else
            en_cI (x_rd_isSign_0 σ1 43) (fun r8 σ7 =>
              if r8 = 0 then
                x_rd_readSum_3_p63_56 σ7 v2 v3 (-14)
              else
                x_rd_readSum_3_p63_56 σ7 v2 v3 (-13)) (fun e σ => some (.inr e, σ))) (fun e σ => some (.inr e, σ))
      else
        some (.inl none, σ) := en_ex_un (G := bb_G) (P := bb_P) (ML := bb_ML) (HD := bb_HD) 33 0 23020 8 [some (.ref 66), some (.ref 63), some (.int v2), some (.int v3), none] [] σ
set_option maxRecDepth 100000 in
set_option maxHeartbeats 1000000 in
theorem e_rd_readSum_3_p63_56 (σ : en_S) (v2 : Int32) (v3 : Int32) (t0 : Int32) : x_rd_readSum_3_p63_56 σ v2 v3 t0 =
    en_cV (x_rd_nextToken_0 σ) (fun σ1 =>
      en_cV (x_rd_readProduct_3_p63_0 σ1 v2) (fun σ2 =>
        en_cV (x_ru_add_p63_0 σ2 t0) (fun σ3 =>
          x_rd_readSum_3_p63_8 σ3 v2 (v3 + 1)) (fun e σ => some (.inr e, σ))) (fun e σ => some (.inr e, σ))) (fun e σ => some (.inr e, σ)) := en_ex_un (G := bb_G) (P := bb_P) (ML := bb_ML) (HD := bb_HD) 14 0 23020 56 [some (.ref 66), some (.ref 63), some (.int v2), some (.int v3), none] [.int t0] σ
set_option maxRecDepth 100000 in
set_option maxHeartbeats 1000000 in
theorem e_rd_readSum_3_p60_0 (σ : en_S) (v2 : Int32) : x_rd_readSum_3_p60_0 σ v2 =
    en_cV (x_rd_readProduct_3_p60_0 σ v2) (fun σ1 =>
      x_rd_readSum_3_p60_8 σ1 v2 0) (fun e σ => some (.inr e, σ)) := en_ex_un (G := bb_G) (P := bb_P) (ML := bb_ML) (HD := bb_HD) 8 0 23020 0 [some (.ref 66), some (.ref 60), some (.int v2), none, none] [] σ
set_option maxRecDepth 100000 in
set_option maxHeartbeats 1000000 in
theorem e_rd_readSum_3_p60_8 (σ : en_S) (v2 : Int32) (v3 : Int32) : x_rd_readSum_3_p60_8 σ v2 v3 =
    if (700 : Int32) ≤ v3 then
      some (.inl none, σ)
    else
      if σ.1 66 9 = 0 then
        en_cI (x_rd_isSign_0 σ 43) (fun r2 σ1 =>
          if r2 = 0 then
            en_cI (x_rd_isSign_0 σ1 45) (fun r4 σ3 =>
              if r4 = 0 then
                some (.inl none, σ3)
              else
                en_cI (x_rd_isSign_0 σ3 43) (fun r6 σ5 =>
                  if r6 = 0 then
                    x_rd_readSum_3_p60_56 σ5 v2 v3 (-14)
                  else
                    x_rd_readSum_3_p60_56 σ5 v2 v3 (-13)) (fun e σ => some (.inr e, σ))) (fun e σ => some (.inr e, σ))
          else
            en_cI (x_rd_isSign_0 σ1 43) (fun r8 σ7 =>
              if r8 = 0 then
                x_rd_readSum_3_p60_56 σ7 v2 v3 (-14)
              else
                x_rd_readSum_3_p60_56 σ7 v2 v3 (-13)) (fun e σ => some (.inr e, σ))) (fun e σ => some (.inr e, σ))
      else
        some (.inl none, σ) := en_ex_un (G := bb_G) (P := bb_P) (ML := bb_ML) (HD := bb_HD) 33 0 23020 8 [some (.ref 66), some (.ref 60), some (.int v2), some (.int v3), none] [] σ
set_option maxRecDepth 100000 in
set_option maxHeartbeats 1000000 in
theorem e_rd_readSum_3_p60_56 (σ : en_S) (v2 : Int32) (v3 : Int32) (t0 : Int32) : x_rd_readSum_3_p60_56 σ v2 v3 t0 =
    en_cV (x_rd_nextToken_0 σ) (fun σ1 =>
      en_cV (x_rd_readProduct_3_p60_0 σ1 v2) (fun σ2 =>
        en_cV (x_ru_add_p60_0 σ2 t0) (fun σ3 =>
          x_rd_readSum_3_p60_8 σ3 v2 (v3 + 1)) (fun e σ => some (.inr e, σ))) (fun e σ => some (.inr e, σ))) (fun e σ => some (.inr e, σ)) := en_ex_un (G := bb_G) (P := bb_P) (ML := bb_ML) (HD := bb_HD) 14 0 23020 56 [some (.ref 66), some (.ref 60), some (.int v2), some (.int v3), none] [.int t0] σ
set_option maxRecDepth 100000 in
set_option maxHeartbeats 1000000 in
theorem e_rd_readProduct_3_p63_0 (σ : en_S) (v2 : Int32) : x_rd_readProduct_3_p63_0 σ v2 =
    en_cV (x_rd_readPart_3_p63_0 σ v2) (fun σ1 =>
      x_rd_readProduct_3_p63_8 σ1 v2 0) (fun e σ => some (.inr e, σ)) := en_ex_un (G := bb_G) (P := bb_P) (ML := bb_ML) (HD := bb_HD) 8 0 23021 0 [some (.ref 66), some (.ref 63), some (.int v2), none, none] [] σ
set_option maxRecDepth 100000 in
set_option maxHeartbeats 1000000 in
theorem e_rd_readProduct_3_p63_8 (σ : en_S) (v2 : Int32) (v3 : Int32) : x_rd_readProduct_3_p63_8 σ v2 v3 =
    if (700 : Int32) ≤ v3 then
      some (.inl none, σ)
    else
      if σ.1 66 9 = 0 then
        en_cI (x_rd_isSign_0 σ 42) (fun r2 σ1 =>
          if r2 = 0 then
            en_cI (x_rd_isSign_0 σ1 47) (fun r4 σ3 =>
              if r4 = 0 then
                some (.inl none, σ3)
              else
                en_cI (x_rd_isSign_0 σ3 42) (fun r6 σ5 =>
                  if r6 = 0 then
                    x_rd_readProduct_3_p63_56 σ5 v2 v3 (-16)
                  else
                    x_rd_readProduct_3_p63_56 σ5 v2 v3 (-15)) (fun e σ => some (.inr e, σ))) (fun e σ => some (.inr e, σ))
          else
            en_cI (x_rd_isSign_0 σ1 42) (fun r8 σ7 =>
              if r8 = 0 then
                x_rd_readProduct_3_p63_56 σ7 v2 v3 (-16)
              else
                x_rd_readProduct_3_p63_56 σ7 v2 v3 (-15)) (fun e σ => some (.inr e, σ))) (fun e σ => some (.inr e, σ))
      else
        some (.inl none, σ) := en_ex_un (G := bb_G) (P := bb_P) (ML := bb_ML) (HD := bb_HD) 33 0 23021 8 [some (.ref 66), some (.ref 63), some (.int v2), some (.int v3), none] [] σ
set_option maxRecDepth 100000 in
set_option maxHeartbeats 1000000 in
theorem e_rd_readProduct_3_p63_56 (σ : en_S) (v2 : Int32) (v3 : Int32) (t0 : Int32) : x_rd_readProduct_3_p63_56 σ v2 v3 t0 =
    en_cV (x_rd_nextToken_0 σ) (fun σ1 =>
      en_cV (x_rd_readPart_3_p63_0 σ1 v2) (fun σ2 =>
        en_cV (x_ru_add_p63_0 σ2 t0) (fun σ3 =>
          x_rd_readProduct_3_p63_8 σ3 v2 (v3 + 1)) (fun e σ => some (.inr e, σ))) (fun e σ => some (.inr e, σ))) (fun e σ => some (.inr e, σ)) := en_ex_un (G := bb_G) (P := bb_P) (ML := bb_ML) (HD := bb_HD) 14 0 23021 56 [some (.ref 66), some (.ref 63), some (.int v2), some (.int v3), none] [.int t0] σ
set_option maxRecDepth 100000 in
set_option maxHeartbeats 1000000 in
theorem e_rd_readProduct_3_p60_0 (σ : en_S) (v2 : Int32) : x_rd_readProduct_3_p60_0 σ v2 =
    en_cV (x_rd_readPart_3_p60_0 σ v2) (fun σ1 =>
      x_rd_readProduct_3_p60_8 σ1 v2 0) (fun e σ => some (.inr e, σ)) := en_ex_un (G := bb_G) (P := bb_P) (ML := bb_ML) (HD := bb_HD) 8 0 23021 0 [some (.ref 66), some (.ref 60), some (.int v2), none, none] [] σ
set_option maxRecDepth 100000 in
set_option maxHeartbeats 1000000 in
theorem e_rd_readProduct_3_p60_8 (σ : en_S) (v2 : Int32) (v3 : Int32) : x_rd_readProduct_3_p60_8 σ v2 v3 =
    if (700 : Int32) ≤ v3 then
      some (.inl none, σ)
    else
      if σ.1 66 9 = 0 then
        en_cI (x_rd_isSign_0 σ 42) (fun r2 σ1 =>
          if r2 = 0 then
            en_cI (x_rd_isSign_0 σ1 47) (fun r4 σ3 =>
              if r4 = 0 then
                some (.inl none, σ3)
              else
                en_cI (x_rd_isSign_0 σ3 42) (fun r6 σ5 =>
                  if r6 = 0 then
                    x_rd_readProduct_3_p60_56 σ5 v2 v3 (-16)
                  else
                    x_rd_readProduct_3_p60_56 σ5 v2 v3 (-15)) (fun e σ => some (.inr e, σ))) (fun e σ => some (.inr e, σ))
          else
            en_cI (x_rd_isSign_0 σ1 42) (fun r8 σ7 =>
              if r8 = 0 then
                x_rd_readProduct_3_p60_56 σ7 v2 v3 (-16)
              else
                x_rd_readProduct_3_p60_56 σ7 v2 v3 (-15)) (fun e σ => some (.inr e, σ))) (fun e σ => some (.inr e, σ))
      else
        some (.inl none, σ) := en_ex_un (G := bb_G) (P := bb_P) (ML := bb_ML) (HD := bb_HD) 33 0 23021 8 [some (.ref 66), some (.ref 60), some (.int v2), some (.int v3), none] [] σ
set_option maxRecDepth 100000 in
set_option maxHeartbeats 1000000 in
theorem e_rd_readProduct_3_p60_56 (σ : en_S) (v2 : Int32) (v3 : Int32) (t0 : Int32) : x_rd_readProduct_3_p60_56 σ v2 v3 t0 =
    en_cV (x_rd_nextToken_0 σ) (fun σ1 =>
      en_cV (x_rd_readPart_3_p60_0 σ1 v2) (fun σ2 =>
        en_cV (x_ru_add_p60_0 σ2 t0) (fun σ3 =>
          x_rd_readProduct_3_p60_8 σ3 v2 (v3 + 1)) (fun e σ => some (.inr e, σ))) (fun e σ => some (.inr e, σ))) (fun e σ => some (.inr e, σ)) := en_ex_un (G := bb_G) (P := bb_P) (ML := bb_ML) (HD := bb_HD) 14 0 23021 56 [some (.ref 66), some (.ref 60), some (.int v2), some (.int v3), none] [.int t0] σ
set_option maxRecDepth 100000 in
set_option maxHeartbeats 1000000 in
theorem e_rd_readPart_3_p63_0 (σ : en_S) (v2 : Int32) : x_rd_readPart_3_p63_0 σ v2 =
    en_cI (x_rd_isSign_0 σ 40) (fun r2 σ1 =>
      if r2 = 0 then
        if σ1.1 66 5 = 2 then
          en_cI (x_rd_readNumber_0 σ1 0 9999) (fun r4 σ3 =>
            en_cV (x_ru_add_p63_0 σ3 r4) (fun σ5 =>
              some (.inl none, σ5)) (fun e σ => some (.inr e, σ))) (fun e σ => some (.inr e, σ))
        else
          if σ1.1 66 5 = 1 then
            en_cI (x_rd_valueStep_0 σ1) (fun r7 σ6 =>
              if r7 = 0 then
                en_cV (x_rd_refuse_0 σ6 3) (fun σ8 =>
                  some (.inl none, σ8)) (fun e σ => some (.inr e, σ))
              else
                en_cI (x_rd_valueStep_0 σ6) (fun r10 σ9 =>
                  en_cV (x_ru_add_p63_0 σ9 r10) (fun σ11 =>
                    en_cV (x_rd_nextToken_0 σ11) (fun σ12 =>
                      some (.inl none, σ12)) (fun e σ => some (.inr e, σ))) (fun e σ => some (.inr e, σ))) (fun e σ => some (.inr e, σ))) (fun e σ => some (.inr e, σ))
          else
            en_cV (x_rd_refuse_0 σ1 1) (fun σ13 =>
              some (.inl none, σ13)) (fun e σ => some (.inr e, σ))
      else
        en_cV (x_rd_nextToken_0 σ1) (fun σ14 =>
          en_cV (x_rd_readExpr_4_p63_0 σ14 (v2 + 1)) (fun σ15 =>
            en_cV (x_rd_readSign_0 σ15 41) (fun σ16 =>
              some (.inl none, σ16)) (fun e σ => some (.inr e, σ))) (fun e σ => some (.inr e, σ))) (fun e σ => some (.inr e, σ))) (fun e σ => some (.inr e, σ)) := en_ex_un (G := bb_G) (P := bb_P) (ML := bb_ML) (HD := bb_HD) 55 0 23022 0 [some (.ref 66), some (.ref 63), some (.int v2)] [] σ
set_option maxRecDepth 100000 in
set_option maxHeartbeats 1000000 in
theorem e_rd_readPart_3_p60_0 (σ : en_S) (v2 : Int32) : x_rd_readPart_3_p60_0 σ v2 =
    en_cI (x_rd_isSign_0 σ 40) (fun r2 σ1 =>
      if r2 = 0 then
        if σ1.1 66 5 = 2 then
          en_cI (x_rd_readNumber_0 σ1 0 9999) (fun r4 σ3 =>
            en_cV (x_ru_add_p60_0 σ3 r4) (fun σ5 =>
              some (.inl none, σ5)) (fun e σ => some (.inr e, σ))) (fun e σ => some (.inr e, σ))
        else
          if σ1.1 66 5 = 1 then
            en_cI (x_rd_valueStep_0 σ1) (fun r7 σ6 =>
              if r7 = 0 then
                en_cV (x_rd_refuse_0 σ6 3) (fun σ8 =>
                  some (.inl none, σ8)) (fun e σ => some (.inr e, σ))
              else
                en_cI (x_rd_valueStep_0 σ6) (fun r10 σ9 =>
                  en_cV (x_ru_add_p60_0 σ9 r10) (fun σ11 =>
                    en_cV (x_rd_nextToken_0 σ11) (fun σ12 =>
                      some (.inl none, σ12)) (fun e σ => some (.inr e, σ))) (fun e σ => some (.inr e, σ))) (fun e σ => some (.inr e, σ))) (fun e σ => some (.inr e, σ))
          else
            en_cV (x_rd_refuse_0 σ1 1) (fun σ13 =>
              some (.inl none, σ13)) (fun e σ => some (.inr e, σ))
      else
        en_cV (x_rd_nextToken_0 σ1) (fun σ14 =>
          en_cV (x_rd_readExpr_4_p60_0 σ14 (v2 + 1)) (fun σ15 =>
            en_cV (x_rd_readSign_0 σ15 41) (fun σ16 =>
              some (.inl none, σ16)) (fun e σ => some (.inr e, σ))) (fun e σ => some (.inr e, σ))) (fun e σ => some (.inr e, σ))) (fun e σ => some (.inr e, σ)) := en_ex_un (G := bb_G) (P := bb_P) (ML := bb_ML) (HD := bb_HD) 55 0 23022 0 [some (.ref 66), some (.ref 60), some (.int v2)] [] σ
set_option maxRecDepth 100000 in
set_option maxHeartbeats 1000000 in
theorem e_rd_readExpr_4_p63_0 (σ : en_S) (v2 : Int32) : x_rd_readExpr_4_p63_0 σ v2 =
    if v2 ≤ 5 then
      en_cV (x_rd_readAnd_4_p63_0 σ v2) (fun σ1 =>
        x_rd_readExpr_4_p63_48 σ1 v2 0) (fun e σ => some (.inr e, σ))
    else
      if σ.1 66 5 = 2 then
        en_cV (x_rd_refuse_0 σ 2) (fun σ2 =>
          some (.inl none, σ2)) (fun e σ => some (.inr e, σ))
      else
        if σ.1 66 5 = 1 then
          en_cV (x_rd_refuse_0 σ 2) (fun σ3 =>
            some (.inl none, σ3)) (fun e σ => some (.inr e, σ))
        else
          en_cI (x_rd_isSign_0 σ 40) (fun r5 σ4 =>
            if r5 = 0 then
              en_cV (x_rd_refuse_0 σ4 1) (fun σ6 =>
                some (.inl none, σ6)) (fun e σ => some (.inr e, σ))
            else
              en_cV (x_rd_refuse_0 σ4 2) (fun σ7 =>
                some (.inl none, σ7)) (fun e σ => some (.inr e, σ))) (fun e σ => some (.inr e, σ)) := en_ex_un (G := bb_G) (P := bb_P) (ML := bb_ML) (HD := bb_HD) 39 0 24017 0 [some (.ref 66), some (.ref 63), some (.int v2), none] [] σ
set_option maxRecDepth 100000 in
set_option maxHeartbeats 1000000 in
theorem e_rd_readExpr_4_p63_48 (σ : en_S) (v2 : Int32) (v3 : Int32) : x_rd_readExpr_4_p63_48 σ v2 v3 =
    if (700 : Int32) ≤ v3 then
      some (.inl none, σ)
    else
      if σ.1 66 9 = 0 then
        en_cI (x_rd_isWord_p1008_0 σ) (fun r2 σ1 =>
          if r2 = 0 then
            some (.inl none, σ1)
          else
            en_cV (x_rd_nextToken_0 σ1) (fun σ3 =>
              en_cV (x_rd_readAnd_4_p63_0 σ3 v2) (fun σ4 =>
                en_cV (x_ru_add_p63_0 σ4 (-9)) (fun σ5 =>
                  x_rd_readExpr_4_p63_48 σ5 v2 (v3 + 1)) (fun e σ => some (.inr e, σ))) (fun e σ => some (.inr e, σ))) (fun e σ => some (.inr e, σ))) (fun e σ => some (.inr e, σ))
      else
        some (.inl none, σ) := en_ex_un (G := bb_G) (P := bb_P) (ML := bb_ML) (HD := bb_HD) 26 0 24017 48 [some (.ref 66), some (.ref 63), some (.int v2), some (.int v3)] [] σ
set_option maxRecDepth 100000 in
set_option maxHeartbeats 1000000 in
theorem e_rd_readExpr_4_p60_0 (σ : en_S) (v2 : Int32) : x_rd_readExpr_4_p60_0 σ v2 =
    if v2 ≤ 5 then
      en_cV (x_rd_readAnd_4_p60_0 σ v2) (fun σ1 =>
        x_rd_readExpr_4_p60_48 σ1 v2 0) (fun e σ => some (.inr e, σ))
    else
      if σ.1 66 5 = 2 then
        en_cV (x_rd_refuse_0 σ 2) (fun σ2 =>
          some (.inl none, σ2)) (fun e σ => some (.inr e, σ))
      else
        if σ.1 66 5 = 1 then
          en_cV (x_rd_refuse_0 σ 2) (fun σ3 =>
            some (.inl none, σ3)) (fun e σ => some (.inr e, σ))
        else
          en_cI (x_rd_isSign_0 σ 40) (fun r5 σ4 =>
            if r5 = 0 then
              en_cV (x_rd_refuse_0 σ4 1) (fun σ6 =>
                some (.inl none, σ6)) (fun e σ => some (.inr e, σ))
            else
              en_cV (x_rd_refuse_0 σ4 2) (fun σ7 =>
                some (.inl none, σ7)) (fun e σ => some (.inr e, σ))) (fun e σ => some (.inr e, σ)) := en_ex_un (G := bb_G) (P := bb_P) (ML := bb_ML) (HD := bb_HD) 39 0 24017 0 [some (.ref 66), some (.ref 60), some (.int v2), none] [] σ
set_option maxRecDepth 100000 in
set_option maxHeartbeats 1000000 in
theorem e_rd_readExpr_4_p60_48 (σ : en_S) (v2 : Int32) (v3 : Int32) : x_rd_readExpr_4_p60_48 σ v2 v3 =
    if (700 : Int32) ≤ v3 then
      some (.inl none, σ)
    else
      if σ.1 66 9 = 0 then
        en_cI (x_rd_isWord_p1008_0 σ) (fun r2 σ1 =>
          if r2 = 0 then
            some (.inl none, σ1)
          else
            en_cV (x_rd_nextToken_0 σ1) (fun σ3 =>
              en_cV (x_rd_readAnd_4_p60_0 σ3 v2) (fun σ4 =>
                en_cV (x_ru_add_p60_0 σ4 (-9)) (fun σ5 =>
                  x_rd_readExpr_4_p60_48 σ5 v2 (v3 + 1)) (fun e σ => some (.inr e, σ))) (fun e σ => some (.inr e, σ))) (fun e σ => some (.inr e, σ))) (fun e σ => some (.inr e, σ))
      else
        some (.inl none, σ) := en_ex_un (G := bb_G) (P := bb_P) (ML := bb_ML) (HD := bb_HD) 26 0 24017 48 [some (.ref 66), some (.ref 60), some (.int v2), some (.int v3)] [] σ
set_option maxRecDepth 100000 in
set_option maxHeartbeats 1000000 in
theorem e_rd_readAnd_4_p63_0 (σ : en_S) (v2 : Int32) : x_rd_readAnd_4_p63_0 σ v2 =
    en_cV (x_rd_readNot_4_p63_0 σ v2) (fun σ1 =>
      x_rd_readAnd_4_p63_8 σ1 v2 0) (fun e σ => some (.inr e, σ)) := en_ex_un (G := bb_G) (P := bb_P) (ML := bb_ML) (HD := bb_HD) 8 0 24018 0 [some (.ref 66), some (.ref 63), some (.int v2), none] [] σ
set_option maxRecDepth 100000 in
set_option maxHeartbeats 1000000 in
theorem e_rd_readAnd_4_p63_8 (σ : en_S) (v2 : Int32) (v3 : Int32) : x_rd_readAnd_4_p63_8 σ v2 v3 =
    if (700 : Int32) ≤ v3 then
      some (.inl none, σ)
    else
      if σ.1 66 9 = 0 then
        en_cI (x_rd_isWord_p1009_0 σ) (fun r2 σ1 =>
          if r2 = 0 then
            some (.inl none, σ1)
          else
            en_cV (x_rd_nextToken_0 σ1) (fun σ3 =>
              en_cV (x_rd_readNot_4_p63_0 σ3 v2) (fun σ4 =>
                en_cV (x_ru_add_p63_0 σ4 (-10)) (fun σ5 =>
                  x_rd_readAnd_4_p63_8 σ5 v2 (v3 + 1)) (fun e σ => some (.inr e, σ))) (fun e σ => some (.inr e, σ))) (fun e σ => some (.inr e, σ))) (fun e σ => some (.inr e, σ))
      else
        some (.inl none, σ) := en_ex_un (G := bb_G) (P := bb_P) (ML := bb_ML) (HD := bb_HD) 26 0 24018 8 [some (.ref 66), some (.ref 63), some (.int v2), some (.int v3)] [] σ
set_option maxRecDepth 100000 in
set_option maxHeartbeats 1000000 in
theorem e_rd_readAnd_4_p60_0 (σ : en_S) (v2 : Int32) : x_rd_readAnd_4_p60_0 σ v2 =
    en_cV (x_rd_readNot_4_p60_0 σ v2) (fun σ1 =>
      x_rd_readAnd_4_p60_8 σ1 v2 0) (fun e σ => some (.inr e, σ)) := en_ex_un (G := bb_G) (P := bb_P) (ML := bb_ML) (HD := bb_HD) 8 0 24018 0 [some (.ref 66), some (.ref 60), some (.int v2), none] [] σ
set_option maxRecDepth 100000 in
set_option maxHeartbeats 1000000 in
theorem e_rd_readAnd_4_p60_8 (σ : en_S) (v2 : Int32) (v3 : Int32) : x_rd_readAnd_4_p60_8 σ v2 v3 =
    if (700 : Int32) ≤ v3 then
      some (.inl none, σ)
    else
      if σ.1 66 9 = 0 then
        en_cI (x_rd_isWord_p1009_0 σ) (fun r2 σ1 =>
          if r2 = 0 then
            some (.inl none, σ1)
          else
            en_cV (x_rd_nextToken_0 σ1) (fun σ3 =>
              en_cV (x_rd_readNot_4_p60_0 σ3 v2) (fun σ4 =>
                en_cV (x_ru_add_p60_0 σ4 (-10)) (fun σ5 =>
                  x_rd_readAnd_4_p60_8 σ5 v2 (v3 + 1)) (fun e σ => some (.inr e, σ))) (fun e σ => some (.inr e, σ))) (fun e σ => some (.inr e, σ))) (fun e σ => some (.inr e, σ))
      else
        some (.inl none, σ) := en_ex_un (G := bb_G) (P := bb_P) (ML := bb_ML) (HD := bb_HD) 26 0 24018 8 [some (.ref 66), some (.ref 60), some (.int v2), some (.int v3)] [] σ
set_option maxRecDepth 100000 in
set_option maxHeartbeats 1000000 in
theorem e_rd_readNot_4_p63_0 (σ : en_S) (v2 : Int32) : x_rd_readNot_4_p63_0 σ v2 =
    x_rd_readNot_4_p63_2 σ v2 0 := en_ex_un (G := bb_G) (P := bb_P) (ML := bb_ML) (HD := bb_HD) 4 0 24019 0 [some (.ref 66), some (.ref 63), some (.int v2), none, none] [] σ
set_option maxRecDepth 100000 in
set_option maxHeartbeats 1000000 in
theorem e_rd_readNot_4_p63_2 (σ : en_S) (v2 : Int32) (v3 : Int32) : x_rd_readNot_4_p63_2 σ v2 v3 =
    if (6 : Int32) ≤ v3 then
      en_cI (x_rd_isWord_p1010_0 σ) (fun r2 σ1 =>
        if r2 = 0 then
          en_cV (x_rd_readSum_4_p63_0 σ1 v2) (fun σ3 =>
            if σ3.1 66 9 = 0 then
              en_cI (x_rd_isSign_0 σ3 60) (fun r5 σ4 =>
                if r5 = 0 then
                  en_cI (x_rd_isSign_0 σ4 61) (fun r7 σ6 =>
                    if r7 = 0 then
                      x_rd_readNot_4_p63_110 σ6 v3 0
                    else
                      x_rd_readNot_4_p63_73 σ6 v2 v3) (fun e σ => some (.inr e, σ))
                else
                  x_rd_readNot_4_p63_73 σ4 v2 v3) (fun e σ => some (.inr e, σ))
            else
              x_rd_readNot_4_p63_110 σ3 v3 0) (fun e σ => some (.inr e, σ))
        else
          en_cV (x_rd_refuse_0 σ1 2) (fun σ8 =>
            some (.inl none, σ8)) (fun e σ => some (.inr e, σ))) (fun e σ => some (.inr e, σ))
    else
      en_cI (x_rd_isWord_p1010_0 σ) (fun r10 σ9 =>
        if r10 = 0 then
          en_cI (x_rd_isWord_p1010_0 σ9) (fun r12 σ11 =>
            if r12 = 0 then
              en_cV (x_rd_readSum_4_p63_0 σ11 v2) (fun σ13 =>
                if σ13.1 66 9 = 0 then
                  en_cI (x_rd_isSign_0 σ13 60) (fun r15 σ14 =>
                    if r15 = 0 then
                      en_cI (x_rd_isSign_0 σ14 61) (fun r17 σ16 =>
                        if r17 = 0 then
                          x_rd_readNot_4_p63_110 σ16 v3 0
                        else
                          x_rd_readNot_4_p63_73 σ16 v2 v3) (fun e σ => some (.inr e, σ))
                    else
                      x_rd_readNot_4_p63_73 σ14 v2 v3) (fun e σ => some (.inr e, σ))
                else
                  x_rd_readNot_4_p63_110 σ13 v3 0) (fun e σ => some (.inr e, σ))
            else
              en_cV (x_rd_refuse_0 σ11 2) (fun σ18 =>
                some (.inl none, σ18)) (fun e σ => some (.inr e, σ))) (fun e σ => some (.inr e, σ))
        else
          en_cV (x_rd_nextToken_0 σ9) (fun σ19 =>
            x_rd_readNot_4_p63_2 σ19 v2 (v3 + 1)) (fun e σ => some (.inr e, σ))) (fun e σ => some (.inr e, σ)) := en_ex_un (G := bb_G) (P := bb_P) (ML := bb_ML) (HD := bb_HD) 67 0 24019 2 [some (.ref 66), some (.ref 63), some (.int v2), some (.int v3), none] [] σ
set_option maxRecDepth 100000 in
set_option maxHeartbeats 1000000 in
theorem e_rd_readNot_4_p63_73 (σ : en_S) (v2 : Int32) (v3 : Int32) : x_rd_readNot_4_p63_73 σ v2 v3 =
    en_cI (x_rd_isSign_0 σ 60) (fun r2 σ1 =>
      if r2 = 0 then
        en_cV (x_rd_nextToken_0 σ1) (fun σ3 =>
          en_cV (x_rd_readSum_4_p63_0 σ3 v2) (fun σ4 =>
            en_cV (x_ru_add_p63_0 σ4 (-12)) (fun σ5 =>
              x_rd_readNot_4_p63_110 σ5 v3 0) (fun e σ => some (.inr e, σ))) (fun e σ => some (.inr e, σ))) (fun e σ => some (.inr e, σ))
      else
        en_cV (x_rd_nextToken_0 σ1) (fun σ6 =>
          en_cV (x_rd_readSum_4_p63_0 σ6 v2) (fun σ7 =>
            en_cV (x_ru_add_p63_0 σ7 (-11)) (fun σ8 =>
              x_rd_readNot_4_p63_110 σ8 v3 0) (fun e σ => some (.inr e, σ))) (fun e σ => some (.inr e, σ))) (fun e σ => some (.inr e, σ))) (fun e σ => some (.inr e, σ)) := en_ex_un (G := bb_G) (P := bb_P) (ML := bb_ML) (HD := bb_HD) 33 0 24019 73 [some (.ref 66), some (.ref 63), some (.int v2), some (.int v3), none] [] σ
set_option maxRecDepth 100000 in
set_option maxHeartbeats 1000000 in
theorem e_rd_readNot_4_p63_110 (σ : en_S) (v3 : Int32) (v4 : Int32) : x_rd_readNot_4_p63_110 σ v3 v4 =
    if v3 ≤ v4 then
      some (.inl none, σ)
    else
      en_cV (x_ru_add_p63_0 σ (-8)) (fun σ1 =>
        x_rd_readNot_4_p63_110 σ1 v3 (v4 + 1)) (fun e σ => some (.inr e, σ)) := en_ex_un (G := bb_G) (P := bb_P) (ML := bb_ML) (HD := bb_HD) 11 0 24019 110 [none, some (.ref 63), none, some (.int v3), some (.int v4)] [] σ
set_option maxRecDepth 100000 in
set_option maxHeartbeats 1000000 in
theorem e_rd_readNot_4_p60_0 (σ : en_S) (v2 : Int32) : x_rd_readNot_4_p60_0 σ v2 =
    x_rd_readNot_4_p60_2 σ v2 0 := en_ex_un (G := bb_G) (P := bb_P) (ML := bb_ML) (HD := bb_HD) 4 0 24019 0 [some (.ref 66), some (.ref 60), some (.int v2), none, none] [] σ
set_option maxRecDepth 100000 in
set_option maxHeartbeats 1000000 in
theorem e_rd_readNot_4_p60_2 (σ : en_S) (v2 : Int32) (v3 : Int32) : x_rd_readNot_4_p60_2 σ v2 v3 =
    if (6 : Int32) ≤ v3 then
      en_cI (x_rd_isWord_p1010_0 σ) (fun r2 σ1 =>
        if r2 = 0 then
          en_cV (x_rd_readSum_4_p60_0 σ1 v2) (fun σ3 =>
            if σ3.1 66 9 = 0 then
              en_cI (x_rd_isSign_0 σ3 60) (fun r5 σ4 =>
                if r5 = 0 then
                  en_cI (x_rd_isSign_0 σ4 61) (fun r7 σ6 =>
                    if r7 = 0 then
                      x_rd_readNot_4_p60_110 σ6 v3 0
                    else
                      x_rd_readNot_4_p60_73 σ6 v2 v3) (fun e σ => some (.inr e, σ))
                else
                  x_rd_readNot_4_p60_73 σ4 v2 v3) (fun e σ => some (.inr e, σ))
            else
              x_rd_readNot_4_p60_110 σ3 v3 0) (fun e σ => some (.inr e, σ))
        else
          en_cV (x_rd_refuse_0 σ1 2) (fun σ8 =>
            some (.inl none, σ8)) (fun e σ => some (.inr e, σ))) (fun e σ => some (.inr e, σ))
    else
      en_cI (x_rd_isWord_p1010_0 σ) (fun r10 σ9 =>
        if r10 = 0 then
          en_cI (x_rd_isWord_p1010_0 σ9) (fun r12 σ11 =>
            if r12 = 0 then
              en_cV (x_rd_readSum_4_p60_0 σ11 v2) (fun σ13 =>
                if σ13.1 66 9 = 0 then
                  en_cI (x_rd_isSign_0 σ13 60) (fun r15 σ14 =>
                    if r15 = 0 then
                      en_cI (x_rd_isSign_0 σ14 61) (fun r17 σ16 =>
                        if r17 = 0 then
                          x_rd_readNot_4_p60_110 σ16 v3 0
                        else
                          x_rd_readNot_4_p60_73 σ16 v2 v3) (fun e σ => some (.inr e, σ))
                    else
                      x_rd_readNot_4_p60_73 σ14 v2 v3) (fun e σ => some (.inr e, σ))
                else
                  x_rd_readNot_4_p60_110 σ13 v3 0) (fun e σ => some (.inr e, σ))
            else
              en_cV (x_rd_refuse_0 σ11 2) (fun σ18 =>
                some (.inl none, σ18)) (fun e σ => some (.inr e, σ))) (fun e σ => some (.inr e, σ))
        else
          en_cV (x_rd_nextToken_0 σ9) (fun σ19 =>
            x_rd_readNot_4_p60_2 σ19 v2 (v3 + 1)) (fun e σ => some (.inr e, σ))) (fun e σ => some (.inr e, σ)) := en_ex_un (G := bb_G) (P := bb_P) (ML := bb_ML) (HD := bb_HD) 67 0 24019 2 [some (.ref 66), some (.ref 60), some (.int v2), some (.int v3), none] [] σ
set_option maxRecDepth 100000 in
set_option maxHeartbeats 1000000 in
theorem e_rd_readNot_4_p60_73 (σ : en_S) (v2 : Int32) (v3 : Int32) : x_rd_readNot_4_p60_73 σ v2 v3 =
    en_cI (x_rd_isSign_0 σ 60) (fun r2 σ1 =>
      if r2 = 0 then
        en_cV (x_rd_nextToken_0 σ1) (fun σ3 =>
          en_cV (x_rd_readSum_4_p60_0 σ3 v2) (fun σ4 =>
            en_cV (x_ru_add_p60_0 σ4 (-12)) (fun σ5 =>
              x_rd_readNot_4_p60_110 σ5 v3 0) (fun e σ => some (.inr e, σ))) (fun e σ => some (.inr e, σ))) (fun e σ => some (.inr e, σ))
      else
        en_cV (x_rd_nextToken_0 σ1) (fun σ6 =>
          en_cV (x_rd_readSum_4_p60_0 σ6 v2) (fun σ7 =>
            en_cV (x_ru_add_p60_0 σ7 (-11)) (fun σ8 =>
              x_rd_readNot_4_p60_110 σ8 v3 0) (fun e σ => some (.inr e, σ))) (fun e σ => some (.inr e, σ))) (fun e σ => some (.inr e, σ))) (fun e σ => some (.inr e, σ)) := en_ex_un (G := bb_G) (P := bb_P) (ML := bb_ML) (HD := bb_HD) 33 0 24019 73 [some (.ref 66), some (.ref 60), some (.int v2), some (.int v3), none] [] σ
set_option maxRecDepth 100000 in
set_option maxHeartbeats 1000000 in
theorem e_rd_readNot_4_p60_110 (σ : en_S) (v3 : Int32) (v4 : Int32) : x_rd_readNot_4_p60_110 σ v3 v4 =
    if v3 ≤ v4 then
      some (.inl none, σ)
    else
      en_cV (x_ru_add_p60_0 σ (-8)) (fun σ1 =>
        x_rd_readNot_4_p60_110 σ1 v3 (v4 + 1)) (fun e σ => some (.inr e, σ)) := en_ex_un (G := bb_G) (P := bb_P) (ML := bb_ML) (HD := bb_HD) 11 0 24019 110 [none, some (.ref 60), none, some (.int v3), some (.int v4)] [] σ
set_option maxRecDepth 100000 in
set_option maxHeartbeats 1000000 in
theorem e_rd_readSum_4_p63_0 (σ : en_S) (v2 : Int32) : x_rd_readSum_4_p63_0 σ v2 =
    en_cV (x_rd_readProduct_4_p63_0 σ v2) (fun σ1 =>
      x_rd_readSum_4_p63_8 σ1 v2 0) (fun e σ => some (.inr e, σ)) := en_ex_un (G := bb_G) (P := bb_P) (ML := bb_ML) (HD := bb_HD) 8 0 24020 0 [some (.ref 66), some (.ref 63), some (.int v2), none, none] [] σ
set_option maxRecDepth 100000 in
set_option maxHeartbeats 1000000 in
theorem e_rd_readSum_4_p63_8 (σ : en_S) (v2 : Int32) (v3 : Int32) : x_rd_readSum_4_p63_8 σ v2 v3 =
    if (700 : Int32) ≤ v3 then
      some (.inl none, σ)
    else
      if σ.1 66 9 = 0 then
        en_cI (x_rd_isSign_0 σ 43) (fun r2 σ1 =>
          if r2 = 0 then
            en_cI (x_rd_isSign_0 σ1 45) (fun r4 σ3 =>
              if r4 = 0 then
                some (.inl none, σ3)
              else
                en_cI (x_rd_isSign_0 σ3 43) (fun r6 σ5 =>
                  if r6 = 0 then
                    x_rd_readSum_4_p63_56 σ5 v2 v3 (-14)
                  else
                    x_rd_readSum_4_p63_56 σ5 v2 v3 (-13)) (fun e σ => some (.inr e, σ))) (fun e σ => some (.inr e, σ))
          else
            en_cI (x_rd_isSign_0 σ1 43) (fun r8 σ7 =>
              if r8 = 0 then
                x_rd_readSum_4_p63_56 σ7 v2 v3 (-14)
              else
                x_rd_readSum_4_p63_56 σ7 v2 v3 (-13)) (fun e σ => some (.inr e, σ))) (fun e σ => some (.inr e, σ))
      else
        some (.inl none, σ) := en_ex_un (G := bb_G) (P := bb_P) (ML := bb_ML) (HD := bb_HD) 33 0 24020 8 [some (.ref 66), some (.ref 63), some (.int v2), some (.int v3), none] [] σ
set_option maxRecDepth 100000 in
set_option maxHeartbeats 1000000 in
theorem e_rd_readSum_4_p63_56 (σ : en_S) (v2 : Int32) (v3 : Int32) (t0 : Int32) : x_rd_readSum_4_p63_56 σ v2 v3 t0 =
    en_cV (x_rd_nextToken_0 σ) (fun σ1 =>
      en_cV (x_rd_readProduct_4_p63_0 σ1 v2) (fun σ2 =>
        en_cV (x_ru_add_p63_0 σ2 t0) (fun σ3 =>
          x_rd_readSum_4_p63_8 σ3 v2 (v3 + 1)) (fun e σ => some (.inr e, σ))) (fun e σ => some (.inr e, σ))) (fun e σ => some (.inr e, σ)) := en_ex_un (G := bb_G) (P := bb_P) (ML := bb_ML) (HD := bb_HD) 14 0 24020 56 [some (.ref 66), some (.ref 63), some (.int v2), some (.int v3), none] [.int t0] σ
set_option maxRecDepth 100000 in
set_option maxHeartbeats 1000000 in
theorem e_rd_readSum_4_p60_0 (σ : en_S) (v2 : Int32) : x_rd_readSum_4_p60_0 σ v2 =
    en_cV (x_rd_readProduct_4_p60_0 σ v2) (fun σ1 =>
      x_rd_readSum_4_p60_8 σ1 v2 0) (fun e σ => some (.inr e, σ)) := en_ex_un (G := bb_G) (P := bb_P) (ML := bb_ML) (HD := bb_HD) 8 0 24020 0 [some (.ref 66), some (.ref 60), some (.int v2), none, none] [] σ
set_option maxRecDepth 100000 in
set_option maxHeartbeats 1000000 in
theorem e_rd_readSum_4_p60_8 (σ : en_S) (v2 : Int32) (v3 : Int32) : x_rd_readSum_4_p60_8 σ v2 v3 =
    if (700 : Int32) ≤ v3 then
      some (.inl none, σ)
    else
      if σ.1 66 9 = 0 then
        en_cI (x_rd_isSign_0 σ 43) (fun r2 σ1 =>
          if r2 = 0 then
            en_cI (x_rd_isSign_0 σ1 45) (fun r4 σ3 =>
              if r4 = 0 then
                some (.inl none, σ3)
              else
                en_cI (x_rd_isSign_0 σ3 43) (fun r6 σ5 =>
                  if r6 = 0 then
                    x_rd_readSum_4_p60_56 σ5 v2 v3 (-14)
                  else
                    x_rd_readSum_4_p60_56 σ5 v2 v3 (-13)) (fun e σ => some (.inr e, σ))) (fun e σ => some (.inr e, σ))
          else
            en_cI (x_rd_isSign_0 σ1 43) (fun r8 σ7 =>
              if r8 = 0 then
                x_rd_readSum_4_p60_56 σ7 v2 v3 (-14)
              else
                x_rd_readSum_4_p60_56 σ7 v2 v3 (-13)) (fun e σ => some (.inr e, σ))) (fun e σ => some (.inr e, σ))
      else
        some (.inl none, σ) := en_ex_un (G := bb_G) (P := bb_P) (ML := bb_ML) (HD := bb_HD) 33 0 24020 8 [some (.ref 66), some (.ref 60), some (.int v2), some (.int v3), none] [] σ
set_option maxRecDepth 100000 in
set_option maxHeartbeats 1000000 in
theorem e_rd_readSum_4_p60_56 (σ : en_S) (v2 : Int32) (v3 : Int32) (t0 : Int32) : x_rd_readSum_4_p60_56 σ v2 v3 t0 =
    en_cV (x_rd_nextToken_0 σ) (fun σ1 =>
      en_cV (x_rd_readProduct_4_p60_0 σ1 v2) (fun σ2 =>
        en_cV (x_ru_add_p60_0 σ2 t0) (fun σ3 =>
          x_rd_readSum_4_p60_8 σ3 v2 (v3 + 1)) (fun e σ => some (.inr e, σ))) (fun e σ => some (.inr e, σ))) (fun e σ => some (.inr e, σ)) := en_ex_un (G := bb_G) (P := bb_P) (ML := bb_ML) (HD := bb_HD) 14 0 24020 56 [some (.ref 66), some (.ref 60), some (.int v2), some (.int v3), none] [.int t0] σ
set_option maxRecDepth 100000 in
set_option maxHeartbeats 1000000 in
theorem e_rd_readProduct_4_p63_0 (σ : en_S) (v2 : Int32) : x_rd_readProduct_4_p63_0 σ v2 =
    en_cV (x_rd_readPart_4_p63_0 σ v2) (fun σ1 =>
      x_rd_readProduct_4_p63_8 σ1 v2 0) (fun e σ => some (.inr e, σ)) := en_ex_un (G := bb_G) (P := bb_P) (ML := bb_ML) (HD := bb_HD) 8 0 24021 0 [some (.ref 66), some (.ref 63), some (.int v2), none, none] [] σ
set_option maxRecDepth 100000 in
set_option maxHeartbeats 1000000 in
theorem e_rd_readProduct_4_p63_8 (σ : en_S) (v2 : Int32) (v3 : Int32) : x_rd_readProduct_4_p63_8 σ v2 v3 =
    if (700 : Int32) ≤ v3 then
      some (.inl none, σ)
    else
      if σ.1 66 9 = 0 then
        en_cI (x_rd_isSign_0 σ 42) (fun r2 σ1 =>
          if r2 = 0 then
            en_cI (x_rd_isSign_0 σ1 47) (fun r4 σ3 =>
              if r4 = 0 then
                some (.inl none, σ3)
              else
                en_cI (x_rd_isSign_0 σ3 42) (fun r6 σ5 =>
                  if r6 = 0 then
                    x_rd_readProduct_4_p63_56 σ5 v2 v3 (-16)
                  else
                    x_rd_readProduct_4_p63_56 σ5 v2 v3 (-15)) (fun e σ => some (.inr e, σ))) (fun e σ => some (.inr e, σ))
          else
            en_cI (x_rd_isSign_0 σ1 42) (fun r8 σ7 =>
              if r8 = 0 then
                x_rd_readProduct_4_p63_56 σ7 v2 v3 (-16)
              else
                x_rd_readProduct_4_p63_56 σ7 v2 v3 (-15)) (fun e σ => some (.inr e, σ))) (fun e σ => some (.inr e, σ))
      else
        some (.inl none, σ) := en_ex_un (G := bb_G) (P := bb_P) (ML := bb_ML) (HD := bb_HD) 33 0 24021 8 [some (.ref 66), some (.ref 63), some (.int v2), some (.int v3), none] [] σ
set_option maxRecDepth 100000 in
set_option maxHeartbeats 1000000 in
theorem e_rd_readProduct_4_p63_56 (σ : en_S) (v2 : Int32) (v3 : Int32) (t0 : Int32) : x_rd_readProduct_4_p63_56 σ v2 v3 t0 =
    en_cV (x_rd_nextToken_0 σ) (fun σ1 =>
      en_cV (x_rd_readPart_4_p63_0 σ1 v2) (fun σ2 =>
        en_cV (x_ru_add_p63_0 σ2 t0) (fun σ3 =>
          x_rd_readProduct_4_p63_8 σ3 v2 (v3 + 1)) (fun e σ => some (.inr e, σ))) (fun e σ => some (.inr e, σ))) (fun e σ => some (.inr e, σ)) := en_ex_un (G := bb_G) (P := bb_P) (ML := bb_ML) (HD := bb_HD) 14 0 24021 56 [some (.ref 66), some (.ref 63), some (.int v2), some (.int v3), none] [.int t0] σ
set_option maxRecDepth 100000 in
set_option maxHeartbeats 1000000 in
theorem e_rd_readProduct_4_p60_0 (σ : en_S) (v2 : Int32) : x_rd_readProduct_4_p60_0 σ v2 =
    en_cV (x_rd_readPart_4_p60_0 σ v2) (fun σ1 =>
      x_rd_readProduct_4_p60_8 σ1 v2 0) (fun e σ => some (.inr e, σ)) := en_ex_un (G := bb_G) (P := bb_P) (ML := bb_ML) (HD := bb_HD) 8 0 24021 0 [some (.ref 66), some (.ref 60), some (.int v2), none, none] [] σ
set_option maxRecDepth 100000 in
set_option maxHeartbeats 1000000 in
theorem e_rd_readProduct_4_p60_8 (σ : en_S) (v2 : Int32) (v3 : Int32) : x_rd_readProduct_4_p60_8 σ v2 v3 =
    if (700 : Int32) ≤ v3 then
      some (.inl none, σ)
    else
      if σ.1 66 9 = 0 then
        en_cI (x_rd_isSign_0 σ 42) (fun r2 σ1 =>
          if r2 = 0 then
            en_cI (x_rd_isSign_0 σ1 47) (fun r4 σ3 =>
              if r4 = 0 then
                some (.inl none, σ3)
              else
                en_cI (x_rd_isSign_0 σ3 42) (fun r6 σ5 =>
                  if r6 = 0 then
                    x_rd_readProduct_4_p60_56 σ5 v2 v3 (-16)
                  else
                    x_rd_readProduct_4_p60_56 σ5 v2 v3 (-15)) (fun e σ => some (.inr e, σ))) (fun e σ => some (.inr e, σ))
          else
            en_cI (x_rd_isSign_0 σ1 42) (fun r8 σ7 =>
              if r8 = 0 then
                x_rd_readProduct_4_p60_56 σ7 v2 v3 (-16)
              else
                x_rd_readProduct_4_p60_56 σ7 v2 v3 (-15)) (fun e σ => some (.inr e, σ))) (fun e σ => some (.inr e, σ))
      else
        some (.inl none, σ) := en_ex_un (G := bb_G) (P := bb_P) (ML := bb_ML) (HD := bb_HD) 33 0 24021 8 [some (.ref 66), some (.ref 60), some (.int v2), some (.int v3), none] [] σ
set_option maxRecDepth 100000 in
set_option maxHeartbeats 1000000 in
theorem e_rd_readProduct_4_p60_56 (σ : en_S) (v2 : Int32) (v3 : Int32) (t0 : Int32) : x_rd_readProduct_4_p60_56 σ v2 v3 t0 =
    en_cV (x_rd_nextToken_0 σ) (fun σ1 =>
      en_cV (x_rd_readPart_4_p60_0 σ1 v2) (fun σ2 =>
        en_cV (x_ru_add_p60_0 σ2 t0) (fun σ3 =>
          x_rd_readProduct_4_p60_8 σ3 v2 (v3 + 1)) (fun e σ => some (.inr e, σ))) (fun e σ => some (.inr e, σ))) (fun e σ => some (.inr e, σ)) := en_ex_un (G := bb_G) (P := bb_P) (ML := bb_ML) (HD := bb_HD) 14 0 24021 56 [some (.ref 66), some (.ref 60), some (.int v2), some (.int v3), none] [.int t0] σ
set_option maxRecDepth 100000 in
set_option maxHeartbeats 1000000 in
theorem e_rd_readPart_4_p63_0 (σ : en_S) (v2 : Int32) : x_rd_readPart_4_p63_0 σ v2 =
    en_cI (x_rd_isSign_0 σ 40) (fun r2 σ1 =>
      if r2 = 0 then
        if σ1.1 66 5 = 2 then
          en_cI (x_rd_readNumber_0 σ1 0 9999) (fun r4 σ3 =>
            en_cV (x_ru_add_p63_0 σ3 r4) (fun σ5 =>
              some (.inl none, σ5)) (fun e σ => some (.inr e, σ))) (fun e σ => some (.inr e, σ))
        else
          if σ1.1 66 5 = 1 then
            en_cI (x_rd_valueStep_0 σ1) (fun r7 σ6 =>
              if r7 = 0 then
                en_cV (x_rd_refuse_0 σ6 3) (fun σ8 =>
                  some (.inl none, σ8)) (fun e σ => some (.inr e, σ))
              else
                en_cI (x_rd_valueStep_0 σ6) (fun r10 σ9 =>
                  en_cV (x_ru_add_p63_0 σ9 r10) (fun σ11 =>
                    en_cV (x_rd_nextToken_0 σ11) (fun σ12 =>
                      some (.inl none, σ12)) (fun e σ => some (.inr e, σ))) (fun e σ => some (.inr e, σ))) (fun e σ => some (.inr e, σ))) (fun e σ => some (.inr e, σ))
          else
            en_cV (x_rd_refuse_0 σ1 1) (fun σ13 =>
              some (.inl none, σ13)) (fun e σ => some (.inr e, σ))
      else
        en_cV (x_rd_nextToken_0 σ1) (fun σ14 =>
          en_cV (x_rd_readExpr_5_p63_0 σ14 (v2 + 1)) (fun σ15 =>
            en_cV (x_rd_readSign_0 σ15 41) (fun σ16 =>
              some (.inl none, σ16)) (fun e σ => some (.inr e, σ))) (fun e σ => some (.inr e, σ))) (fun e σ => some (.inr e, σ))) (fun e σ => some (.inr e, σ)) := en_ex_un (G := bb_G) (P := bb_P) (ML := bb_ML) (HD := bb_HD) 55 0 24022 0 [some (.ref 66), some (.ref 63), some (.int v2)] [] σ
set_option maxRecDepth 100000 in
set_option maxHeartbeats 1000000 in
theorem e_rd_readPart_4_p60_0 (σ : en_S) (v2 : Int32) : x_rd_readPart_4_p60_0 σ v2 =
    en_cI (x_rd_isSign_0 σ 40) (fun r2 σ1 =>
      if r2 = 0 then
        if σ1.1 66 5 = 2 then
          en_cI (x_rd_readNumber_0 σ1 0 9999) (fun r4 σ3 =>
            en_cV (x_ru_add_p60_0 σ3 r4) (fun σ5 =>
              some (.inl none, σ5)) (fun e σ => some (.inr e, σ))) (fun e σ => some (.inr e, σ))
        else
          if σ1.1 66 5 = 1 then
            en_cI (x_rd_valueStep_0 σ1) (fun r7 σ6 =>
              if r7 = 0 then
                en_cV (x_rd_refuse_0 σ6 3) (fun σ8 =>
                  some (.inl none, σ8)) (fun e σ => some (.inr e, σ))
              else
                en_cI (x_rd_valueStep_0 σ6) (fun r10 σ9 =>
                  en_cV (x_ru_add_p60_0 σ9 r10) (fun σ11 =>
                    en_cV (x_rd_nextToken_0 σ11) (fun σ12 =>
                      some (.inl none, σ12)) (fun e σ => some (.inr e, σ))) (fun e σ => some (.inr e, σ))) (fun e σ => some (.inr e, σ))) (fun e σ => some (.inr e, σ))
          else
            en_cV (x_rd_refuse_0 σ1 1) (fun σ13 =>
              some (.inl none, σ13)) (fun e σ => some (.inr e, σ))
      else
        en_cV (x_rd_nextToken_0 σ1) (fun σ14 =>
          en_cV (x_rd_readExpr_5_p60_0 σ14 (v2 + 1)) (fun σ15 =>
            en_cV (x_rd_readSign_0 σ15 41) (fun σ16 =>
              some (.inl none, σ16)) (fun e σ => some (.inr e, σ))) (fun e σ => some (.inr e, σ))) (fun e σ => some (.inr e, σ))) (fun e σ => some (.inr e, σ)) := en_ex_un (G := bb_G) (P := bb_P) (ML := bb_ML) (HD := bb_HD) 55 0 24022 0 [some (.ref 66), some (.ref 60), some (.int v2)] [] σ
set_option maxRecDepth 100000 in
set_option maxHeartbeats 1000000 in
theorem e_rd_readExpr_5_p63_0 (σ : en_S) (v2 : Int32) : x_rd_readExpr_5_p63_0 σ v2 =
    if v2 ≤ 5 then
      en_cV (x_rd_readAnd_5_p63_0 σ v2) (fun σ1 =>
        x_rd_readExpr_5_p63_48 σ1 v2 0) (fun e σ => some (.inr e, σ))
    else
      if σ.1 66 5 = 2 then
        en_cV (x_rd_refuse_0 σ 2) (fun σ2 =>
          some (.inl none, σ2)) (fun e σ => some (.inr e, σ))
      else
        if σ.1 66 5 = 1 then
          en_cV (x_rd_refuse_0 σ 2) (fun σ3 =>
            some (.inl none, σ3)) (fun e σ => some (.inr e, σ))
        else
          en_cI (x_rd_isSign_0 σ 40) (fun r5 σ4 =>
            if r5 = 0 then
              en_cV (x_rd_refuse_0 σ4 1) (fun σ6 =>
                some (.inl none, σ6)) (fun e σ => some (.inr e, σ))
            else
              en_cV (x_rd_refuse_0 σ4 2) (fun σ7 =>
                some (.inl none, σ7)) (fun e σ => some (.inr e, σ))) (fun e σ => some (.inr e, σ)) := en_ex_un (G := bb_G) (P := bb_P) (ML := bb_ML) (HD := bb_HD) 39 0 25017 0 [some (.ref 66), some (.ref 63), some (.int v2), none] [] σ
set_option maxRecDepth 100000 in
set_option maxHeartbeats 1000000 in
theorem e_rd_readExpr_5_p63_48 (σ : en_S) (v2 : Int32) (v3 : Int32) : x_rd_readExpr_5_p63_48 σ v2 v3 =
    if (700 : Int32) ≤ v3 then
      some (.inl none, σ)
    else
      if σ.1 66 9 = 0 then
        en_cI (x_rd_isWord_p1008_0 σ) (fun r2 σ1 =>
          if r2 = 0 then
            some (.inl none, σ1)
          else
            en_cV (x_rd_nextToken_0 σ1) (fun σ3 =>
              en_cV (x_rd_readAnd_5_p63_0 σ3 v2) (fun σ4 =>
                en_cV (x_ru_add_p63_0 σ4 (-9)) (fun σ5 =>
                  x_rd_readExpr_5_p63_48 σ5 v2 (v3 + 1)) (fun e σ => some (.inr e, σ))) (fun e σ => some (.inr e, σ))) (fun e σ => some (.inr e, σ))) (fun e σ => some (.inr e, σ))
      else
        some (.inl none, σ) := en_ex_un (G := bb_G) (P := bb_P) (ML := bb_ML) (HD := bb_HD) 26 0 25017 48 [some (.ref 66), some (.ref 63), some (.int v2), some (.int v3)] [] σ
set_option maxRecDepth 100000 in
set_option maxHeartbeats 1000000 in
theorem e_rd_readExpr_5_p60_0 (σ : en_S) (v2 : Int32) : x_rd_readExpr_5_p60_0 σ v2 =
    if v2 ≤ 5 then
      en_cV (x_rd_readAnd_5_p60_0 σ v2) (fun σ1 =>
        x_rd_readExpr_5_p60_48 σ1 v2 0) (fun e σ => some (.inr e, σ))
    else
      if σ.1 66 5 = 2 then
        en_cV (x_rd_refuse_0 σ 2) (fun σ2 =>
          some (.inl none, σ2)) (fun e σ => some (.inr e, σ))
      else
        if σ.1 66 5 = 1 then
          en_cV (x_rd_refuse_0 σ 2) (fun σ3 =>
            some (.inl none, σ3)) (fun e σ => some (.inr e, σ))
        else
          en_cI (x_rd_isSign_0 σ 40) (fun r5 σ4 =>
            if r5 = 0 then
              en_cV (x_rd_refuse_0 σ4 1) (fun σ6 =>
                some (.inl none, σ6)) (fun e σ => some (.inr e, σ))
            else
              en_cV (x_rd_refuse_0 σ4 2) (fun σ7 =>
                some (.inl none, σ7)) (fun e σ => some (.inr e, σ))) (fun e σ => some (.inr e, σ)) := en_ex_un (G := bb_G) (P := bb_P) (ML := bb_ML) (HD := bb_HD) 39 0 25017 0 [some (.ref 66), some (.ref 60), some (.int v2), none] [] σ
set_option maxRecDepth 100000 in
set_option maxHeartbeats 1000000 in
theorem e_rd_readExpr_5_p60_48 (σ : en_S) (v2 : Int32) (v3 : Int32) : x_rd_readExpr_5_p60_48 σ v2 v3 =
    if (700 : Int32) ≤ v3 then
      some (.inl none, σ)
    else
      if σ.1 66 9 = 0 then
        en_cI (x_rd_isWord_p1008_0 σ) (fun r2 σ1 =>
          if r2 = 0 then
            some (.inl none, σ1)
          else
            en_cV (x_rd_nextToken_0 σ1) (fun σ3 =>
              en_cV (x_rd_readAnd_5_p60_0 σ3 v2) (fun σ4 =>
                en_cV (x_ru_add_p60_0 σ4 (-9)) (fun σ5 =>
                  x_rd_readExpr_5_p60_48 σ5 v2 (v3 + 1)) (fun e σ => some (.inr e, σ))) (fun e σ => some (.inr e, σ))) (fun e σ => some (.inr e, σ))) (fun e σ => some (.inr e, σ))
      else
        some (.inl none, σ) := en_ex_un (G := bb_G) (P := bb_P) (ML := bb_ML) (HD := bb_HD) 26 0 25017 48 [some (.ref 66), some (.ref 60), some (.int v2), some (.int v3)] [] σ
set_option maxRecDepth 100000 in
set_option maxHeartbeats 1000000 in
theorem e_rd_readAnd_5_p63_0 (σ : en_S) (v2 : Int32) : x_rd_readAnd_5_p63_0 σ v2 =
    en_cV (x_rd_readNot_5_p63_0 σ v2) (fun σ1 =>
      x_rd_readAnd_5_p63_8 σ1 v2 0) (fun e σ => some (.inr e, σ)) := en_ex_un (G := bb_G) (P := bb_P) (ML := bb_ML) (HD := bb_HD) 8 0 25018 0 [some (.ref 66), some (.ref 63), some (.int v2), none] [] σ
set_option maxRecDepth 100000 in
set_option maxHeartbeats 1000000 in
theorem e_rd_readAnd_5_p63_8 (σ : en_S) (v2 : Int32) (v3 : Int32) : x_rd_readAnd_5_p63_8 σ v2 v3 =
    if (700 : Int32) ≤ v3 then
      some (.inl none, σ)
    else
      if σ.1 66 9 = 0 then
        en_cI (x_rd_isWord_p1009_0 σ) (fun r2 σ1 =>
          if r2 = 0 then
            some (.inl none, σ1)
          else
            en_cV (x_rd_nextToken_0 σ1) (fun σ3 =>
              en_cV (x_rd_readNot_5_p63_0 σ3 v2) (fun σ4 =>
                en_cV (x_ru_add_p63_0 σ4 (-10)) (fun σ5 =>
                  x_rd_readAnd_5_p63_8 σ5 v2 (v3 + 1)) (fun e σ => some (.inr e, σ))) (fun e σ => some (.inr e, σ))) (fun e σ => some (.inr e, σ))) (fun e σ => some (.inr e, σ))
      else
        some (.inl none, σ) := en_ex_un (G := bb_G) (P := bb_P) (ML := bb_ML) (HD := bb_HD) 26 0 25018 8 [some (.ref 66), some (.ref 63), some (.int v2), some (.int v3)] [] σ
set_option maxRecDepth 100000 in
set_option maxHeartbeats 1000000 in
theorem e_rd_readAnd_5_p60_0 (σ : en_S) (v2 : Int32) : x_rd_readAnd_5_p60_0 σ v2 =
    en_cV (x_rd_readNot_5_p60_0 σ v2) (fun σ1 =>
      x_rd_readAnd_5_p60_8 σ1 v2 0) (fun e σ => some (.inr e, σ)) := en_ex_un (G := bb_G) (P := bb_P) (ML := bb_ML) (HD := bb_HD) 8 0 25018 0 [some (.ref 66), some (.ref 60), some (.int v2), none] [] σ
set_option maxRecDepth 100000 in
set_option maxHeartbeats 1000000 in
theorem e_rd_readAnd_5_p60_8 (σ : en_S) (v2 : Int32) (v3 : Int32) : x_rd_readAnd_5_p60_8 σ v2 v3 =
    if (700 : Int32) ≤ v3 then
      some (.inl none, σ)
    else
      if σ.1 66 9 = 0 then
        en_cI (x_rd_isWord_p1009_0 σ) (fun r2 σ1 =>
          if r2 = 0 then
            some (.inl none, σ1)
          else
            en_cV (x_rd_nextToken_0 σ1) (fun σ3 =>
              en_cV (x_rd_readNot_5_p60_0 σ3 v2) (fun σ4 =>
                en_cV (x_ru_add_p60_0 σ4 (-10)) (fun σ5 =>
                  x_rd_readAnd_5_p60_8 σ5 v2 (v3 + 1)) (fun e σ => some (.inr e, σ))) (fun e σ => some (.inr e, σ))) (fun e σ => some (.inr e, σ))) (fun e σ => some (.inr e, σ))
      else
        some (.inl none, σ) := en_ex_un (G := bb_G) (P := bb_P) (ML := bb_ML) (HD := bb_HD) 26 0 25018 8 [some (.ref 66), some (.ref 60), some (.int v2), some (.int v3)] [] σ
set_option maxRecDepth 100000 in
set_option maxHeartbeats 1000000 in
theorem e_rd_readNot_5_p63_0 (σ : en_S) (v2 : Int32) : x_rd_readNot_5_p63_0 σ v2 =
    x_rd_readNot_5_p63_2 σ v2 0 := en_ex_un (G := bb_G) (P := bb_P) (ML := bb_ML) (HD := bb_HD) 4 0 25019 0 [some (.ref 66), some (.ref 63), some (.int v2), none, none] [] σ
set_option maxRecDepth 100000 in
set_option maxHeartbeats 1000000 in
theorem e_rd_readNot_5_p63_2 (σ : en_S) (v2 : Int32) (v3 : Int32) : x_rd_readNot_5_p63_2 σ v2 v3 =
    if (6 : Int32) ≤ v3 then
      en_cI (x_rd_isWord_p1010_0 σ) (fun r2 σ1 =>
        if r2 = 0 then
          en_cV (x_rd_readSum_5_p63_0 σ1 v2) (fun σ3 =>
            if σ3.1 66 9 = 0 then
              en_cI (x_rd_isSign_0 σ3 60) (fun r5 σ4 =>
                if r5 = 0 then
                  en_cI (x_rd_isSign_0 σ4 61) (fun r7 σ6 =>
                    if r7 = 0 then
                      x_rd_readNot_5_p63_110 σ6 v3 0
                    else
                      x_rd_readNot_5_p63_73 σ6 v2 v3) (fun e σ => some (.inr e, σ))
                else
                  x_rd_readNot_5_p63_73 σ4 v2 v3) (fun e σ => some (.inr e, σ))
            else
              x_rd_readNot_5_p63_110 σ3 v3 0) (fun e σ => some (.inr e, σ))
        else
          en_cV (x_rd_refuse_0 σ1 2) (fun σ8 =>
            some (.inl none, σ8)) (fun e σ => some (.inr e, σ))) (fun e σ => some (.inr e, σ))
    else
      en_cI (x_rd_isWord_p1010_0 σ) (fun r10 σ9 =>
        if r10 = 0 then
          en_cI (x_rd_isWord_p1010_0 σ9) (fun r12 σ11 =>
            if r12 = 0 then
              en_cV (x_rd_readSum_5_p63_0 σ11 v2) (fun σ13 =>
                if σ13.1 66 9 = 0 then
                  en_cI (x_rd_isSign_0 σ13 60) (fun r15 σ14 =>
                    if r15 = 0 then
                      en_cI (x_rd_isSign_0 σ14 61) (fun r17 σ16 =>
                        if r17 = 0 then
                          x_rd_readNot_5_p63_110 σ16 v3 0
                        else
                          x_rd_readNot_5_p63_73 σ16 v2 v3) (fun e σ => some (.inr e, σ))
                    else
                      x_rd_readNot_5_p63_73 σ14 v2 v3) (fun e σ => some (.inr e, σ))
                else
                  x_rd_readNot_5_p63_110 σ13 v3 0) (fun e σ => some (.inr e, σ))
            else
              en_cV (x_rd_refuse_0 σ11 2) (fun σ18 =>
                some (.inl none, σ18)) (fun e σ => some (.inr e, σ))) (fun e σ => some (.inr e, σ))
        else
          en_cV (x_rd_nextToken_0 σ9) (fun σ19 =>
            x_rd_readNot_5_p63_2 σ19 v2 (v3 + 1)) (fun e σ => some (.inr e, σ))) (fun e σ => some (.inr e, σ)) := en_ex_un (G := bb_G) (P := bb_P) (ML := bb_ML) (HD := bb_HD) 67 0 25019 2 [some (.ref 66), some (.ref 63), some (.int v2), some (.int v3), none] [] σ
set_option maxRecDepth 100000 in
set_option maxHeartbeats 1000000 in
theorem e_rd_readNot_5_p63_73 (σ : en_S) (v2 : Int32) (v3 : Int32) : x_rd_readNot_5_p63_73 σ v2 v3 =
    en_cI (x_rd_isSign_0 σ 60) (fun r2 σ1 =>
      if r2 = 0 then
        en_cV (x_rd_nextToken_0 σ1) (fun σ3 =>
          en_cV (x_rd_readSum_5_p63_0 σ3 v2) (fun σ4 =>
            en_cV (x_ru_add_p63_0 σ4 (-12)) (fun σ5 =>
              x_rd_readNot_5_p63_110 σ5 v3 0) (fun e σ => some (.inr e, σ))) (fun e σ => some (.inr e, σ))) (fun e σ => some (.inr e, σ))
      else
        en_cV (x_rd_nextToken_0 σ1) (fun σ6 =>
          en_cV (x_rd_readSum_5_p63_0 σ6 v2) (fun σ7 =>
            en_cV (x_ru_add_p63_0 σ7 (-11)) (fun σ8 =>
              x_rd_readNot_5_p63_110 σ8 v3 0) (fun e σ => some (.inr e, σ))) (fun e σ => some (.inr e, σ))) (fun e σ => some (.inr e, σ))) (fun e σ => some (.inr e, σ)) := en_ex_un (G := bb_G) (P := bb_P) (ML := bb_ML) (HD := bb_HD) 33 0 25019 73 [some (.ref 66), some (.ref 63), some (.int v2), some (.int v3), none] [] σ
set_option maxRecDepth 100000 in
set_option maxHeartbeats 1000000 in
theorem e_rd_readNot_5_p63_110 (σ : en_S) (v3 : Int32) (v4 : Int32) : x_rd_readNot_5_p63_110 σ v3 v4 =
    if v3 ≤ v4 then
      some (.inl none, σ)
    else
      en_cV (x_ru_add_p63_0 σ (-8)) (fun σ1 =>
        x_rd_readNot_5_p63_110 σ1 v3 (v4 + 1)) (fun e σ => some (.inr e, σ)) := en_ex_un (G := bb_G) (P := bb_P) (ML := bb_ML) (HD := bb_HD) 11 0 25019 110 [none, some (.ref 63), none, some (.int v3), some (.int v4)] [] σ
set_option maxRecDepth 100000 in
set_option maxHeartbeats 1000000 in
theorem e_rd_readNot_5_p60_0 (σ : en_S) (v2 : Int32) : x_rd_readNot_5_p60_0 σ v2 =
    x_rd_readNot_5_p60_2 σ v2 0 := en_ex_un (G := bb_G) (P := bb_P) (ML := bb_ML) (HD := bb_HD) 4 0 25019 0 [some (.ref 66), some (.ref 60), some (.int v2), none, none] [] σ
set_option maxRecDepth 100000 in
set_option maxHeartbeats 1000000 in
theorem e_rd_readNot_5_p60_2 (σ : en_S) (v2 : Int32) (v3 : Int32) : x_rd_readNot_5_p60_2 σ v2 v3 =
    if (6 : Int32) ≤ v3 then
      en_cI (x_rd_isWord_p1010_0 σ) (fun r2 σ1 =>
        if r2 = 0 then
          en_cV (x_rd_readSum_5_p60_0 σ1 v2) (fun σ3 =>
            if σ3.1 66 9 = 0 then
              en_cI (x_rd_isSign_0 σ3 60) (fun r5 σ4 =>
                if r5 = 0 then
                  en_cI (x_rd_isSign_0 σ4 61) (fun r7 σ6 =>
                    if r7 = 0 then
                      x_rd_readNot_5_p60_110 σ6 v3 0
                    else
                      x_rd_readNot_5_p60_73 σ6 v2 v3) (fun e σ => some (.inr e, σ))
                else
                  x_rd_readNot_5_p60_73 σ4 v2 v3) (fun e σ => some (.inr e, σ))
            else
              x_rd_readNot_5_p60_110 σ3 v3 0) (fun e σ => some (.inr e, σ))
        else
          en_cV (x_rd_refuse_0 σ1 2) (fun σ8 =>
            some (.inl none, σ8)) (fun e σ => some (.inr e, σ))) (fun e σ => some (.inr e, σ))
    else
      en_cI (x_rd_isWord_p1010_0 σ) (fun r10 σ9 =>
        if r10 = 0 then
          en_cI (x_rd_isWord_p1010_0 σ9) (fun r12 σ11 =>
            if r12 = 0 then
              en_cV (x_rd_readSum_5_p60_0 σ11 v2) (fun σ13 =>
                if σ13.1 66 9 = 0 then
                  en_cI (x_rd_isSign_0 σ13 60) (fun r15 σ14 =>
                    if r15 = 0 then
                      en_cI (x_rd_isSign_0 σ14 61) (fun r17 σ16 =>
                        if r17 = 0 then
                          x_rd_readNot_5_p60_110 σ16 v3 0
                        else
                          x_rd_readNot_5_p60_73 σ16 v2 v3) (fun e σ => some (.inr e, σ))
                    else
                      x_rd_readNot_5_p60_73 σ14 v2 v3) (fun e σ => some (.inr e, σ))
                else
                  x_rd_readNot_5_p60_110 σ13 v3 0) (fun e σ => some (.inr e, σ))
            else
              en_cV (x_rd_refuse_0 σ11 2) (fun σ18 =>
                some (.inl none, σ18)) (fun e σ => some (.inr e, σ))) (fun e σ => some (.inr e, σ))
        else
          en_cV (x_rd_nextToken_0 σ9) (fun σ19 =>
            x_rd_readNot_5_p60_2 σ19 v2 (v3 + 1)) (fun e σ => some (.inr e, σ))) (fun e σ => some (.inr e, σ)) := en_ex_un (G := bb_G) (P := bb_P) (ML := bb_ML) (HD := bb_HD) 67 0 25019 2 [some (.ref 66), some (.ref 60), some (.int v2), some (.int v3), none] [] σ
set_option maxRecDepth 100000 in
set_option maxHeartbeats 1000000 in
theorem e_rd_readNot_5_p60_73 (σ : en_S) (v2 : Int32) (v3 : Int32) : x_rd_readNot_5_p60_73 σ v2 v3 =
    en_cI (x_rd_isSign_0 σ 60) (fun r2 σ1 =>
      if r2 = 0 then
        en_cV (x_rd_nextToken_0 σ1) (fun σ3 =>
          en_cV (x_rd_readSum_5_p60_0 σ3 v2) (fun σ4 =>
            en_cV (x_ru_add_p60_0 σ4 (-12)) (fun σ5 =>
              x_rd_readNot_5_p60_110 σ5 v3 0) (fun e σ => some (.inr e, σ))) (fun e σ => some (.inr e, σ))) (fun e σ => some (.inr e, σ))
      else
        en_cV (x_rd_nextToken_0 σ1) (fun σ6 =>
          en_cV (x_rd_readSum_5_p60_0 σ6 v2) (fun σ7 =>
            en_cV (x_ru_add_p60_0 σ7 (-11)) (fun σ8 =>
              x_rd_readNot_5_p60_110 σ8 v3 0) (fun e σ => some (.inr e, σ))) (fun e σ => some (.inr e, σ))) (fun e σ => some (.inr e, σ))) (fun e σ => some (.inr e, σ)) := en_ex_un (G := bb_G) (P := bb_P) (ML := bb_ML) (HD := bb_HD) 33 0 25019 73 [some (.ref 66), some (.ref 60), some (.int v2), some (.int v3), none] [] σ
set_option maxRecDepth 100000 in
set_option maxHeartbeats 1000000 in
theorem e_rd_readNot_5_p60_110 (σ : en_S) (v3 : Int32) (v4 : Int32) : x_rd_readNot_5_p60_110 σ v3 v4 =
    if v3 ≤ v4 then
      some (.inl none, σ)
    else
      en_cV (x_ru_add_p60_0 σ (-8)) (fun σ1 =>
        x_rd_readNot_5_p60_110 σ1 v3 (v4 + 1)) (fun e σ => some (.inr e, σ)) := en_ex_un (G := bb_G) (P := bb_P) (ML := bb_ML) (HD := bb_HD) 11 0 25019 110 [none, some (.ref 60), none, some (.int v3), some (.int v4)] [] σ
set_option maxRecDepth 100000 in
set_option maxHeartbeats 1000000 in
theorem e_rd_readSum_5_p63_0 (σ : en_S) (v2 : Int32) : x_rd_readSum_5_p63_0 σ v2 =
    en_cV (x_rd_readProduct_5_p63_0 σ v2) (fun σ1 =>
      x_rd_readSum_5_p63_8 σ1 v2 0) (fun e σ => some (.inr e, σ)) := en_ex_un (G := bb_G) (P := bb_P) (ML := bb_ML) (HD := bb_HD) 8 0 25020 0 [some (.ref 66), some (.ref 63), some (.int v2), none, none] [] σ
set_option maxRecDepth 100000 in
set_option maxHeartbeats 1000000 in
theorem e_rd_readSum_5_p63_8 (σ : en_S) (v2 : Int32) (v3 : Int32) : x_rd_readSum_5_p63_8 σ v2 v3 =
    if (700 : Int32) ≤ v3 then
      some (.inl none, σ)
    else
      if σ.1 66 9 = 0 then
        en_cI (x_rd_isSign_0 σ 43) (fun r2 σ1 =>
          if r2 = 0 then
            en_cI (x_rd_isSign_0 σ1 45) (fun r4 σ3 =>
              if r4 = 0 then
                some (.inl none, σ3)
              else
                en_cI (x_rd_isSign_0 σ3 43) (fun r6 σ5 =>
                  if r6 = 0 then
                    x_rd_readSum_5_p63_56 σ5 v2 v3 (-14)
                  else
                    x_rd_readSum_5_p63_56 σ5 v2 v3 (-13)) (fun e σ => some (.inr e, σ))) (fun e σ => some (.inr e, σ))
          else
            en_cI (x_rd_isSign_0 σ1 43) (fun r8 σ7 =>
              if r8 = 0 then
                x_rd_readSum_5_p63_56 σ7 v2 v3 (-14)
              else
                x_rd_readSum_5_p63_56 σ7 v2 v3 (-13)) (fun e σ => some (.inr e, σ))) (fun e σ => some (.inr e, σ))
      else
        some (.inl none, σ) := en_ex_un (G := bb_G) (P := bb_P) (ML := bb_ML) (HD := bb_HD) 33 0 25020 8 [some (.ref 66), some (.ref 63), some (.int v2), some (.int v3), none] [] σ
set_option maxRecDepth 100000 in
set_option maxHeartbeats 1000000 in
theorem e_rd_readSum_5_p63_56 (σ : en_S) (v2 : Int32) (v3 : Int32) (t0 : Int32) : x_rd_readSum_5_p63_56 σ v2 v3 t0 =
    en_cV (x_rd_nextToken_0 σ) (fun σ1 =>
      en_cV (x_rd_readProduct_5_p63_0 σ1 v2) (fun σ2 =>
        en_cV (x_ru_add_p63_0 σ2 t0) (fun σ3 =>
          x_rd_readSum_5_p63_8 σ3 v2 (v3 + 1)) (fun e σ => some (.inr e, σ))) (fun e σ => some (.inr e, σ))) (fun e σ => some (.inr e, σ)) := en_ex_un (G := bb_G) (P := bb_P) (ML := bb_ML) (HD := bb_HD) 14 0 25020 56 [some (.ref 66), some (.ref 63), some (.int v2), some (.int v3), none] [.int t0] σ
set_option maxRecDepth 100000 in
set_option maxHeartbeats 1000000 in
theorem e_rd_readSum_5_p60_0 (σ : en_S) (v2 : Int32) : x_rd_readSum_5_p60_0 σ v2 =
    en_cV (x_rd_readProduct_5_p60_0 σ v2) (fun σ1 =>
      x_rd_readSum_5_p60_8 σ1 v2 0) (fun e σ => some (.inr e, σ)) := en_ex_un (G := bb_G) (P := bb_P) (ML := bb_ML) (HD := bb_HD) 8 0 25020 0 [some (.ref 66), some (.ref 60), some (.int v2), none, none] [] σ
set_option maxRecDepth 100000 in
set_option maxHeartbeats 1000000 in
theorem e_rd_readSum_5_p60_8 (σ : en_S) (v2 : Int32) (v3 : Int32) : x_rd_readSum_5_p60_8 σ v2 v3 =
    if (700 : Int32) ≤ v3 then
      some (.inl none, σ)
    else
      if σ.1 66 9 = 0 then
        en_cI (x_rd_isSign_0 σ 43) (fun r2 σ1 =>
          if r2 = 0 then
            en_cI (x_rd_isSign_0 σ1 45) (fun r4 σ3 =>
              if r4 = 0 then
                some (.inl none, σ3)
              else
                en_cI (x_rd_isSign_0 σ3 43) (fun r6 σ5 =>
                  if r6 = 0 then
                    x_rd_readSum_5_p60_56 σ5 v2 v3 (-14)
                  else
                    x_rd_readSum_5_p60_56 σ5 v2 v3 (-13)) (fun e σ => some (.inr e, σ))) (fun e σ => some (.inr e, σ))
          else
            en_cI (x_rd_isSign_0 σ1 43) (fun r8 σ7 =>
              if r8 = 0 then
                x_rd_readSum_5_p60_56 σ7 v2 v3 (-14)
              else
                x_rd_readSum_5_p60_56 σ7 v2 v3 (-13)) (fun e σ => some (.inr e, σ))) (fun e σ => some (.inr e, σ))
      else
        some (.inl none, σ) := en_ex_un (G := bb_G) (P := bb_P) (ML := bb_ML) (HD := bb_HD) 33 0 25020 8 [some (.ref 66), some (.ref 60), some (.int v2), some (.int v3), none] [] σ
set_option maxRecDepth 100000 in
set_option maxHeartbeats 1000000 in
theorem e_rd_readSum_5_p60_56 (σ : en_S) (v2 : Int32) (v3 : Int32) (t0 : Int32) : x_rd_readSum_5_p60_56 σ v2 v3 t0 =
    en_cV (x_rd_nextToken_0 σ) (fun σ1 =>
      en_cV (x_rd_readProduct_5_p60_0 σ1 v2) (fun σ2 =>
        en_cV (x_ru_add_p60_0 σ2 t0) (fun σ3 =>
          x_rd_readSum_5_p60_8 σ3 v2 (v3 + 1)) (fun e σ => some (.inr e, σ))) (fun e σ => some (.inr e, σ))) (fun e σ => some (.inr e, σ)) := en_ex_un (G := bb_G) (P := bb_P) (ML := bb_ML) (HD := bb_HD) 14 0 25020 56 [some (.ref 66), some (.ref 60), some (.int v2), some (.int v3), none] [.int t0] σ
set_option maxRecDepth 100000 in
set_option maxHeartbeats 1000000 in
theorem e_rd_readProduct_5_p63_0 (σ : en_S) (v2 : Int32) : x_rd_readProduct_5_p63_0 σ v2 =
    en_cV (x_rd_readPart_5_p63_0 σ v2) (fun σ1 =>
      x_rd_readProduct_5_p63_8 σ1 v2 0) (fun e σ => some (.inr e, σ)) := en_ex_un (G := bb_G) (P := bb_P) (ML := bb_ML) (HD := bb_HD) 8 0 25021 0 [some (.ref 66), some (.ref 63), some (.int v2), none, none] [] σ
set_option maxRecDepth 100000 in
set_option maxHeartbeats 1000000 in
theorem e_rd_readProduct_5_p63_8 (σ : en_S) (v2 : Int32) (v3 : Int32) : x_rd_readProduct_5_p63_8 σ v2 v3 =
    if (700 : Int32) ≤ v3 then
      some (.inl none, σ)
    else
      if σ.1 66 9 = 0 then
        en_cI (x_rd_isSign_0 σ 42) (fun r2 σ1 =>
          if r2 = 0 then
            en_cI (x_rd_isSign_0 σ1 47) (fun r4 σ3 =>
              if r4 = 0 then
                some (.inl none, σ3)
              else
                en_cI (x_rd_isSign_0 σ3 42) (fun r6 σ5 =>
                  if r6 = 0 then
                    x_rd_readProduct_5_p63_56 σ5 v2 v3 (-16)
                  else
                    x_rd_readProduct_5_p63_56 σ5 v2 v3 (-15)) (fun e σ => some (.inr e, σ))) (fun e σ => some (.inr e, σ))
          else
            en_cI (x_rd_isSign_0 σ1 42) (fun r8 σ7 =>
              if r8 = 0 then
                x_rd_readProduct_5_p63_56 σ7 v2 v3 (-16)
              else
                x_rd_readProduct_5_p63_56 σ7 v2 v3 (-15)) (fun e σ => some (.inr e, σ))) (fun e σ => some (.inr e, σ))
      else
        some (.inl none, σ) := en_ex_un (G := bb_G) (P := bb_P) (ML := bb_ML) (HD := bb_HD) 33 0 25021 8 [some (.ref 66), some (.ref 63), some (.int v2), some (.int v3), none] [] σ
set_option maxRecDepth 100000 in
set_option maxHeartbeats 1000000 in
theorem e_rd_readProduct_5_p63_56 (σ : en_S) (v2 : Int32) (v3 : Int32) (t0 : Int32) : x_rd_readProduct_5_p63_56 σ v2 v3 t0 =
    en_cV (x_rd_nextToken_0 σ) (fun σ1 =>
      en_cV (x_rd_readPart_5_p63_0 σ1 v2) (fun σ2 =>
        en_cV (x_ru_add_p63_0 σ2 t0) (fun σ3 =>
          x_rd_readProduct_5_p63_8 σ3 v2 (v3 + 1)) (fun e σ => some (.inr e, σ))) (fun e σ => some (.inr e, σ))) (fun e σ => some (.inr e, σ)) := en_ex_un (G := bb_G) (P := bb_P) (ML := bb_ML) (HD := bb_HD) 14 0 25021 56 [some (.ref 66), some (.ref 63), some (.int v2), some (.int v3), none] [.int t0] σ
set_option maxRecDepth 100000 in
set_option maxHeartbeats 1000000 in
theorem e_rd_readProduct_5_p60_0 (σ : en_S) (v2 : Int32) : x_rd_readProduct_5_p60_0 σ v2 =
    en_cV (x_rd_readPart_5_p60_0 σ v2) (fun σ1 =>
      x_rd_readProduct_5_p60_8 σ1 v2 0) (fun e σ => some (.inr e, σ)) := en_ex_un (G := bb_G) (P := bb_P) (ML := bb_ML) (HD := bb_HD) 8 0 25021 0 [some (.ref 66), some (.ref 60), some (.int v2), none, none] [] σ
set_option maxRecDepth 100000 in
set_option maxHeartbeats 1000000 in
theorem e_rd_readProduct_5_p60_8 (σ : en_S) (v2 : Int32) (v3 : Int32) : x_rd_readProduct_5_p60_8 σ v2 v3 =
    if (700 : Int32) ≤ v3 then
      some (.inl none, σ)
    else
      if σ.1 66 9 = 0 then
        en_cI (x_rd_isSign_0 σ 42) (fun r2 σ1 =>
          if r2 = 0 then
            en_cI (x_rd_isSign_0 σ1 47) (fun r4 σ3 =>
              if r4 = 0 then
                some (.inl none, σ3)
              else
                en_cI (x_rd_isSign_0 σ3 42) (fun r6 σ5 =>
                  if r6 = 0 then
                    x_rd_readProduct_5_p60_56 σ5 v2 v3 (-16)
                  else
                    x_rd_readProduct_5_p60_56 σ5 v2 v3 (-15)) (fun e σ => some (.inr e, σ))) (fun e σ => some (.inr e, σ))
          else
            en_cI (x_rd_isSign_0 σ1 42) (fun r8 σ7 =>
              if r8 = 0 then
                x_rd_readProduct_5_p60_56 σ7 v2 v3 (-16)
              else
                x_rd_readProduct_5_p60_56 σ7 v2 v3 (-15)) (fun e σ => some (.inr e, σ))) (fun e σ => some (.inr e, σ))
      else
        some (.inl none, σ) := en_ex_un (G := bb_G) (P := bb_P) (ML := bb_ML) (HD := bb_HD) 33 0 25021 8 [some (.ref 66), some (.ref 60), some (.int v2), some (.int v3), none] [] σ
set_option maxRecDepth 100000 in
set_option maxHeartbeats 1000000 in
theorem e_rd_readProduct_5_p60_56 (σ : en_S) (v2 : Int32) (v3 : Int32) (t0 : Int32) : x_rd_readProduct_5_p60_56 σ v2 v3 t0 =
    en_cV (x_rd_nextToken_0 σ) (fun σ1 =>
      en_cV (x_rd_readPart_5_p60_0 σ1 v2) (fun σ2 =>
        en_cV (x_ru_add_p60_0 σ2 t0) (fun σ3 =>
          x_rd_readProduct_5_p60_8 σ3 v2 (v3 + 1)) (fun e σ => some (.inr e, σ))) (fun e σ => some (.inr e, σ))) (fun e σ => some (.inr e, σ)) := en_ex_un (G := bb_G) (P := bb_P) (ML := bb_ML) (HD := bb_HD) 14 0 25021 56 [some (.ref 66), some (.ref 60), some (.int v2), some (.int v3), none] [.int t0] σ
set_option maxRecDepth 100000 in
set_option maxHeartbeats 1000000 in
theorem e_rd_readPart_5_p63_0 (σ : en_S) (v2 : Int32) : x_rd_readPart_5_p63_0 σ v2 =
    en_cI (x_rd_isSign_0 σ 40) (fun r2 σ1 =>
      if r2 = 0 then
        if σ1.1 66 5 = 2 then
          en_cI (x_rd_readNumber_0 σ1 0 9999) (fun r4 σ3 =>
            en_cV (x_ru_add_p63_0 σ3 r4) (fun σ5 =>
              some (.inl none, σ5)) (fun e σ => some (.inr e, σ))) (fun e σ => some (.inr e, σ))
        else
          if σ1.1 66 5 = 1 then
            en_cI (x_rd_valueStep_0 σ1) (fun r7 σ6 =>
              if r7 = 0 then
                en_cV (x_rd_refuse_0 σ6 3) (fun σ8 =>
                  some (.inl none, σ8)) (fun e σ => some (.inr e, σ))
              else
                en_cI (x_rd_valueStep_0 σ6) (fun r10 σ9 =>
                  en_cV (x_ru_add_p63_0 σ9 r10) (fun σ11 =>
                    en_cV (x_rd_nextToken_0 σ11) (fun σ12 =>
                      some (.inl none, σ12)) (fun e σ => some (.inr e, σ))) (fun e σ => some (.inr e, σ))) (fun e σ => some (.inr e, σ))) (fun e σ => some (.inr e, σ))
          else
            en_cV (x_rd_refuse_0 σ1 1) (fun σ13 =>
              some (.inl none, σ13)) (fun e σ => some (.inr e, σ))
      else
        en_cV (x_rd_nextToken_0 σ1) (fun σ14 =>
          en_cV (x_rd_readExpr_6_p63_0 σ14 (v2 + 1)) (fun σ15 =>
            en_cV (x_rd_readSign_0 σ15 41) (fun σ16 =>
              some (.inl none, σ16)) (fun e σ => some (.inr e, σ))) (fun e σ => some (.inr e, σ))) (fun e σ => some (.inr e, σ))) (fun e σ => some (.inr e, σ)) := en_ex_un (G := bb_G) (P := bb_P) (ML := bb_ML) (HD := bb_HD) 55 0 25022 0 [some (.ref 66), some (.ref 63), some (.int v2)] [] σ
set_option maxRecDepth 100000 in
set_option maxHeartbeats 1000000 in
theorem e_rd_readPart_5_p60_0 (σ : en_S) (v2 : Int32) : x_rd_readPart_5_p60_0 σ v2 =
    en_cI (x_rd_isSign_0 σ 40) (fun r2 σ1 =>
      if r2 = 0 then
        if σ1.1 66 5 = 2 then
          en_cI (x_rd_readNumber_0 σ1 0 9999) (fun r4 σ3 =>
            en_cV (x_ru_add_p60_0 σ3 r4) (fun σ5 =>
              some (.inl none, σ5)) (fun e σ => some (.inr e, σ))) (fun e σ => some (.inr e, σ))
        else
          if σ1.1 66 5 = 1 then
            en_cI (x_rd_valueStep_0 σ1) (fun r7 σ6 =>
              if r7 = 0 then
                en_cV (x_rd_refuse_0 σ6 3) (fun σ8 =>
                  some (.inl none, σ8)) (fun e σ => some (.inr e, σ))
              else
                en_cI (x_rd_valueStep_0 σ6) (fun r10 σ9 =>
                  en_cV (x_ru_add_p60_0 σ9 r10) (fun σ11 =>
                    en_cV (x_rd_nextToken_0 σ11) (fun σ12 =>
                      some (.inl none, σ12)) (fun e σ => some (.inr e, σ))) (fun e σ => some (.inr e, σ))) (fun e σ => some (.inr e, σ))) (fun e σ => some (.inr e, σ))
          else
            en_cV (x_rd_refuse_0 σ1 1) (fun σ13 =>
              some (.inl none, σ13)) (fun e σ => some (.inr e, σ))
      else
        en_cV (x_rd_nextToken_0 σ1) (fun σ14 =>
          en_cV (x_rd_readExpr_6_p60_0 σ14 (v2 + 1)) (fun σ15 =>
            en_cV (x_rd_readSign_0 σ15 41) (fun σ16 =>
              some (.inl none, σ16)) (fun e σ => some (.inr e, σ))) (fun e σ => some (.inr e, σ))) (fun e σ => some (.inr e, σ))) (fun e σ => some (.inr e, σ)) := en_ex_un (G := bb_G) (P := bb_P) (ML := bb_ML) (HD := bb_HD) 55 0 25022 0 [some (.ref 66), some (.ref 60), some (.int v2)] [] σ
set_option maxRecDepth 100000 in
set_option maxHeartbeats 1000000 in
theorem e_rd_readExpr_6_p63_0 (σ : en_S) (v2 : Int32) : x_rd_readExpr_6_p63_0 σ v2 =
    if v2 ≤ 5 then
      none
    else
      if σ.1 66 5 = 2 then
        en_cV (x_rd_refuse_0 σ 2) (fun σ1 =>
          some (.inl none, σ1)) (fun e σ => some (.inr e, σ))
      else
        if σ.1 66 5 = 1 then
          en_cV (x_rd_refuse_0 σ 2) (fun σ2 =>
            some (.inl none, σ2)) (fun e σ => some (.inr e, σ))
        else
          en_cI (x_rd_isSign_0 σ 40) (fun r4 σ3 =>
            if r4 = 0 then
              en_cV (x_rd_refuse_0 σ3 1) (fun σ5 =>
                some (.inl none, σ5)) (fun e σ => some (.inr e, σ))
            else
              en_cV (x_rd_refuse_0 σ3 2) (fun σ6 =>
                some (.inl none, σ6)) (fun e σ => some (.inr e, σ))) (fun e σ => some (.inr e, σ)) := en_ex_un (G := bb_G) (P := bb_P) (ML := bb_ML) (HD := bb_HD) 37 0 26017 0 [some (.ref 66), some (.ref 63), some (.int v2), none] [] σ
set_option maxRecDepth 100000 in
set_option maxHeartbeats 1000000 in
theorem e_rd_readExpr_6_p60_0 (σ : en_S) (v2 : Int32) : x_rd_readExpr_6_p60_0 σ v2 =
    if v2 ≤ 5 then
      none
    else
      if σ.1 66 5 = 2 then
        en_cV (x_rd_refuse_0 σ 2) (fun σ1 =>
          some (.inl none, σ1)) (fun e σ => some (.inr e, σ))
      else
        if σ.1 66 5 = 1 then
          en_cV (x_rd_refuse_0 σ 2) (fun σ2 =>
            some (.inl none, σ2)) (fun e σ => some (.inr e, σ))
        else
          en_cI (x_rd_isSign_0 σ 40) (fun r4 σ3 =>
            if r4 = 0 then
              en_cV (x_rd_refuse_0 σ3 1) (fun σ5 =>
                some (.inl none, σ5)) (fun e σ => some (.inr e, σ))
            else
              en_cV (x_rd_refuse_0 σ3 2) (fun σ6 =>
                some (.inl none, σ6)) (fun e σ => some (.inr e, σ))) (fun e σ => some (.inr e, σ)) := en_ex_un (G := bb_G) (P := bb_P) (ML := bb_ML) (HD := bb_HD) 37 0 26017 0 [some (.ref 66), some (.ref 60), some (.int v2), none] [] σ
