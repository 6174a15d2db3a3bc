/-! written by a program: each region's equation -/
set_option maxRecDepth 100000 in
set_option maxHeartbeats 1000000 in
theorem e_ru_copyFrom_p44_60_0 (σ : en_S) : x_ru_copyFrom_p44_60_0 σ =
    (match (if σ.1 60 0 = 0 ∨ σ.1 60 0 = 1 then some (en_u1 σ.1 44 0 (σ.1 60 0), σ.2) else none : Option en_S) with
    | some σ1 =>
      some (.inl none, (en_uf (en_u1 σ1.1 44 1 (σ1.1 60 1)) 45 (va_cpy (σ1.1 61) (σ1.1 45) 0 0 700), σ1.2))
    | none => none) := en_ex_un (G := bb_G) (P := bb_P) (ML := bb_ML) (HD := bb_HD) 19 0 5002 0 [some (.ref 44), some (.ref 60)] [] σ
set_option maxRecDepth 100000 in
set_option maxHeartbeats 1000000 in
theorem e_ru_copyFrom_p47_63_0 (σ : en_S) : x_ru_copyFrom_p47_63_0 σ =
    (match (if σ.1 63 0 = 0 ∨ σ.1 63 0 = 1 then some (en_u1 σ.1 47 0 (σ.1 63 0), σ.2) else none : Option en_S) with
    | some σ1 =>
      some (.inl none, (en_uf (en_u1 σ1.1 47 1 (σ1.1 63 1)) 48 (va_cpy (σ1.1 64) (σ1.1 48) 0 0 700), σ1.2))
    | none => none) := en_ex_un (G := bb_G) (P := bb_P) (ML := bb_ML) (HD := bb_HD) 19 0 5002 0 [some (.ref 47), some (.ref 63)] [] σ
set_option maxRecDepth 100000 in
set_option maxHeartbeats 1000000 in
theorem e_ru_empty_p60_0 (σ : en_S) : x_ru_empty_p60_0 σ =
    some (.inl none, (en_u1 (en_u1 σ.1 60 0 0) 60 1 0, σ.2)) := en_ex_un (G := bb_G) (P := bb_P) (ML := bb_ML) (HD := bb_HD) 9 0 5001 0 [some (.ref 60)] [] σ
set_option maxRecDepth 100000 in
set_option maxHeartbeats 1000000 in
theorem e_ru_empty_p63_0 (σ : en_S) : x_ru_empty_p63_0 σ =
    some (.inl none, (en_u1 (en_u1 σ.1 63 0 0) 63 1 0, σ.2)) := en_ex_un (G := bb_G) (P := bb_P) (ML := bb_ML) (HD := bb_HD) 9 0 5001 0 [some (.ref 63)] [] σ
set_option maxRecDepth 100000 in
set_option maxHeartbeats 1000000 in
theorem e_ru_workOut_p47_72_0 (σ : en_S) : x_ru_workOut_p47_72_0 σ =
    x_ru_workOut_p47_72_4 σ 0 0 := en_ex_un (G := bb_G) (P := bb_P) (ML := bb_ML) (HD := bb_HD) 6 0 5004 0 [some (.ref 47), some (.ref 72), none, none, none] [] σ
set_option maxRecDepth 100000 in
set_option maxHeartbeats 1000000 in
theorem e_ru_workOut_p47_72_4 (σ : en_S) (v2 : Int32) (v3 : Int32) : x_ru_workOut_p47_72_4 σ v2 v3 =
    if σ.1 47 1 ≤ v3 then
      if v2 ≤ 0 then
        some (.inl (some (.int 0)), σ)
      else
        some (.inl (some (.int (σ.1 49 0))), σ)
    else
      if en_in v3 700 then
        if σ.1 48 v3.toNatClampNeg ≤ (-8) then
          if σ.1 48 v3.toNatClampNeg = (-8) then
            if v2 ≤ 0 then
              x_ru_workOut_p47_72_134 σ v2 v3
            else
              if en_in (v2 - 1) 48 then
                if σ.1 49 ((v2 - 1).toNatClampNeg) = 0 then
                  if en_in (v2 - 1) 48 then
                    x_ru_workOut_p47_72_134 (en_u1 σ.1 49 ((v2 - 1).toNatClampNeg) 1, σ.2) v2 v3
                  else
                    none
                else
                  if en_in (v2 - 1) 48 then
                    x_ru_workOut_p47_72_134 (en_u1 σ.1 49 ((v2 - 1).toNatClampNeg) 0, σ.2) v2 v3
                  else
                    none
              else
                none
          else
            if v2 ≤ 1 then
              x_ru_workOut_p47_72_134 σ v2 v3
            else
              if en_in ((v2 + (-1)) - 1) 48 then
                if en_in (v2 + (-1)) 48 then
                  en_cI (x_ru_join_0 σ (σ.1 48 v3.toNatClampNeg) (σ.1 49 (((v2 + (-1)) - 1).toNatClampNeg)) (σ.1 49 ((v2 + (-1)).toNatClampNeg))) (fun r2 σ1 =>
                    if en_in ((v2 + (-1)) - 1) 48 then
                      x_ru_workOut_p47_72_134 (en_u1 σ1.1 49 (((v2 + (-1)) - 1).toNatClampNeg) r2, σ1.2) (v2 + (-1)) v3
                    else
                      none) (fun e σ => some (.inr e, σ))
                else
                  none
              else
                none
        else
          if (48 : Int32) ≤ v2 then
            x_ru_workOut_p47_72_134 σ v2 v3
          else
            if σ.1 48 v3.toNatClampNeg < 0 then
              if en_in ((-1) - (σ.1 48 v3.toNatClampNeg)) 7 then
                if en_in v2 48 then
                  x_ru_workOut_p47_72_134 (en_u1 σ.1 49 v2.toNatClampNeg (σ.1 72 (((-1) - (σ.1 48 v3.toNatClampNeg)).toNatClampNeg)), σ.2) (v2 + 1) v3
                else
                  none
              else
                none
            else
              if en_in v2 48 then
                x_ru_workOut_p47_72_134 (en_u1 σ.1 49 v2.toNatClampNeg (σ.1 48 v3.toNatClampNeg), σ.2) (v2 + 1) v3
              else
                none
      else
        none := en_ex_un (G := bb_G) (P := bb_P) (ML := bb_ML) (HD := bb_HD) 91 0 5004 4 [some (.ref 47), some (.ref 72), some (.int v2), some (.int v3), none] [] σ
set_option maxRecDepth 100000 in
set_option maxHeartbeats 1000000 in
theorem e_ru_workOut_p47_72_134 (σ : en_S) (v2 : Int32) (v3 : Int32) : x_ru_workOut_p47_72_134 σ v2 v3 =
    x_ru_workOut_p47_72_4 σ v2 (v3 + 1) := en_ex_un (G := bb_G) (P := bb_P) (ML := bb_ML) (HD := bb_HD) 4 0 5004 134 [some (.ref 47), some (.ref 72), some (.int v2), some (.int v3), none] [] σ
set_option maxRecDepth 100000 in
set_option maxHeartbeats 1000000 in
theorem e_ru_workOut_p44_72_0 (σ : en_S) : x_ru_workOut_p44_72_0 σ =
    x_ru_workOut_p44_72_4 σ 0 0 := en_ex_un (G := bb_G) (P := bb_P) (ML := bb_ML) (HD := bb_HD) 6 0 5004 0 [some (.ref 44), some (.ref 72), none, none, none] [] σ
set_option maxRecDepth 100000 in
set_option maxHeartbeats 1000000 in
theorem e_ru_workOut_p44_72_4 (σ : en_S) (v2 : Int32) (v3 : Int32) : x_ru_workOut_p44_72_4 σ v2 v3 =
    if σ.1 44 1 ≤ v3 then
      if v2 ≤ 0 then
        some (.inl (some (.int 0)), σ)
      else
        some (.inl (some (.int (σ.1 46 0))), σ)
    else
      if en_in v3 700 then
        if σ.1 45 v3.toNatClampNeg ≤ (-8) then
          if σ.1 45 v3.toNatClampNeg = (-8) then
            if v2 ≤ 0 then
              x_ru_workOut_p44_72_134 σ v2 v3
            else
              if en_in (v2 - 1) 48 then
                if σ.1 46 ((v2 - 1).toNatClampNeg) = 0 then
                  if en_in (v2 - 1) 48 then
                    x_ru_workOut_p44_72_134 (en_u1 σ.1 46 ((v2 - 1).toNatClampNeg) 1, σ.2) v2 v3
                  else
                    none
                else
                  if en_in (v2 - 1) 48 then
                    x_ru_workOut_p44_72_134 (en_u1 σ.1 46 ((v2 - 1).toNatClampNeg) 0, σ.2) v2 v3
                  else
                    none
              else
                none
          else
            if v2 ≤ 1 then
              x_ru_workOut_p44_72_134 σ v2 v3
            else
              if en_in ((v2 + (-1)) - 1) 48 then
                if en_in (v2 + (-1)) 48 then
                  en_cI (x_ru_join_0 σ (σ.1 45 v3.toNatClampNeg) (σ.1 46 (((v2 + (-1)) - 1).toNatClampNeg)) (σ.1 46 ((v2 + (-1)).toNatClampNeg))) (fun r2 σ1 =>
                    if en_in ((v2 + (-1)) - 1) 48 then
                      x_ru_workOut_p44_72_134 (en_u1 σ1.1 46 (((v2 + (-1)) - 1).toNatClampNeg) r2, σ1.2) (v2 + (-1)) v3
                    else
                      none) (fun e σ => some (.inr e, σ))
                else
                  none
              else
                none
        else
          if (48 : Int32) ≤ v2 then
            x_ru_workOut_p44_72_134 σ v2 v3
          else
            if σ.1 45 v3.toNatClampNeg < 0 then
              if en_in ((-1) - (σ.1 45 v3.toNatClampNeg)) 7 then
                if en_in v2 48 then
                  x_ru_workOut_p44_72_134 (en_u1 σ.1 46 v2.toNatClampNeg (σ.1 72 (((-1) - (σ.1 45 v3.toNatClampNeg)).toNatClampNeg)), σ.2) (v2 + 1) v3
                else
                  none
              else
                none
            else
              if en_in v2 48 then
                x_ru_workOut_p44_72_134 (en_u1 σ.1 46 v2.toNatClampNeg (σ.1 45 v3.toNatClampNeg), σ.2) (v2 + 1) v3
              else
                none
      else
        none := en_ex_un (G := bb_G) (P := bb_P) (ML := bb_ML) (HD := bb_HD) 91 0 5004 4 [some (.ref 44), some (.ref 72), some (.int v2), some (.int v3), none] [] σ
set_option maxRecDepth 100000 in
set_option maxHeartbeats 1000000 in
theorem e_ru_workOut_p44_72_134 (σ : en_S) (v2 : Int32) (v3 : Int32) : x_ru_workOut_p44_72_134 σ v2 v3 =
    x_ru_workOut_p44_72_4 σ v2 (v3 + 1) := en_ex_un (G := bb_G) (P := bb_P) (ML := bb_ML) (HD := bb_HD) 4 0 5004 134 [some (.ref 44), some (.ref 72), some (.int v2), some (.int v3), none] [] σ
set_option maxRecDepth 100000 in
set_option maxHeartbeats 1000000 in
theorem e_ru_workOut_p44_78_0 (σ : en_S) : x_ru_workOut_p44_78_0 σ =
    x_ru_workOut_p44_78_4 σ 0 0 := en_ex_un (G := bb_G) (P := bb_P) (ML := bb_ML) (HD := bb_HD) 6 0 5004 0 [some (.ref 44), some (.ref 78), none, none, none] [] σ
set_option maxRecDepth 100000 in
set_option maxHeartbeats 1000000 in
theorem e_ru_workOut_p44_78_4 (σ : en_S) (v2 : Int32) (v3 : Int32) : x_ru_workOut_p44_78_4 σ v2 v3 =
    if σ.1 44 1 ≤ v3 then
      if v2 ≤ 0 then
        some (.inl (some (.int 0)), σ)
      else
        some (.inl (some (.int (σ.1 46 0))), σ)
    else
      if en_in v3 700 then
        if σ.1 45 v3.toNatClampNeg ≤ (-8) then
          if σ.1 45 v3.toNatClampNeg = (-8) then
            if v2 ≤ 0 then
              x_ru_workOut_p44_78_134 σ v2 v3
            else
              if en_in (v2 - 1) 48 then
                if σ.1 46 ((v2 - 1).toNatClampNeg) = 0 then
                  if en_in (v2 - 1) 48 then
                    x_ru_workOut_p44_78_134 (en_u1 σ.1 46 ((v2 - 1).toNatClampNeg) 1, σ.2) v2 v3
                  else
                    none
                else
                  if en_in (v2 - 1) 48 then
                    x_ru_workOut_p44_78_134 (en_u1 σ.1 46 ((v2 - 1).toNatClampNeg) 0, σ.2) v2 v3
                  else
                    none
              else
                none
          else
            if v2 ≤ 1 then
              x_ru_workOut_p44_78_134 σ v2 v3
            else
              if en_in ((v2 + (-1)) - 1) 48 then
                if en_in (v2 + (-1)) 48 then
                  en_cI (x_ru_join_0 σ (σ.1 45 v3.toNatClampNeg) (σ.1 46 (((v2 + (-1)) - 1).toNatClampNeg)) (σ.1 46 ((v2 + (-1)).toNatClampNeg))) (fun r2 σ1 =>
                    if en_in ((v2 + (-1)) - 1) 48 then
                      x_ru_workOut_p44_78_134 (en_u1 σ1.1 46 (((v2 + (-1)) - 1).toNatClampNeg) r2, σ1.2) (v2 + (-1)) v3
                    else
                      none) (fun e σ => some (.inr e, σ))
                else
                  none
              else
                none
        else
          if (48 : Int32) ≤ v2 then
            x_ru_workOut_p44_78_134 σ v2 v3
          else
            if σ.1 45 v3.toNatClampNeg < 0 then
              if en_in ((-1) - (σ.1 45 v3.toNatClampNeg)) 7 then
                if en_in v2 48 then
                  x_ru_workOut_p44_78_134 (en_u1 σ.1 46 v2.toNatClampNeg (σ.1 78 (((-1) - (σ.1 45 v3.toNatClampNeg)).toNatClampNeg)), σ.2) (v2 + 1) v3
                else
                  none
              else
                none
            else
              if en_in v2 48 then
                x_ru_workOut_p44_78_134 (en_u1 σ.1 46 v2.toNatClampNeg (σ.1 45 v3.toNatClampNeg), σ.2) (v2 + 1) v3
              else
                none
      else
        none := en_ex_un (G := bb_G) (P := bb_P) (ML := bb_ML) (HD := bb_HD) 91 0 5004 4 [some (.ref 44), some (.ref 78), some (.int v2), some (.int v3), none] [] σ
set_option maxRecDepth 100000 in
set_option maxHeartbeats 1000000 in
theorem e_ru_workOut_p44_78_134 (σ : en_S) (v2 : Int32) (v3 : Int32) : x_ru_workOut_p44_78_134 σ v2 v3 =
    x_ru_workOut_p44_78_4 σ v2 (v3 + 1) := en_ex_un (G := bb_G) (P := bb_P) (ML := bb_ML) (HD := bb_HD) 4 0 5004 134 [some (.ref 44), some (.ref 78), some (.int v2), some (.int v3), none] [] σ
set_option maxRecDepth 100000 in
set_option maxHeartbeats 1000000 in
theorem e_ru_workOut_p47_78_0 (σ : en_S) : x_ru_workOut_p47_78_0 σ =
    x_ru_workOut_p47_78_4 σ 0 0 := en_ex_un (G := bb_G) (P := bb_P) (ML := bb_ML) (HD := bb_HD) 6 0 5004 0 [some (.ref 47), some (.ref 78), none, none, none] [] σ
set_option maxRecDepth 100000 in
set_option maxHeartbeats 1000000 in
theorem e_ru_workOut_p47_78_4 (σ : en_S) (v2 : Int32) (v3 : Int32) : x_ru_workOut_p47_78_4 σ v2 v3 =
    if σ.1 47 1 ≤ v3 then
      if v2 ≤ 0 then
        some (.inl (some (.int 0)), σ)
      else
        some (.inl (some (.int (σ.1 49 0))), σ)
    else
      if en_in v3 700 then
        if σ.1 48 v3.toNatClampNeg ≤ (-8) then
          if σ.1 48 v3.toNatClampNeg = (-8) then
            if v2 ≤ 0 then
              x_ru_workOut_p47_78_134 σ v2 v3
            else
              if en_in (v2 - 1) 48 then
                if σ.1 49 ((v2 - 1).toNatClampNeg) = 0 then
                  if en_in (v2 - 1) 48 then
                    x_ru_workOut_p47_78_134 (en_u1 σ.1 49 ((v2 - 1).toNatClampNeg) 1, σ.2) v2 v3
                  else
                    none
                else
                  if en_in (v2 - 1) 48 then
                    x_ru_workOut_p47_78_134 (en_u1 σ.1 49 ((v2 - 1).toNatClampNeg) 0, σ.2) v2 v3
                  else
                    none
              else
                none
          else
            if v2 ≤ 1 then
              x_ru_workOut_p47_78_134 σ v2 v3
            else
              if en_in ((v2 + (-1)) - 1) 48 then
                if en_in (v2 + (-1)) 48 then
                  en_cI (x_ru_join_0 σ (σ.1 48 v3.toNatClampNeg) (σ.1 49 (((v2 + (-1)) - 1).toNatClampNeg)) (σ.1 49 ((v2 + (-1)).toNatClampNeg))) (fun r2 σ1 =>
                    if en_in ((v2 + (-1)) - 1) 48 then
                      x_ru_workOut_p47_78_134 (en_u1 σ1.1 49 (((v2 + (-1)) - 1).toNatClampNeg) r2, σ1.2) (v2 + (-1)) v3
                    else
                      none) (fun e σ => some (.inr e, σ))
                else
                  none
              else
                none
        else
          if (48 : Int32) ≤ v2 then
            x_ru_workOut_p47_78_134 σ v2 v3
          else
            if σ.1 48 v3.toNatClampNeg < 0 then
              if en_in ((-1) - (σ.1 48 v3.toNatClampNeg)) 7 then
                if en_in v2 48 then
                  x_ru_workOut_p47_78_134 (en_u1 σ.1 49 v2.toNatClampNeg (σ.1 78 (((-1) - (σ.1 48 v3.toNatClampNeg)).toNatClampNeg)), σ.2) (v2 + 1) v3
                else
                  none
              else
                none
            else
              if en_in v2 48 then
                x_ru_workOut_p47_78_134 (en_u1 σ.1 49 v2.toNatClampNeg (σ.1 48 v3.toNatClampNeg), σ.2) (v2 + 1) v3
              else
                none
      else
        none := en_ex_un (G := bb_G) (P := bb_P) (ML := bb_ML) (HD := bb_HD) 91 0 5004 4 [some (.ref 47), some (.ref 78), some (.int v2), some (.int v3), none] [] σ
set_option maxRecDepth 100000 in
set_option maxHeartbeats 1000000 in
theorem e_ru_workOut_p47_78_134 (σ : en_S) (v2 : Int32) (v3 : Int32) : x_ru_workOut_p47_78_134 σ v2 v3 =
    x_ru_workOut_p47_78_4 σ v2 (v3 + 1) := en_ex_un (G := bb_G) (P := bb_P) (ML := bb_ML) (HD := bb_HD) 4 0 5004 134 [some (.ref 47), some (.ref 78), some (.int v2), some (.int v3), none] [] σ
set_option maxRecDepth 100000 in
set_option maxHeartbeats 1000000 in
theorem e_ru_join_0 (σ : en_S) (v0 : Int32) (v1 : Int32) (v2 : Int32) : x_ru_join_0 σ v0 v1 v2 =
    if v0 = (-15) then
      some (.inl (some (.int (v1 * v2))), σ)
    else
      if v0 = (-14) then
        some (.inl (some (.int (v1 - v2))), σ)
      else
        if v0 = (-13) then
          some (.inl (some (.int (v1 + v2))), σ)
        else
          if v0 = (-12) then
            if v1 = v2 then
              some (.inl (some (.int 1)), σ)
            else
              some (.inl (some (.int 0)), σ)
          else
            if v0 = (-11) then
              if v2 ≤ v1 then
                some (.inl (some (.int 0)), σ)
              else
                some (.inl (some (.int 1)), σ)
            else
              if v0 = (-10) then
                if v1 = 0 then
                  some (.inl (some (.int 0)), σ)
                else
                  if v2 = 0 then
                    some (.inl (some (.int 0)), σ)
                  else
                    some (.inl (some (.int 1)), σ)
              else
                if v0 = (-9) then
                  if v1 = 0 then
                    if v2 = 0 then
                      some (.inl (some (.int 0)), σ)
                    else
                      some (.inl (some (.int 1)), σ)
                  else
                    some (.inl (some (.int 1)), σ)
                else
                  if v2 = 0 then
                    some (.inl (some (.int 0)), σ)
                  else
                    if v2 = 0 then
                      none
                    else
                      some (.inl (some (.int (v1 / v2))), σ) := en_ex_un (G := bb_G) (P := bb_P) (ML := bb_ML) (HD := bb_HD) 64 0 5005 0 [some (.int v0), some (.int v1), some (.int v2)] [] σ
set_option maxRecDepth 100000 in
set_option maxHeartbeats 1000000 in
theorem e_ru_add_p63_0 (σ : en_S) (v1 : Int32) : x_ru_add_p63_0 σ v1 =
    if (700 : Int32) ≤ σ.1 63 1 then
      some (.inl none, σ)
    else
      if en_in (σ.1 63 1) 700 then
        some (.inl none, (en_u1 (en_u1 σ.1 64 ((σ.1 63 1).toNatClampNeg) v1) 63 1 ((σ.1 63 1) + 1), σ.2))
      else
        none := en_ex_un (G := bb_G) (P := bb_P) (ML := bb_ML) (HD := bb_HD) 20 0 5003 0 [some (.ref 63), some (.int v1)] [] σ
set_option maxRecDepth 100000 in
set_option maxHeartbeats 1000000 in
theorem e_ru_add_p60_0 (σ : en_S) (v1 : Int32) : x_ru_add_p60_0 σ v1 =
    if (700 : Int32) ≤ σ.1 60 1 then
      some (.inl none, σ)
    else
      if en_in (σ.1 60 1) 700 then
        some (.inl none, (en_u1 (en_u1 σ.1 61 ((σ.1 60 1).toNatClampNeg) v1) 60 1 ((σ.1 60 1) + 1), σ.2))
      else
        none := en_ex_un (G := bb_G) (P := bb_P) (ML := bb_ML) (HD := bb_HD) 20 0 5003 0 [some (.ref 60), some (.int v1)] [] σ
set_option maxRecDepth 100000 in
set_option maxHeartbeats 1000000 in
theorem e_sc_unmetBits_0 (σ : en_S) : x_sc_unmetBits_0 σ =
    x_sc_unmetBits_4 σ 0 0 := en_ex_un (G := bb_G) (P := bb_P) (ML := bb_ML) (HD := bb_HD) 6 0 6001 0 [some (.ref 100), none, none] [] σ
set_option maxRecDepth 100000 in
set_option maxHeartbeats 1000000 in
theorem e_sc_unmetBits_4 (σ : en_S) (v1 : Int32) (v2 : Int32) : x_sc_unmetBits_4 σ v1 v2 =
    if σ.1 34 5 ≤ v2 then
      some (.inl (some (.int v1)), σ)
    else
      if en_in v2 6 then
        en_cI (x_sc_agreesWith_0 σ v2 (σ.1 68 v2.toNatClampNeg)) (fun r2 σ1 =>
          if r2 = 0 then
            x_sc_unmetBits_4 σ1 (v1 ||| ((1 : Int32) <<< (v2 &&& 31))) (v2 + 1)
          else
            x_sc_unmetBits_4 σ1 v1 (v2 + 1)) (fun e σ => some (.inr e, σ))
      else
        none := en_ex_un (G := bb_G) (P := bb_P) (ML := bb_ML) (HD := bb_HD) 29 0 6001 4 [some (.ref 100), some (.int v1), some (.int v2)] [] σ
set_option maxRecDepth 100000 in
set_option maxHeartbeats 1000000 in
theorem e_sc_tryAll_0 (σ : en_S) : x_sc_tryAll_0 σ =
    en_cI (x_sc_unmetBits_0 σ) (fun r2 σ1 =>
      x_sc_tryAll_12 (en_u1 σ1.1 100 6 0, σ1.2) r2 0) (fun e σ => some (.inr e, σ)) := en_ex_un (G := bb_G) (P := bb_P) (ML := bb_ML) (HD := bb_HD) 10 0 6003 0 [some (.ref 100), none, none, none, none, none] [] σ
set_option maxRecDepth 100000 in
set_option maxHeartbeats 1000000 in
theorem e_sc_tryAll_12 (σ : en_S) (v1 : Int32) (v2 : Int32) : x_sc_tryAll_12 σ v1 v2 =
    if σ.1 34 5 ≤ v2 then
      some (.inl none, σ)
    else
      if v1 &&& (((1 : Int32) <<< (v2 &&& 31)) ^^^ (-1)) = 0 then
        if en_in v2 6 then
          x_sc_tryAll_52 (en_u1 σ.1 102 v2.toNatClampNeg 0, σ.2) v1 v2 1 1
        else
          none
      else
        if en_in v2 6 then
          x_sc_tryAll_52 (en_u1 σ.1 102 v2.toNatClampNeg 0, σ.2) v1 v2 0 1
        else
          none := en_ex_un (G := bb_G) (P := bb_P) (ML := bb_ML) (HD := bb_HD) 36 0 6003 12 [some (.ref 100), some (.int v1), some (.int v2), none, none, none] [] σ
set_option maxRecDepth 100000 in
set_option maxHeartbeats 1000000 in
theorem e_sc_tryAll_52 (σ : en_S) (v1 : Int32) (v2 : Int32) (v3 : Int32) (v4 : Int32) : x_sc_tryAll_52 σ v1 v2 v3 v4 =
    if (99 : Int32) < v4 then
      if en_in v2 6 then
        x_sc_tryAll_12 (en_u1 σ.1 100 6 ((σ.1 100 6) + (σ.1 102 v2.toNatClampNeg)), σ.2) v1 (v2 + 1)
      else
        none
    else
      if v3 = 0 then
        x_sc_tryAll_92 σ v1 v2 v3 v4 0
      else
        if en_in v2 6 then
          if v4 = σ.1 68 v2.toNatClampNeg then
            x_sc_tryAll_92 σ v1 v2 v3 v4 0
          else
            en_cI (x_sc_agreesWith_0 σ v2 v4) (fun r2 σ1 =>
              if r2 = 0 then
                x_sc_tryAll_92 σ1 v1 v2 v3 v4 0
              else
                x_sc_tryAll_92 σ1 v1 v2 v3 v4 1) (fun e σ => some (.inr e, σ))
        else
          none := en_ex_un (G := bb_G) (P := bb_P) (ML := bb_ML) (HD := bb_HD) 35 0 6003 52 [some (.ref 100), some (.int v1), some (.int v2), some (.int v3), some (.int v4), none] [] σ
set_option maxRecDepth 100000 in
set_option maxHeartbeats 1000000 in
theorem e_sc_tryAll_92 (σ : en_S) (v1 : Int32) (v2 : Int32) (v3 : Int32) (v4 : Int32) (t0 : Int32) : x_sc_tryAll_92 σ v1 v2 v3 v4 t0 =
    if t0 = 0 then
      if en_in ((v2 * 100) + v4) 600 then
        if en_in v2 6 then
          if t0 = 0 then
            if en_in v2 6 then
              x_sc_tryAll_52 (en_u1 (en_u1 σ.1 101 (((v2 * 100) + v4).toNatClampNeg) 0) 102 v2.toNatClampNeg ((σ.1 102 v2.toNatClampNeg) + 0), σ.2) v1 v2 v3 (v4 + 1)
            else
              none
          else
            if en_in v2 6 then
              x_sc_tryAll_52 (en_u1 (en_u1 σ.1 101 (((v2 * 100) + v4).toNatClampNeg) 0) 102 v2.toNatClampNeg ((σ.1 102 v2.toNatClampNeg) + 1), σ.2) v1 v2 v3 (v4 + 1)
            else
              none
        else
          none
      else
        none
    else
      if en_in ((v2 * 100) + v4) 600 then
        if en_in v2 6 then
          if t0 = 0 then
            if en_in v2 6 then
              x_sc_tryAll_52 (en_u1 (en_u1 σ.1 101 (((v2 * 100) + v4).toNatClampNeg) 1) 102 v2.toNatClampNeg ((σ.1 102 v2.toNatClampNeg) + 0), σ.2) v1 v2 v3 (v4 + 1)
            else
              none
          else
            if en_in v2 6 then
              x_sc_tryAll_52 (en_u1 (en_u1 σ.1 101 (((v2 * 100) + v4).toNatClampNeg) 1) 102 v2.toNatClampNeg ((σ.1 102 v2.toNatClampNeg) + 1), σ.2) v1 v2 v3 (v4 + 1)
            else
              none
        else
          none
      else
        none := en_ex_un (G := bb_G) (P := bb_P) (ML := bb_ML) (HD := bb_HD) 53 0 6003 92 [some (.ref 100), some (.int v1), some (.int v2), some (.int v3), some (.int v4), none] [.int t0] σ
set_option maxRecDepth 100000 in
set_option maxHeartbeats 1000000 in
theorem e_sc_firstOne_0 (σ : en_S) : x_sc_firstOne_0 σ =
    x_sc_firstOne_2 σ 0 := en_ex_un (G := bb_G) (P := bb_P) (ML := bb_ML) (HD := bb_HD) 4 0 6004 0 [some (.ref 100), none, none] [] σ
set_option maxRecDepth 100000 in
set_option maxHeartbeats 1000000 in
theorem e_sc_firstOne_2 (σ : en_S) (v1 : Int32) : x_sc_firstOne_2 σ v1 =
    if σ.1 34 5 ≤ v1 then
      some (.inl (some (.int (-1))), σ)
    else
      x_sc_firstOne_18 σ v1 1 := en_ex_un (G := bb_G) (P := bb_P) (ML := bb_ML) (HD := bb_HD) 12 0 6004 2 [some (.ref 100), some (.int v1), none] [] σ
set_option maxRecDepth 100000 in
set_option maxHeartbeats 1000000 in
theorem e_sc_firstOne_18 (σ : en_S) (v1 : Int32) (v2 : Int32) : x_sc_firstOne_18 σ v1 v2 =
    if (99 : Int32) < v2 then
      x_sc_firstOne_2 σ (v1 + 1)
    else
      if en_in ((v1 * 100) + v2) 600 then
        if σ.1 101 (((v1 * 100) + v2).toNatClampNeg) = 1 then
          some (.inl (some (.int ((100 * v1) + v2))), σ)
        else
          x_sc_firstOne_18 σ v1 (v2 + 1)
      else
        none := en_ex_un (G := bb_G) (P := bb_P) (ML := bb_ML) (HD := bb_HD) 25 0 6004 18 [some (.ref 100), some (.int v1), some (.int v2)] [] σ
set_option maxRecDepth 100000 in
set_option maxHeartbeats 1000000 in
theorem e_sc_compareLater_0 (σ : en_S) : x_sc_compareLater_0 σ =
    x_sc_compareLater_12 (en_u1 (en_u1 σ.1 100 7 (-1)) 100 8 0, σ.2) 0 := en_ex_un (G := bb_G) (P := bb_P) (ML := bb_ML) (HD := bb_HD) 10 0 6005 0 [some (.ref 100), none, none] [] σ
set_option maxRecDepth 100000 in
set_option maxHeartbeats 1000000 in
theorem e_sc_compareLater_12 (σ : en_S) (v1 : Int32) : x_sc_compareLater_12 σ v1 =
    if σ.1 34 5 ≤ v1 then
      some (.inl none, σ)
    else
      en_cI (x_sc_unlikeOf_0 σ v1) (fun r2 σ1 =>
        if r2 ≤ σ1.1 100 8 then
          x_sc_compareLater_12 σ1 (v1 + 1)
        else
          x_sc_compareLater_12 (en_u1 (en_u1 σ1.1 100 7 v1) 100 8 r2, σ1.2) (v1 + 1)) (fun e σ => some (.inr e, σ)) := en_ex_un (G := bb_G) (P := bb_P) (ML := bb_ML) (HD := bb_HD) 27 0 6005 12 [some (.ref 100), some (.int v1), none] [] σ
set_option maxRecDepth 100000 in
set_option maxHeartbeats 1000000 in
theorem e_sc_agreesWith_0 (σ : en_S) (v1 : Int32) (v2 : Int32) : x_sc_agreesWith_0 σ v1 v2 =
    en_cI (x_se_lastDayOf_p81_0 σ v1) (fun r2 σ1 =>
      if r2 = (-1) then
        some (.inl (some (.int 1)), σ1)
      else
        en_cV (x_st_copyFrom_p73_67_0 σ1) (fun σ3 =>
          if en_in v1 6 then
            x_sc_agreesWith_40 (en_u1 σ3.1 74 v1.toNatClampNeg v2, σ3.2) v1 r2 0
          else
            none) (fun e σ => some (.inr e, σ))) (fun e σ => some (.inr e, σ)) := en_ex_un (G := bb_G) (P := bb_P) (ML := bb_ML) (HD := bb_HD) 25 0 6002 0 [some (.ref 100), some (.int v1), some (.int v2), none, none] [] σ
set_option maxRecDepth 100000 in
set_option maxHeartbeats 1000000 in
theorem e_sc_agreesWith_40 (σ : en_S) (v1 : Int32) (v3 : Int32) (v4 : Int32) : x_sc_agreesWith_40 σ v1 v3 v4 =
    if v3 ≤ v4 then
      if en_in v1 6 then
        en_cI (x_se_agrees_p81_0 σ v1 v3 (σ.1 74 v1.toNatClampNeg)) (fun r2 σ1 =>
          if r2 = 0 ∨ r2 = 1 then
            some (.inl (some (.int r2)), σ1)
          else
            none) (fun e σ => some (.inr e, σ))
      else
        none
    else
      if en_in v1 6 then
        en_cI (x_se_agrees_p81_0 σ v1 v4 (σ.1 74 v1.toNatClampNeg)) (fun r4 σ3 =>
          if r4 = 0 then
            some (.inl (some (.int 0)), σ3)
          else
            en_cI (x_st_passBox_p73_0 σ3 v1) (fun r6 σ5 =>
              x_sc_agreesWith_40 (en_u1 σ5.1 73 1 ((σ5.1 73 1) + 1), σ5.2) v1 v3 (v4 + 1)) (fun e σ => some (.inr e, σ))) (fun e σ => some (.inr e, σ))
      else
        none := en_ex_un (G := bb_G) (P := bb_P) (ML := bb_ML) (HD := bb_HD) 43 0 6002 40 [some (.ref 100), some (.int v1), none, some (.int v3), some (.int v4)] [] σ
set_option maxRecDepth 100000 in
set_option maxHeartbeats 1000000 in
theorem e_sc_unlikeOf_0 (σ : en_S) (v1 : Int32) : x_sc_unlikeOf_0 σ v1 =
    en_cV (x_ja_fill_p103_0 σ 0) (fun σ1 =>
      x_sc_unlikeOf_10 σ1 v1 1) (fun e σ => some (.inr e, σ)) := en_ex_un (G := bb_G) (P := bb_P) (ML := bb_ML) (HD := bb_HD) 8 0 6006 0 [some (.ref 100), some (.int v1), none, none] [] σ
set_option maxRecDepth 100000 in
set_option maxHeartbeats 1000000 in
theorem e_sc_unlikeOf_10 (σ : en_S) (v1 : Int32) (v2 : Int32) : x_sc_unlikeOf_10 σ v1 v2 =
    if (99 : Int32) < v2 then
      if en_in v1 6 then
        if σ.1 100 6 ≤ σ.1 102 v1.toNatClampNeg then
          x_sc_unlikeOf_82 σ 0 1
        else
          if en_in v1 6 then
            en_cI (x_sc_weightLater_0 σ v1 (σ.1 68 v1.toNatClampNeg)) (fun r2 σ1 =>
              en_cV (x_sc_mark_0 σ1 r2) (fun σ3 =>
                x_sc_unlikeOf_82 σ3 0 1) (fun e σ => some (.inr e, σ))) (fun e σ => some (.inr e, σ))
          else
            none
      else
        none
    else
      if en_in ((v1 * 100) + v2) 600 then
        if σ.1 101 (((v1 * 100) + v2).toNatClampNeg) = 1 then
          en_cI (x_sc_weightLater_0 σ v1 v2) (fun r5 σ4 =>
            en_cV (x_sc_mark_0 σ4 r5) (fun σ6 =>
              x_sc_unlikeOf_10 σ6 v1 (v2 + 1)) (fun e σ => some (.inr e, σ))) (fun e σ => some (.inr e, σ))
        else
          x_sc_unlikeOf_10 σ v1 (v2 + 1)
      else
        none := en_ex_un (G := bb_G) (P := bb_P) (ML := bb_ML) (HD := bb_HD) 50 0 6006 10 [some (.ref 100), some (.int v1), some (.int v2), none] [] σ
set_option maxRecDepth 100000 in
set_option maxHeartbeats 1000000 in
theorem e_sc_unlikeOf_82 (σ : en_S) (v2 : Int32) (v3 : Int32) : x_sc_unlikeOf_82 σ v2 v3 =
    if (99 : Int32) < v3 then
      some (.inl (some (.int v2)), σ)
    else
      if en_in v3 100 then
        x_sc_unlikeOf_82 σ (v2 + (σ.1 103 v3.toNatClampNeg)) (v3 + 1)
      else
        none := en_ex_un (G := bb_G) (P := bb_P) (ML := bb_ML) (HD := bb_HD) 16 0 6006 82 [some (.ref 100), none, some (.int v2), some (.int v3)] [] σ
set_option maxRecDepth 100000 in
set_option maxHeartbeats 1000000 in
theorem e_sc_weightLater_0 (σ : en_S) (v1 : Int32) (v2 : Int32) : x_sc_weightLater_0 σ v1 v2 =
    en_cV (x_st_copyFrom_p73_67_0 σ) (fun σ1 =>
      if en_in v1 6 then
        x_sc_weightLater_23 (en_u1 σ1.1 74 v1.toNatClampNeg v2, σ1.2) v1 0
      else
        none) (fun e σ => some (.inr e, σ)) := en_ex_un (G := bb_G) (P := bb_P) (ML := bb_ML) (HD := bb_HD) 15 0 6008 0 [some (.ref 100), some (.int v1), some (.int v2), none] [] σ
set_option maxRecDepth 100000 in
set_option maxHeartbeats 1000000 in
theorem e_sc_weightLater_23 (σ : en_S) (v1 : Int32) (v3 : Int32) : x_sc_weightLater_23 σ v1 v3 =
    if (5 : Int32) ≤ v3 then
      if en_in v1 6 then
        some (.inl (some (.int (σ.1 74 v1.toNatClampNeg))), σ)
      else
        none
    else
      en_cI (x_st_passBox_p73_0 σ v1) (fun r2 σ1 =>
        x_sc_weightLater_23 (en_u1 σ1.1 73 1 ((σ1.1 73 1) + 1), σ1.2) v1 (v3 + 1)) (fun e σ => some (.inr e, σ)) := en_ex_un (G := bb_G) (P := bb_P) (ML := bb_ML) (HD := bb_HD) 25 0 6008 23 [some (.ref 100), some (.int v1), none, some (.int v3)] [] σ
set_option maxRecDepth 100000 in
set_option maxHeartbeats 1000000 in
theorem e_sc_mark_0 (σ : en_S) (v1 : Int32) : x_sc_mark_0 σ v1 =
    if v1 ≤ 0 then
      some (.inl none, σ)
    else
      if (100 : Int32) ≤ v1 then
        some (.inl none, σ)
      else
        if en_in v1 100 then
          some (.inl none, (en_u1 σ.1 103 v1.toNatClampNeg 1, σ.2))
        else
          none := en_ex_un (G := bb_G) (P := bb_P) (ML := bb_ML) (HD := bb_HD) 15 0 6007 0 [some (.ref 100), some (.int v1)] [] σ
set_option maxRecDepth 100000 in
set_option maxHeartbeats 1000000 in
theorem e_se_copyFrom_p93_81_0 (σ : en_S) : x_se_copyFrom_p93_81_0 σ =
    some (.inl none, (en_uf (en_uf (en_uf (en_u1 σ.1 93 0 (σ.1 81 0)) 94 (va_cpy (σ.1 82) (σ.1 94) 0 0 8)) 95 (va_cpy (σ.1 83) (σ.1 95) 0 0 8)) 96 (va_cpy (σ.1 84) (σ.1 96) 0 0 8), σ.2)) := en_ex_un (G := bb_G) (P := bb_P) (ML := bb_ML) (HD := bb_HD) 31 0 7002 0 [some (.ref 93), some (.ref 81)] [] σ
set_option maxRecDepth 100000 in
set_option maxHeartbeats 1000000 in
theorem e_se_copyFrom_p81_93_0 (σ : en_S) : x_se_copyFrom_p81_93_0 σ =
    some (.inl none, (en_uf (en_uf (en_uf (en_u1 σ.1 81 0 (σ.1 93 0)) 82 (va_cpy (σ.1 94) (σ.1 82) 0 0 8)) 83 (va_cpy (σ.1 95) (σ.1 83) 0 0 8)) 84 (va_cpy (σ.1 96) (σ.1 84) 0 0 8), σ.2)) := en_ex_un (G := bb_G) (P := bb_P) (ML := bb_ML) (HD := bb_HD) 31 0 7002 0 [some (.ref 81), some (.ref 93)] [] σ
set_option maxRecDepth 100000 in
set_option maxHeartbeats 1000000 in
theorem e_se_add_p81_0 (σ : en_S) (v1 : Int32) (v2 : Int32) (v3 : Int32) : x_se_add_p81_0 σ v1 v2 v3 =
    if (8 : Int32) ≤ σ.1 81 0 then
      some (.inl none, σ)
    else
      if en_in (σ.1 81 0) 8 then
        if en_in (σ.1 81 0) 8 then
          if en_in (σ.1 81 0) 8 then
            some (.inl none, (en_u1 (en_u1 (en_u1 (en_u1 σ.1 82 ((σ.1 81 0).toNatClampNeg) v1) 83 ((σ.1 81 0).toNatClampNeg) v2) 84 ((σ.1 81 0).toNatClampNeg) v3) 81 0 ((σ.1 81 0) + 1), σ.2))
          else
            none
        else
          none
      else
        none := en_ex_un (G := bb_G) (P := bb_P) (ML := bb_ML) (HD := bb_HD) 32 0 7001 0 [some (.ref 81), some (.int v1), some (.int v2), some (.int v3)] [] σ
set_option maxRecDepth 100000 in
set_option maxHeartbeats 1000000 in
theorem e_se_lastDayOf_p81_0 (σ : en_S) (v1 : Int32) : x_se_lastDayOf_p81_0 σ v1 =
    x_se_lastDayOf_p81_4 σ v1 (-1) 0 := en_ex_un (G := bb_G) (P := bb_P) (ML := bb_ML) (HD := bb_HD) 6 0 7003 0 [some (.ref 81), some (.int v1), none, none] [] σ
set_option maxRecDepth 100000 in
set_option maxHeartbeats 1000000 in
theorem e_se_lastDayOf_p81_4 (σ : en_S) (v1 : Int32) (v2 : Int32) (v3 : Int32) : x_se_lastDayOf_p81_4 σ v1 v2 v3 =
    if σ.1 81 0 ≤ v3 then
      some (.inl (some (.int v2)), σ)
    else
      if en_in v3 8 then
        if σ.1 82 v3.toNatClampNeg = v1 then
          if en_in v3 8 then
            x_se_lastDayOf_p81_4 σ v1 (if v2 < σ.1 83 v3.toNatClampNeg then σ.1 83 v3.toNatClampNeg else v2) (v3 + 1)
          else
            none
        else
          x_se_lastDayOf_p81_4 σ v1 v2 (v3 + 1)
      else
        none := en_ex_un (G := bb_G) (P := bb_P) (ML := bb_ML) (HD := bb_HD) 25 0 7003 4 [some (.ref 81), some (.int v1), some (.int v2), some (.int v3)] [] σ
set_option maxRecDepth 100000 in
set_option maxHeartbeats 1000000 in
theorem e_se_agrees_p81_0 (σ : en_S) (v1 : Int32) (v2 : Int32) (v3 : Int32) : x_se_agrees_p81_0 σ v1 v2 v3 =
    x_se_agrees_p81_3 σ v1 v2 v3 0 := en_ex_un (G := bb_G) (P := bb_P) (ML := bb_ML) (HD := bb_HD) 4 0 7004 0 [some (.ref 81), some (.int v1), some (.int v2), some (.int v3), none] [] σ
set_option maxRecDepth 100000 in
set_option maxHeartbeats 1000000 in
theorem e_se_agrees_p81_3 (σ : en_S) (v1 : Int32) (v2 : Int32) (v3 : Int32) (v4 : Int32) : x_se_agrees_p81_3 σ v1 v2 v3 v4 =
    if σ.1 81 0 ≤ v4 then
      some (.inl (some (.int 1)), σ)
    else
      if en_in v4 8 then
        if σ.1 82 v4.toNatClampNeg = v1 then
          if en_in v4 8 then
            if σ.1 83 v4.toNatClampNeg = v2 then
              if en_in v4 8 then
                if σ.1 84 v4.toNatClampNeg = v3 then
                  x_se_agrees_p81_3 σ v1 v2 v3 (v4 + 1)
                else
                  some (.inl (some (.int 0)), σ)
              else
                none
            else
              x_se_agrees_p81_3 σ v1 v2 v3 (v4 + 1)
          else
            none
        else
          x_se_agrees_p81_3 σ v1 v2 v3 (v4 + 1)
      else
        none := en_ex_un (G := bb_G) (P := bb_P) (ML := bb_ML) (HD := bb_HD) 34 0 7004 3 [some (.ref 81), some (.int v1), some (.int v2), some (.int v3), some (.int v4)] [] σ
set_option maxRecDepth 100000 in
set_option maxHeartbeats 1000000 in
theorem e_sh_workOut_0 (σ : en_S) : x_sh_workOut_0 σ =
    en_cI (x_sh_everyone_0 σ) (fun r2 σ1 =>
      x_sh_workOut_18 σ1 r2 (σ1.1 34 5) 0) (fun e σ => some (.inr e, σ)) := en_ex_un (G := bb_G) (P := bb_P) (ML := bb_ML) (HD := bb_HD) 12 0 8002 0 [some (.ref 97), none, none, none, none] [] σ
set_option maxRecDepth 100000 in
set_option maxHeartbeats 1000000 in
theorem e_sh_workOut_18 (σ : en_S) (v1 : Int32) (v2 : Int32) (v3 : Int32) : x_sh_workOut_18 σ v1 v2 v3 =
    if v1 < v3 then
      x_sh_workOut_60 σ v1 (v2 - 1)
    else
      en_cI (x_st_mightOfAll_p67_0 σ v3) (fun r2 σ1 =>
        if en_in v3 256 then
          if en_in ((v2 * 256) + v3) 1792 then
            x_sh_workOut_18 (en_u1 (en_u1 σ1.1 98 v3.toNatClampNeg r2) 99 (((v2 * 256) + v3).toNatClampNeg) 0, σ1.2) v1 v2 (v3 + 1)
          else
            none
        else
          none) (fun e σ => some (.inr e, σ)) := en_ex_un (G := bb_G) (P := bb_P) (ML := bb_ML) (HD := bb_HD) 28 0 8002 18 [some (.ref 97), some (.int v1), some (.int v2), some (.int v3), none] [] σ
set_option maxRecDepth 100000 in
set_option maxHeartbeats 1000000 in
theorem e_sh_workOut_60 (σ : en_S) (v1 : Int32) (v3 : Int32) : x_sh_workOut_60 σ v1 v3 =
    if v3 < 0 then
      some (.inl none, σ)
    else
      if v3 = 0 then
        x_sh_workOut_75 σ v1 v3 v1
      else
        x_sh_workOut_75 σ v1 v3 0 := en_ex_un (G := bb_G) (P := bb_P) (ML := bb_ML) (HD := bb_HD) 12 0 8002 60 [some (.ref 97), some (.int v1), none, some (.int v3), none] [] σ
set_option maxRecDepth 100000 in
set_option maxHeartbeats 1000000 in
theorem e_sh_workOut_75 (σ : en_S) (v1 : Int32) (v3 : Int32) (v4 : Int32) : x_sh_workOut_75 σ v1 v3 v4 =
    if v1 < v4 then
      x_sh_workOut_60 σ v1 (v3 + (-1))
    else
      en_cI (x_sh_fewestOf_0 σ v3 v4) (fun r2 σ1 =>
        if en_in ((v3 * 256) + v4) 1792 then
          x_sh_workOut_75 (en_u1 σ1.1 99 (((v3 * 256) + v4).toNatClampNeg) r2, σ1.2) v1 v3 (v4 + 1)
        else
          none) (fun e σ => some (.inr e, σ)) := en_ex_un (G := bb_G) (P := bb_P) (ML := bb_ML) (HD := bb_HD) 21 0 8002 75 [some (.ref 97), some (.int v1), none, some (.int v3), some (.int v4)] [] σ
set_option maxRecDepth 100000 in
set_option maxHeartbeats 1000000 in
theorem e_sh_fewestOfAll_0 (σ : en_S) : x_sh_fewestOfAll_0 σ =
    en_cI (x_sh_everyone_0 σ) (fun r2 σ1 =>
      if en_in r2 1792 then
        some (.inl (some (.int (σ1.1 99 r2.toNatClampNeg))), σ1)
      else
        none) (fun e σ => some (.inr e, σ)) := en_ex_un (G := bb_G) (P := bb_P) (ML := bb_ML) (HD := bb_HD) 8 0 8005 0 [some (.ref 97)] [] σ
set_option maxRecDepth 100000 in
set_option maxHeartbeats 1000000 in
theorem e_sh_rowAt_0 (σ : en_S) (v1 : Int32) : x_sh_rowAt_0 σ v1 =
    en_cI (x_sh_everyone_0 σ) (fun r2 σ1 =>
      x_sh_rowAt_10 σ1 v1 r2 (-1) 0) (fun e σ => some (.inr e, σ)) := en_ex_un (G := bb_G) (P := bb_P) (ML := bb_ML) (HD := bb_HD) 9 0 8006 0 [some (.ref 97), some (.int v1), none, none, none] [] σ
set_option maxRecDepth 100000 in
set_option maxHeartbeats 1000000 in
theorem e_sh_rowAt_10 (σ : en_S) (v1 : Int32) (v2 : Int32) (v3 : Int32) (v4 : Int32) : x_sh_rowAt_10 σ v1 v2 v3 v4 =
    if v1 < v4 then
      some (.inl (some (.int v3)), σ)
    else
      en_cI (x_sh_leastBits_0 σ v4 v2) (fun r2 σ1 =>
        if r2 = (-1) then
          some (.inl (some (.int (-1))), σ1)
        else
          x_sh_rowAt_10 σ1 v1 (v2 &&& (r2 ^^^ (-1))) r2 (v4 + 1)) (fun e σ => some (.inr e, σ)) := en_ex_un (G := bb_G) (P := bb_P) (ML := bb_ML) (HD := bb_HD) 25 0 8006 10 [some (.ref 97), some (.int v1), some (.int v2), some (.int v3), some (.int v4)] [] σ
set_option maxRecDepth 100000 in
set_option maxHeartbeats 1000000 in
theorem e_sh_everyone_0 (σ : en_S) : x_sh_everyone_0 σ =
    some (.inl (some (.int (((1 : Int32) <<< ((σ.1 34 9) &&& 31)) - 1))), σ) := en_ex_un (G := bb_G) (P := bb_P) (ML := bb_ML) (HD := bb_HD) 11 0 8001 0 [some (.ref 97)] [] σ
set_option maxRecDepth 100000 in
set_option maxHeartbeats 1000000 in
theorem e_sh_fewestOf_0 (σ : en_S) (v1 : Int32) (v2 : Int32) : x_sh_fewestOf_0 σ v1 v2 =
    en_cI (x_ji_bitCount_0 σ v2) (fun r2 σ1 =>
      if (σ1.1 34 5) - v1 ≤ r2 then
        x_sh_fewestOf_26 σ1 v1 v2 (-1) v2
      else
        some (.inl (some (.int (-1))), σ1)) (fun e σ => some (.inr e, σ)) := en_ex_un (G := bb_G) (P := bb_P) (ML := bb_ML) (HD := bb_HD) 17 0 8003 0 [some (.ref 97), some (.int v1), some (.int v2), none, none, none] [] σ
set_option maxRecDepth 100000 in
set_option maxHeartbeats 1000000 in
theorem e_sh_fewestOf_26 (σ : en_S) (v1 : Int32) (v2 : Int32) (v3 : Int32) (v4 : Int32) : x_sh_fewestOf_26 σ v1 v2 v3 v4 =
    if v4 ≤ 0 then
      some (.inl (some (.int v3)), σ)
    else
      en_cI (x_sh_manyWith_0 σ v1 v2 v4) (fun r2 σ1 =>
        if r2 = (-1) then
          x_sh_fewestOf_26 σ1 v1 v2 v3 ((v4 - 1) &&& v2)
        else
          if v3 = (-1) then
            x_sh_fewestOf_26 σ1 v1 v2 r2 ((v4 - 1) &&& v2)
          else
            if v3 ≤ r2 then
              x_sh_fewestOf_26 σ1 v1 v2 v3 ((v4 - 1) &&& v2)
            else
              x_sh_fewestOf_26 σ1 v1 v2 r2 ((v4 - 1) &&& v2)) (fun e σ => some (.inr e, σ)) := en_ex_un (G := bb_G) (P := bb_P) (ML := bb_ML) (HD := bb_HD) 53 0 8003 26 [some (.ref 97), some (.int v1), some (.int v2), some (.int v3), some (.int v4), none] [] σ
set_option maxRecDepth 100000 in
set_option maxHeartbeats 1000000 in
theorem e_sh_leastBits_0 (σ : en_S) (v1 : Int32) (v2 : Int32) : x_sh_leastBits_0 σ v1 v2 =
    if en_in ((v1 * 256) + v2) 1792 then
      if σ.1 99 (((v1 * 256) + v2).toNatClampNeg) = (-1) then
        some (.inl (some (.int (-1))), σ)
      else
        x_sh_leastBits_23 σ v1 v2 (σ.1 99 (((v1 * 256) + v2).toNatClampNeg)) 1
    else
      none := en_ex_un (G := bb_G) (P := bb_P) (ML := bb_ML) (HD := bb_HD) 18 0 8007 0 [some (.ref 97), some (.int v1), some (.int v2), none, none] [] σ
set_option maxRecDepth 100000 in
set_option maxHeartbeats 1000000 in
theorem e_sh_leastBits_23 (σ : en_S) (v1 : Int32) (v2 : Int32) (v3 : Int32) (v4 : Int32) : x_sh_leastBits_23 σ v1 v2 v3 v4 =
    if v2 < v4 then
      some (.inl (some (.int (-1))), σ)
    else
      if v4 &&& (v2 ^^^ (-1)) = 0 then
        en_cI (x_sh_manyWith_0 σ v1 v2 v4) (fun r2 σ1 =>
          if r2 = v3 then
            some (.inl (some (.int v4)), σ1)
          else
            x_sh_leastBits_23 σ1 v1 v2 v3 (v4 + 1)) (fun e σ => some (.inr e, σ))
      else
        x_sh_leastBits_23 σ v1 v2 v3 (v4 + 1) := en_ex_un (G := bb_G) (P := bb_P) (ML := bb_ML) (HD := bb_HD) 26 0 8007 23 [some (.ref 97), some (.int v1), some (.int v2), some (.int v3), some (.int v4)] [] σ
set_option maxRecDepth 100000 in
set_option maxHeartbeats 1000000 in
theorem e_sh_manyWith_0 (σ : en_S) (v1 : Int32) (v2 : Int32) (v3 : Int32) : x_sh_manyWith_0 σ v1 v2 v3 =
    if en_in v3 256 then
      if en_in v1 6 then
        if σ.1 68 v1.toNatClampNeg ≤ σ.1 98 v3.toNatClampNeg then
          if en_in (((v1 + 1) * 256) + (v2 &&& (v3 ^^^ (-1)))) 1792 then
            if σ.1 99 ((((v1 + 1) * 256) + (v2 &&& (v3 ^^^ (-1)))).toNatClampNeg) = (-1) then
              some (.inl (some (.int (-1))), σ)
            else
              en_cI (x_ji_bitCount_0 σ v3) (fun r2 σ1 =>
                some (.inl (some (.int ((σ.1 99 ((((v1 + 1) * 256) + (v2 &&& (v3 ^^^ (-1)))).toNatClampNeg)) + r2))), σ1)) (fun e σ => some (.inr e, σ))
          else
            none
        else
          some (.inl (some (.int (-1))), σ)
      else
        none
    else
      none := en_ex_un (G := bb_G) (P := bb_P) (ML := bb_ML) (HD := bb_HD) 40 0 8004 0 [some (.ref 97), some (.int v1), some (.int v2), some (.int v3), none] [] σ
set_option maxRecDepth 100000 in
set_option maxHeartbeats 1000000 in
theorem e_st_passDays_p67_0 (σ : en_S) (v1 : Int32) : x_st_passDays_p67_0 σ v1 =
    x_st_passDays_p67_4 σ v1 0 0 := en_ex_un (G := bb_G) (P := bb_P) (ML := bb_ML) (HD := bb_HD) 6 0 9020 0 [some (.ref 67), some (.int v1), none, none] [] σ
set_option maxRecDepth 100000 in
set_option maxHeartbeats 1000000 in
theorem e_st_passDays_p67_4 (σ : en_S) (v1 : Int32) (v2 : Int32) (v3 : Int32) : x_st_passDays_p67_4 σ v1 v2 v3 =
    if v1 ≤ v3 then
      some (.inl (some (.int v2)), σ)
    else
      en_cV (x_st_passDay_p67_0 σ) (fun σ1 =>
        x_st_passDays_p67_4 σ1 v1 (v2 + (σ1.1 67 7)) (v3 + 1)) (fun e σ => some (.inr e, σ)) := en_ex_un (G := bb_G) (P := bb_P) (ML := bb_ML) (HD := bb_HD) 16 0 9020 4 [some (.ref 67), some (.int v1), some (.int v2), some (.int v3)] [] σ
set_option maxRecDepth 100000 in
set_option maxHeartbeats 1000000 in
theorem e_st_copyFrom_p85_67_0 (σ : en_S) : x_st_copyFrom_p85_67_0 σ =
    some (.inl none, (en_uf (en_uf (en_uf (en_uf (en_u1 σ.1 85 1 (σ.1 67 1)) 86 (va_cpy (σ.1 68) (σ.1 86) 0 0 6)) 87 (va_cpy (σ.1 69) (σ.1 87) 0 0 6)) 88 (va_cpy (σ.1 70) (σ.1 88) 0 0 8)) 89 (va_cpy (σ.1 71) (σ.1 89) 0 0 8), σ.2)) := en_ex_un (G := bb_G) (P := bb_P) (ML := bb_ML) (HD := bb_HD) 39 0 9002 0 [some (.ref 85), some (.ref 67)] [] σ
set_option maxRecDepth 100000 in
set_option maxHeartbeats 1000000 in
theorem e_st_copyFrom_p67_85_0 (σ : en_S) : x_st_copyFrom_p67_85_0 σ =
    some (.inl none, (en_uf (en_uf (en_uf (en_uf (en_u1 σ.1 67 1 (σ.1 85 1)) 68 (va_cpy (σ.1 86) (σ.1 68) 0 0 6)) 69 (va_cpy (σ.1 87) (σ.1 69) 0 0 6)) 70 (va_cpy (σ.1 88) (σ.1 70) 0 0 8)) 71 (va_cpy (σ.1 89) (σ.1 71) 0 0 8), σ.2)) := en_ex_un (G := bb_G) (P := bb_P) (ML := bb_ML) (HD := bb_HD) 39 0 9002 0 [some (.ref 67), some (.ref 85)] [] σ
set_option maxRecDepth 100000 in
set_option maxHeartbeats 1000000 in
theorem e_st_begin_p67_0 (σ : en_S) : x_st_begin_p67_0 σ =
    en_cV (x_ja_fill_p69_0 (en_uf (en_u1 σ.1 67 1 0) 68 (va_cpy (σ.1 38) (σ.1 68) 0 0 6), σ.2) 0) (fun σ1 =>
      en_cV (x_ja_fill_p71_0 (en_uf σ1.1 70 (va_cpy (σ1.1 43) (σ1.1 70) 0 0 8), σ1.2) 0) (fun σ2 =>
        some (.inl none, σ2)) (fun e σ => some (.inr e, σ))) (fun e σ => some (.inr e, σ)) := en_ex_un (G := bb_G) (P := bb_P) (ML := bb_ML) (HD := bb_HD) 32 0 9001 0 [some (.ref 67)] [] σ
set_option maxRecDepth 100000 in
set_option maxHeartbeats 1000000 in
theorem e_st_weightOfAll_p67_0 (σ : en_S) : x_st_weightOfAll_p67_0 σ =
    x_st_weightOfAll_p67_4 σ 0 0 := en_ex_un (G := bb_G) (P := bb_P) (ML := bb_ML) (HD := bb_HD) 6 0 9014 0 [some (.ref 67), none, none] [] σ
set_option maxRecDepth 100000 in
set_option maxHeartbeats 1000000 in
theorem e_st_weightOfAll_p67_4 (σ : en_S) (v1 : Int32) (v2 : Int32) : x_st_weightOfAll_p67_4 σ v1 v2 =
    if σ.1 34 5 ≤ v2 then
      some (.inl (some (.int v1)), σ)
    else
      if en_in v2 6 then
        x_st_weightOfAll_p67_4 σ (v1 + (σ.1 68 v2.toNatClampNeg)) (v2 + 1)
      else
        none := en_ex_un (G := bb_G) (P := bb_P) (ML := bb_ML) (HD := bb_HD) 18 0 9014 4 [some (.ref 67), some (.int v1), some (.int v2)] [] σ
set_option maxRecDepth 100000 in
set_option maxHeartbeats 1000000 in
theorem e_st_bitsUnder_p67_0 (σ : en_S) (v1 : Int32) : x_st_bitsUnder_p67_0 σ v1 =
    x_st_bitsUnder_p67_4 σ v1 0 0 := en_ex_un (G := bb_G) (P := bb_P) (ML := bb_ML) (HD := bb_HD) 6 0 9006 0 [some (.ref 67), some (.int v1), none, none] [] σ
set_option maxRecDepth 100000 in
set_option maxHeartbeats 1000000 in
theorem e_st_bitsUnder_p67_4 (σ : en_S) (v1 : Int32) (v2 : Int32) (v3 : Int32) : x_st_bitsUnder_p67_4 σ v1 v2 v3 =
    if σ.1 34 9 ≤ v3 then
      some (.inl (some (.int v2)), σ)
    else
      if en_in v3 8 then
        if σ.1 70 v3.toNatClampNeg = v1 then
          x_st_bitsUnder_p67_4 σ v1 (v2 ||| ((1 : Int32) <<< (v3 &&& 31))) (v3 + 1)
        else
          x_st_bitsUnder_p67_4 σ v1 v2 (v3 + 1)
      else
        none := en_ex_un (G := bb_G) (P := bb_P) (ML := bb_ML) (HD := bb_HD) 25 0 9006 4 [some (.ref 67), some (.int v1), some (.int v2), some (.int v3)] [] σ
set_option maxRecDepth 100000 in
set_option maxHeartbeats 1000000 in
theorem e_st_borneBits_p67_0 (σ : en_S) : x_st_borneBits_p67_0 σ =
    x_st_borneBits_p67_4 σ 0 0 := en_ex_un (G := bb_G) (P := bb_P) (ML := bb_ML) (HD := bb_HD) 6 0 9011 0 [some (.ref 67), none, none] [] σ
set_option maxRecDepth 100000 in
set_option maxHeartbeats 1000000 in
theorem e_st_borneBits_p67_4 (σ : en_S) (v1 : Int32) (v2 : Int32) : x_st_borneBits_p67_4 σ v1 v2 =
    if σ.1 34 5 ≤ v2 then
      some (.inl (some (.int v1)), σ)
    else
      en_cI (x_st_isBorne_p67_0 σ v2) (fun r2 σ1 =>
        if r2 = 0 then
          x_st_borneBits_p67_4 σ1 v1 (v2 + 1)
        else
          x_st_borneBits_p67_4 σ1 (v1 ||| ((1 : Int32) <<< (v2 &&& 31))) (v2 + 1)) (fun e σ => some (.inr e, σ)) := en_ex_un (G := bb_G) (P := bb_P) (ML := bb_ML) (HD := bb_HD) 23 0 9011 4 [some (.ref 67), some (.int v1), some (.int v2)] [] σ
set_option maxRecDepth 100000 in
set_option maxHeartbeats 1000000 in
theorem e_st_neededBits_p67_0 (σ : en_S) (v1 : Int32) : x_st_neededBits_p67_0 σ v1 =
    en_cI (x_st_bitsUnder_p67_0 σ v1) (fun r2 σ1 =>
      en_cI (x_st_isBorneBy_p67_0 σ1 v1 r2) (fun r4 σ3 =>
        if r4 = 0 then
          some (.inl (some (.int 0)), σ3)
        else
          x_st_neededBits_p67_22 σ3 v1 r2 0 0) (fun e σ => some (.inr e, σ))) (fun e σ => some (.inr e, σ)) := en_ex_un (G := bb_G) (P := bb_P) (ML := bb_ML) (HD := bb_HD) 17 0 9012 0 [some (.ref 67), some (.int v1), none, none, none] [] σ
set_option maxRecDepth 100000 in
set_option maxHeartbeats 1000000 in
theorem e_st_neededBits_p67_22 (σ : en_S) (v1 : Int32) (v2 : Int32) (v3 : Int32) (v4 : Int32) : x_st_neededBits_p67_22 σ v1 v2 v3 v4 =
    if σ.1 34 9 ≤ v4 then
      some (.inl (some (.int v3)), σ)
    else
      en_cI (x_b_hasBit_0 σ v2 v4) (fun r2 σ1 =>
        if r2 = 0 then
          x_st_neededBits_p67_22 σ1 v1 v2 v3 (v4 + 1)
        else
          en_cI (x_st_isBorneBy_p67_0 σ1 v1 (v2 &&& (((1 : Int32) <<< (v4 &&& 31)) ^^^ (-1)))) (fun r4 σ3 =>
            if r4 = 0 then
              x_st_neededBits_p67_22 σ3 v1 v2 (v3 ||| ((1 : Int32) <<< (v4 &&& 31))) (v4 + 1)
            else
              x_st_neededBits_p67_22 σ3 v1 v2 v3 (v4 + 1)) (fun e σ => some (.inr e, σ))) (fun e σ => some (.inr e, σ)) := en_ex_un (G := bb_G) (P := bb_P) (ML := bb_ML) (HD := bb_HD) 36 0 9012 22 [some (.ref 67), some (.int v1), some (.int v2), some (.int v3), some (.int v4)] [] σ
set_option maxRecDepth 100000 in
set_option maxHeartbeats 1000000 in
theorem e_st_mightOfAll_p67_0 (σ : en_S) (v1 : Int32) : x_st_mightOfAll_p67_0 σ v1 =
    x_st_mightOfAll_p67_4 σ v1 0 0 := en_ex_un (G := bb_G) (P := bb_P) (ML := bb_ML) (HD := bb_HD) 6 0 9008 0 [some (.ref 67), some (.int v1), none, none] [] σ
set_option maxRecDepth 100000 in
set_option maxHeartbeats 1000000 in
theorem e_st_mightOfAll_p67_4 (σ : en_S) (v1 : Int32) (v2 : Int32) (v3 : Int32) : x_st_mightOfAll_p67_4 σ v1 v2 v3 =
    if σ.1 34 9 ≤ v3 then
      some (.inl (some (.int v2)), σ)
    else
      en_cI (x_b_hasBit_0 σ v1 v3) (fun r2 σ1 =>
        if r2 = 0 then
          x_st_mightOfAll_p67_4 σ1 v1 v2 (v3 + 1)
        else
          en_cI (x_st_mightOf_p67_0 σ1 v3) (fun r4 σ3 =>
            x_st_mightOfAll_p67_4 σ3 v1 (v2 + r4) (v3 + 1)) (fun e σ => some (.inr e, σ))) (fun e σ => some (.inr e, σ)) := en_ex_un (G := bb_G) (P := bb_P) (ML := bb_ML) (HD := bb_HD) 23 0 9008 4 [some (.ref 67), some (.int v1), some (.int v2), some (.int v3)] [] σ
set_option maxRecDepth 100000 in
set_option maxHeartbeats 1000000 in
theorem e_st_townOf_p67_0 (σ : en_S) (v1 : Int32) : x_st_townOf_p67_0 σ v1 =
    if en_in v1 6 then
      en_cI (x_ld_townAt_p34_0 σ v1 (σ.1 69 v1.toNatClampNeg)) (fun r2 σ1 =>
        some (.inl (some (.int r2)), σ1)) (fun e σ => some (.inr e, σ))
    else
      none := en_ex_un (G := bb_G) (P := bb_P) (ML := bb_ML) (HD := bb_HD) 11 0 9005 0 [some (.ref 67), some (.int v1)] [] σ
set_option maxRecDepth 100000 in
set_option maxHeartbeats 1000000 in
theorem e_st_loadOf_p67_0 (σ : en_S) (v1 : Int32) : x_st_loadOf_p67_0 σ v1 =
    if en_in v1 8 then
      en_cI (x_ld_hasBox_p34_0 σ (σ.1 70 v1.toNatClampNeg)) (fun r2 σ1 =>
        if r2 = 0 then
          some (.inl (some (.int 0)), σ1)
        else
          en_cI (x_st_bitsUnder_p67_0 σ1 (σ.1 70 v1.toNatClampNeg)) (fun r4 σ3 =>
            en_cI (x_ji_bitCount_0 σ3 r4) (fun r6 σ5 =>
              if r6 = 0 then
                some (.inl (some (.int 0)), σ5)
              else
                if en_in (σ.1 70 v1.toNatClampNeg) 6 then
                  if r6 = 0 then
                    none
                  else
                    some (.inl (some (.int ((σ5.1 68 ((σ.1 70 v1.toNatClampNeg).toNatClampNeg)) / r6))), σ5)
                else
                  none) (fun e σ => some (.inr e, σ))) (fun e σ => some (.inr e, σ))) (fun e σ => some (.inr e, σ))
    else
      none := en_ex_un (G := bb_G) (P := bb_P) (ML := bb_ML) (HD := bb_HD) 31 0 9013 0 [some (.ref 67), some (.int v1), none, none] [] σ
set_option maxRecDepth 100000 in
set_option maxHeartbeats 1000000 in
theorem e_st_mightOf_p67_0 (σ : en_S) (v1 : Int32) : x_st_mightOf_p67_0 σ v1 =
    if en_in v1 8 then
      if en_in v1 8 then
        some (.inl (some (.int (if (0 : Int32) < (σ.1 41 v1.toNatClampNeg) - (2 * (σ.1 71 v1.toNatClampNeg)) then (σ.1 41 v1.toNatClampNeg) - (2 * (σ.1 71 v1.toNatClampNeg)) else 0))), σ)
      else
        none
    else
      none := en_ex_un (G := bb_G) (P := bb_P) (ML := bb_ML) (HD := bb_HD) 17 0 9007 0 [some (.ref 67), some (.int v1)] [] σ
set_option maxRecDepth 100000 in
set_option maxHeartbeats 1000000 in
theorem e_st_writeTo_p67_80_0 (σ : en_S) (v2 : Int32) : x_st_writeTo_p67_80_0 σ v2 =
    if en_in v2 1160 then
      if ¬ (0 : Int32) < 0 ∧ ¬ v2 + 1 < 0 ∧ ¬ (6 : Int32) < 0 ∧ 0 + 6 ≤ 6 ∧ (v2 + 1).toNatClampNeg + 6 ≤ 1160 then
        if ¬ (0 : Int32) < 0 ∧ ¬ v2 + 7 < 0 ∧ ¬ (6 : Int32) < 0 ∧ 0 + 6 ≤ 6 ∧ (v2 + 7).toNatClampNeg + 6 ≤ 1160 then
          if ¬ (0 : Int32) < 0 ∧ ¬ v2 + 13 < 0 ∧ ¬ (8 : Int32) < 0 ∧ 0 + 8 ≤ 8 ∧ (v2 + 13).toNatClampNeg + 8 ≤ 1160 then
            if ¬ (0 : Int32) < 0 ∧ ¬ v2 + 21 < 0 ∧ ¬ (8 : Int32) < 0 ∧ 0 + 8 ≤ 8 ∧ (v2 + 21).toNatClampNeg + 8 ≤ 1160 then
              some (.inl none, (en_uf (en_uf (en_uf (en_uf (en_u1 σ.1 80 v2.toNatClampNeg (σ.1 67 1)) 80 (va_cpy (σ.1 68) ((en_u1 σ.1 80 v2.toNatClampNeg (σ.1 67 1)) 80) 0 ((v2 + 1).toNatClampNeg) 6)) 80 (va_cpy (σ.1 69) (va_cpy (σ.1 68) ((en_u1 σ.1 80 v2.toNatClampNeg (σ.1 67 1)) 80) 0 ((v2 + 1).toNatClampNeg) 6) 0 ((v2 + 7).toNatClampNeg) 6)) 80 (va_cpy (σ.1 70) (va_cpy (σ.1 69) (va_cpy (σ.1 68) ((en_u1 σ.1 80 v2.toNatClampNeg (σ.1 67 1)) 80) 0 ((v2 + 1).toNatClampNeg) 6) 0 ((v2 + 7).toNatClampNeg) 6) 0 ((v2 + 13).toNatClampNeg) 8)) 80 (va_cpy (σ.1 71) (va_cpy (σ.1 70) (va_cpy (σ.1 69) (va_cpy (σ.1 68) ((en_u1 σ.1 80 v2.toNatClampNeg (σ.1 67 1)) 80) 0 ((v2 + 1).toNatClampNeg) 6) 0 ((v2 + 7).toNatClampNeg) 6) 0 ((v2 + 13).toNatClampNeg) 8) 0 ((v2 + 21).toNatClampNeg) 8), σ.2))
            else
              none
          else
            none
        else
          none
      else
        none
    else
      none := en_ex_un (G := bb_G) (P := bb_P) (ML := bb_ML) (HD := bb_HD) 44 0 9003 0 [some (.ref 67), some (.ref 80), some (.int v2)] [] σ
set_option maxRecDepth 100000 in
set_option maxHeartbeats 1000000 in
theorem e_st_passDay_p67_0 (σ : en_S) : x_st_passDay_p67_0 σ =
    x_st_passDay_p67_14 (en_u1 (en_u1 σ.1 67 6 0) 67 7 0, σ.2) 0 0 := en_ex_un (G := bb_G) (P := bb_P) (ML := bb_ML) (HD := bb_HD) 12 0 9021 0 [some (.ref 67), none, none] [] σ
set_option maxRecDepth 100000 in
set_option maxHeartbeats 1000000 in
theorem e_st_passDay_p67_14 (σ : en_S) (v1 : Int32) (v2 : Int32) : x_st_passDay_p67_14 σ v1 v2 =
    if σ.1 34 5 ≤ v2 then
      x_st_passDay_p67_41 σ v1 0
    else
      en_cI (x_st_passBox_p67_0 σ v2) (fun r2 σ1 =>
        x_st_passDay_p67_14 σ1 (v1 ||| r2) (v2 + 1)) (fun e σ => some (.inr e, σ)) := en_ex_un (G := bb_G) (P := bb_P) (ML := bb_ML) (HD := bb_HD) 17 0 9021 14 [some (.ref 67), some (.int v1), some (.int v2)] [] σ
set_option maxRecDepth 100000 in
set_option maxHeartbeats 1000000 in
theorem e_st_passDay_p67_41 (σ : en_S) (v1 : Int32) (v2 : Int32) : x_st_passDay_p67_41 σ v1 v2 =
    if σ.1 34 9 ≤ v2 then
      some (.inl none, (en_u1 σ.1 67 1 ((σ.1 67 1) + 1), σ.2))
    else
      if en_in v2 8 then
        if σ.1 70 v2.toNatClampNeg = (-1) then
          en_cI (x_b_hasBit_0 σ v1 v2) (fun r2 σ1 =>
            if r2 = 0 then
              if en_in v2 8 then
                if en_in v2 8 then
                  x_st_passDay_p67_41 (en_u1 σ1.1 71 v2.toNatClampNeg (if (0 : Int32) < (σ1.1 71 v2.toNatClampNeg) - 2 then (σ1.1 71 v2.toNatClampNeg) - 2 else 0), σ1.2) v1 (v2 + 1)
                else
                  none
              else
                none
            else
              x_st_passDay_p67_41 σ1 v1 (v2 + 1)) (fun e σ => some (.inr e, σ))
        else
          x_st_passDay_p67_41 σ v1 (v2 + 1)
      else
        none := en_ex_un (G := bb_G) (P := bb_P) (ML := bb_ML) (HD := bb_HD) 42 0 9021 41 [some (.ref 67), some (.int v1), some (.int v2)] [] σ
set_option maxRecDepth 100000 in
set_option maxHeartbeats 1000000 in
theorem e_st_addWeight_p67_0 (σ : en_S) (v1 : Int32) (v2 : Int32) : x_st_addWeight_p67_0 σ v1 v2 =
    if en_in v1 6 then
      en_cI (x_b_within_0 σ ((σ.1 68 v1.toNatClampNeg) + v2) 1 99) (fun r2 σ1 =>
        if en_in v1 6 then
          some (.inl none, (en_u1 σ1.1 68 v1.toNatClampNeg r2, σ1.2))
        else
          none) (fun e σ => some (.inr e, σ))
    else
      none := en_ex_un (G := bb_G) (P := bb_P) (ML := bb_ML) (HD := bb_HD) 16 0 9018 0 [some (.ref 67), some (.int v1), some (.int v2)] [] σ
set_option maxRecDepth 100000 in
set_option maxHeartbeats 1000000 in
theorem e_st_readFrom_p67_80_0 (σ : en_S) (v2 : Int32) : x_st_readFrom_p67_80_0 σ v2 =
    if en_in v2 1160 then
      if ¬ v2 + 1 < 0 ∧ ¬ (0 : Int32) < 0 ∧ ¬ (6 : Int32) < 0 ∧ (v2 + 1).toNatClampNeg + 6 ≤ 1160 ∧ 0 + 6 ≤ 6 then
        if ¬ v2 + 7 < 0 ∧ ¬ (0 : Int32) < 0 ∧ ¬ (6 : Int32) < 0 ∧ (v2 + 7).toNatClampNeg + 6 ≤ 1160 ∧ 0 + 6 ≤ 6 then
          if ¬ v2 + 13 < 0 ∧ ¬ (0 : Int32) < 0 ∧ ¬ (8 : Int32) < 0 ∧ (v2 + 13).toNatClampNeg + 8 ≤ 1160 ∧ 0 + 8 ≤ 8 then
            if ¬ v2 + 21 < 0 ∧ ¬ (0 : Int32) < 0 ∧ ¬ (8 : Int32) < 0 ∧ (v2 + 21).toNatClampNeg + 8 ≤ 1160 ∧ 0 + 8 ≤ 8 then
              some (.inl none, (en_uf (en_uf (en_uf (en_uf (en_u1 σ.1 67 1 (σ.1 80 v2.toNatClampNeg)) 68 (va_cpy (σ.1 80) (σ.1 68) ((v2 + 1).toNatClampNeg) 0 6)) 69 (va_cpy (σ.1 80) (σ.1 69) ((v2 + 7).toNatClampNeg) 0 6)) 70 (va_cpy (σ.1 80) (σ.1 70) ((v2 + 13).toNatClampNeg) 0 8)) 71 (va_cpy (σ.1 80) (σ.1 71) ((v2 + 21).toNatClampNeg) 0 8), σ.2))
            else
              none
          else
            none
        else
          none
      else
        none
    else
      none := en_ex_un (G := bb_G) (P := bb_P) (ML := bb_ML) (HD := bb_HD) 44 0 9004 0 [some (.ref 67), some (.ref 80), some (.int v2)] [] σ
set_option maxRecDepth 100000 in
set_option maxHeartbeats 1000000 in
theorem e_st_isBorne_p73_0 (σ : en_S) (v1 : Int32) : x_st_isBorne_p73_0 σ v1 =
    en_cI (x_st_bitsUnder_p73_0 σ v1) (fun r2 σ1 =>
      en_cI (x_st_isBorneBy_p73_0 σ1 v1 r2) (fun r4 σ3 =>
        if r4 = 0 ∨ r4 = 1 then
          some (.inl (some (.int r4)), σ3)
        else
          none) (fun e σ => some (.inr e, σ))) (fun e σ => some (.inr e, σ)) := en_ex_un (G := bb_G) (P := bb_P) (ML := bb_ML) (HD := bb_HD) 9 0 9010 0 [some (.ref 73), some (.int v1)] [] σ
set_option maxRecDepth 100000 in
set_option maxHeartbeats 1000000 in
theorem e_st_bitsUnder_p73_0 (σ : en_S) (v1 : Int32) : x_st_bitsUnder_p73_0 σ v1 =
    x_st_bitsUnder_p73_4 σ v1 0 0 := en_ex_un (G := bb_G) (P := bb_P) (ML := bb_ML) (HD := bb_HD) 6 0 9006 0 [some (.ref 73), some (.int v1), none, none] [] σ
set_option maxRecDepth 100000 in
set_option maxHeartbeats 1000000 in
theorem e_st_bitsUnder_p73_4 (σ : en_S) (v1 : Int32) (v2 : Int32) (v3 : Int32) : x_st_bitsUnder_p73_4 σ v1 v2 v3 =
    if σ.1 34 9 ≤ v3 then
      some (.inl (some (.int v2)), σ)
    else
      if en_in v3 8 then
        if σ.1 76 v3.toNatClampNeg = v1 then
          x_st_bitsUnder_p73_4 σ v1 (v2 ||| ((1 : Int32) <<< (v3 &&& 31))) (v3 + 1)
        else
          x_st_bitsUnder_p73_4 σ v1 v2 (v3 + 1)
      else
        none := en_ex_un (G := bb_G) (P := bb_P) (ML := bb_ML) (HD := bb_HD) 25 0 9006 4 [some (.ref 73), some (.int v1), some (.int v2), some (.int v3)] [] σ
set_option maxRecDepth 100000 in
set_option maxHeartbeats 1000000 in
theorem e_st_townOf_p73_0 (σ : en_S) (v1 : Int32) : x_st_townOf_p73_0 σ v1 =
    if en_in v1 6 then
      en_cI (x_ld_townAt_p34_0 σ v1 (σ.1 75 v1.toNatClampNeg)) (fun r2 σ1 =>
        some (.inl (some (.int r2)), σ1)) (fun e σ => some (.inr e, σ))
    else
      none := en_ex_un (G := bb_G) (P := bb_P) (ML := bb_ML) (HD := bb_HD) 11 0 9005 0 [some (.ref 73), some (.int v1)] [] σ
set_option maxRecDepth 100000 in
set_option maxHeartbeats 1000000 in
theorem e_st_copyFrom_p73_67_0 (σ : en_S) : x_st_copyFrom_p73_67_0 σ =
    some (.inl none, (en_uf (en_uf (en_uf (en_uf (en_u1 σ.1 73 1 (σ.1 67 1)) 74 (va_cpy (σ.1 68) (σ.1 74) 0 0 6)) 75 (va_cpy (σ.1 69) (σ.1 75) 0 0 6)) 76 (va_cpy (σ.1 70) (σ.1 76) 0 0 8)) 77 (va_cpy (σ.1 71) (σ.1 77) 0 0 8), σ.2)) := en_ex_un (G := bb_G) (P := bb_P) (ML := bb_ML) (HD := bb_HD) 39 0 9002 0 [some (.ref 73), some (.ref 67)] [] σ
set_option maxRecDepth 100000 in
set_option maxHeartbeats 1000000 in
theorem e_st_passDay_p73_0 (σ : en_S) : x_st_passDay_p73_0 σ =
    x_st_passDay_p73_14 (en_u1 (en_u1 σ.1 73 6 0) 73 7 0, σ.2) 0 0 := en_ex_un (G := bb_G) (P := bb_P) (ML := bb_ML) (HD := bb_HD) 12 0 9021 0 [some (.ref 73), none, none] [] σ
set_option maxRecDepth 100000 in
set_option maxHeartbeats 1000000 in
theorem e_st_passDay_p73_14 (σ : en_S) (v1 : Int32) (v2 : Int32) : x_st_passDay_p73_14 σ v1 v2 =
    if σ.1 34 5 ≤ v2 then
      x_st_passDay_p73_41 σ v1 0
    else
      en_cI (x_st_passBox_p73_0 σ v2) (fun r2 σ1 =>
        x_st_passDay_p73_14 σ1 (v1 ||| r2) (v2 + 1)) (fun e σ => some (.inr e, σ)) := en_ex_un (G := bb_G) (P := bb_P) (ML := bb_ML) (HD := bb_HD) 17 0 9021 14 [some (.ref 73), some (.int v1), some (.int v2)] [] σ
set_option maxRecDepth 100000 in
set_option maxHeartbeats 1000000 in
theorem e_st_passDay_p73_41 (σ : en_S) (v1 : Int32) (v2 : Int32) : x_st_passDay_p73_41 σ v1 v2 =
    if σ.1 34 9 ≤ v2 then
      some (.inl none, (en_u1 σ.1 73 1 ((σ.1 73 1) + 1), σ.2))
    else
      if en_in v2 8 then
        if σ.1 76 v2.toNatClampNeg = (-1) then
          en_cI (x_b_hasBit_0 σ v1 v2) (fun r2 σ1 =>
            if r2 = 0 then
              if en_in v2 8 then
                if en_in v2 8 then
                  x_st_passDay_p73_41 (en_u1 σ1.1 77 v2.toNatClampNeg (if (0 : Int32) < (σ1.1 77 v2.toNatClampNeg) - 2 then (σ1.1 77 v2.toNatClampNeg) - 2 else 0), σ1.2) v1 (v2 + 1)
                else
                  none
              else
                none
            else
              x_st_passDay_p73_41 σ1 v1 (v2 + 1)) (fun e σ => some (.inr e, σ))
        else
          x_st_passDay_p73_41 σ v1 (v2 + 1)
      else
        none := en_ex_un (G := bb_G) (P := bb_P) (ML := bb_ML) (HD := bb_HD) 42 0 9021 41 [some (.ref 73), some (.int v1), some (.int v2)] [] σ
set_option maxRecDepth 100000 in
set_option maxHeartbeats 1000000 in
theorem e_st_heaviest_p73_0 (σ : en_S) : x_st_heaviest_p73_0 σ =
    x_st_heaviest_p73_6 σ (-1) 0 0 := en_ex_un (G := bb_G) (P := bb_P) (ML := bb_ML) (HD := bb_HD) 8 0 9015 0 [some (.ref 73), none, none, none] [] σ
set_option maxRecDepth 100000 in
set_option maxHeartbeats 1000000 in
theorem e_st_heaviest_p73_6 (σ : en_S) (v1 : Int32) (v2 : Int32) (v3 : Int32) : x_st_heaviest_p73_6 σ v1 v2 v3 =
    if σ.1 34 5 ≤ v3 then
      some (.inl (some (.int v1)), σ)
    else
      if en_in v3 6 then
        if σ.1 74 v3.toNatClampNeg ≤ v2 then
          x_st_heaviest_p73_6 σ v1 v2 (v3 + 1)
        else
          if en_in v3 6 then
            x_st_heaviest_p73_6 σ v3 (σ.1 74 v3.toNatClampNeg) (v3 + 1)
          else
            none
      else
        none := en_ex_un (G := bb_G) (P := bb_P) (ML := bb_ML) (HD := bb_HD) 26 0 9015 6 [some (.ref 73), some (.int v1), some (.int v2), some (.int v3)] [] σ
set_option maxRecDepth 100000 in
set_option maxHeartbeats 1000000 in
theorem e_st_bitsIn_p73_0 (σ : en_S) (v1 : Int32) : x_st_bitsIn_p73_0 σ v1 =
    x_st_bitsIn_p73_4 σ v1 0 0 := en_ex_un (G := bb_G) (P := bb_P) (ML := bb_ML) (HD := bb_HD) 6 0 9016 0 [some (.ref 73), some (.int v1), none, none] [] σ
set_option maxRecDepth 100000 in
set_option maxHeartbeats 1000000 in
theorem e_st_bitsIn_p73_4 (σ : en_S) (v1 : Int32) (v2 : Int32) (v3 : Int32) : x_st_bitsIn_p73_4 σ v1 v2 v3 =
    if σ.1 34 5 ≤ v3 then
      some (.inl (some (.int v2)), σ)
    else
      en_cI (x_st_townOf_p73_0 σ v3) (fun r2 σ1 =>
        if r2 = v1 then
          x_st_bitsIn_p73_4 σ1 v1 (v2 ||| ((1 : Int32) <<< (v3 &&& 31))) (v3 + 1)
        else
          x_st_bitsIn_p73_4 σ1 v1 v2 (v3 + 1)) (fun e σ => some (.inr e, σ)) := en_ex_un (G := bb_G) (P := bb_P) (ML := bb_ML) (HD := bb_HD) 24 0 9016 4 [some (.ref 73), some (.int v1), some (.int v2), some (.int v3)] [] σ
set_option maxRecDepth 100000 in
set_option maxHeartbeats 1000000 in
theorem e_st_bestCrew_p67_0 (σ : en_S) (v1 : Int32) : x_st_bestCrew_p67_0 σ v1 =
    x_st_bestCrew_p67_7 σ v1 (-1) (-1) 1 := en_ex_un (G := bb_G) (P := bb_P) (ML := bb_ML) (HD := bb_HD) 8 0 9017 0 [some (.ref 67), some (.int v1), none, none, none, none] [] σ
set_option maxRecDepth 100000 in
set_option maxHeartbeats 1000000 in
theorem e_st_bestCrew_p67_7 (σ : en_S) (v1 : Int32) (v2 : Int32) (v3 : Int32) (v4 : Int32) : x_st_bestCrew_p67_7 σ v1 v2 v3 v4 =
    if (1 : Int32) <<< ((σ.1 34 9) &&& 31) ≤ v4 then
      some (.inl (some (.int v2)), σ)
    else
      en_cI (x_ld_leanOf_p34_0 σ v4) (fun r2 σ1 =>
        en_cI (x_ji_bitCount_0 σ1 v4) (fun r4 σ3 =>
          if v2 = (-1) then
            en_cI (x_st_isBorneBy_p67_0 σ3 v1 v4) (fun r6 σ5 =>
              if r6 = 0 then
                x_st_bestCrew_p67_7 σ5 v1 v2 v3 (v4 + 1)
              else
                x_st_bestCrew_p67_7 σ5 v1 v4 ((r2 * 10) + r4) (v4 + 1)) (fun e σ => some (.inr e, σ))
          else
            if v3 ≤ (r2 * 10) + r4 then
              x_st_bestCrew_p67_7 σ3 v1 v2 v3 (v4 + 1)
            else
              en_cI (x_st_isBorneBy_p67_0 σ3 v1 v4) (fun r8 σ7 =>
                if r8 = 0 then
                  x_st_bestCrew_p67_7 σ7 v1 v2 v3 (v4 + 1)
                else
                  x_st_bestCrew_p67_7 σ7 v1 v4 ((r2 * 10) + r4) (v4 + 1)) (fun e σ => some (.inr e, σ))) (fun e σ => some (.inr e, σ))) (fun e σ => some (.inr e, σ)) := en_ex_un (G := bb_G) (P := bb_P) (ML := bb_ML) (HD := bb_HD) 55 0 9017 7 [some (.ref 67), some (.int v1), some (.int v2), some (.int v3), some (.int v4), none] [] σ
set_option maxRecDepth 100000 in
set_option maxHeartbeats 1000000 in
theorem e_st_borneBits_p73_0 (σ : en_S) : x_st_borneBits_p73_0 σ =
    x_st_borneBits_p73_4 σ 0 0 := en_ex_un (G := bb_G) (P := bb_P) (ML := bb_ML) (HD := bb_HD) 6 0 9011 0 [some (.ref 73), none, none] [] σ
set_option maxRecDepth 100000 in
set_option maxHeartbeats 1000000 in
theorem e_st_borneBits_p73_4 (σ : en_S) (v1 : Int32) (v2 : Int32) : x_st_borneBits_p73_4 σ v1 v2 =
    if σ.1 34 5 ≤ v2 then
      some (.inl (some (.int v1)), σ)
    else
      en_cI (x_st_isBorne_p73_0 σ v2) (fun r2 σ1 =>
        if r2 = 0 then
          x_st_borneBits_p73_4 σ1 v1 (v2 + 1)
        else
          x_st_borneBits_p73_4 σ1 (v1 ||| ((1 : Int32) <<< (v2 &&& 31))) (v2 + 1)) (fun e σ => some (.inr e, σ)) := en_ex_un (G := bb_G) (P := bb_P) (ML := bb_ML) (HD := bb_HD) 23 0 9011 4 [some (.ref 73), some (.int v1), some (.int v2)] [] σ
set_option maxRecDepth 100000 in
set_option maxHeartbeats 1000000 in
theorem e_st_weightOfAll_p73_0 (σ : en_S) : x_st_weightOfAll_p73_0 σ =
    x_st_weightOfAll_p73_4 σ 0 0 := en_ex_un (G := bb_G) (P := bb_P) (ML := bb_ML) (HD := bb_HD) 6 0 9014 0 [some (.ref 73), none, none] [] σ
set_option maxRecDepth 100000 in
set_option maxHeartbeats 1000000 in
theorem e_st_weightOfAll_p73_4 (σ : en_S) (v1 : Int32) (v2 : Int32) : x_st_weightOfAll_p73_4 σ v1 v2 =
    if σ.1 34 5 ≤ v2 then
      some (.inl (some (.int v1)), σ)
    else
      if en_in v2 6 then
        x_st_weightOfAll_p73_4 σ (v1 + (σ.1 74 v2.toNatClampNeg)) (v2 + 1)
      else
        none := en_ex_un (G := bb_G) (P := bb_P) (ML := bb_ML) (HD := bb_HD) 18 0 9014 4 [some (.ref 73), some (.int v1), some (.int v2)] [] σ
set_option maxRecDepth 100000 in
set_option maxHeartbeats 1000000 in
theorem e_st_isBorneBy_p67_0 (σ : en_S) (v1 : Int32) (v2 : Int32) : x_st_isBorneBy_p67_0 σ v1 v2 =
    if v2 = 0 then
      some (.inl (some (.int 0)), σ)
    else
      en_cI (x_st_mightOfAll_p67_0 σ v2) (fun r2 σ1 =>
        if en_in v1 6 then
          if r2 < σ1.1 68 v1.toNatClampNeg then
            some (.inl (some (.int 0)), σ1)
          else
            some (.inl (some (.int 1)), σ1)
        else
          none) (fun e σ => some (.inr e, σ)) := en_ex_un (G := bb_G) (P := bb_P) (ML := bb_ML) (HD := bb_HD) 19 0 9009 0 [some (.ref 67), some (.int v1), some (.int v2)] [] σ
set_option maxRecDepth 100000 in
set_option maxHeartbeats 1000000 in
theorem e_st_isBorne_p67_0 (σ : en_S) (v1 : Int32) : x_st_isBorne_p67_0 σ v1 =
    en_cI (x_st_bitsUnder_p67_0 σ v1) (fun r2 σ1 =>
      en_cI (x_st_isBorneBy_p67_0 σ1 v1 r2) (fun r4 σ3 =>
        if r4 = 0 ∨ r4 = 1 then
          some (.inl (some (.int r4)), σ3)
        else
          none) (fun e σ => some (.inr e, σ))) (fun e σ => some (.inr e, σ)) := en_ex_un (G := bb_G) (P := bb_P) (ML := bb_ML) (HD := bb_HD) 9 0 9010 0 [some (.ref 67), some (.int v1)] [] σ
set_option maxRecDepth 100000 in
set_option maxHeartbeats 1000000 in
theorem e_st_passBox_p67_0 (σ : en_S) (v1 : Int32) : x_st_passBox_p67_0 σ v1 =
    en_cV (x_st_survey_p67_0 σ v1) (fun σ1 =>
      en_cI (x_st_valueOf_p67_0 σ1 (-5)) (fun r3 σ2 =>
        if r3 = 1 then
          x_st_passBox_p67_20 σ2 v1 1
        else
          x_st_passBox_p67_20 σ2 v1 (-1)) (fun e σ => some (.inr e, σ))) (fun e σ => some (.inr e, σ)) := en_ex_un (G := bb_G) (P := bb_P) (ML := bb_ML) (HD := bb_HD) 13 0 9022 0 [some (.ref 67), some (.int v1), none, none, none] [] σ
set_option maxRecDepth 100000 in
set_option maxHeartbeats 1000000 in
theorem e_st_passBox_p67_20 (σ : en_S) (v1 : Int32) (t0 : Int32) : x_st_passBox_p67_20 σ v1 t0 =
    if σ.1 44 0 = 0 then
      en_cV (x_st_addWeight_p67_0 σ v1 t0) (fun σ1 =>
        en_cV (x_st_survey_p67_0 σ1 v1) (fun σ2 =>
          en_cI (x_st_valueOf_p67_0 σ2 (-5)) (fun r4 σ3 =>
            if r4 = 1 then
              x_st_passBox_p67_82 σ3 v1 1
            else
              x_st_passBox_p67_82 σ3 v1 0) (fun e σ => some (.inr e, σ))) (fun e σ => some (.inr e, σ))) (fun e σ => some (.inr e, σ))
    else
      en_cI (x_ru_workOut_p44_72_0 σ) (fun r6 σ5 =>
        en_cI (x_b_within_0 σ5 r6 (-9) 9) (fun r8 σ7 =>
          en_cV (x_st_addWeight_p67_0 σ7 v1 r8) (fun σ9 =>
            en_cV (x_st_survey_p67_0 σ9 v1) (fun σ10 =>
              en_cI (x_st_valueOf_p67_0 σ10 (-5)) (fun r12 σ11 =>
                if r12 = 1 then
                  x_st_passBox_p67_82 σ11 v1 1
                else
                  x_st_passBox_p67_82 σ11 v1 0) (fun e σ => some (.inr e, σ))) (fun e σ => some (.inr e, σ))) (fun e σ => some (.inr e, σ))) (fun e σ => some (.inr e, σ))) (fun e σ => some (.inr e, σ)) := en_ex_un (G := bb_G) (P := bb_P) (ML := bb_ML) (HD := bb_HD) 48 0 9022 20 [some (.ref 67), some (.int v1), none, none, none] [.int t0] σ
set_option maxRecDepth 100000 in
set_option maxHeartbeats 1000000 in
theorem e_st_passBox_p67_82 (σ : en_S) (v1 : Int32) (t0 : Int32) : x_st_passBox_p67_82 σ v1 t0 =
    if t0 = 0 then
      x_st_passBox_p67_102 σ v1 t0 0
    else
      en_cI (x_st_valueOf_p67_0 σ (-4)) (fun r2 σ1 =>
        if r2 ≤ 5 then
          x_st_passBox_p67_102 σ1 v1 t0 0
        else
          x_st_passBox_p67_102 σ1 v1 t0 1) (fun e σ => some (.inr e, σ)) := en_ex_un (G := bb_G) (P := bb_P) (ML := bb_ML) (HD := bb_HD) 14 0 9022 82 [some (.ref 67), some (.int v1), none, none, none] [.int t0] σ
set_option maxRecDepth 100000 in
set_option maxHeartbeats 1000000 in
theorem e_st_passBox_p67_102 (σ : en_S) (v1 : Int32) (v3 : Int32) (t0 : Int32) : x_st_passBox_p67_102 σ v1 v3 t0 =
    if σ.1 47 0 = 0 then
      if t0 = 0 then
        if v3 = 0 then
          some (.inl (some (.int 0)), σ)
        else
          en_cV (x_st_carryOn_p67_0 σ v1) (fun σ1 =>
            some (.inl (some (.int 0)), σ1)) (fun e σ => some (.inr e, σ))
      else
        en_cI (x_st_letFall_p67_0 σ v1) (fun r3 σ2 =>
          some (.inl (some (.int r3)), σ2)) (fun e σ => some (.inr e, σ))
    else
      en_cI (x_ru_workOut_p47_72_0 σ) (fun r5 σ4 =>
        if r5 ≤ 0 then
          if v3 = 0 then
            some (.inl (some (.int 0)), σ4)
          else
            en_cV (x_st_carryOn_p67_0 σ4 v1) (fun σ6 =>
              some (.inl (some (.int 0)), σ6)) (fun e σ => some (.inr e, σ))
        else
          en_cI (x_st_letFall_p67_0 σ4 v1) (fun r8 σ7 =>
            some (.inl (some (.int r8)), σ7)) (fun e σ => some (.inr e, σ))) (fun e σ => some (.inr e, σ)) := en_ex_un (G := bb_G) (P := bb_P) (ML := bb_ML) (HD := bb_HD) 52 0 9022 102 [some (.ref 67), some (.int v1), none, some (.int v3), none] [.int t0] σ
set_option maxRecDepth 100000 in
set_option maxHeartbeats 1000000 in
theorem e_st_passDays_p73_0 (σ : en_S) (v1 : Int32) : x_st_passDays_p73_0 σ v1 =
    x_st_passDays_p73_4 σ v1 0 0 := en_ex_un (G := bb_G) (P := bb_P) (ML := bb_ML) (HD := bb_HD) 6 0 9020 0 [some (.ref 73), some (.int v1), none, none] [] σ
set_option maxRecDepth 100000 in
set_option maxHeartbeats 1000000 in
theorem e_st_passDays_p73_4 (σ : en_S) (v1 : Int32) (v2 : Int32) (v3 : Int32) : x_st_passDays_p73_4 σ v1 v2 v3 =
    if v1 ≤ v3 then
      some (.inl (some (.int v2)), σ)
    else
      en_cV (x_st_passDay_p73_0 σ) (fun σ1 =>
        x_st_passDays_p73_4 σ1 v1 (v2 + (σ1.1 73 7)) (v3 + 1)) (fun e σ => some (.inr e, σ)) := en_ex_un (G := bb_G) (P := bb_P) (ML := bb_ML) (HD := bb_HD) 16 0 9020 4 [some (.ref 73), some (.int v1), some (.int v2), some (.int v3)] [] σ
set_option maxRecDepth 100000 in
set_option maxHeartbeats 1000000 in
theorem e_st_isBorneBy_p73_0 (σ : en_S) (v1 : Int32) (v2 : Int32) : x_st_isBorneBy_p73_0 σ v1 v2 =
    if v2 = 0 then
      some (.inl (some (.int 0)), σ)
    else
      en_cI (x_st_mightOfAll_p73_0 σ v2) (fun r2 σ1 =>
        if en_in v1 6 then
          if r2 < σ1.1 74 v1.toNatClampNeg then
            some (.inl (some (.int 0)), σ1)
          else
            some (.inl (some (.int 1)), σ1)
        else
          none) (fun e σ => some (.inr e, σ)) := en_ex_un (G := bb_G) (P := bb_P) (ML := bb_ML) (HD := bb_HD) 19 0 9009 0 [some (.ref 73), some (.int v1), some (.int v2)] [] σ
set_option maxRecDepth 100000 in
set_option maxHeartbeats 1000000 in
theorem e_st_passBox_p73_0 (σ : en_S) (v1 : Int32) : x_st_passBox_p73_0 σ v1 =
    en_cV (x_st_survey_p73_0 σ v1) (fun σ1 =>
      en_cI (x_st_valueOf_p73_0 σ1 (-5)) (fun r3 σ2 =>
        if r3 = 1 then
          x_st_passBox_p73_20 σ2 v1 1
        else
          x_st_passBox_p73_20 σ2 v1 (-1)) (fun e σ => some (.inr e, σ))) (fun e σ => some (.inr e, σ)) := en_ex_un (G := bb_G) (P := bb_P) (ML := bb_ML) (HD := bb_HD) 13 0 9022 0 [some (.ref 73), some (.int v1), none, none, none] [] σ
set_option maxRecDepth 100000 in
set_option maxHeartbeats 1000000 in
theorem e_st_passBox_p73_20 (σ : en_S) (v1 : Int32) (t0 : Int32) : x_st_passBox_p73_20 σ v1 t0 =
    if σ.1 44 0 = 0 then
      en_cV (x_st_addWeight_p73_0 σ v1 t0) (fun σ1 =>
        en_cV (x_st_survey_p73_0 σ1 v1) (fun σ2 =>
          en_cI (x_st_valueOf_p73_0 σ2 (-5)) (fun r4 σ3 =>
            if r4 = 1 then
              x_st_passBox_p73_82 σ3 v1 1
            else
              x_st_passBox_p73_82 σ3 v1 0) (fun e σ => some (.inr e, σ))) (fun e σ => some (.inr e, σ))) (fun e σ => some (.inr e, σ))
    else
      en_cI (x_ru_workOut_p44_78_0 σ) (fun r6 σ5 =>
        en_cI (x_b_within_0 σ5 r6 (-9) 9) (fun r8 σ7 =>
          en_cV (x_st_addWeight_p73_0 σ7 v1 r8) (fun σ9 =>
            en_cV (x_st_survey_p73_0 σ9 v1) (fun σ10 =>
              en_cI (x_st_valueOf_p73_0 σ10 (-5)) (fun r12 σ11 =>
                if r12 = 1 then
                  x_st_passBox_p73_82 σ11 v1 1
                else
                  x_st_passBox_p73_82 σ11 v1 0) (fun e σ => some (.inr e, σ))) (fun e σ => some (.inr e, σ))) (fun e σ => some (.inr e, σ))) (fun e σ => some (.inr e, σ))) (fun e σ => some (.inr e, σ)) := en_ex_un (G := bb_G) (P := bb_P) (ML := bb_ML) (HD := bb_HD) 48 0 9022 20 [some (.ref 73), some (.int v1), none, none, none] [.int t0] σ
set_option maxRecDepth 100000 in
set_option maxHeartbeats 1000000 in
theorem e_st_passBox_p73_82 (σ : en_S) (v1 : Int32) (t0 : Int32) : x_st_passBox_p73_82 σ v1 t0 =
    if t0 = 0 then
      x_st_passBox_p73_102 σ v1 t0 0
    else
      en_cI (x_st_valueOf_p73_0 σ (-4)) (fun r2 σ1 =>
        if r2 ≤ 5 then
          x_st_passBox_p73_102 σ1 v1 t0 0
        else
          x_st_passBox_p73_102 σ1 v1 t0 1) (fun e σ => some (.inr e, σ)) := en_ex_un (G := bb_G) (P := bb_P) (ML := bb_ML) (HD := bb_HD) 14 0 9022 82 [some (.ref 73), some (.int v1), none, none, none] [.int t0] σ
set_option maxRecDepth 100000 in
set_option maxHeartbeats 1000000 in
theorem e_st_passBox_p73_102 (σ : en_S) (v1 : Int32) (v3 : Int32) (t0 : Int32) : x_st_passBox_p73_102 σ v1 v3 t0 =
    if σ.1 47 0 = 0 then
      if t0 = 0 then
        if v3 = 0 then
          some (.inl (some (.int 0)), σ)
        else
          en_cV (x_st_carryOn_p73_0 σ v1) (fun σ1 =>
            some (.inl (some (.int 0)), σ1)) (fun e σ => some (.inr e, σ))
      else
        en_cI (x_st_letFall_p73_0 σ v1) (fun r3 σ2 =>
          some (.inl (some (.int r3)), σ2)) (fun e σ => some (.inr e, σ))
    else
      en_cI (x_ru_workOut_p47_78_0 σ) (fun r5 σ4 =>
        if r5 ≤ 0 then
          if v3 = 0 then
            some (.inl (some (.int 0)), σ4)
          else
            en_cV (x_st_carryOn_p73_0 σ4 v1) (fun σ6 =>
              some (.inl (some (.int 0)), σ6)) (fun e σ => some (.inr e, σ))
        else
          en_cI (x_st_letFall_p73_0 σ4 v1) (fun r8 σ7 =>
            some (.inl (some (.int r8)), σ7)) (fun e σ => some (.inr e, σ))) (fun e σ => some (.inr e, σ)) := en_ex_un (G := bb_G) (P := bb_P) (ML := bb_ML) (HD := bb_HD) 52 0 9022 102 [some (.ref 73), some (.int v1), none, some (.int v3), none] [.int t0] σ
set_option maxRecDepth 100000 in
set_option maxHeartbeats 1000000 in
theorem e_st_getWet_p73_0 (σ : en_S) : x_st_getWet_p73_0 σ =
    x_st_getWet_p73_2 σ 0 := en_ex_un (G := bb_G) (P := bb_P) (ML := bb_ML) (HD := bb_HD) 4 0 9019 0 [some (.ref 73), none] [] σ
set_option maxRecDepth 100000 in
set_option maxHeartbeats 1000000 in
theorem e_st_getWet_p73_2 (σ : en_S) (v1 : Int32) : x_st_getWet_p73_2 σ v1 =
    if σ.1 34 9 ≤ v1 then
      some (.inl none, σ)
    else
      if en_in v1 8 then
        if σ.1 76 v1.toNatClampNeg = (-1) then
          x_st_getWet_p73_2 σ (v1 + 1)
        else
          en_cV (x_st_tireOut_p73_0 σ v1) (fun σ1 =>
            x_st_getWet_p73_2 σ1 (v1 + 1)) (fun e σ => some (.inr e, σ))
      else
        none := en_ex_un (G := bb_G) (P := bb_P) (ML := bb_ML) (HD := bb_HD) 21 0 9019 2 [some (.ref 73), some (.int v1)] [] σ
set_option maxRecDepth 100000 in
set_option maxHeartbeats 1000000 in
theorem e_st_addWeight_p73_0 (σ : en_S) (v1 : Int32) (v2 : Int32) : x_st_addWeight_p73_0 σ v1 v2 =
    if en_in v1 6 then
      en_cI (x_b_within_0 σ ((σ.1 74 v1.toNatClampNeg) + v2) 1 99) (fun r2 σ1 =>
        if en_in v1 6 then
          some (.inl none, (en_u1 σ1.1 74 v1.toNatClampNeg r2, σ1.2))
        else
          none) (fun e σ => some (.inr e, σ))
    else
      none := en_ex_un (G := bb_G) (P := bb_P) (ML := bb_ML) (HD := bb_HD) 16 0 9018 0 [some (.ref 73), some (.int v1), some (.int v2)] [] σ
set_option maxRecDepth 100000 in
set_option maxHeartbeats 1000000 in
theorem e_st_survey_p67_0 (σ : en_S) (v1 : Int32) : x_st_survey_p67_0 σ v1 =
    x_st_survey_p67_14 σ v1 0 0 0 9 0 := en_ex_un (G := bb_G) (P := bb_P) (ML := bb_ML) (HD := bb_HD) 12 0 9023 0 [some (.ref 67), some (.int v1), none, none, none, none, none] [] σ
set_option maxRecDepth 100000 in
set_option maxHeartbeats 1000000 in
theorem e_st_survey_p67_14 (σ : en_S) (v1 : Int32) (v2 : Int32) (v3 : Int32) (v4 : Int32) (v5 : Int32) (v6 : Int32) : x_st_survey_p67_14 σ v1 v2 v3 v4 v5 v6 =
    if σ.1 34 9 ≤ v6 then
      if en_in v1 6 then
        en_cV (x_st_keepValue_p67_0 σ (-1) (σ.1 68 v1.toNatClampNeg)) (fun σ1 =>
          en_cV (x_st_keepValue_p67_0 σ1 (-2) v2) (fun σ2 =>
            en_cV (x_st_keepValue_p67_0 σ2 (-3) v3) (fun σ3 =>
              if v2 = 0 then
                x_st_survey_p67_130 σ3 v1 v2 v3 0 (-4)
              else
                x_st_survey_p67_130 σ3 v1 v2 v3 (v4 - v5) (-4)) (fun e σ => some (.inr e, σ))) (fun e σ => some (.inr e, σ))) (fun e σ => some (.inr e, σ))
      else
        none
    else
      if en_in v6 8 then
        if σ.1 70 v6.toNatClampNeg = v1 then
          en_cI (x_st_mightOf_p67_0 σ v6) (fun r5 σ4 =>
            if en_in v6 8 then
              if en_in v6 8 then
                x_st_survey_p67_14 σ4 v1 (v2 + 1) (v3 + r5) (if v4 < σ4.1 42 v6.toNatClampNeg then σ4.1 42 v6.toNatClampNeg else v4) (if σ4.1 42 v6.toNatClampNeg < v5 then σ4.1 42 v6.toNatClampNeg else v5) (v6 + 1)
              else
                none
            else
              none) (fun e σ => some (.inr e, σ))
        else
          x_st_survey_p67_14 σ v1 v2 v3 v4 v5 (v6 + 1)
      else
        none := en_ex_un (G := bb_G) (P := bb_P) (ML := bb_ML) (HD := bb_HD) 64 0 9023 14 [some (.ref 67), some (.int v1), some (.int v2), some (.int v3), some (.int v4), some (.int v5), some (.int v6)] [] σ
set_option maxRecDepth 100000 in
set_option maxHeartbeats 1000000 in
theorem e_st_survey_p67_130 (σ : en_S) (v1 : Int32) (v2 : Int32) (v3 : Int32) (t0 : Int32) (t1 : Int32) : x_st_survey_p67_130 σ v1 v2 v3 t0 t1 =
    en_cV (x_st_keepValue_p67_0 σ t1 t0) (fun σ1 =>
      if v2 ≤ 0 then
        x_st_survey_p67_155 σ1 v1 0 (-5)
      else
        if en_in v1 6 then
          if v3 < σ1.1 68 v1.toNatClampNeg then
            x_st_survey_p67_155 σ1 v1 0 (-5)
          else
            x_st_survey_p67_155 σ1 v1 1 (-5)
        else
          none) (fun e σ => some (.inr e, σ)) := en_ex_un (G := bb_G) (P := bb_P) (ML := bb_ML) (HD := bb_HD) 17 0 9023 130 [some (.ref 67), some (.int v1), some (.int v2), some (.int v3), none, none, none] [.int t0, .int t1, .ref 67] σ
set_option maxRecDepth 100000 in
set_option maxHeartbeats 1000000 in
theorem e_st_survey_p67_155 (σ : en_S) (v1 : Int32) (t0 : Int32) (t1 : Int32) : x_st_survey_p67_155 σ v1 t0 t1 =
    en_cV (x_st_keepValue_p67_0 σ t1 t0) (fun σ1 =>
      if en_in v1 6 then
        en_cI (x_ld_townAt_p34_0 σ1 v1 (σ1.1 69 v1.toNatClampNeg)) (fun r3 σ2 =>
          en_cV (x_st_keepValue_p67_0 σ2 (-6) r3) (fun σ4 =>
            en_cV (x_st_keepValue_p67_0 σ4 (-7) (σ4.1 67 1)) (fun σ5 =>
              some (.inl none, σ5)) (fun e σ => some (.inr e, σ))) (fun e σ => some (.inr e, σ))) (fun e σ => some (.inr e, σ))
      else
        none) (fun e σ => some (.inr e, σ)) := en_ex_un (G := bb_G) (P := bb_P) (ML := bb_ML) (HD := bb_HD) 20 0 9023 155 [some (.ref 67), some (.int v1), none, none, none, none, none] [.int t0, .int t1, .ref 67] σ
set_option maxRecDepth 100000 in
set_option maxHeartbeats 1000000 in
theorem e_st_valueOf_p67_0 (σ : en_S) (v1 : Int32) : x_st_valueOf_p67_0 σ v1 =
    if en_in ((-1) - v1) 7 then
      some (.inl (some (.int (σ.1 72 (((-1) - v1).toNatClampNeg)))), σ)
    else
      none := en_ex_un (G := bb_G) (P := bb_P) (ML := bb_ML) (HD := bb_HD) 9 0 9025 0 [some (.ref 67), some (.int v1)] [] σ
set_option maxRecDepth 100000 in
set_option maxHeartbeats 1000000 in
theorem e_st_carryOn_p67_0 (σ : en_S) (v1 : Int32) : x_st_carryOn_p67_0 σ v1 =
    if en_in v1 6 then
      en_cI (x_ld_nextPlace_p34_0 σ v1 (σ.1 69 v1.toNatClampNeg)) (fun r2 σ1 =>
        if en_in v1 6 then
          x_st_carryOn_p67_22 (en_u1 σ1.1 69 v1.toNatClampNeg r2, σ1.2) v1 0
        else
          none) (fun e σ => some (.inr e, σ))
    else
      none := en_ex_un (G := bb_G) (P := bb_P) (ML := bb_ML) (HD := bb_HD) 16 0 9027 0 [some (.ref 67), some (.int v1), none] [] σ
set_option maxRecDepth 100000 in
set_option maxHeartbeats 1000000 in
theorem e_st_carryOn_p67_22 (σ : en_S) (v1 : Int32) (v2 : Int32) : x_st_carryOn_p67_22 σ v1 v2 =
    if σ.1 34 9 ≤ v2 then
      some (.inl none, (en_u1 σ.1 67 7 ((σ.1 67 7) + 1), σ.2))
    else
      if en_in v2 8 then
        if σ.1 70 v2.toNatClampNeg = v1 then
          en_cV (x_st_tireOut_p67_0 σ v2) (fun σ1 =>
            x_st_carryOn_p67_22 σ1 v1 (v2 + 1)) (fun e σ => some (.inr e, σ))
        else
          x_st_carryOn_p67_22 σ v1 (v2 + 1)
      else
        none := en_ex_un (G := bb_G) (P := bb_P) (ML := bb_ML) (HD := bb_HD) 27 0 9027 22 [some (.ref 67), some (.int v1), some (.int v2)] [] σ
set_option maxRecDepth 100000 in
set_option maxHeartbeats 1000000 in
theorem e_st_letFall_p67_0 (σ : en_S) (v1 : Int32) : x_st_letFall_p67_0 σ v1 =
    en_cI (x_st_bitsUnder_p67_0 σ v1) (fun r2 σ1 =>
      if en_in v1 6 then
        if en_in v1 6 then
          x_st_letFall_p67_26 (en_u1 σ1.1 68 v1.toNatClampNeg (if (1 : Int32) < (σ1.1 68 v1.toNatClampNeg) / (2 : Int32) then (σ1.1 68 v1.toNatClampNeg) / (2 : Int32) else 1), σ1.2) v1 r2 0
        else
          none
      else
        none) (fun e σ => some (.inr e, σ)) := en_ex_un (G := bb_G) (P := bb_P) (ML := bb_ML) (HD := bb_HD) 20 0 9026 0 [some (.ref 67), some (.int v1), none, none] [] σ
set_option maxRecDepth 100000 in
set_option maxHeartbeats 1000000 in
theorem e_st_letFall_p67_26 (σ : en_S) (v1 : Int32) (v2 : Int32) (v3 : Int32) : x_st_letFall_p67_26 σ v1 v2 v3 =
    if σ.1 34 9 ≤ v3 then
      some (.inl (some (.int v2)), (en_u1 σ.1 67 6 ((σ.1 67 6) ||| ((1 : Int32) <<< (v1 &&& 31))), σ.2))
    else
      en_cI (x_b_hasBit_0 σ v2 v3) (fun r2 σ1 =>
        if r2 = 0 then
          x_st_letFall_p67_26 σ1 v1 v2 (v3 + 1)
        else
          if en_in v3 8 then
            x_st_letFall_p67_26 (en_u1 σ1.1 70 v3.toNatClampNeg (-1), σ1.2) v1 v2 (v3 + 1)
          else
            none) (fun e σ => some (.inr e, σ)) := en_ex_un (G := bb_G) (P := bb_P) (ML := bb_ML) (HD := bb_HD) 30 0 9026 26 [some (.ref 67), some (.int v1), some (.int v2), some (.int v3)] [] σ
set_option maxRecDepth 100000 in
set_option maxHeartbeats 1000000 in
theorem e_st_mightOfAll_p73_0 (σ : en_S) (v1 : Int32) : x_st_mightOfAll_p73_0 σ v1 =
    x_st_mightOfAll_p73_4 σ v1 0 0 := en_ex_un (G := bb_G) (P := bb_P) (ML := bb_ML) (HD := bb_HD) 6 0 9008 0 [some (.ref 73), some (.int v1), none, none] [] σ
set_option maxRecDepth 100000 in
set_option maxHeartbeats 1000000 in
theorem e_st_mightOfAll_p73_4 (σ : en_S) (v1 : Int32) (v2 : Int32) (v3 : Int32) : x_st_mightOfAll_p73_4 σ v1 v2 v3 =
    if σ.1 34 9 ≤ v3 then
      some (.inl (some (.int v2)), σ)
    else
      en_cI (x_b_hasBit_0 σ v1 v3) (fun r2 σ1 =>
        if r2 = 0 then
          x_st_mightOfAll_p73_4 σ1 v1 v2 (v3 + 1)
        else
          en_cI (x_st_mightOf_p73_0 σ1 v3) (fun r4 σ3 =>
            x_st_mightOfAll_p73_4 σ3 v1 (v2 + r4) (v3 + 1)) (fun e σ => some (.inr e, σ))) (fun e σ => some (.inr e, σ)) := en_ex_un (G := bb_G) (P := bb_P) (ML := bb_ML) (HD := bb_HD) 23 0 9008 4 [some (.ref 73), some (.int v1), some (.int v2), some (.int v3)] [] σ
set_option maxRecDepth 100000 in
set_option maxHeartbeats 1000000 in
theorem e_st_survey_p73_0 (σ : en_S) (v1 : Int32) : x_st_survey_p73_0 σ v1 =
    x_st_survey_p73_14 σ v1 0 0 0 9 0 := en_ex_un (G := bb_G) (P := bb_P) (ML := bb_ML) (HD := bb_HD) 12 0 9023 0 [some (.ref 73), some (.int v1), none, none, none, none, none] [] σ
set_option maxRecDepth 100000 in
set_option maxHeartbeats 1000000 in
theorem e_st_survey_p73_14 (σ : en_S) (v1 : Int32) (v2 : Int32) (v3 : Int32) (v4 : Int32) (v5 : Int32) (v6 : Int32) : x_st_survey_p73_14 σ v1 v2 v3 v4 v5 v6 =
    if σ.1 34 9 ≤ v6 then
      if en_in v1 6 then
        en_cV (x_st_keepValue_p73_0 σ (-1) (σ.1 74 v1.toNatClampNeg)) (fun σ1 =>
          en_cV (x_st_keepValue_p73_0 σ1 (-2) v2) (fun σ2 =>
            en_cV (x_st_keepValue_p73_0 σ2 (-3) v3) (fun σ3 =>
              if v2 = 0 then
                x_st_survey_p73_130 σ3 v1 v2 v3 0 (-4)
              else
                x_st_survey_p73_130 σ3 v1 v2 v3 (v4 - v5) (-4)) (fun e σ => some (.inr e, σ))) (fun e σ => some (.inr e, σ))) (fun e σ => some (.inr e, σ))
      else
        none
    else
      if en_in v6 8 then
        if σ.1 76 v6.toNatClampNeg = v1 then
          en_cI (x_st_mightOf_p73_0 σ v6) (fun r5 σ4 =>
            if en_in v6 8 then
              if en_in v6 8 then
                x_st_survey_p73_14 σ4 v1 (v2 + 1) (v3 + r5) (if v4 < σ4.1 42 v6.toNatClampNeg then σ4.1 42 v6.toNatClampNeg else v4) (if σ4.1 42 v6.toNatClampNeg < v5 then σ4.1 42 v6.toNatClampNeg else v5) (v6 + 1)
              else
                none
            else
              none) (fun e σ => some (.inr e, σ))
        else
          x_st_survey_p73_14 σ v1 v2 v3 v4 v5 (v6 + 1)
      else
        none := en_ex_un (G := bb_G) (P := bb_P) (ML := bb_ML) (HD := bb_HD) 64 0 9023 14 [some (.ref 73), some (.int v1), some (.int v2), some (.int v3), some (.int v4), some (.int v5), some (.int v6)] [] σ
set_option maxRecDepth 100000 in
set_option maxHeartbeats 1000000 in
theorem e_st_survey_p73_130 (σ : en_S) (v1 : Int32) (v2 : Int32) (v3 : Int32) (t0 : Int32) (t1 : Int32) : x_st_survey_p73_130 σ v1 v2 v3 t0 t1 =
    en_cV (x_st_keepValue_p73_0 σ t1 t0) (fun σ1 =>
      if v2 ≤ 0 then
        x_st_survey_p73_155 σ1 v1 0 (-5)
      else
        if en_in v1 6 then
          if v3 < σ1.1 74 v1.toNatClampNeg then
            x_st_survey_p73_155 σ1 v1 0 (-5)
          else
            x_st_survey_p73_155 σ1 v1 1 (-5)
        else
          none) (fun e σ => some (.inr e, σ)) := en_ex_un (G := bb_G) (P := bb_P) (ML := bb_ML) (HD := bb_HD) 17 0 9023 130 [some (.ref 73), some (.int v1), some (.int v2), some (.int v3), none, none, none] [.int t0, .int t1, .ref 73] σ
set_option maxRecDepth 100000 in
set_option maxHeartbeats 1000000 in
theorem e_st_survey_p73_155 (σ : en_S) (v1 : Int32) (t0 : Int32) (t1 : Int32) : x_st_survey_p73_155 σ v1 t0 t1 =
    en_cV (x_st_keepValue_p73_0 σ t1 t0) (fun σ1 =>
      if en_in v1 6 then
        en_cI (x_ld_townAt_p34_0 σ1 v1 (σ1.1 75 v1.toNatClampNeg)) (fun r3 σ2 =>
          en_cV (x_st_keepValue_p73_0 σ2 (-6) r3) (fun σ4 =>
            en_cV (x_st_keepValue_p73_0 σ4 (-7) (σ4.1 73 1)) (fun σ5 =>
              some (.inl none, σ5)) (fun e σ => some (.inr e, σ))) (fun e σ => some (.inr e, σ))) (fun e σ => some (.inr e, σ))
      else
        none) (fun e σ => some (.inr e, σ)) := en_ex_un (G := bb_G) (P := bb_P) (ML := bb_ML) (HD := bb_HD) 20 0 9023 155 [some (.ref 73), some (.int v1), none, none, none, none, none] [.int t0, .int t1, .ref 73] σ
set_option maxRecDepth 100000 in
set_option maxHeartbeats 1000000 in
theorem e_st_valueOf_p73_0 (σ : en_S) (v1 : Int32) : x_st_valueOf_p73_0 σ v1 =
    if en_in ((-1) - v1) 7 then
      some (.inl (some (.int (σ.1 78 (((-1) - v1).toNatClampNeg)))), σ)
    else
      none := en_ex_un (G := bb_G) (P := bb_P) (ML := bb_ML) (HD := bb_HD) 9 0 9025 0 [some (.ref 73), some (.int v1)] [] σ
set_option maxRecDepth 100000 in
set_option maxHeartbeats 1000000 in
theorem e_st_carryOn_p73_0 (σ : en_S) (v1 : Int32) : x_st_carryOn_p73_0 σ v1 =
    if en_in v1 6 then
      en_cI (x_ld_nextPlace_p34_0 σ v1 (σ.1 75 v1.toNatClampNeg)) (fun r2 σ1 =>
        if en_in v1 6 then
          x_st_carryOn_p73_22 (en_u1 σ1.1 75 v1.toNatClampNeg r2, σ1.2) v1 0
        else
          none) (fun e σ => some (.inr e, σ))
    else
      none := en_ex_un (G := bb_G) (P := bb_P) (ML := bb_ML) (HD := bb_HD) 16 0 9027 0 [some (.ref 73), some (.int v1), none] [] σ
set_option maxRecDepth 100000 in
set_option maxHeartbeats 1000000 in
theorem e_st_carryOn_p73_22 (σ : en_S) (v1 : Int32) (v2 : Int32) : x_st_carryOn_p73_22 σ v1 v2 =
    if σ.1 34 9 ≤ v2 then
      some (.inl none, (en_u1 σ.1 73 7 ((σ.1 73 7) + 1), σ.2))
    else
      if en_in v2 8 then
        if σ.1 76 v2.toNatClampNeg = v1 then
          en_cV (x_st_tireOut_p73_0 σ v2) (fun σ1 =>
            x_st_carryOn_p73_22 σ1 v1 (v2 + 1)) (fun e σ => some (.inr e, σ))
        else
          x_st_carryOn_p73_22 σ v1 (v2 + 1)
      else
        none := en_ex_un (G := bb_G) (P := bb_P) (ML := bb_ML) (HD := bb_HD) 27 0 9027 22 [some (.ref 73), some (.int v1), some (.int v2)] [] σ
set_option maxRecDepth 100000 in
set_option maxHeartbeats 1000000 in
theorem e_st_letFall_p73_0 (σ : en_S) (v1 : Int32) : x_st_letFall_p73_0 σ v1 =
    en_cI (x_st_bitsUnder_p73_0 σ v1) (fun r2 σ1 =>
      if en_in v1 6 then
        if en_in v1 6 then
          x_st_letFall_p73_26 (en_u1 σ1.1 74 v1.toNatClampNeg (if (1 : Int32) < (σ1.1 74 v1.toNatClampNeg) / (2 : Int32) then (σ1.1 74 v1.toNatClampNeg) / (2 : Int32) else 1), σ1.2) v1 r2 0
        else
          none
      else
        none) (fun e σ => some (.inr e, σ)) := en_ex_un (G := bb_G) (P := bb_P) (ML := bb_ML) (HD := bb_HD) 20 0 9026 0 [some (.ref 73), some (.int v1), none, none] [] σ
set_option maxRecDepth 100000 in
set_option maxHeartbeats 1000000 in
theorem e_st_letFall_p73_26 (σ : en_S) (v1 : Int32) (v2 : Int32) (v3 : Int32) : x_st_letFall_p73_26 σ v1 v2 v3 =
    if σ.1 34 9 ≤ v3 then
      some (.inl (some (.int v2)), (en_u1 σ.1 73 6 ((σ.1 73 6) ||| ((1 : Int32) <<< (v1 &&& 31))), σ.2))
    else
      en_cI (x_b_hasBit_0 σ v2 v3) (fun r2 σ1 =>
        if r2 = 0 then
          x_st_letFall_p73_26 σ1 v1 v2 (v3 + 1)
        else
          if en_in v3 8 then
            x_st_letFall_p73_26 (en_u1 σ1.1 76 v3.toNatClampNeg (-1), σ1.2) v1 v2 (v3 + 1)
          else
            none) (fun e σ => some (.inr e, σ)) := en_ex_un (G := bb_G) (P := bb_P) (ML := bb_ML) (HD := bb_HD) 30 0 9026 26 [some (.ref 73), some (.int v1), some (.int v2), some (.int v3)] [] σ
set_option maxRecDepth 100000 in
set_option maxHeartbeats 1000000 in
theorem e_st_tireOut_p73_0 (σ : en_S) (v1 : Int32) : x_st_tireOut_p73_0 σ v1 =
    if en_in v1 8 then
      if (9 : Int32) ≤ σ.1 77 v1.toNatClampNeg then
        some (.inl none, σ)
      else
        if en_in v1 8 then
          if en_in v1 8 then
            some (.inl none, (en_u1 σ.1 77 v1.toNatClampNeg ((σ.1 77 v1.toNatClampNeg) + 1), σ.2))
          else
            none
        else
          none
    else
      none := en_ex_un (G := bb_G) (P := bb_P) (ML := bb_ML) (HD := bb_HD) 18 0 9028 0 [some (.ref 73), some (.int v1)] [] σ
set_option maxRecDepth 100000 in
set_option maxHeartbeats 1000000 in
theorem e_st_keepValue_p67_0 (σ : en_S) (v1 : Int32) (v2 : Int32) : x_st_keepValue_p67_0 σ v1 v2 =
    if en_in ((-1) - v1) 7 then
      some (.inl none, (en_u1 σ.1 72 (((-1) - v1).toNatClampNeg) v2, σ.2))
    else
      none := en_ex_un (G := bb_G) (P := bb_P) (ML := bb_ML) (HD := bb_HD) 10 0 9024 0 [some (.ref 67), some (.int v1), some (.int v2)] [] σ
set_option maxRecDepth 100000 in
set_option maxHeartbeats 1000000 in
theorem e_st_tireOut_p67_0 (σ : en_S) (v1 : Int32) : x_st_tireOut_p67_0 σ v1 =
    if en_in v1 8 then
      if (9 : Int32) ≤ σ.1 71 v1.toNatClampNeg then
        some (.inl none, σ)
      else
        if en_in v1 8 then
          if en_in v1 8 then
            some (.inl none, (en_u1 σ.1 71 v1.toNatClampNeg ((σ.1 71 v1.toNatClampNeg) + 1), σ.2))
          else
            none
        else
          none
    else
      none := en_ex_un (G := bb_G) (P := bb_P) (ML := bb_ML) (HD := bb_HD) 18 0 9028 0 [some (.ref 67), some (.int v1)] [] σ
set_option maxRecDepth 100000 in
set_option maxHeartbeats 1000000 in
theorem e_st_mightOf_p73_0 (σ : en_S) (v1 : Int32) : x_st_mightOf_p73_0 σ v1 =
    if en_in v1 8 then
      if en_in v1 8 then
        some (.inl (some (.int (if (0 : Int32) < (σ.1 41 v1.toNatClampNeg) - (2 * (σ.1 77 v1.toNatClampNeg)) then (σ.1 41 v1.toNatClampNeg) - (2 * (σ.1 77 v1.toNatClampNeg)) else 0))), σ)
      else
        none
    else
      none := en_ex_un (G := bb_G) (P := bb_P) (ML := bb_ML) (HD := bb_HD) 17 0 9007 0 [some (.ref 73), some (.int v1)] [] σ
set_option maxRecDepth 100000 in
set_option maxHeartbeats 1000000 in
theorem e_st_keepValue_p73_0 (σ : en_S) (v1 : Int32) (v2 : Int32) : x_st_keepValue_p73_0 σ v1 v2 =
    if en_in ((-1) - v1) 7 then
      some (.inl none, (en_u1 σ.1 78 (((-1) - v1).toNatClampNeg) v2, σ.2))
    else
      none := en_ex_un (G := bb_G) (P := bb_P) (ML := bb_ML) (HD := bb_HD) 10 0 9024 0 [some (.ref 73), some (.int v1), some (.int v2)] [] σ
