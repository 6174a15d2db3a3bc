/-! written by a program: one turn of the law's loop -/
set_option maxRecDepth 100000 in
set_option maxHeartbeats 1000000 in
theorem e_law_1463 (Ls : Nat) (xs : Nat → Int32) (kf : en_K) (σ : en_S) (v4 : Int32) : en_uk bb_G bb_P bb_ML bb_HD Ls xs 12035 kf 89 1463 [some (.ref 900), some (.ref 31), some (.ref 0), some (.ref 30), some (.int v4), none, none] [] σ =
    if en_in (v4 + 1) Ls then
      en_cI (x_lw_crew_0 σ (xs (v4 + 1).toNatClampNeg)) (fun r2 σ1 =>
        if en_in (v4 + 1) Ls then
          en_cI (x_m_crew_0 σ1 (xs (v4 + 1).toNatClampNeg)) (fun r4 σ3 =>
            en_cI (x_m_thrown_0 σ3) (fun r6 σ5 =>
              if r6 = r2 then
                if r2 = 0 then
                  if lg_cmp (σ5.2 30 0) r4.toInt64 = 0 then
                    kf 23 [some (.ref 900), some (.ref 31), some (.ref 0), some (.ref 30), some (.int (v4 + 6)), none, none] [] σ5
                  else
                    some (.inl (some (.int 0)), σ5)
                else
                  kf 23 [some (.ref 900), some (.ref 31), some (.ref 0), some (.ref 30), some (.int (v4 + 6)), none, none] [] σ5
              else
                some (.inl (some (.int 0)), σ5)) (fun _ _ => none)) (fun _ _ => none)
        else
          none) (fun _ _ => none)
    else
      none := rfl
set_option maxRecDepth 100000 in
set_option maxHeartbeats 1000000 in
theorem e_law_1519 (Ls : Nat) (xs : Nat → Int32) (kf : en_K) (σ : en_S) (v4 : Int32) : en_uk bb_G bb_P bb_ML bb_HD Ls xs 12035 kf 89 1519 [some (.ref 900), some (.ref 31), some (.ref 0), some (.ref 30), some (.int v4), none, none] [] σ =
    if en_in (v4 + 1) Ls then
      en_cI (x_lw_toSlander_0 σ (xs (v4 + 1).toNatClampNeg)) (fun r2 σ1 =>
        if en_in (v4 + 1) Ls then
          en_cI (x_m_toSlander_0 σ1 (xs (v4 + 1).toNatClampNeg)) (fun r4 σ3 =>
            en_cI (x_m_thrown_0 σ3) (fun r6 σ5 =>
              if r6 = r2 then
                if r2 = 0 then
                  if lg_cmp (σ5.2 30 0) r4.toInt64 = 0 then
                    kf 23 [some (.ref 900), some (.ref 31), some (.ref 0), some (.ref 30), some (.int (v4 + 6)), none, none] [] σ5
                  else
                    some (.inl (some (.int 0)), σ5)
                else
                  kf 23 [some (.ref 900), some (.ref 31), some (.ref 0), some (.ref 30), some (.int (v4 + 6)), none, none] [] σ5
              else
                some (.inl (some (.int 0)), σ5)) (fun _ _ => none)) (fun _ _ => none)
        else
          none) (fun _ _ => none)
    else
      none := rfl
set_option maxRecDepth 100000 in
set_option maxHeartbeats 1000000 in
theorem e_law_1575 (Ls : Nat) (xs : Nat → Int32) (kf : en_K) (σ : en_S) (v4 : Int32) : en_uk bb_G bb_P bb_ML bb_HD Ls xs 12035 kf 89 1575 [some (.ref 900), some (.ref 31), some (.ref 0), some (.ref 30), some (.int v4), none, none] [] σ =
    if en_in (v4 + 1) Ls then
      en_cI (x_lw_toWait_0 σ (xs (v4 + 1).toNatClampNeg)) (fun r2 σ1 =>
        if en_in (v4 + 1) Ls then
          en_cI (x_m_toWait_0 σ1 (xs (v4 + 1).toNatClampNeg)) (fun r4 σ3 =>
            en_cI (x_m_thrown_0 σ3) (fun r6 σ5 =>
              if r6 = r2 then
                if r2 = 0 then
                  if lg_cmp (σ5.2 30 0) r4.toInt64 = 0 then
                    kf 23 [some (.ref 900), some (.ref 31), some (.ref 0), some (.ref 30), some (.int (v4 + 6)), none, none] [] σ5
                  else
                    some (.inl (some (.int 0)), σ5)
                else
                  kf 23 [some (.ref 900), some (.ref 31), some (.ref 0), some (.ref 30), some (.int (v4 + 6)), none, none] [] σ5
              else
                some (.inl (some (.int 0)), σ5)) (fun _ _ => none)) (fun _ _ => none)
        else
          none) (fun _ _ => none)
    else
      none := rfl
set_option maxRecDepth 100000 in
set_option maxHeartbeats 1000000 in
theorem e_law_1631 (Ls : Nat) (xs : Nat → Int32) (kf : en_K) (σ : en_S) (v4 : Int32) : en_uk bb_G bb_P bb_ML bb_HD Ls xs 12035 kf 89 1631 [some (.ref 900), some (.ref 31), some (.ref 0), some (.ref 30), some (.int v4), none, none] [] σ =
    if en_in (v4 + 1) Ls then
      if en_in (v4 + 2) Ls then
        if en_in (v4 + 3) Ls then
          en_cI (x_lw_way_0 σ (xs (v4 + 1).toNatClampNeg) (xs (v4 + 2).toNatClampNeg) (xs (v4 + 3).toNatClampNeg)) (fun r2 σ1 =>
            if en_in (v4 + 1) Ls then
              if en_in (v4 + 2) Ls then
                if en_in (v4 + 3) Ls then
                  en_cI (x_m_way_0 σ1 (xs (v4 + 1).toNatClampNeg) (xs (v4 + 2).toNatClampNeg) (xs (v4 + 3).toNatClampNeg)) (fun r4 σ3 =>
                    en_cI (x_m_thrown_0 σ3) (fun r6 σ5 =>
                      if r6 = r2 then
                        if r2 = 0 then
                          if lg_cmp (σ5.2 30 0) r4.toInt64 = 0 then
                            kf 23 [some (.ref 900), some (.ref 31), some (.ref 0), some (.ref 30), some (.int (v4 + 6)), none, none] [] σ5
                          else
                            some (.inl (some (.int 0)), σ5)
                        else
                          kf 23 [some (.ref 900), some (.ref 31), some (.ref 0), some (.ref 30), some (.int (v4 + 6)), none, none] [] σ5
                      else
                        some (.inl (some (.int 0)), σ5)) (fun _ _ => none)) (fun _ _ => none)
                else
                  none
              else
                none
            else
              none) (fun _ _ => none)
        else
          none
      else
        none
    else
      none := rfl
set_option maxRecDepth 100000 in
set_option maxHeartbeats 1000000 in
theorem e_law_1711 (Ls : Nat) (xs : Nat → Int32) (kf : en_K) (σ : en_S) (v4 : Int32) : en_uk bb_G bb_P bb_ML bb_HD Ls xs 12035 kf 89 1711 [some (.ref 900), some (.ref 31), some (.ref 0), some (.ref 30), some (.int v4), none, none] [] σ =
    if en_in (v4 + 1) Ls then
      if en_in (v4 + 2) Ls then
        if en_in (v4 + 3) Ls then
          en_cI (x_lw_see_0 σ (xs (v4 + 1).toNatClampNeg) (xs (v4 + 2).toNatClampNeg) (xs (v4 + 3).toNatClampNeg)) (fun r2 σ1 =>
            if en_in (v4 + 1) Ls then
              if en_in (v4 + 2) Ls then
                if en_in (v4 + 3) Ls then
                  en_cI (x_m_see_0 σ1 (xs (v4 + 1).toNatClampNeg) (xs (v4 + 2).toNatClampNeg) (xs (v4 + 3).toNatClampNeg)) (fun r4 σ3 =>
                    en_cI (x_m_thrown_0 σ3) (fun r6 σ5 =>
                      if r6 = r2 then
                        if r2 = 0 then
                          if lg_cmp (σ5.2 30 0) r4.toInt64 = 0 then
                            kf 23 [some (.ref 900), some (.ref 31), some (.ref 0), some (.ref 30), some (.int (v4 + 6)), none, none] [] σ5
                          else
                            some (.inl (some (.int 0)), σ5)
                        else
                          kf 23 [some (.ref 900), some (.ref 31), some (.ref 0), some (.ref 30), some (.int (v4 + 6)), none, none] [] σ5
                      else
                        some (.inl (some (.int 0)), σ5)) (fun _ _ => none)) (fun _ _ => none)
                else
                  none
              else
                none
            else
              none) (fun _ _ => none)
        else
          none
      else
        none
    else
      none := rfl
set_option maxRecDepth 100000 in
set_option maxHeartbeats 1000000 in
theorem e_law_1791 (Ls : Nat) (xs : Nat → Int32) (kf : en_K) (σ : en_S) (v4 : Int32) : en_uk bb_G bb_P bb_ML bb_HD Ls xs 12035 kf 89 1791 [some (.ref 900), some (.ref 31), some (.ref 0), some (.ref 30), some (.int v4), none, none] [] σ =
    en_cV (x_b_forget_0 σ) (fun σ1 =>
      en_cV (x_m_forget_0 σ1) (fun σ2 =>
        kf 23 [some (.ref 900), some (.ref 31), some (.ref 0), some (.ref 30), some (.int (v4 + 6)), none, none] [] σ2) (fun _ _ => none)) (fun _ _ => none) := rfl
set_option maxRecDepth 100000 in
set_option maxHeartbeats 1000000 in
theorem e_law_1802 (Ls : Nat) (xs : Nat → Int32) (kf : en_K) (σ : en_S) (v4 : Int32) : en_uk bb_G bb_P bb_ML bb_HD Ls xs 12035 kf 89 1802 [some (.ref 900), some (.ref 31), some (.ref 0), some (.ref 30), some (.int v4), none, none] [] σ =
    if en_in (v4 + 1) Ls then
      en_cI (x_lw_weighed_0 σ (xs (v4 + 1).toNatClampNeg)) (fun r2 σ1 =>
        if en_in (v4 + 1) Ls then
          en_cI (x_m_weighed_0 σ1 (xs (v4 + 1).toNatClampNeg)) (fun r4 σ3 =>
            en_cI (x_m_thrown_0 σ3) (fun r6 σ5 =>
              if r6 = r2 then
                if r2 = 0 then
                  if lg_cmp (σ5.2 30 0) r4.toInt64 = 0 then
                    kf 23 [some (.ref 900), some (.ref 31), some (.ref 0), some (.ref 30), some (.int (v4 + 6)), none, none] [] σ5
                  else
                    some (.inl (some (.int 0)), σ5)
                else
                  kf 23 [some (.ref 900), some (.ref 31), some (.ref 0), some (.ref 30), some (.int (v4 + 6)), none, none] [] σ5
              else
                some (.inl (some (.int 0)), σ5)) (fun _ _ => none)) (fun _ _ => none)
        else
          none) (fun _ _ => none)
    else
      none := rfl
