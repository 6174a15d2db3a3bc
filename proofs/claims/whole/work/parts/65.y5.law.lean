/-! written by a program: one turn of the law's loop -/
set_option maxRecDepth 100000 in
set_option maxHeartbeats 1000000 in
theorem e_law_1858 (Ls : Nat) (xs : Nat → Int32) (kf : en_K) (σ : en_S) (v4 : Int32) : en_uk bb_G bb_P bb_ML bb_HD Ls xs 12035 kf 89 1858 [some (.ref 900), some (.ref 31), some (.ref 0), some (.ref 30), some (.int v4), none, none] [] σ =
    if en_in (v4 + 1) Ls then
      en_cI (x_lw_look_0 σ (xs (v4 + 1).toNatClampNeg)) (fun r2 σ1 =>
        if en_in (v4 + 1) Ls then
          en_cI (x_m_look_0 σ1 (xs (v4 + 1).toNatClampNeg)) (fun r4 σ3 =>
            en_cI (x_m_thrown_0 σ3) (fun r6 σ5 =>
              if r6 = r2 then
                if r2 = 0 then
                  if lg_cmp (σ5.2 30 0) r4.toInt64 = 0 then
                    kf 23 [some (.ref 900), some (.ref 31), some (.ref 0), some (.ref 30), some (.int (v4 + 6)), none, none] [] σ5
                  else
                    some (.inl (some (.int 0)), σ5)
                else
                  kf 23 [some (.ref 900), some (.ref 31), some (.ref 0), some (.ref 30), some (.int (v4 + 6)), none, none] [] σ5
              else
                some (.inl (some (.int 0)), σ5)) (fun _ _ => none)) (fun _ _ => none)
        else
          none) (fun _ _ => none)
    else
      none := rfl
set_option maxRecDepth 100000 in
set_option maxHeartbeats 1000000 in
theorem e_law_1914 (Ls : Nat) (xs : Nat → Int32) (kf : en_K) (σ : en_S) (v4 : Int32) : en_uk bb_G bb_P bb_ML bb_HD Ls xs 12035 kf 89 1914 [some (.ref 900), some (.ref 31), some (.ref 0), some (.ref 30), some (.int v4), none, none] [] σ =
    if en_in (v4 + 1) Ls then
      if en_in (v4 + 2) Ls then
        if en_in (v4 + 3) Ls then
          en_cI (x_lw_rain_0 σ (xs (v4 + 1).toNatClampNeg) (xs (v4 + 2).toNatClampNeg) (xs (v4 + 3).toNatClampNeg)) (fun r2 σ1 =>
            if en_in (v4 + 1) Ls then
              if en_in (v4 + 2) Ls then
                if en_in (v4 + 3) Ls then
                  en_cI (x_m_rain_0 σ1 (xs (v4 + 1).toNatClampNeg) (xs (v4 + 2).toNatClampNeg) (xs (v4 + 3).toNatClampNeg)) (fun r4 σ3 =>
                    en_cI (x_m_thrown_0 σ3) (fun r6 σ5 =>
                      if r6 = r2 then
                        if r2 = 0 then
                          if lg_cmp (σ5.2 30 0) r4.toInt64 = 0 then
                            kf 23 [some (.ref 900), some (.ref 31), some (.ref 0), some (.ref 30), some (.int (v4 + 6)), none, none] [] σ5
                          else
                            some (.inl (some (.int 0)), σ5)
                        else
                          kf 23 [some (.ref 900), some (.ref 31), some (.ref 0), some (.ref 30), some (.int (v4 + 6)), none, none] [] σ5
                      else
                        some (.inl (some (.int 0)), σ5)) (fun _ _ => none)) (fun _ _ => none)
                else
                  none
              else
                none
            else
              none) (fun _ _ => none)
        else
          none
      else
        none
    else
      none := rfl
set_option maxRecDepth 100000 in
set_option maxHeartbeats 1000000 in
theorem e_law_1994 (Ls : Nat) (xs : Nat → Int32) (kf : en_K) (σ : en_S) (v4 : Int32) : en_uk bb_G bb_P bb_ML bb_HD Ls xs 12035 kf 89 1994 [some (.ref 900), some (.ref 31), some (.ref 0), some (.ref 30), some (.int v4), none, none] [] σ =
    if en_in (v4 + 1) Ls then
      if en_in (v4 + 2) Ls then
        if en_in (v4 + 3) Ls then
          en_cI (x_lw_game_0 σ (xs (v4 + 1).toNatClampNeg) (xs (v4 + 2).toNatClampNeg) (xs (v4 + 3).toNatClampNeg)) (fun r2 σ1 =>
            if en_in (v4 + 1) Ls then
              if en_in (v4 + 2) Ls then
                if en_in (v4 + 3) Ls then
                  en_cI (x_m_game_0 σ1 (xs (v4 + 1).toNatClampNeg) (xs (v4 + 2).toNatClampNeg) (xs (v4 + 3).toNatClampNeg)) (fun r4 σ3 =>
                    en_cI (x_m_thrown_0 σ3) (fun r6 σ5 =>
                      if r6 = r2 then
                        if r2 = 0 then
                          if lg_cmp (σ5.2 30 0) r4.toInt64 = 0 then
                            kf 23 [some (.ref 900), some (.ref 31), some (.ref 0), some (.ref 30), some (.int (v4 + 6)), none, none] [] σ5
                          else
                            some (.inl (some (.int 0)), σ5)
                        else
                          kf 23 [some (.ref 900), some (.ref 31), some (.ref 0), some (.ref 30), some (.int (v4 + 6)), none, none] [] σ5
                      else
                        some (.inl (some (.int 0)), σ5)) (fun _ _ => none)) (fun _ _ => none)
                else
                  none
              else
                none
            else
              none) (fun _ _ => none)
        else
          none
      else
        none
    else
      none := rfl
set_option maxRecDepth 100000 in
set_option maxHeartbeats 1000000 in
theorem e_law_2074 (Ls : Nat) (xs : Nat → Int32) (kf : en_K) (σ : en_S) (v4 : Int32) : en_uk bb_G bb_P bb_ML bb_HD Ls xs 12035 kf 89 2074 [some (.ref 900), some (.ref 31), some (.ref 0), some (.ref 30), some (.int v4), none, none] [] σ =
    if en_in (v4 + 1) Ls then
      if en_in (v4 + 2) Ls then
        if en_in (v4 + 3) Ls then
          en_cI (x_lw_years_0 σ (xs (v4 + 1).toNatClampNeg) (xs (v4 + 2).toNatClampNeg) (xs (v4 + 3).toNatClampNeg)) (fun r2 σ1 =>
            if en_in (v4 + 1) Ls then
              if en_in (v4 + 2) Ls then
                if en_in (v4 + 3) Ls then
                  en_cI (x_m_years_0 σ1 (xs (v4 + 1).toNatClampNeg) (xs (v4 + 2).toNatClampNeg) (xs (v4 + 3).toNatClampNeg)) (fun r4 σ3 =>
                    en_cI (x_m_thrown_0 σ3) (fun r6 σ5 =>
                      if r6 = r2 then
                        if r2 = 0 then
                          if lg_cmp (σ5.2 30 0) r4.toInt64 = 0 then
                            kf 23 [some (.ref 900), some (.ref 31), some (.ref 0), some (.ref 30), some (.int (v4 + 6)), none, none] [] σ5
                          else
                            some (.inl (some (.int 0)), σ5)
                        else
                          kf 23 [some (.ref 900), some (.ref 31), some (.ref 0), some (.ref 30), some (.int (v4 + 6)), none, none] [] σ5
                      else
                        some (.inl (some (.int 0)), σ5)) (fun _ _ => none)) (fun _ _ => none)
                else
                  none
              else
                none
            else
              none) (fun _ _ => none)
        else
          none
      else
        none
    else
      none := rfl
set_option maxRecDepth 100000 in
set_option maxHeartbeats 1000000 in
theorem e_law_2154 (Ls : Nat) (xs : Nat → Int32) (kf : en_K) (σ : en_S) (v4 : Int32) : en_uk bb_G bb_P bb_ML bb_HD Ls xs 12035 kf 89 2154 [some (.ref 900), some (.ref 31), some (.ref 0), some (.ref 30), some (.int v4), none, none] [] σ =
    if en_in (v4 + 1) Ls then
      en_cI (x_lw_idle_0 σ (xs (v4 + 1).toNatClampNeg)) (fun r2 σ1 =>
        if en_in (v4 + 1) Ls then
          en_cI (x_m_idle_0 σ1 (xs (v4 + 1).toNatClampNeg)) (fun r4 σ3 =>
            en_cI (x_m_thrown_0 σ3) (fun r6 σ5 =>
              if r6 = r2 then
                if r2 = 0 then
                  if lg_cmp (σ5.2 30 0) r4.toInt64 = 0 then
                    kf 23 [some (.ref 900), some (.ref 31), some (.ref 0), some (.ref 30), some (.int (v4 + 6)), none, none] [] σ5
                  else
                    some (.inl (some (.int 0)), σ5)
                else
                  kf 23 [some (.ref 900), some (.ref 31), some (.ref 0), some (.ref 30), some (.int (v4 + 6)), none, none] [] σ5
              else
                some (.inl (some (.int 0)), σ5)) (fun _ _ => none)) (fun _ _ => none)
        else
          none) (fun _ _ => none)
    else
      none := rfl
set_option maxRecDepth 100000 in
set_option maxHeartbeats 1000000 in
theorem e_law_2210 (Ls : Nat) (xs : Nat → Int32) (kf : en_K) (σ : en_S) (v4 : Int32) : en_uk bb_G bb_P bb_ML bb_HD Ls xs 12035 kf 89 2210 [some (.ref 900), some (.ref 31), some (.ref 0), some (.ref 30), some (.int v4), none, none] [] σ =
    if en_in (v4 + 1) Ls then
      en_cI (x_lw_nearest_0 σ (xs (v4 + 1).toNatClampNeg)) (fun r2 σ1 =>
        if en_in (v4 + 1) Ls then
          en_cI (x_m_nearest_0 σ1 (xs (v4 + 1).toNatClampNeg)) (fun r4 σ3 =>
            en_cI (x_m_thrown_0 σ3) (fun r6 σ5 =>
              if r6 = r2 then
                if r2 = 0 then
                  if lg_cmp (σ5.2 30 0) r4.toInt64 = 0 then
                    kf 23 [some (.ref 900), some (.ref 31), some (.ref 0), some (.ref 30), some (.int (v4 + 6)), none, none] [] σ5
                  else
                    some (.inl (some (.int 0)), σ5)
                else
                  kf 23 [some (.ref 900), some (.ref 31), some (.ref 0), some (.ref 30), some (.int (v4 + 6)), none, none] [] σ5
              else
                some (.inl (some (.int 0)), σ5)) (fun _ _ => none)) (fun _ _ => none)
        else
          none) (fun _ _ => none)
    else
      none := rfl
set_option maxRecDepth 100000 in
set_option maxHeartbeats 1000000 in
theorem e_law_2266 (Ls : Nat) (xs : Nat → Int32) (kf : en_K) (σ : en_S) (v4 : Int32) : en_uk bb_G bb_P bb_ML bb_HD Ls xs 12035 kf 89 2266 [some (.ref 900), some (.ref 31), some (.ref 0), some (.ref 30), some (.int v4), none, none] [] σ =
    if en_in (v4 + 1) Ls then
      if en_in (v4 + 2) Ls then
        en_cI (x_lw_ahead_0 σ (xs (v4 + 1).toNatClampNeg) (xs (v4 + 2).toNatClampNeg)) (fun r2 σ1 =>
          if en_in (v4 + 1) Ls then
            if en_in (v4 + 2) Ls then
              en_cI (x_m_ahead_0 σ1 (xs (v4 + 1).toNatClampNeg) (xs (v4 + 2).toNatClampNeg)) (fun r4 σ3 =>
                en_cI (x_m_thrown_0 σ3) (fun r6 σ5 =>
                  if r6 = r2 then
                    if r2 = 0 then
                      if lg_cmp (σ5.2 30 0) r4.toInt64 = 0 then
                        kf 23 [some (.ref 900), some (.ref 31), some (.ref 0), some (.ref 30), some (.int (v4 + 6)), none, none] [] σ5
                      else
                        some (.inl (some (.int 0)), σ5)
                    else
                      kf 23 [some (.ref 900), some (.ref 31), some (.ref 0), some (.ref 30), some (.int (v4 + 6)), none, none] [] σ5
                  else
                    some (.inl (some (.int 0)), σ5)) (fun _ _ => none)) (fun _ _ => none)
            else
              none
          else
            none) (fun _ _ => none)
      else
        none
    else
      none := rfl
