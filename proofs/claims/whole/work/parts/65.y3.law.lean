/-! written by a program: one turn of the law's loop -/
set_option maxRecDepth 100000 in
set_option maxHeartbeats 1000000 in
theorem e_law_1011 (Ls : Nat) (xs : Nat → Int32) (kf : en_K) (σ : en_S) (v4 : Int32) : en_uk bb_G bb_P bb_ML bb_HD Ls xs 12035 kf 89 1011 [some (.ref 900), some (.ref 31), some (.ref 0), some (.ref 30), some (.int v4), none, none] [] σ =
    if en_in (v4 + 1) Ls then
      if en_in (v4 + 2) Ls then
        if en_in (v4 + 3) Ls then
          en_cI (x_lw_who_0 σ (xs (v4 + 1).toNatClampNeg) (xs (v4 + 2).toNatClampNeg) (xs (v4 + 3).toNatClampNeg)) (fun r2 σ1 =>
            if en_in (v4 + 1) Ls then
              if en_in (v4 + 2) Ls then
                if en_in (v4 + 3) Ls then
                  en_cI (x_m_who_0 σ1 (xs (v4 + 1).toNatClampNeg) (xs (v4 + 2).toNatClampNeg) (xs (v4 + 3).toNatClampNeg)) (fun r4 σ3 =>
                    en_cI (x_m_thrown_0 σ3) (fun r6 σ5 =>
                      if r6 = r2 then
                        if r2 = 0 then
                          if lg_cmp (σ5.2 30 0) r4.toInt64 = 0 then
                            kf 23 [some (.ref 900), some (.ref 31), some (.ref 0), some (.ref 30), some (.int (v4 + 6)), none, none] [] σ5
                          else
                            some (.inl (some (.int 0)), σ5)
                        else
                          kf 23 [some (.ref 900), some (.ref 31), some (.ref 0), some (.ref 30), some (.int (v4 + 6)), none, none] [] σ5
                      else
                        some (.inl (some (.int 0)), σ5)) (fun _ _ => none)) (fun _ _ => none)
                else
                  none
              else
                none
            else
              none) (fun _ _ => none)
        else
          none
      else
        none
    else
      none := rfl
set_option maxRecDepth 100000 in
set_option maxHeartbeats 1000000 in
theorem e_law_1091 (Ls : Nat) (xs : Nat → Int32) (kf : en_K) (σ : en_S) (v4 : Int32) : en_uk bb_G bb_P bb_ML bb_HD Ls xs 12035 kf 89 1091 [some (.ref 900), some (.ref 31), some (.ref 0), some (.ref 30), some (.int v4), none, none] [] σ =
    if en_in (v4 + 1) Ls then
      en_cI (x_lw_fallen_0 σ (xs (v4 + 1).toNatClampNeg)) (fun r2 σ1 =>
        if en_in (v4 + 1) Ls then
          en_cI (x_m_fallen_0 σ1 (xs (v4 + 1).toNatClampNeg)) (fun r4 σ3 =>
            en_cI (x_m_thrown_0 σ3) (fun r6 σ5 =>
              if r6 = r2 then
                if r2 = 0 then
                  if lg_cmp (σ5.2 30 0) r4.toInt64 = 0 then
                    kf 23 [some (.ref 900), some (.ref 31), some (.ref 0), some (.ref 30), some (.int (v4 + 6)), none, none] [] σ5
                  else
                    some (.inl (some (.int 0)), σ5)
                else
                  kf 23 [some (.ref 900), some (.ref 31), some (.ref 0), some (.ref 30), some (.int (v4 + 6)), none, none] [] σ5
              else
                some (.inl (some (.int 0)), σ5)) (fun _ _ => none)) (fun _ _ => none)
        else
          none) (fun _ _ => none)
    else
      none := rfl
set_option maxRecDepth 100000 in
set_option maxHeartbeats 1000000 in
theorem e_law_1147 (Ls : Nat) (xs : Nat → Int32) (kf : en_K) (σ : en_S) (v4 : Int32) : en_uk bb_G bb_P bb_ML bb_HD Ls xs 12035 kf 89 1147 [some (.ref 900), some (.ref 31), some (.ref 0), some (.ref 30), some (.int v4), none, none] [] σ =
    if en_in (v4 + 1) Ls then
      en_cI (x_lw_rests_0 σ (xs (v4 + 1).toNatClampNeg)) (fun r2 σ1 =>
        if en_in (v4 + 1) Ls then
          en_cI (x_m_rests_0 σ1 (xs (v4 + 1).toNatClampNeg)) (fun r4 σ3 =>
            en_cI (x_m_thrown_0 σ3) (fun r6 σ5 =>
              if r6 = r2 then
                if r2 = 0 then
                  if lg_cmp (σ5.2 30 0) r4.toInt64 = 0 then
                    kf 23 [some (.ref 900), some (.ref 31), some (.ref 0), some (.ref 30), some (.int (v4 + 6)), none, none] [] σ5
                  else
                    some (.inl (some (.int 0)), σ5)
                else
                  kf 23 [some (.ref 900), some (.ref 31), some (.ref 0), some (.ref 30), some (.int (v4 + 6)), none, none] [] σ5
              else
                some (.inl (some (.int 0)), σ5)) (fun _ _ => none)) (fun _ _ => none)
        else
          none) (fun _ _ => none)
    else
      none := rfl
set_option maxRecDepth 100000 in
set_option maxHeartbeats 1000000 in
theorem e_law_1203 (Ls : Nat) (xs : Nat → Int32) (kf : en_K) (σ : en_S) (v4 : Int32) : en_uk bb_G bb_P bb_ML bb_HD Ls xs 12035 kf 89 1203 [some (.ref 900), some (.ref 31), some (.ref 0), some (.ref 30), some (.int v4), none, none] [] σ =
    if en_in (v4 + 1) Ls then
      if en_in (v4 + 2) Ls then
        en_cI (x_lw_meet_0 σ (xs (v4 + 1).toNatClampNeg) (xs (v4 + 2).toNatClampNeg)) (fun r2 σ1 =>
          if en_in (v4 + 1) Ls then
            if en_in (v4 + 2) Ls then
              en_cI (x_m_meet_0 σ1 (xs (v4 + 1).toNatClampNeg) (xs (v4 + 2).toNatClampNeg)) (fun r4 σ3 =>
                en_cI (x_m_thrown_0 σ3) (fun r6 σ5 =>
                  if r6 = r2 then
                    if r2 = 0 then
                      if lg_cmp (σ5.2 30 0) r4.toInt64 = 0 then
                        kf 23 [some (.ref 900), some (.ref 31), some (.ref 0), some (.ref 30), some (.int (v4 + 6)), none, none] [] σ5
                      else
                        some (.inl (some (.int 0)), σ5)
                    else
                      kf 23 [some (.ref 900), some (.ref 31), some (.ref 0), some (.ref 30), some (.int (v4 + 6)), none, none] [] σ5
                  else
                    some (.inl (some (.int 0)), σ5)) (fun _ _ => none)) (fun _ _ => none)
            else
              none
          else
            none) (fun _ _ => none)
      else
        none
    else
      none := rfl
set_option maxRecDepth 100000 in
set_option maxHeartbeats 1000000 in
theorem e_law_1271 (Ls : Nat) (xs : Nat → Int32) (kf : en_K) (σ : en_S) (v4 : Int32) : en_uk bb_G bb_P bb_ML bb_HD Ls xs 12035 kf 89 1271 [some (.ref 900), some (.ref 31), some (.ref 0), some (.ref 30), some (.int v4), none, none] [] σ =
    if en_in (v4 + 1) Ls then
      if en_in (v4 + 2) Ls then
        en_cI (x_lw_later_0 σ (xs (v4 + 1).toNatClampNeg) (xs (v4 + 2).toNatClampNeg)) (fun r2 σ1 =>
          if en_in (v4 + 1) Ls then
            if en_in (v4 + 2) Ls then
              en_cI (x_m_later_0 σ1 (xs (v4 + 1).toNatClampNeg) (xs (v4 + 2).toNatClampNeg)) (fun r4 σ3 =>
                en_cI (x_m_thrown_0 σ3) (fun r6 σ5 =>
                  if r6 = r2 then
                    if r2 = 0 then
                      if lg_cmp (σ5.2 30 0) r4.toInt64 = 0 then
                        kf 23 [some (.ref 900), some (.ref 31), some (.ref 0), some (.ref 30), some (.int (v4 + 6)), none, none] [] σ5
                      else
                        some (.inl (some (.int 0)), σ5)
                    else
                      kf 23 [some (.ref 900), some (.ref 31), some (.ref 0), some (.ref 30), some (.int (v4 + 6)), none, none] [] σ5
                  else
                    some (.inl (some (.int 0)), σ5)) (fun _ _ => none)) (fun _ _ => none)
            else
              none
          else
            none) (fun _ _ => none)
      else
        none
    else
      none := rfl
set_option maxRecDepth 100000 in
set_option maxHeartbeats 1000000 in
theorem e_law_1339 (Ls : Nat) (xs : Nat → Int32) (kf : en_K) (σ : en_S) (v4 : Int32) : en_uk bb_G bb_P bb_ML bb_HD Ls xs 12035 kf 89 1339 [some (.ref 900), some (.ref 31), some (.ref 0), some (.ref 30), some (.int v4), none, none] [] σ =
    if en_in (v4 + 1) Ls then
      if en_in (v4 + 2) Ls then
        en_cI (x_lw_calls_0 σ (xs (v4 + 1).toNatClampNeg) (xs (v4 + 2).toNatClampNeg)) (fun r2 σ1 =>
          if en_in (v4 + 1) Ls then
            if en_in (v4 + 2) Ls then
              en_cI (x_m_calls_0 σ1 (xs (v4 + 1).toNatClampNeg) (xs (v4 + 2).toNatClampNeg)) (fun r4 σ3 =>
                en_cI (x_m_thrown_0 σ3) (fun r6 σ5 =>
                  if r6 = r2 then
                    if r2 = 0 then
                      if lg_cmp (σ5.2 30 0) r4.toInt64 = 0 then
                        kf 23 [some (.ref 900), some (.ref 31), some (.ref 0), some (.ref 30), some (.int (v4 + 6)), none, none] [] σ5
                      else
                        some (.inl (some (.int 0)), σ5)
                    else
                      kf 23 [some (.ref 900), some (.ref 31), some (.ref 0), some (.ref 30), some (.int (v4 + 6)), none, none] [] σ5
                  else
                    some (.inl (some (.int 0)), σ5)) (fun _ _ => none)) (fun _ _ => none)
            else
              none
          else
            none) (fun _ _ => none)
      else
        none
    else
      none := rfl
set_option maxRecDepth 100000 in
set_option maxHeartbeats 1000000 in
theorem e_law_1407 (Ls : Nat) (xs : Nat → Int32) (kf : en_K) (σ : en_S) (v4 : Int32) : en_uk bb_G bb_P bb_ML bb_HD Ls xs 12035 kf 89 1407 [some (.ref 900), some (.ref 31), some (.ref 0), some (.ref 30), some (.int v4), none, none] [] σ =
    if en_in (v4 + 1) Ls then
      en_cI (x_lw_toBear_0 σ (xs (v4 + 1).toNatClampNeg)) (fun r2 σ1 =>
        if en_in (v4 + 1) Ls then
          en_cI (x_m_toBear_0 σ1 (xs (v4 + 1).toNatClampNeg)) (fun r4 σ3 =>
            en_cI (x_m_thrown_0 σ3) (fun r6 σ5 =>
              if r6 = r2 then
                if r2 = 0 then
                  if lg_cmp (σ5.2 30 0) r4.toInt64 = 0 then
                    kf 23 [some (.ref 900), some (.ref 31), some (.ref 0), some (.ref 30), some (.int (v4 + 6)), none, none] [] σ5
                  else
                    some (.inl (some (.int 0)), σ5)
                else
                  kf 23 [some (.ref 900), some (.ref 31), some (.ref 0), some (.ref 30), some (.int (v4 + 6)), none, none] [] σ5
              else
                some (.inl (some (.int 0)), σ5)) (fun _ _ => none)) (fun _ _ => none)
        else
          none) (fun _ _ => none)
    else
      none := rfl
