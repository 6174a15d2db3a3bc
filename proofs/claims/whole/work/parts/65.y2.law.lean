/-! written by a program: one turn of the law's loop -/
set_option maxRecDepth 100000 in
set_option maxHeartbeats 1000000 in
theorem e_law_583 (Ls : Nat) (xs : Nat → Int32) (kf : en_K) (σ : en_S) (v4 : Int32) : en_uk bb_G bb_P bb_ML bb_HD Ls xs 12035 kf 89 583 [some (.ref 900), some (.ref 31), some (.ref 0), some (.ref 30), some (.int v4), none, none] [] σ =
    if en_in (v4 + 1) Ls then
      if en_in (v4 + 2) Ls then
        en_cI (x_lw_hand_0 σ (xs (v4 + 1).toNatClampNeg) (xs (v4 + 2).toNatClampNeg)) (fun r2 σ1 =>
          if en_in (v4 + 1) Ls then
            if en_in (v4 + 2) Ls then
              en_cI (x_m_hand_0 σ1 (xs (v4 + 1).toNatClampNeg) (xs (v4 + 2).toNatClampNeg)) (fun r4 σ3 =>
                en_cI (x_m_thrown_0 σ3) (fun r6 σ5 =>
                  if r6 = r2 then
                    if r2 = 0 then
                      if lg_cmp (σ5.2 30 0) r4.toInt64 = 0 then
                        kf 23 [some (.ref 900), some (.ref 31), some (.ref 0), some (.ref 30), some (.int (v4 + 6)), none, none] [] σ5
                      else
                        some (.inl (some (.int 0)), σ5)
                    else
                      kf 23 [some (.ref 900), some (.ref 31), some (.ref 0), some (.ref 30), some (.int (v4 + 6)), none, none] [] σ5
                  else
                    some (.inl (some (.int 0)), σ5)) (fun _ _ => none)) (fun _ _ => none)
            else
              none
          else
            none) (fun _ _ => none)
      else
        none
    else
      none := rfl
set_option maxRecDepth 100000 in
set_option maxHeartbeats 1000000 in
theorem e_law_651 (Ls : Nat) (xs : Nat → Int32) (kf : en_K) (σ : en_S) (v4 : Int32) : en_uk bb_G bb_P bb_ML bb_HD Ls xs 12035 kf 89 651 [some (.ref 900), some (.ref 31), some (.ref 0), some (.ref 30), some (.int v4), none, none] [] σ =
    if en_in (v4 + 1) Ls then
      en_cI (x_lw_away_0 σ (xs (v4 + 1).toNatClampNeg)) (fun r2 σ1 =>
        if en_in (v4 + 1) Ls then
          en_cI (x_m_away_0 σ1 (xs (v4 + 1).toNatClampNeg)) (fun r4 σ3 =>
            en_cI (x_m_thrown_0 σ3) (fun r6 σ5 =>
              if r6 = r2 then
                if r2 = 0 then
                  if lg_cmp (σ5.2 30 0) r4.toInt64 = 0 then
                    kf 23 [some (.ref 900), some (.ref 31), some (.ref 0), some (.ref 30), some (.int (v4 + 6)), none, none] [] σ5
                  else
                    some (.inl (some (.int 0)), σ5)
                else
                  kf 23 [some (.ref 900), some (.ref 31), some (.ref 0), some (.ref 30), some (.int (v4 + 6)), none, none] [] σ5
              else
                some (.inl (some (.int 0)), σ5)) (fun _ _ => none)) (fun _ _ => none)
        else
          none) (fun _ _ => none)
    else
      none := rfl
set_option maxRecDepth 100000 in
set_option maxHeartbeats 1000000 in
theorem e_law_707 (Ls : Nat) (xs : Nat → Int32) (kf : en_K) (σ : en_S) (v4 : Int32) : en_uk bb_G bb_P bb_ML bb_HD Ls xs 12035 kf 89 707 [some (.ref 900), some (.ref 31), some (.ref 0), some (.ref 30), some (.int v4), none, none] [] σ =
    if en_in (v4 + 1) Ls then
      if en_in (v4 + 2) Ls then
        en_cI (x_lw_change_0 σ (xs (v4 + 1).toNatClampNeg) (xs (v4 + 2).toNatClampNeg)) (fun r2 σ1 =>
          if en_in (v4 + 1) Ls then
            if en_in (v4 + 2) Ls then
              en_cI (x_m_change_0 σ1 (xs (v4 + 1).toNatClampNeg) (xs (v4 + 2).toNatClampNeg)) (fun r4 σ3 =>
                en_cI (x_m_thrown_0 σ3) (fun r6 σ5 =>
                  if r6 = r2 then
                    if r2 = 0 then
                      if r4 = 0 then
                        if lg_cmp (σ5.2 30 0) 0 = 0 then
                          kf 23 [some (.ref 900), some (.ref 31), some (.ref 0), some (.ref 30), some (.int (v4 + 6)), none, none] [] σ5
                        else
                          some (.inl (some (.int 0)), σ5)
                      else
                        if lg_cmp (σ5.2 30 0) 1 = 0 then
                          kf 23 [some (.ref 900), some (.ref 31), some (.ref 0), some (.ref 30), some (.int (v4 + 6)), none, none] [] σ5
                        else
                          some (.inl (some (.int 0)), σ5)
                    else
                      kf 23 [some (.ref 900), some (.ref 31), some (.ref 0), some (.ref 30), some (.int (v4 + 6)), none, none] [] σ5
                  else
                    some (.inl (some (.int 0)), σ5)) (fun _ _ => none)) (fun _ _ => none)
            else
              none
          else
            none) (fun _ _ => none)
      else
        none
    else
      none := rfl
set_option maxRecDepth 100000 in
set_option maxHeartbeats 1000000 in
theorem e_law_782 (Ls : Nat) (xs : Nat → Int32) (kf : en_K) (σ : en_S) (v4 : Int32) : en_uk bb_G bb_P bb_ML bb_HD Ls xs 12035 kf 89 782 [some (.ref 900), some (.ref 31), some (.ref 0), some (.ref 30), some (.int v4), none, none] [] σ =
    if en_in (v4 + 1) Ls then
      if en_in (v4 + 2) Ls then
        en_cI (x_lw_slander_0 σ (xs (v4 + 1).toNatClampNeg) (xs (v4 + 2).toNatClampNeg)) (fun r2 σ1 =>
          if en_in (v4 + 1) Ls then
            if en_in (v4 + 2) Ls then
              en_cI (x_m_slander_0 σ1 (xs (v4 + 1).toNatClampNeg) (xs (v4 + 2).toNatClampNeg)) (fun r4 σ3 =>
                en_cI (x_m_thrown_0 σ3) (fun r6 σ5 =>
                  if r6 = r2 then
                    if r2 = 0 then
                      if lg_cmp (σ5.2 30 0) r4.toInt64 = 0 then
                        kf 23 [some (.ref 900), some (.ref 31), some (.ref 0), some (.ref 30), some (.int (v4 + 6)), none, none] [] σ5
                      else
                        some (.inl (some (.int 0)), σ5)
                    else
                      kf 23 [some (.ref 900), some (.ref 31), some (.ref 0), some (.ref 30), some (.int (v4 + 6)), none, none] [] σ5
                  else
                    some (.inl (some (.int 0)), σ5)) (fun _ _ => none)) (fun _ _ => none)
            else
              none
          else
            none) (fun _ _ => none)
      else
        none
    else
      none := rfl
set_option maxRecDepth 100000 in
set_option maxHeartbeats 1000000 in
theorem e_law_850 (Ls : Nat) (xs : Nat → Int32) (kf : en_K) (σ : en_S) (v4 : Int32) : en_uk bb_G bb_P bb_ML bb_HD Ls xs 12035 kf 89 850 [some (.ref 900), some (.ref 31), some (.ref 0), some (.ref 30), some (.int v4), none, none] [] σ =
    if en_in (v4 + 1) Ls then
      if en_in (v4 + 2) Ls then
        en_cI (x_lw_praise_0 σ (xs (v4 + 1).toNatClampNeg) (xs (v4 + 2).toNatClampNeg)) (fun r2 σ1 =>
          if en_in (v4 + 1) Ls then
            if en_in (v4 + 2) Ls then
              en_cI (x_m_praise_0 σ1 (xs (v4 + 1).toNatClampNeg) (xs (v4 + 2).toNatClampNeg)) (fun r4 σ3 =>
                en_cI (x_m_thrown_0 σ3) (fun r6 σ5 =>
                  if r6 = r2 then
                    if r2 = 0 then
                      if lg_cmp (σ5.2 30 0) r4.toInt64 = 0 then
                        kf 23 [some (.ref 900), some (.ref 31), some (.ref 0), some (.ref 30), some (.int (v4 + 6)), none, none] [] σ5
                      else
                        some (.inl (some (.int 0)), σ5)
                    else
                      kf 23 [some (.ref 900), some (.ref 31), some (.ref 0), some (.ref 30), some (.int (v4 + 6)), none, none] [] σ5
                  else
                    some (.inl (some (.int 0)), σ5)) (fun _ _ => none)) (fun _ _ => none)
            else
              none
          else
            none) (fun _ _ => none)
      else
        none
    else
      none := rfl
set_option maxRecDepth 100000 in
set_option maxHeartbeats 1000000 in
theorem e_law_918 (Ls : Nat) (xs : Nat → Int32) (kf : en_K) (σ : en_S) (v4 : Int32) : en_uk bb_G bb_P bb_ML bb_HD Ls xs 12035 kf 89 918 [some (.ref 900), some (.ref 31), some (.ref 0), some (.ref 30), some (.int v4), none, none] [] σ =
    en_cI (x_b_undo_0 σ) (fun r2 σ1 =>
      en_cI (x_m_undo_0 σ1) (fun r4 σ3 =>
        if r2 = r4 then
          kf 23 [some (.ref 900), some (.ref 31), some (.ref 0), some (.ref 30), some (.int (v4 + 6)), none, none] [] σ3
        else
          some (.inl (some (.int 0)), σ3)) (fun _ _ => none)) (fun _ _ => none) := rfl
set_option maxRecDepth 100000 in
set_option maxHeartbeats 1000000 in
theorem e_law_931 (Ls : Nat) (xs : Nat → Int32) (kf : en_K) (σ : en_S) (v4 : Int32) : en_uk bb_G bb_P bb_ML bb_HD Ls xs 12035 kf 89 931 [some (.ref 900), some (.ref 31), some (.ref 0), some (.ref 30), some (.int v4), none, none] [] σ =
    if en_in (v4 + 1) Ls then
      if en_in (v4 + 2) Ls then
        if en_in (v4 + 3) Ls then
          en_cI (x_lw_then_0 σ (xs (v4 + 1).toNatClampNeg) (xs (v4 + 2).toNatClampNeg) (xs (v4 + 3).toNatClampNeg)) (fun r2 σ1 =>
            if en_in (v4 + 1) Ls then
              if en_in (v4 + 2) Ls then
                if en_in (v4 + 3) Ls then
                  en_cI (x_m_then_0 σ1 (xs (v4 + 1).toNatClampNeg) (xs (v4 + 2).toNatClampNeg) (xs (v4 + 3).toNatClampNeg)) (fun r4 σ3 =>
                    en_cI (x_m_thrown_0 σ3) (fun r6 σ5 =>
                      if r6 = r2 then
                        if r2 = 0 then
                          if lg_cmp (σ5.2 30 0) r4.toInt64 = 0 then
                            kf 23 [some (.ref 900), some (.ref 31), some (.ref 0), some (.ref 30), some (.int (v4 + 6)), none, none] [] σ5
                          else
                            some (.inl (some (.int 0)), σ5)
                        else
                          kf 23 [some (.ref 900), some (.ref 31), some (.ref 0), some (.ref 30), some (.int (v4 + 6)), none, none] [] σ5
                      else
                        some (.inl (some (.int 0)), σ5)) (fun _ _ => none)) (fun _ _ => none)
                else
                  none
              else
                none
            else
              none) (fun _ _ => none)
        else
          none
      else
        none
    else
      none := rfl
