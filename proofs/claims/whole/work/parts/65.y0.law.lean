/-! written by a program: one turn of the law's loop -/
set_option maxRecDepth 100000 in
set_option maxHeartbeats 1000000 in
theorem e_law_25 (Ls : Nat) (xs : Nat → Int32) (kf : en_K) (σ : en_S) (v4 : Int32) : en_uk bb_G bb_P bb_ML bb_HD Ls xs 12035 kf 100 25 [some (.ref 900), some (.ref 31), some (.ref 0), some (.ref 30), some (.int v4), none, none] [.int v4] σ =
    if (Int32.ofNat Ls) - 6 < v4 then
      some (.inl (some (.int 1)), σ)
    else
      if en_in v4 Ls then
        if (xs v4.toNatClampNeg) &&& 63 = 0 then
          en_uk bb_G bb_P bb_ML bb_HD Ls xs 12035 kf 89 224 [some (.ref 900), some (.ref 31), some (.ref 0), some (.ref 30), some (.int v4), none, none] [] σ
        else
          if (xs v4.toNatClampNeg) &&& 63 = 1 then
            en_uk bb_G bb_P bb_ML bb_HD Ls xs 12035 kf 89 297 [some (.ref 900), some (.ref 31), some (.ref 0), some (.ref 30), some (.int v4), none, none] [] σ
          else
            if (xs v4.toNatClampNeg) &&& 63 = 2 then
              en_uk bb_G bb_P bb_ML bb_HD Ls xs 12035 kf 89 353 [some (.ref 900), some (.ref 31), some (.ref 0), some (.ref 30), some (.int v4), none, none] [] σ
            else
              if (xs v4.toNatClampNeg) &&& 63 = 3 then
                en_uk bb_G bb_P bb_ML bb_HD Ls xs 12035 kf 89 366 [some (.ref 900), some (.ref 31), some (.ref 0), some (.ref 30), some (.int v4), none, none] [] σ
              else
                if (xs v4.toNatClampNeg) &&& 63 = 4 then
                  en_uk bb_G bb_P bb_ML bb_HD Ls xs 12035 kf 89 422 [some (.ref 900), some (.ref 31), some (.ref 0), some (.ref 30), some (.int v4), none, none] [] σ
                else
                  if (xs v4.toNatClampNeg) &&& 63 = 5 then
                    en_uk bb_G bb_P bb_ML bb_HD Ls xs 12035 kf 89 490 [some (.ref 900), some (.ref 31), some (.ref 0), some (.ref 30), some (.int v4), none, none] [] σ
                  else
                    if (xs v4.toNatClampNeg) &&& 63 = 6 then
                      en_uk bb_G bb_P bb_ML bb_HD Ls xs 12035 kf 89 558 [some (.ref 900), some (.ref 31), some (.ref 0), some (.ref 30), some (.int v4), none, none] [] σ
                    else
                      if (xs v4.toNatClampNeg) &&& 63 = 7 then
                        en_uk bb_G bb_P bb_ML bb_HD Ls xs 12035 kf 89 583 [some (.ref 900), some (.ref 31), some (.ref 0), some (.ref 30), some (.int v4), none, none] [] σ
                      else
                        if (xs v4.toNatClampNeg) &&& 63 = 8 then
                          en_uk bb_G bb_P bb_ML bb_HD Ls xs 12035 kf 89 651 [some (.ref 900), some (.ref 31), some (.ref 0), some (.ref 30), some (.int v4), none, none] [] σ
                        else
                          if (xs v4.toNatClampNeg) &&& 63 = 9 then
                            en_uk bb_G bb_P bb_ML bb_HD Ls xs 12035 kf 89 707 [some (.ref 900), some (.ref 31), some (.ref 0), some (.ref 30), some (.int v4), none, none] [] σ
                          else
                            if (xs v4.toNatClampNeg) &&& 63 = 10 then
                              en_uk bb_G bb_P bb_ML bb_HD Ls xs 12035 kf 89 782 [some (.ref 900), some (.ref 31), some (.ref 0), some (.ref 30), some (.int v4), none, none] [] σ
                            else
                              if (xs v4.toNatClampNeg) &&& 63 = 11 then
                                en_uk bb_G bb_P bb_ML bb_HD Ls xs 12035 kf 89 850 [some (.ref 900), some (.ref 31), some (.ref 0), some (.ref 30), some (.int v4), none, none] [] σ
                              else
                                if (xs v4.toNatClampNeg) &&& 63 = 12 then
                                  en_uk bb_G bb_P bb_ML bb_HD Ls xs 12035 kf 89 918 [some (.ref 900), some (.ref 31), some (.ref 0), some (.ref 30), some (.int v4), none, none] [] σ
                                else
                                  if (xs v4.toNatClampNeg) &&& 63 = 13 then
                                    en_uk bb_G bb_P bb_ML bb_HD Ls xs 12035 kf 89 931 [some (.ref 900), some (.ref 31), some (.ref 0), some (.ref 30), some (.int v4), none, none] [] σ
                                  else
                                    if (xs v4.toNatClampNeg) &&& 63 = 14 then
                                      en_uk bb_G bb_P bb_ML bb_HD Ls xs 12035 kf 89 1011 [some (.ref 900), some (.ref 31), some (.ref 0), some (.ref 30), some (.int v4), none, none] [] σ
                                    else
                                      if (xs v4.toNatClampNeg) &&& 63 = 15 then
                                        en_uk bb_G bb_P bb_ML bb_HD Ls xs 12035 kf 89 1091 [some (.ref 900), some (.ref 31), some (.ref 0), some (.ref 30), some (.int v4), none, none] [] σ
                                      else
                                        if (xs v4.toNatClampNeg) &&& 63 = 16 then
                                          en_uk bb_G bb_P bb_ML bb_HD Ls xs 12035 kf 89 1147 [some (.ref 900), some (.ref 31), some (.ref 0), some (.ref 30), some (.int v4), none, none] [] σ
                                        else
                                          if (xs v4.toNatClampNeg) &&& 63 = 17 then
                                            en_uk bb_G bb_P bb_ML bb_HD Ls xs 12035 kf 89 1203 [some (.ref 900), some (.ref 31), some (.ref 0), some (.ref 30), some (.int v4), none, none] [] σ
                                          else
                                            if (xs v4.toNatClampNeg) &&& 63 = 18 then
                                              en_uk bb_G bb_P bb_ML bb_HD Ls xs 12035 kf 89 1271 [some (.ref 900), some (.ref 31), some (.ref 0), some (.ref 30), some (.int v4), none, none] [] σ
                                            else
                                              if (xs v4.toNatClampNeg) &&& 63 = 19 then
                                                en_uk bb_G bb_P bb_ML bb_HD Ls xs 12035 kf 89 1339 [some (.ref 900), some (.ref 31), some (.ref 0), some (.ref 30), some (.int v4), none, none] [] σ
                                              else
                                                if (xs v4.toNatClampNeg) &&& 63 = 20 then
                                                  en_uk bb_G bb_P bb_ML bb_HD Ls xs 12035 kf 89 1407 [some (.ref 900), some (.ref 31), some (.ref 0), some (.ref 30), some (.int v4), none, none] [] σ
                                                else
                                                  if (xs v4.toNatClampNeg) &&& 63 = 21 then
                                                    en_uk bb_G bb_P bb_ML bb_HD Ls xs 12035 kf 89 1463 [some (.ref 900), some (.ref 31), some (.ref 0), some (.ref 30), some (.int v4), none, none] [] σ
                                                  else
                                                    if (xs v4.toNatClampNeg) &&& 63 = 22 then
                                                      en_uk bb_G bb_P bb_ML bb_HD Ls xs 12035 kf 89 1519 [some (.ref 900), some (.ref 31), some (.ref 0), some (.ref 30), some (.int v4), none, none] [] σ
                                                    else
                                                      if (xs v4.toNatClampNeg) &&& 63 = 23 then
                                                        en_uk bb_G bb_P bb_ML bb_HD Ls xs 12035 kf 89 1575 [some (.ref 900), some (.ref 31), some (.ref 0), some (.ref 30), some (.int v4), none, none] [] σ
                                                      else
                                                        if (xs v4.toNatClampNeg) &&& 63 = 24 then
                                                          en_uk bb_G bb_P bb_ML bb_HD Ls xs 12035 kf 89 1631 [some (.ref 900), some (.ref 31), some (.ref 0), some (.ref 30), some (.int v4), none, none] [] σ
                                                        else
                                                          if (xs v4.toNatClampNeg) &&& 63 = 25 then
                                                            en_uk bb_G bb_P bb_ML bb_HD Ls xs 12035 kf 89 1711 [some (.ref 900), some (.ref 31), some (.ref 0), some (.ref 30), some (.int v4), none, none] [] σ
                                                          else
                                                            if (xs v4.toNatClampNeg) &&& 63 = 26 then
                                                              en_uk bb_G bb_P bb_ML bb_HD Ls xs 12035 kf 89 1791 [some (.ref 900), some (.ref 31), some (.ref 0), some (.ref 30), some (.int v4), none, none] [] σ
                                                            else
                                                              if (xs v4.toNatClampNeg) &&& 63 = 27 then
                                                                en_uk bb_G bb_P bb_ML bb_HD Ls xs 12035 kf 89 1802 [some (.ref 900), some (.ref 31), some (.ref 0), some (.ref 30), some (.int v4), none, none] [] σ
                                                              else
                                                                if (xs v4.toNatClampNeg) &&& 63 = 28 then
                                                                  en_uk bb_G bb_P bb_ML bb_HD Ls xs 12035 kf 89 1858 [some (.ref 900), some (.ref 31), some (.ref 0), some (.ref 30), some (.int v4), none, none] [] σ
                                                                else
                                                                  if (xs v4.toNatClampNeg) &&& 63 = 29 then
                                                                    en_uk bb_G bb_P bb_ML bb_HD Ls xs 12035 kf 89 1914 [some (.ref 900), some (.ref 31), some (.ref 0), some (.ref 30), some (.int v4), none, none] [] σ
                                                                  else
                                                                    if (xs v4.toNatClampNeg) &&& 63 = 30 then
                                                                      en_uk bb_G bb_P bb_ML bb_HD Ls xs 12035 kf 89 1994 [some (.ref 900), some (.ref 31), some (.ref 0), some (.ref 30), some (.int v4), none, none] [] σ
                                                                    else
                                                                      if (xs v4.toNatClampNeg) &&& 63 = 31 then
                                                                        en_uk bb_G bb_P bb_ML bb_HD Ls xs 12035 kf 89 2074 [some (.ref 900), some (.ref 31), some (.ref 0), some (.ref 30), some (.int v4), none, none] [] σ
                                                                      else
                                                                        if (xs v4.toNatClampNeg) &&& 63 = 32 then
                                                                          en_uk bb_G bb_P bb_ML bb_HD Ls xs 12035 kf 89 2154 [some (.ref 900), some (.ref 31), some (.ref 0), some (.ref 30), some (.int v4), none, none] [] σ
                                                                        else
                                                                          if (xs v4.toNatClampNeg) &&& 63 = 33 then
                                                                            en_uk bb_G bb_P bb_ML bb_HD Ls xs 12035 kf 89 2210 [some (.ref 900), some (.ref 31), some (.ref 0), some (.ref 30), some (.int v4), none, none] [] σ
                                                                          else
                                                                            if (xs v4.toNatClampNeg) &&& 63 = 34 then
                                                                              en_uk bb_G bb_P bb_ML bb_HD Ls xs 12035 kf 89 2266 [some (.ref 900), some (.ref 31), some (.ref 0), some (.ref 30), some (.int v4), none, none] [] σ
                                                                            else
                                                                              if (xs v4.toNatClampNeg) &&& 63 = 35 then
                                                                                en_uk bb_G bb_P bb_ML bb_HD Ls xs 12035 kf 89 2334 [some (.ref 900), some (.ref 31), some (.ref 0), some (.ref 30), some (.int v4), none, none] [] σ
                                                                              else
                                                                                if (xs v4.toNatClampNeg) &&& 63 = 36 then
                                                                                  en_uk bb_G bb_P bb_ML bb_HD Ls xs 12035 kf 89 2390 [some (.ref 900), some (.ref 31), some (.ref 0), some (.ref 30), some (.int v4), none, none] [] σ
                                                                                else
                                                                                  if (xs v4.toNatClampNeg) &&& 63 = 37 then
                                                                                    en_uk bb_G bb_P bb_ML bb_HD Ls xs 12035 kf 89 2446 [some (.ref 900), some (.ref 31), some (.ref 0), some (.ref 30), some (.int v4), none, none] [] σ
                                                                                  else
                                                                                    if (xs v4.toNatClampNeg) &&& 63 = 38 then
                                                                                      en_uk bb_G bb_P bb_ML bb_HD Ls xs 12035 kf 89 2502 [some (.ref 900), some (.ref 31), some (.ref 0), some (.ref 30), some (.int v4), none, none] [] σ
                                                                                    else
                                                                                      if (xs v4.toNatClampNeg) &&& 63 = 39 then
                                                                                        en_uk bb_G bb_P bb_ML bb_HD Ls xs 12035 kf 89 2558 [some (.ref 900), some (.ref 31), some (.ref 0), some (.ref 30), some (.int v4), none, none] [] σ
                                                                                      else
                                                                                        if (xs v4.toNatClampNeg) &&& 63 = 40 then
                                                                                          en_uk bb_G bb_P bb_ML bb_HD Ls xs 12035 kf 89 2614 [some (.ref 900), some (.ref 31), some (.ref 0), some (.ref 30), some (.int v4), none, none] [] σ
                                                                                        else
                                                                                          if (xs v4.toNatClampNeg) &&& 63 = 41 then
                                                                                            en_uk bb_G bb_P bb_ML bb_HD Ls xs 12035 kf 89 2625 [some (.ref 900), some (.ref 31), some (.ref 0), some (.ref 30), some (.int v4), none, none] [] σ
                                                                                          else
                                                                                            en_uk bb_G bb_P bb_ML bb_HD Ls xs 12035 kf 89 2638 [some (.ref 900), some (.ref 31), some (.ref 0), some (.ref 30), some (.int v4), none, none] [] σ
      else
        none := rfl
