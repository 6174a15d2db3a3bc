/-! written by a program: one turn of the law's loop -/
set_option maxRecDepth 100000 in
theorem e_law_224 (Ls : Nat) (xs : Nat → Int32) (kf : en_K) (σ : en_S) (v4 : Int32) : en_uk bb_G bb_P bb_ML bb_HD Ls xs 12035 kf 89 224 [some (.ref 900), some (.ref 31), some (.ref 0), some (.ref 30), some (.int v4), none, none] [] σ =
    if en_in (v4 + 1) Ls then
      if en_in (v4 + 2) Ls then
        if en_in (v4 + 3) Ls then
          if en_in (v4 + 4) Ls then
            if en_in (v4 + 5) Ls then
              en_cI (x_b_feed_0 σ (xs (v4 + 1).toNatClampNeg) (xs (v4 + 2).toNatClampNeg) (xs (v4 + 3).toNatClampNeg) (xs (v4 + 4).toNatClampNeg) (xs (v4 + 5).toNatClampNeg)) (fun r2 σ1 =>
                if en_in (v4 + 1) Ls then
                  if en_in (v4 + 2) Ls then
                    if en_in (v4 + 3) Ls then
                      if en_in (v4 + 4) Ls then
                        if en_in (v4 + 5) Ls then
                          en_cI (x_m_feed_0 σ1 (xs (v4 + 1).toNatClampNeg) (xs (v4 + 2).toNatClampNeg) (xs (v4 + 3).toNatClampNeg) (xs (v4 + 4).toNatClampNeg) (xs (v4 + 5).toNatClampNeg)) (fun r4 σ3 =>
                            if r2 = r4 then
                              kf 23 [some (.ref 900), some (.ref 31), some (.ref 0), some (.ref 30), some (.int (v4 + 6)), none, none] [] σ3
                            else
                              some (.inl (some (.int 0)), σ3)) (fun _ _ => none)
                        else
                          none
                      else
                        none
                    else
                      none
                  else
                    none
                else
                  none) (fun _ _ => none)
            else
              none
          else
            none
        else
          none
      else
        none
    else
      none := by
  refine (uk_al (n := 88) (pc := 224) (gt_0 12 rfl) rfl).trans ?_
  refine (uk_al (n := 87) (pc := 225) (gt_0 13 rfl) rfl).trans ?_
  refine (uk_il (n := 86) (pc := 226) (gt_0 14 rfl) rfl).trans ?_
  refine (uk_ic (v := 1) (n := 85) (pc := 228) (gt_0 15 rfl) rfl).trans ?_
  refine (uk_ia (n := 84) (pc := 229) (gt_0 16 rfl)).trans ?_
  refine (uk_ix (n := 83) (pc := 230) (gt_0 17 rfl)).trans (uk_if ?_)
  refine (uk_al (n := 82) (pc := 231) (gt_0 18 rfl) rfl).trans ?_
  refine (uk_il (n := 81) (pc := 232) (gt_0 19 rfl) rfl).trans ?_
  refine (uk_ic (v := 2) (n := 80) (pc := 234) (gt_0 20 rfl) rfl).trans ?_
  refine (uk_ia (n := 79) (pc := 235) (gt_0 21 rfl)).trans ?_
  refine (uk_ix (n := 78) (pc := 236) (gt_0 22 rfl)).trans (uk_if ?_)
  refine (uk_al (n := 77) (pc := 237) (gt_0 23 rfl) rfl).trans ?_
  refine (uk_il (n := 76) (pc := 238) (gt_0 24 rfl) rfl).trans ?_
  refine (uk_ic (v := 3) (n := 75) (pc := 240) (gt_0 25 rfl) rfl).trans ?_
  refine (uk_ia (n := 74) (pc := 241) (gt_0 26 rfl)).trans ?_
  refine (uk_ix (n := 73) (pc := 242) (gt_0 27 rfl)).trans (uk_if ?_)
  refine (uk_al (n := 72) (pc := 243) (gt_0 28 rfl) rfl).trans ?_
  refine (uk_il (n := 71) (pc := 244) (gt_0 29 rfl) rfl).trans ?_
  refine (uk_ic (v := 4) (n := 70) (pc := 246) (gt_0 30 rfl) rfl).trans ?_
  refine (uk_ia (n := 69) (pc := 247) (gt_0 31 rfl)).trans ?_
  refine (uk_ix (n := 68) (pc := 248) (gt_0 32 rfl)).trans (uk_if ?_)
  refine (uk_al (n := 67) (pc := 249) (gt_0 33 rfl) rfl).trans ?_
  refine (uk_il (n := 66) (pc := 250) (gt_0 34 rfl) rfl).trans ?_
  refine (uk_ic (v := 5) (n := 65) (pc := 252) (gt_0 35 rfl) rfl).trans ?_
  refine (uk_ia (n := 64) (pc := 253) (gt_0 36 rfl)).trans ?_
  refine (uk_ix (n := 63) (pc := 254) (gt_0 37 rfl)).trans (uk_if ?_)
  refine (uk_cN (r := []) (n := 62) (pc := 255) (gt_0 38 rfl) cl_126 rt_10001 rfl rfl rfl rfl rfl sh_31 (cx_b_feed_0 σ ((xs (v4 + 1).toNatClampNeg)) ((xs (v4 + 2).toNatClampNeg)) ((xs (v4 + 3).toNatClampNeg)) ((xs (v4 + 4).toNatClampNeg)) ((xs (v4 + 5).toNatClampNeg)))).trans (uk_cI fun r1 σ1 => ?_)
  refine (uk_al (n := 61) (pc := 258) (gt_0 39 rfl) rfl).trans ?_
  refine (uk_al (n := 60) (pc := 259) (gt_0 40 rfl) rfl).trans ?_
  refine (uk_il (n := 59) (pc := 260) (gt_0 41 rfl) rfl).trans ?_
  refine (uk_ic (v := 1) (n := 58) (pc := 262) (gt_0 42 rfl) rfl).trans ?_
  refine (uk_ia (n := 57) (pc := 263) (gt_0 43 rfl)).trans ?_
  refine (uk_ix (n := 56) (pc := 264) (gt_0 44 rfl)).trans (uk_if ?_)
  refine (uk_al (n := 55) (pc := 265) (gt_0 45 rfl) rfl).trans ?_
  refine (uk_il (n := 54) (pc := 266) (gt_0 46 rfl) rfl).trans ?_
  refine (uk_ic (v := 2) (n := 53) (pc := 268) (gt_0 47 rfl) rfl).trans ?_
  refine (uk_ia (n := 52) (pc := 269) (gt_0 48 rfl)).trans ?_
  refine (uk_ix (n := 51) (pc := 270) (gt_0 49 rfl)).trans (uk_if ?_)
  refine (uk_al (n := 50) (pc := 271) (gt_0 50 rfl) rfl).trans ?_
  refine (uk_il (n := 49) (pc := 272) (gt_0 51 rfl) rfl).trans ?_
  refine (uk_ic (v := 3) (n := 48) (pc := 274) (gt_0 52 rfl) rfl).trans ?_
  refine (uk_ia (n := 47) (pc := 275) (gt_0 53 rfl)).trans ?_
  refine (uk_ix (n := 46) (pc := 276) (gt_0 54 rfl)).trans (uk_if ?_)
  refine (uk_al (n := 45) (pc := 277) (gt_0 55 rfl) rfl).trans ?_
  refine (uk_il (n := 44) (pc := 278) (gt_0 56 rfl) rfl).trans ?_
  refine (uk_ic (v := 4) (n := 43) (pc := 280) (gt_0 57 rfl) rfl).trans ?_
  refine (uk_ia (n := 42) (pc := 281) (gt_0 58 rfl)).trans ?_
  refine (uk_ix (n := 41) (pc := 282) (gt_0 59 rfl)).trans (uk_if ?_)
  refine (uk_al (n := 40) (pc := 283) (gt_0 60 rfl) rfl).trans ?_
  refine (uk_il (n := 39) (pc := 284) (gt_0 61 rfl) rfl).trans ?_
  refine (uk_ic (v := 5) (n := 38) (pc := 286) (gt_0 62 rfl) rfl).trans ?_
  refine (uk_ia (n := 37) (pc := 287) (gt_0 63 rfl)).trans ?_
  refine (uk_ix (n := 36) (pc := 288) (gt_0 64 rfl)).trans (uk_if ?_)
  refine (uk_cN (r := [.int r1]) (n := 35) (pc := 289) (gt_0 65 rfl) cl_130 rt_9 rfl rfl rfl rfl rfl sh_0 (cx_m_feed_0 σ1 ((xs (v4 + 1).toNatClampNeg)) ((xs (v4 + 2).toNatClampNeg)) ((xs (v4 + 3).toNatClampNeg)) ((xs (v4 + 4).toNatClampNeg)) ((xs (v4 + 5).toNatClampNeg)))).trans (uk_cI fun r2 σ2 => ?_)
  refine (uk_jc (t := 2638) (n := 34) (pc := 292) (gt_0 66 rfl) rfl).trans (uk_ite ?_ ?_)
  ·
    refine (uk_ii (v := 6) (M := [some (.ref 900), some (.ref 31), some (.ref 0), some (.ref 30), some (.int (v4 + 6)), none, none]) (n := 33) (pc := 2638) (gt_15 85 rfl) rfl rfl rfl).trans ?_
    refine (uk_go (t := 23) (n := 32) (pc := 2641) (gt_15 86 rfl) rfl).trans ?_
    exact uk_kf (n := 31) (pc := 23) (gt_0 0 rfl) rfl
  ·
    refine (uk_ic (v := 0) (n := 33) (pc := 295) (gt_0 67 rfl) rfl).trans ?_
    exact uk_re (n := 32) (pc := 296) (gt_0 68 rfl) rt_12035 (Or.inl rfl)
set_option maxRecDepth 100000 in
theorem e_law_297 (Ls : Nat) (xs : Nat → Int32) (kf : en_K) (σ : en_S) (v4 : Int32) : en_uk bb_G bb_P bb_ML bb_HD Ls xs 12035 kf 89 297 [some (.ref 900), some (.ref 31), some (.ref 0), some (.ref 30), some (.int v4), none, none] [] σ =
    if en_in (v4 + 1) Ls then
      en_cI (x_lw_land_0 σ (xs (v4 + 1).toNatClampNeg)) (fun r2 σ1 =>
        if en_in (v4 + 1) Ls then
          en_cI (x_m_land_0 σ1 (xs (v4 + 1).toNatClampNeg)) (fun r4 σ3 =>
            en_cI (x_m_thrown_0 σ3) (fun r6 σ5 =>
              if r6 = r2 then
                if r2 = 0 then
                  if lg_cmp (σ5.2 30 0) r4.toInt64 = 0 then
                    kf 23 [some (.ref 900), some (.ref 31), some (.ref 0), some (.ref 30), some (.int (v4 + 6)), none, none] [] σ5
                  else
                    some (.inl (some (.int 0)), σ5)
                else
                  kf 23 [some (.ref 900), some (.ref 31), some (.ref 0), some (.ref 30), some (.int (v4 + 6)), none, none] [] σ5
              else
                some (.inl (some (.int 0)), σ5)) (fun _ _ => none)) (fun _ _ => none)
        else
          none) (fun _ _ => none)
    else
      none := by
  refine (uk_al (n := 88) (pc := 297) (gt_0 69 rfl) rfl).trans ?_
  refine (uk_al (n := 87) (pc := 298) (gt_0 70 rfl) rfl).trans ?_
  refine (uk_il (n := 86) (pc := 299) (gt_0 71 rfl) rfl).trans ?_
  refine (uk_ic (v := 1) (n := 85) (pc := 301) (gt_0 72 rfl) rfl).trans ?_
  refine (uk_ia (n := 84) (pc := 302) (gt_0 73 rfl)).trans ?_
  refine (uk_ix (n := 83) (pc := 303) (gt_0 74 rfl)).trans (uk_if ?_)
  refine (uk_al (n := 82) (pc := 304) (gt_0 75 rfl) rfl).trans ?_
  refine (uk_cS (r := []) (n := 81) (pc := 305) (gt_0 76 rfl) cl_131 rt_12000 rfl rfl rfl rfl rfl (cx_lw_land_0 σ ((xs (v4 + 1).toNatClampNeg)))).trans (uk_cI fun r1 σ1 => ?_)
  refine (uk_is (M := [some (.ref 900), some (.ref 31), some (.ref 0), some (.ref 30), some (.int v4), some (.int r1), none]) (n := 80) (pc := 308) (gt_0 77 rfl) rfl rfl).trans ?_
  refine (uk_al (n := 79) (pc := 310) (gt_0 78 rfl) rfl).trans ?_
  refine (uk_al (n := 78) (pc := 311) (gt_0 79 rfl) rfl).trans ?_
  refine (uk_il (n := 77) (pc := 312) (gt_0 80 rfl) rfl).trans ?_
  refine (uk_ic (v := 1) (n := 76) (pc := 314) (gt_0 81 rfl) rfl).trans ?_
  refine (uk_ia (n := 75) (pc := 315) (gt_0 82 rfl)).trans ?_
  refine (uk_ix (n := 74) (pc := 316) (gt_0 83 rfl)).trans (uk_if ?_)
  refine (uk_cN (r := []) (n := 73) (pc := 317) (gt_0 84 rfl) cl_136 rt_41 rfl rfl rfl rfl rfl sh_0 (cx_m_land_0 σ1 ((xs (v4 + 1).toNatClampNeg)))).trans (uk_cI fun r2 σ2 => ?_)
  refine (uk_is (M := [some (.ref 900), some (.ref 31), some (.ref 0), some (.ref 30), some (.int v4), some (.int r1), some (.int r2)]) (n := 72) (pc := 320) (gt_0 85 rfl) rfl rfl).trans ?_
  refine (uk_al (n := 71) (pc := 322) (gt_0 86 rfl) rfl).trans ?_
  refine (uk_cN (r := []) (n := 70) (pc := 323) (gt_0 87 rfl) cl_137 rt_1 rfl rfl rfl rfl rfl sh_0 (cx_m_thrown_0 σ2)).trans (uk_cI fun r3 σ3 => ?_)
  refine (uk_il (n := 69) (pc := 326) (gt_0 88 rfl) rfl).trans ?_
  refine (uk_jc (t := 333) (n := 68) (pc := 328) (gt_0 89 rfl) rfl).trans (uk_ite ?_ ?_)
  ·
    refine (uk_il (n := 67) (pc := 333) (gt_0 92 rfl) rfl).trans ?_
    refine (uk_jn (t := 350) (n := 66) (pc := 335) (gt_0 93 rfl) rfl).trans (uk_ite ?_ ?_)
    ·
      refine (uk_al (n := 65) (pc := 338) (gt_0 94 rfl) rfl).trans ?_
      refine (uk_ic (v := 0) (n := 64) (pc := 339) (gt_0 95 rfl) rfl).trans ?_
      refine (uk_la (q := 0) (n := 63) (pc := 340) (gt_0 96 rfl) ar_30 uk_in0 rfl).trans ?_
      refine (uk_il (n := 62) (pc := 341) (gt_0 97 rfl) rfl).trans ?_
      refine (uk_i2 (n := 61) (pc := 343) (gt_0 98 rfl)).trans ?_
      refine (uk_lcm (n := 60) (pc := 344) (gt_0 99 rfl)).trans ?_
      refine (uk_je (t := 350) (n := 59) (pc := 345) (gt_1 0 rfl) rfl).trans (uk_ite ?_ ?_)
      ·
        refine (uk_go (t := 2638) (n := 58) (pc := 350) (gt_1 3 rfl) rfl).trans ?_
        refine (uk_ii (v := 6) (M := [some (.ref 900), some (.ref 31), some (.ref 0), some (.ref 30), some (.int (v4 + 6)), some (.int r1), some (.int r2)]) (n := 57) (pc := 2638) (gt_15 85 rfl) rfl rfl rfl).trans ?_
        refine (uk_go (t := 23) (n := 56) (pc := 2641) (gt_15 86 rfl) rfl).trans ?_
        exact uk_kf (n := 55) (pc := 23) (gt_0 0 rfl) rfl
      ·
        refine (uk_ic (v := 0) (n := 58) (pc := 348) (gt_1 1 rfl) rfl).trans ?_
        exact uk_re (n := 57) (pc := 349) (gt_1 2 rfl) rt_12035 (Or.inl rfl)
    ·
      refine (uk_go (t := 2638) (n := 65) (pc := 350) (gt_1 3 rfl) rfl).trans ?_
      refine (uk_ii (v := 6) (M := [some (.ref 900), some (.ref 31), some (.ref 0), some (.ref 30), some (.int (v4 + 6)), some (.int r1), some (.int r2)]) (n := 64) (pc := 2638) (gt_15 85 rfl) rfl rfl rfl).trans ?_
      refine (uk_go (t := 23) (n := 63) (pc := 2641) (gt_15 86 rfl) rfl).trans ?_
      exact uk_kf (n := 62) (pc := 23) (gt_0 0 rfl) rfl
  ·
    refine (uk_ic (v := 0) (n := 67) (pc := 331) (gt_0 90 rfl) rfl).trans ?_
    exact uk_re (n := 66) (pc := 332) (gt_0 91 rfl) rt_12035 (Or.inl rfl)
set_option maxRecDepth 100000 in
theorem e_law_353 (Ls : Nat) (xs : Nat → Int32) (kf : en_K) (σ : en_S) (v4 : Int32) : en_uk bb_G bb_P bb_ML bb_HD Ls xs 12035 kf 89 353 [some (.ref 900), some (.ref 31), some (.ref 0), some (.ref 30), some (.int v4), none, none] [] σ =
    en_cI (x_b_fault_0 σ) (fun r2 σ1 =>
      en_cI (x_m_fault_0 σ1) (fun r4 σ3 =>
        if r2 = r4 then
          kf 23 [some (.ref 900), some (.ref 31), some (.ref 0), some (.ref 30), some (.int (v4 + 6)), none, none] [] σ3
        else
          some (.inl (some (.int 0)), σ3)) (fun _ _ => none)) (fun _ _ => none) := by
  refine (uk_al (n := 88) (pc := 353) (gt_1 4 rfl) rfl).trans ?_
  refine (uk_cN (r := []) (n := 87) (pc := 354) (gt_1 5 rfl) cl_141 rt_10003 rfl rfl rfl rfl rfl sh_31 (cx_b_fault_0 σ)).trans (uk_cI fun r1 σ1 => ?_)
  refine (uk_al (n := 86) (pc := 357) (gt_1 6 rfl) rfl).trans ?_
  refine (uk_cN (r := [.int r1]) (n := 85) (pc := 358) (gt_1 7 rfl) cl_144 rt_42 rfl rfl rfl rfl rfl sh_0 (cx_m_fault_0 σ1)).trans (uk_cI fun r2 σ2 => ?_)
  refine (uk_jc (t := 2638) (n := 84) (pc := 361) (gt_1 8 rfl) rfl).trans (uk_ite ?_ ?_)
  ·
    refine (uk_ii (v := 6) (M := [some (.ref 900), some (.ref 31), some (.ref 0), some (.ref 30), some (.int (v4 + 6)), none, none]) (n := 83) (pc := 2638) (gt_15 85 rfl) rfl rfl rfl).trans ?_
    refine (uk_go (t := 23) (n := 82) (pc := 2641) (gt_15 86 rfl) rfl).trans ?_
    exact uk_kf (n := 81) (pc := 23) (gt_0 0 rfl) rfl
  ·
    refine (uk_ic (v := 0) (n := 83) (pc := 364) (gt_1 9 rfl) rfl).trans ?_
    exact uk_re (n := 82) (pc := 365) (gt_1 10 rfl) rt_12035 (Or.inl rfl)
set_option maxRecDepth 100000 in
theorem e_law_366 (Ls : Nat) (xs : Nat → Int32) (kf : en_K) (σ : en_S) (v4 : Int32) : en_uk bb_G bb_P bb_ML bb_HD Ls xs 12035 kf 89 366 [some (.ref 900), some (.ref 31), some (.ref 0), some (.ref 30), some (.int v4), none, none] [] σ =
    if en_in (v4 + 1) Ls then
      en_cI (x_lw_count_0 σ (xs (v4 + 1).toNatClampNeg)) (fun r2 σ1 =>
        if en_in (v4 + 1) Ls then
          en_cI (x_m_count_0 σ1 (xs (v4 + 1).toNatClampNeg)) (fun r4 σ3 =>
            en_cI (x_m_thrown_0 σ3) (fun r6 σ5 =>
              if r6 = r2 then
                if r2 = 0 then
                  if lg_cmp (σ5.2 30 0) r4.toInt64 = 0 then
                    kf 23 [some (.ref 900), some (.ref 31), some (.ref 0), some (.ref 30), some (.int (v4 + 6)), none, none] [] σ5
                  else
                    some (.inl (some (.int 0)), σ5)
                else
                  kf 23 [some (.ref 900), some (.ref 31), some (.ref 0), some (.ref 30), some (.int (v4 + 6)), none, none] [] σ5
              else
                some (.inl (some (.int 0)), σ5)) (fun _ _ => none)) (fun _ _ => none)
        else
          none) (fun _ _ => none)
    else
      none := by
  refine (uk_al (n := 88) (pc := 366) (gt_1 11 rfl) rfl).trans ?_
  refine (uk_al (n := 87) (pc := 367) (gt_1 12 rfl) rfl).trans ?_
  refine (uk_il (n := 86) (pc := 368) (gt_1 13 rfl) rfl).trans ?_
  refine (uk_ic (v := 1) (n := 85) (pc := 370) (gt_1 14 rfl) rfl).trans ?_
  refine (uk_ia (n := 84) (pc := 371) (gt_1 15 rfl)).trans ?_
  refine (uk_ix (n := 83) (pc := 372) (gt_1 16 rfl)).trans (uk_if ?_)
  refine (uk_al (n := 82) (pc := 373) (gt_1 17 rfl) rfl).trans ?_
  refine (uk_cS (r := []) (n := 81) (pc := 374) (gt_1 18 rfl) cl_145 rt_12001 rfl rfl rfl rfl rfl (cx_lw_count_0 σ ((xs (v4 + 1).toNatClampNeg)))).trans (uk_cI fun r1 σ1 => ?_)
  refine (uk_is (M := [some (.ref 900), some (.ref 31), some (.ref 0), some (.ref 30), some (.int v4), some (.int r1), none]) (n := 80) (pc := 377) (gt_1 19 rfl) rfl rfl).trans ?_
  refine (uk_al (n := 79) (pc := 379) (gt_1 20 rfl) rfl).trans ?_
  refine (uk_al (n := 78) (pc := 380) (gt_1 21 rfl) rfl).trans ?_
  refine (uk_il (n := 77) (pc := 381) (gt_1 22 rfl) rfl).trans ?_
  refine (uk_ic (v := 1) (n := 76) (pc := 383) (gt_1 23 rfl) rfl).trans ?_
  refine (uk_ia (n := 75) (pc := 384) (gt_1 24 rfl)).trans ?_
  refine (uk_ix (n := 74) (pc := 385) (gt_1 25 rfl)).trans (uk_if ?_)
  refine (uk_cN (r := []) (n := 73) (pc := 386) (gt_1 26 rfl) cl_147 rt_66 rfl rfl rfl rfl rfl sh_0 (cx_m_count_0 σ1 ((xs (v4 + 1).toNatClampNeg)))).trans (uk_cI fun r2 σ2 => ?_)
  refine (uk_is (M := [some (.ref 900), some (.ref 31), some (.ref 0), some (.ref 30), some (.int v4), some (.int r1), some (.int r2)]) (n := 72) (pc := 389) (gt_1 27 rfl) rfl rfl).trans ?_
  refine (uk_al (n := 71) (pc := 391) (gt_1 28 rfl) rfl).trans ?_
  refine (uk_cN (r := []) (n := 70) (pc := 392) (gt_1 29 rfl) cl_137 rt_1 rfl rfl rfl rfl rfl sh_0 (cx_m_thrown_0 σ2)).trans (uk_cI fun r3 σ3 => ?_)
  refine (uk_il (n := 69) (pc := 395) (gt_1 30 rfl) rfl).trans ?_
  refine (uk_jc (t := 402) (n := 68) (pc := 397) (gt_1 31 rfl) rfl).trans (uk_ite ?_ ?_)
  ·
    refine (uk_il (n := 67) (pc := 402) (gt_1 34 rfl) rfl).trans ?_
    refine (uk_jn (t := 419) (n := 66) (pc := 404) (gt_1 35 rfl) rfl).trans (uk_ite ?_ ?_)
    ·
      refine (uk_al (n := 65) (pc := 407) (gt_1 36 rfl) rfl).trans ?_
      refine (uk_ic (v := 0) (n := 64) (pc := 408) (gt_1 37 rfl) rfl).trans ?_
      refine (uk_la (q := 0) (n := 63) (pc := 409) (gt_1 38 rfl) ar_30 uk_in0 rfl).trans ?_
      refine (uk_il (n := 62) (pc := 410) (gt_1 39 rfl) rfl).trans ?_
      refine (uk_i2 (n := 61) (pc := 412) (gt_1 40 rfl)).trans ?_
      refine (uk_lcm (n := 60) (pc := 413) (gt_1 41 rfl)).trans ?_
      refine (uk_je (t := 419) (n := 59) (pc := 414) (gt_1 42 rfl) rfl).trans (uk_ite ?_ ?_)
      ·
        refine (uk_go (t := 2638) (n := 58) (pc := 419) (gt_1 45 rfl) rfl).trans ?_
        refine (uk_ii (v := 6) (M := [some (.ref 900), some (.ref 31), some (.ref 0), some (.ref 30), some (.int (v4 + 6)), some (.int r1), some (.int r2)]) (n := 57) (pc := 2638) (gt_15 85 rfl) rfl rfl rfl).trans ?_
        refine (uk_go (t := 23) (n := 56) (pc := 2641) (gt_15 86 rfl) rfl).trans ?_
        exact uk_kf (n := 55) (pc := 23) (gt_0 0 rfl) rfl
      ·
        refine (uk_ic (v := 0) (n := 58) (pc := 417) (gt_1 43 rfl) rfl).trans ?_
        exact uk_re (n := 57) (pc := 418) (gt_1 44 rfl) rt_12035 (Or.inl rfl)
    ·
      refine (uk_go (t := 2638) (n := 65) (pc := 419) (gt_1 45 rfl) rfl).trans ?_
      refine (uk_ii (v := 6) (M := [some (.ref 900), some (.ref 31), some (.ref 0), some (.ref 30), some (.int (v4 + 6)), some (.int r1), some (.int r2)]) (n := 64) (pc := 2638) (gt_15 85 rfl) rfl rfl rfl).trans ?_
      refine (uk_go (t := 23) (n := 63) (pc := 2641) (gt_15 86 rfl) rfl).trans ?_
      exact uk_kf (n := 62) (pc := 23) (gt_0 0 rfl) rfl
  ·
    refine (uk_ic (v := 0) (n := 67) (pc := 400) (gt_1 32 rfl) rfl).trans ?_
    exact uk_re (n := 66) (pc := 401) (gt_1 33 rfl) rt_12035 (Or.inl rfl)
set_option maxRecDepth 100000 in
theorem e_law_422 (Ls : Nat) (xs : Nat → Int32) (kf : en_K) (σ : en_S) (v4 : Int32) : en_uk bb_G bb_P bb_ML bb_HD Ls xs 12035 kf 89 422 [some (.ref 900), some (.ref 31), some (.ref 0), some (.ref 30), some (.int v4), none, none] [] σ =
    if en_in (v4 + 1) Ls then
      if en_in (v4 + 2) Ls then
        en_cI (x_lw_box_0 σ (xs (v4 + 1).toNatClampNeg) (xs (v4 + 2).toNatClampNeg)) (fun r2 σ1 =>
          if en_in (v4 + 1) Ls then
            if en_in (v4 + 2) Ls then
              en_cI (x_m_box_0 σ1 (xs (v4 + 1).toNatClampNeg) (xs (v4 + 2).toNatClampNeg)) (fun r4 σ3 =>
                en_cI (x_m_thrown_0 σ3) (fun r6 σ5 =>
                  if r6 = r2 then
                    if r2 = 0 then
                      if lg_cmp (σ5.2 30 0) r4.toInt64 = 0 then
                        kf 23 [some (.ref 900), some (.ref 31), some (.ref 0), some (.ref 30), some (.int (v4 + 6)), none, none] [] σ5
                      else
                        some (.inl (some (.int 0)), σ5)
                    else
                      kf 23 [some (.ref 900), some (.ref 31), some (.ref 0), some (.ref 30), some (.int (v4 + 6)), none, none] [] σ5
                  else
                    some (.inl (some (.int 0)), σ5)) (fun _ _ => none)) (fun _ _ => none)
            else
              none
          else
            none) (fun _ _ => none)
      else
        none
    else
      none := by
  refine (uk_al (n := 88) (pc := 422) (gt_1 46 rfl) rfl).trans ?_
  refine (uk_al (n := 87) (pc := 423) (gt_1 47 rfl) rfl).trans ?_
  refine (uk_il (n := 86) (pc := 424) (gt_1 48 rfl) rfl).trans ?_
  refine (uk_ic (v := 1) (n := 85) (pc := 426) (gt_1 49 rfl) rfl).trans ?_
  refine (uk_ia (n := 84) (pc := 427) (gt_1 50 rfl)).trans ?_
  refine (uk_ix (n := 83) (pc := 428) (gt_1 51 rfl)).trans (uk_if ?_)
  refine (uk_al (n := 82) (pc := 429) (gt_1 52 rfl) rfl).trans ?_
  refine (uk_il (n := 81) (pc := 430) (gt_1 53 rfl) rfl).trans ?_
  refine (uk_ic (v := 2) (n := 80) (pc := 432) (gt_1 54 rfl) rfl).trans ?_
  refine (uk_ia (n := 79) (pc := 433) (gt_1 55 rfl)).trans ?_
  refine (uk_ix (n := 78) (pc := 434) (gt_1 56 rfl)).trans (uk_if ?_)
  refine (uk_al (n := 77) (pc := 435) (gt_1 57 rfl) rfl).trans ?_
  refine (uk_cS (r := []) (n := 76) (pc := 436) (gt_1 58 rfl) cl_148 rt_12002 rfl rfl rfl rfl rfl (cx_lw_box_0 σ ((xs (v4 + 1).toNatClampNeg)) ((xs (v4 + 2).toNatClampNeg)))).trans (uk_cI fun r1 σ1 => ?_)
  refine (uk_is (M := [some (.ref 900), some (.ref 31), some (.ref 0), some (.ref 30), some (.int v4), some (.int r1), none]) (n := 75) (pc := 439) (gt_1 59 rfl) rfl rfl).trans ?_
  refine (uk_al (n := 74) (pc := 441) (gt_1 60 rfl) rfl).trans ?_
  refine (uk_al (n := 73) (pc := 442) (gt_1 61 rfl) rfl).trans ?_
  refine (uk_il (n := 72) (pc := 443) (gt_1 62 rfl) rfl).trans ?_
  refine (uk_ic (v := 1) (n := 71) (pc := 445) (gt_1 63 rfl) rfl).trans ?_
  refine (uk_ia (n := 70) (pc := 446) (gt_1 64 rfl)).trans ?_
  refine (uk_ix (n := 69) (pc := 447) (gt_1 65 rfl)).trans (uk_if ?_)
  refine (uk_al (n := 68) (pc := 448) (gt_1 66 rfl) rfl).trans ?_
  refine (uk_il (n := 67) (pc := 449) (gt_1 67 rfl) rfl).trans ?_
  refine (uk_ic (v := 2) (n := 66) (pc := 451) (gt_1 68 rfl) rfl).trans ?_
  refine (uk_ia (n := 65) (pc := 452) (gt_1 69 rfl)).trans ?_
  refine (uk_ix (n := 64) (pc := 453) (gt_1 70 rfl)).trans (uk_if ?_)
  refine (uk_cN (r := []) (n := 63) (pc := 454) (gt_1 71 rfl) cl_151 rt_73 rfl rfl rfl rfl rfl sh_0 (cx_m_box_0 σ1 ((xs (v4 + 1).toNatClampNeg)) ((xs (v4 + 2).toNatClampNeg)))).trans (uk_cI fun r2 σ2 => ?_)
  refine (uk_is (M := [some (.ref 900), some (.ref 31), some (.ref 0), some (.ref 30), some (.int v4), some (.int r1), some (.int r2)]) (n := 62) (pc := 457) (gt_1 72 rfl) rfl rfl).trans ?_
  refine (uk_al (n := 61) (pc := 459) (gt_1 73 rfl) rfl).trans ?_
  refine (uk_cN (r := []) (n := 60) (pc := 460) (gt_1 74 rfl) cl_137 rt_1 rfl rfl rfl rfl rfl sh_0 (cx_m_thrown_0 σ2)).trans (uk_cI fun r3 σ3 => ?_)
  refine (uk_il (n := 59) (pc := 463) (gt_1 75 rfl) rfl).trans ?_
  refine (uk_jc (t := 470) (n := 58) (pc := 465) (gt_1 76 rfl) rfl).trans (uk_ite ?_ ?_)
  ·
    refine (uk_il (n := 57) (pc := 470) (gt_1 79 rfl) rfl).trans ?_
    refine (uk_jn (t := 487) (n := 56) (pc := 472) (gt_1 80 rfl) rfl).trans (uk_ite ?_ ?_)
    ·
      refine (uk_al (n := 55) (pc := 475) (gt_1 81 rfl) rfl).trans ?_
      refine (uk_ic (v := 0) (n := 54) (pc := 476) (gt_1 82 rfl) rfl).trans ?_
      refine (uk_la (q := 0) (n := 53) (pc := 477) (gt_1 83 rfl) ar_30 uk_in0 rfl).trans ?_
      refine (uk_il (n := 52) (pc := 478) (gt_1 84 rfl) rfl).trans ?_
      refine (uk_i2 (n := 51) (pc := 480) (gt_1 85 rfl)).trans ?_
      refine (uk_lcm (n := 50) (pc := 481) (gt_1 86 rfl)).trans ?_
      refine (uk_je (t := 487) (n := 49) (pc := 482) (gt_1 87 rfl) rfl).trans (uk_ite ?_ ?_)
      ·
        refine (uk_go (t := 2638) (n := 48) (pc := 487) (gt_1 90 rfl) rfl).trans ?_
        refine (uk_ii (v := 6) (M := [some (.ref 900), some (.ref 31), some (.ref 0), some (.ref 30), some (.int (v4 + 6)), some (.int r1), some (.int r2)]) (n := 47) (pc := 2638) (gt_15 85 rfl) rfl rfl rfl).trans ?_
        refine (uk_go (t := 23) (n := 46) (pc := 2641) (gt_15 86 rfl) rfl).trans ?_
        exact uk_kf (n := 45) (pc := 23) (gt_0 0 rfl) rfl
      ·
        refine (uk_ic (v := 0) (n := 48) (pc := 485) (gt_1 88 rfl) rfl).trans ?_
        exact uk_re (n := 47) (pc := 486) (gt_1 89 rfl) rt_12035 (Or.inl rfl)
    ·
      refine (uk_go (t := 2638) (n := 55) (pc := 487) (gt_1 90 rfl) rfl).trans ?_
      refine (uk_ii (v := 6) (M := [some (.ref 900), some (.ref 31), some (.ref 0), some (.ref 30), some (.int (v4 + 6)), some (.int r1), some (.int r2)]) (n := 54) (pc := 2638) (gt_15 85 rfl) rfl rfl rfl).trans ?_
      refine (uk_go (t := 23) (n := 53) (pc := 2641) (gt_15 86 rfl) rfl).trans ?_
      exact uk_kf (n := 52) (pc := 23) (gt_0 0 rfl) rfl
  ·
    refine (uk_ic (v := 0) (n := 57) (pc := 468) (gt_1 77 rfl) rfl).trans ?_
    exact uk_re (n := 56) (pc := 469) (gt_1 78 rfl) rt_12035 (Or.inl rfl)
set_option maxRecDepth 100000 in
theorem e_law_490 (Ls : Nat) (xs : Nat → Int32) (kf : en_K) (σ : en_S) (v4 : Int32) : en_uk bb_G bb_P bb_ML bb_HD Ls xs 12035 kf 89 490 [some (.ref 900), some (.ref 31), some (.ref 0), some (.ref 30), some (.int v4), none, none] [] σ =
    if en_in (v4 + 1) Ls then
      if en_in (v4 + 2) Ls then
        en_cI (x_lw_bearer_0 σ (xs (v4 + 1).toNatClampNeg) (xs (v4 + 2).toNatClampNeg)) (fun r2 σ1 =>
          if en_in (v4 + 1) Ls then
            if en_in (v4 + 2) Ls then
              en_cI (x_m_bearer_0 σ1 (xs (v4 + 1).toNatClampNeg) (xs (v4 + 2).toNatClampNeg)) (fun r4 σ3 =>
                en_cI (x_m_thrown_0 σ3) (fun r6 σ5 =>
                  if r6 = r2 then
                    if r2 = 0 then
                      if lg_cmp (σ5.2 30 0) r4.toInt64 = 0 then
                        kf 23 [some (.ref 900), some (.ref 31), some (.ref 0), some (.ref 30), some (.int (v4 + 6)), none, none] [] σ5
                      else
                        some (.inl (some (.int 0)), σ5)
                    else
                      kf 23 [some (.ref 900), some (.ref 31), some (.ref 0), some (.ref 30), some (.int (v4 + 6)), none, none] [] σ5
                  else
                    some (.inl (some (.int 0)), σ5)) (fun _ _ => none)) (fun _ _ => none)
            else
              none
          else
            none) (fun _ _ => none)
      else
        none
    else
      none := by
  refine (uk_al (n := 88) (pc := 490) (gt_1 91 rfl) rfl).trans ?_
  refine (uk_al (n := 87) (pc := 491) (gt_1 92 rfl) rfl).trans ?_
  refine (uk_il (n := 86) (pc := 492) (gt_1 93 rfl) rfl).trans ?_
  refine (uk_ic (v := 1) (n := 85) (pc := 494) (gt_1 94 rfl) rfl).trans ?_
  refine (uk_ia (n := 84) (pc := 495) (gt_1 95 rfl)).trans ?_
  refine (uk_ix (n := 83) (pc := 496) (gt_1 96 rfl)).trans (uk_if ?_)
  refine (uk_al (n := 82) (pc := 497) (gt_1 97 rfl) rfl).trans ?_
  refine (uk_il (n := 81) (pc := 498) (gt_1 98 rfl) rfl).trans ?_
  refine (uk_ic (v := 2) (n := 80) (pc := 500) (gt_1 99 rfl) rfl).trans ?_
  refine (uk_ia (n := 79) (pc := 501) (gt_2 0 rfl)).trans ?_
  refine (uk_ix (n := 78) (pc := 502) (gt_2 1 rfl)).trans (uk_if ?_)
  refine (uk_al (n := 77) (pc := 503) (gt_2 2 rfl) rfl).trans ?_
  refine (uk_cS (r := []) (n := 76) (pc := 504) (gt_2 3 rfl) cl_152 rt_12003 rfl rfl rfl rfl rfl (cx_lw_bearer_0 σ ((xs (v4 + 1).toNatClampNeg)) ((xs (v4 + 2).toNatClampNeg)))).trans (uk_cI fun r1 σ1 => ?_)
  refine (uk_is (M := [some (.ref 900), some (.ref 31), some (.ref 0), some (.ref 30), some (.int v4), some (.int r1), none]) (n := 75) (pc := 507) (gt_2 4 rfl) rfl rfl).trans ?_
  refine (uk_al (n := 74) (pc := 509) (gt_2 5 rfl) rfl).trans ?_
  refine (uk_al (n := 73) (pc := 510) (gt_2 6 rfl) rfl).trans ?_
  refine (uk_il (n := 72) (pc := 511) (gt_2 7 rfl) rfl).trans ?_
  refine (uk_ic (v := 1) (n := 71) (pc := 513) (gt_2 8 rfl) rfl).trans ?_
  refine (uk_ia (n := 70) (pc := 514) (gt_2 9 rfl)).trans ?_
  refine (uk_ix (n := 69) (pc := 515) (gt_2 10 rfl)).trans (uk_if ?_)
  refine (uk_al (n := 68) (pc := 516) (gt_2 11 rfl) rfl).trans ?_
  refine (uk_il (n := 67) (pc := 517) (gt_2 12 rfl) rfl).trans ?_
  refine (uk_ic (v := 2) (n := 66) (pc := 519) (gt_2 13 rfl) rfl).trans ?_
  refine (uk_ia (n := 65) (pc := 520) (gt_2 14 rfl)).trans ?_
  refine (uk_ix (n := 64) (pc := 521) (gt_2 15 rfl)).trans (uk_if ?_)
  refine (uk_cN (r := []) (n := 63) (pc := 522) (gt_2 16 rfl) cl_154 rt_74 rfl rfl rfl rfl rfl sh_0 (cx_m_bearer_0 σ1 ((xs (v4 + 1).toNatClampNeg)) ((xs (v4 + 2).toNatClampNeg)))).trans (uk_cI fun r2 σ2 => ?_)
  refine (uk_is (M := [some (.ref 900), some (.ref 31), some (.ref 0), some (.ref 30), some (.int v4), some (.int r1), some (.int r2)]) (n := 62) (pc := 525) (gt_2 17 rfl) rfl rfl).trans ?_
  refine (uk_al (n := 61) (pc := 527) (gt_2 18 rfl) rfl).trans ?_
  refine (uk_cN (r := []) (n := 60) (pc := 528) (gt_2 19 rfl) cl_137 rt_1 rfl rfl rfl rfl rfl sh_0 (cx_m_thrown_0 σ2)).trans (uk_cI fun r3 σ3 => ?_)
  refine (uk_il (n := 59) (pc := 531) (gt_2 20 rfl) rfl).trans ?_
  refine (uk_jc (t := 538) (n := 58) (pc := 533) (gt_2 21 rfl) rfl).trans (uk_ite ?_ ?_)
  ·
    refine (uk_il (n := 57) (pc := 538) (gt_2 24 rfl) rfl).trans ?_
    refine (uk_jn (t := 555) (n := 56) (pc := 540) (gt_2 25 rfl) rfl).trans (uk_ite ?_ ?_)
    ·
      refine (uk_al (n := 55) (pc := 543) (gt_2 26 rfl) rfl).trans ?_
      refine (uk_ic (v := 0) (n := 54) (pc := 544) (gt_2 27 rfl) rfl).trans ?_
      refine (uk_la (q := 0) (n := 53) (pc := 545) (gt_2 28 rfl) ar_30 uk_in0 rfl).trans ?_
      refine (uk_il (n := 52) (pc := 546) (gt_2 29 rfl) rfl).trans ?_
      refine (uk_i2 (n := 51) (pc := 548) (gt_2 30 rfl)).trans ?_
      refine (uk_lcm (n := 50) (pc := 549) (gt_2 31 rfl)).trans ?_
      refine (uk_je (t := 555) (n := 49) (pc := 550) (gt_2 32 rfl) rfl).trans (uk_ite ?_ ?_)
      ·
        refine (uk_go (t := 2638) (n := 48) (pc := 555) (gt_2 35 rfl) rfl).trans ?_
        refine (uk_ii (v := 6) (M := [some (.ref 900), some (.ref 31), some (.ref 0), some (.ref 30), some (.int (v4 + 6)), some (.int r1), some (.int r2)]) (n := 47) (pc := 2638) (gt_15 85 rfl) rfl rfl rfl).trans ?_
        refine (uk_go (t := 23) (n := 46) (pc := 2641) (gt_15 86 rfl) rfl).trans ?_
        exact uk_kf (n := 45) (pc := 23) (gt_0 0 rfl) rfl
      ·
        refine (uk_ic (v := 0) (n := 48) (pc := 553) (gt_2 33 rfl) rfl).trans ?_
        exact uk_re (n := 47) (pc := 554) (gt_2 34 rfl) rt_12035 (Or.inl rfl)
    ·
      refine (uk_go (t := 2638) (n := 55) (pc := 555) (gt_2 35 rfl) rfl).trans ?_
      refine (uk_ii (v := 6) (M := [some (.ref 900), some (.ref 31), some (.ref 0), some (.ref 30), some (.int (v4 + 6)), some (.int r1), some (.int r2)]) (n := 54) (pc := 2638) (gt_15 85 rfl) rfl rfl rfl).trans ?_
      refine (uk_go (t := 23) (n := 53) (pc := 2641) (gt_15 86 rfl) rfl).trans ?_
      exact uk_kf (n := 52) (pc := 23) (gt_0 0 rfl) rfl
  ·
    refine (uk_ic (v := 0) (n := 57) (pc := 536) (gt_2 22 rfl) rfl).trans ?_
    exact uk_re (n := 56) (pc := 537) (gt_2 23 rfl) rt_12035 (Or.inl rfl)
set_option maxRecDepth 100000 in
theorem e_law_558 (Ls : Nat) (xs : Nat → Int32) (kf : en_K) (σ : en_S) (v4 : Int32) : en_uk bb_G bb_P bb_ML bb_HD Ls xs 12035 kf 89 558 [some (.ref 900), some (.ref 31), some (.ref 0), some (.ref 30), some (.int v4), none, none] [] σ =
    if en_in (v4 + 1) Ls then
      en_cI (x_b_days_0 σ (xs (v4 + 1).toNatClampNeg)) (fun r2 σ1 =>
        if en_in (v4 + 1) Ls then
          en_cI (x_m_days_0 σ1 (xs (v4 + 1).toNatClampNeg)) (fun r4 σ3 =>
            if r2 = r4 then
              kf 23 [some (.ref 900), some (.ref 31), some (.ref 0), some (.ref 30), some (.int (v4 + 6)), none, none] [] σ3
            else
              some (.inl (some (.int 0)), σ3)) (fun _ _ => none)
        else
          none) (fun _ _ => none)
    else
      none := by
  refine (uk_al (n := 88) (pc := 558) (gt_2 36 rfl) rfl).trans ?_
  refine (uk_al (n := 87) (pc := 559) (gt_2 37 rfl) rfl).trans ?_
  refine (uk_il (n := 86) (pc := 560) (gt_2 38 rfl) rfl).trans ?_
  refine (uk_ic (v := 1) (n := 85) (pc := 562) (gt_2 39 rfl) rfl).trans ?_
  refine (uk_ia (n := 84) (pc := 563) (gt_2 40 rfl)).trans ?_
  refine (uk_ix (n := 83) (pc := 564) (gt_2 41 rfl)).trans (uk_if ?_)
  refine (uk_cN (r := []) (n := 82) (pc := 565) (gt_2 42 rfl) cl_155 rt_10007 rfl rfl rfl rfl rfl sh_31 (cx_b_days_0 σ ((xs (v4 + 1).toNatClampNeg)))).trans (uk_cI fun r1 σ1 => ?_)
  refine (uk_al (n := 81) (pc := 568) (gt_2 43 rfl) rfl).trans ?_
  refine (uk_al (n := 80) (pc := 569) (gt_2 44 rfl) rfl).trans ?_
  refine (uk_il (n := 79) (pc := 570) (gt_2 45 rfl) rfl).trans ?_
  refine (uk_ic (v := 1) (n := 78) (pc := 572) (gt_2 46 rfl) rfl).trans ?_
  refine (uk_ia (n := 77) (pc := 573) (gt_2 47 rfl)).trans ?_
  refine (uk_ix (n := 76) (pc := 574) (gt_2 48 rfl)).trans (uk_if ?_)
  refine (uk_cN (r := [.int r1]) (n := 75) (pc := 575) (gt_2 49 rfl) cl_158 rt_75 rfl rfl rfl rfl rfl sh_0 (cx_m_days_0 σ1 ((xs (v4 + 1).toNatClampNeg)))).trans (uk_cI fun r2 σ2 => ?_)
  refine (uk_jc (t := 2638) (n := 74) (pc := 578) (gt_2 50 rfl) rfl).trans (uk_ite ?_ ?_)
  ·
    refine (uk_ii (v := 6) (M := [some (.ref 900), some (.ref 31), some (.ref 0), some (.ref 30), some (.int (v4 + 6)), none, none]) (n := 73) (pc := 2638) (gt_15 85 rfl) rfl rfl rfl).trans ?_
    refine (uk_go (t := 23) (n := 72) (pc := 2641) (gt_15 86 rfl) rfl).trans ?_
    exact uk_kf (n := 71) (pc := 23) (gt_0 0 rfl) rfl
  ·
    refine (uk_ic (v := 0) (n := 73) (pc := 581) (gt_2 51 rfl) rfl).trans ?_
    exact uk_re (n := 72) (pc := 582) (gt_2 52 rfl) rt_12035 (Or.inl rfl)
set_option maxRecDepth 100000 in
theorem e_law_583 (Ls : Nat) (xs : Nat → Int32) (kf : en_K) (σ : en_S) (v4 : Int32) : en_uk bb_G bb_P bb_ML bb_HD Ls xs 12035 kf 89 583 [some (.ref 900), some (.ref 31), some (.ref 0), some (.ref 30), some (.int v4), none, none] [] σ =
    if en_in (v4 + 1) Ls then
      if en_in (v4 + 2) Ls then
        en_cI (x_lw_hand_0 σ (xs (v4 + 1).toNatClampNeg) (xs (v4 + 2).toNatClampNeg)) (fun r2 σ1 =>
          if en_in (v4 + 1) Ls then
            if en_in (v4 + 2) Ls then
              en_cI (x_m_hand_0 σ1 (xs (v4 + 1).toNatClampNeg) (xs (v4 + 2).toNatClampNeg)) (fun r4 σ3 =>
                en_cI (x_m_thrown_0 σ3) (fun r6 σ5 =>
                  if r6 = r2 then
                    if r2 = 0 then
                      if lg_cmp (σ5.2 30 0) r4.toInt64 = 0 then
                        kf 23 [some (.ref 900), some (.ref 31), some (.ref 0), some (.ref 30), some (.int (v4 + 6)), none, none] [] σ5
                      else
                        some (.inl (some (.int 0)), σ5)
                    else
                      kf 23 [some (.ref 900), some (.ref 31), some (.ref 0), some (.ref 30), some (.int (v4 + 6)), none, none] [] σ5
                  else
                    some (.inl (some (.int 0)), σ5)) (fun _ _ => none)) (fun _ _ => none)
            else
              none
          else
            none) (fun _ _ => none)
      else
        none
    else
      none := by
  refine (uk_al (n := 88) (pc := 583) (gt_2 53 rfl) rfl).trans ?_
  refine (uk_al (n := 87) (pc := 584) (gt_2 54 rfl) rfl).trans ?_
  refine (uk_il (n := 86) (pc := 585) (gt_2 55 rfl) rfl).trans ?_
  refine (uk_ic (v := 1) (n := 85) (pc := 587) (gt_2 56 rfl) rfl).trans ?_
  refine (uk_ia (n := 84) (pc := 588) (gt_2 57 rfl)).trans ?_
  refine (uk_ix (n := 83) (pc := 589) (gt_2 58 rfl)).trans (uk_if ?_)
  refine (uk_al (n := 82) (pc := 590) (gt_2 59 rfl) rfl).trans ?_
  refine (uk_il (n := 81) (pc := 591) (gt_2 60 rfl) rfl).trans ?_
  refine (uk_ic (v := 2) (n := 80) (pc := 593) (gt_2 61 rfl) rfl).trans ?_
  refine (uk_ia (n := 79) (pc := 594) (gt_2 62 rfl)).trans ?_
  refine (uk_ix (n := 78) (pc := 595) (gt_2 63 rfl)).trans (uk_if ?_)
  refine (uk_al (n := 77) (pc := 596) (gt_2 64 rfl) rfl).trans ?_
  refine (uk_cS (r := []) (n := 76) (pc := 597) (gt_2 65 rfl) cl_159 rt_12004 rfl rfl rfl rfl rfl (cx_lw_hand_0 σ ((xs (v4 + 1).toNatClampNeg)) ((xs (v4 + 2).toNatClampNeg)))).trans (uk_cI fun r1 σ1 => ?_)
  refine (uk_is (M := [some (.ref 900), some (.ref 31), some (.ref 0), some (.ref 30), some (.int v4), some (.int r1), none]) (n := 75) (pc := 600) (gt_2 66 rfl) rfl rfl).trans ?_
  refine (uk_al (n := 74) (pc := 602) (gt_2 67 rfl) rfl).trans ?_
  refine (uk_al (n := 73) (pc := 603) (gt_2 68 rfl) rfl).trans ?_
  refine (uk_il (n := 72) (pc := 604) (gt_2 69 rfl) rfl).trans ?_
  refine (uk_ic (v := 1) (n := 71) (pc := 606) (gt_2 70 rfl) rfl).trans ?_
  refine (uk_ia (n := 70) (pc := 607) (gt_2 71 rfl)).trans ?_
  refine (uk_ix (n := 69) (pc := 608) (gt_2 72 rfl)).trans (uk_if ?_)
  refine (uk_al (n := 68) (pc := 609) (gt_2 73 rfl) rfl).trans ?_
  refine (uk_il (n := 67) (pc := 610) (gt_2 74 rfl) rfl).trans ?_
  refine (uk_ic (v := 2) (n := 66) (pc := 612) (gt_2 75 rfl) rfl).trans ?_
  refine (uk_ia (n := 65) (pc := 613) (gt_2 76 rfl)).trans ?_
  refine (uk_ix (n := 64) (pc := 614) (gt_2 77 rfl)).trans (uk_if ?_)
  refine (uk_cN (r := []) (n := 63) (pc := 615) (gt_2 78 rfl) cl_161 rt_76 rfl rfl rfl rfl rfl sh_0 (cx_m_hand_0 σ1 ((xs (v4 + 1).toNatClampNeg)) ((xs (v4 + 2).toNatClampNeg)))).trans (uk_cI fun r2 σ2 => ?_)
  refine (uk_is (M := [some (.ref 900), some (.ref 31), some (.ref 0), some (.ref 30), some (.int v4), some (.int r1), some (.int r2)]) (n := 62) (pc := 618) (gt_2 79 rfl) rfl rfl).trans ?_
  refine (uk_al (n := 61) (pc := 620) (gt_2 80 rfl) rfl).trans ?_
  refine (uk_cN (r := []) (n := 60) (pc := 621) (gt_2 81 rfl) cl_137 rt_1 rfl rfl rfl rfl rfl sh_0 (cx_m_thrown_0 σ2)).trans (uk_cI fun r3 σ3 => ?_)
  refine (uk_il (n := 59) (pc := 624) (gt_2 82 rfl) rfl).trans ?_
  refine (uk_jc (t := 631) (n := 58) (pc := 626) (gt_2 83 rfl) rfl).trans (uk_ite ?_ ?_)
  ·
    refine (uk_il (n := 57) (pc := 631) (gt_2 86 rfl) rfl).trans ?_
    refine (uk_jn (t := 648) (n := 56) (pc := 633) (gt_2 87 rfl) rfl).trans (uk_ite ?_ ?_)
    ·
      refine (uk_al (n := 55) (pc := 636) (gt_2 88 rfl) rfl).trans ?_
      refine (uk_ic (v := 0) (n := 54) (pc := 637) (gt_2 89 rfl) rfl).trans ?_
      refine (uk_la (q := 0) (n := 53) (pc := 638) (gt_2 90 rfl) ar_30 uk_in0 rfl).trans ?_
      refine (uk_il (n := 52) (pc := 639) (gt_2 91 rfl) rfl).trans ?_
      refine (uk_i2 (n := 51) (pc := 641) (gt_2 92 rfl)).trans ?_
      refine (uk_lcm (n := 50) (pc := 642) (gt_2 93 rfl)).trans ?_
      refine (uk_je (t := 648) (n := 49) (pc := 643) (gt_2 94 rfl) rfl).trans (uk_ite ?_ ?_)
      ·
        refine (uk_go (t := 2638) (n := 48) (pc := 648) (gt_2 97 rfl) rfl).trans ?_
        refine (uk_ii (v := 6) (M := [some (.ref 900), some (.ref 31), some (.ref 0), some (.ref 30), some (.int (v4 + 6)), some (.int r1), some (.int r2)]) (n := 47) (pc := 2638) (gt_15 85 rfl) rfl rfl rfl).trans ?_
        refine (uk_go (t := 23) (n := 46) (pc := 2641) (gt_15 86 rfl) rfl).trans ?_
        exact uk_kf (n := 45) (pc := 23) (gt_0 0 rfl) rfl
      ·
        refine (uk_ic (v := 0) (n := 48) (pc := 646) (gt_2 95 rfl) rfl).trans ?_
        exact uk_re (n := 47) (pc := 647) (gt_2 96 rfl) rt_12035 (Or.inl rfl)
    ·
      refine (uk_go (t := 2638) (n := 55) (pc := 648) (gt_2 97 rfl) rfl).trans ?_
      refine (uk_ii (v := 6) (M := [some (.ref 900), some (.ref 31), some (.ref 0), some (.ref 30), some (.int (v4 + 6)), some (.int r1), some (.int r2)]) (n := 54) (pc := 2638) (gt_15 85 rfl) rfl rfl rfl).trans ?_
      refine (uk_go (t := 23) (n := 53) (pc := 2641) (gt_15 86 rfl) rfl).trans ?_
      exact uk_kf (n := 52) (pc := 23) (gt_0 0 rfl) rfl
  ·
    refine (uk_ic (v := 0) (n := 57) (pc := 629) (gt_2 84 rfl) rfl).trans ?_
    exact uk_re (n := 56) (pc := 630) (gt_2 85 rfl) rt_12035 (Or.inl rfl)
set_option maxRecDepth 100000 in
theorem e_law_651 (Ls : Nat) (xs : Nat → Int32) (kf : en_K) (σ : en_S) (v4 : Int32) : en_uk bb_G bb_P bb_ML bb_HD Ls xs 12035 kf 89 651 [some (.ref 900), some (.ref 31), some (.ref 0), some (.ref 30), some (.int v4), none, none] [] σ =
    if en_in (v4 + 1) Ls then
      en_cI (x_lw_away_0 σ (xs (v4 + 1).toNatClampNeg)) (fun r2 σ1 =>
        if en_in (v4 + 1) Ls then
          en_cI (x_m_away_0 σ1 (xs (v4 + 1).toNatClampNeg)) (fun r4 σ3 =>
            en_cI (x_m_thrown_0 σ3) (fun r6 σ5 =>
              if r6 = r2 then
                if r2 = 0 then
                  if lg_cmp (σ5.2 30 0) r4.toInt64 = 0 then
                    kf 23 [some (.ref 900), some (.ref 31), some (.ref 0), some (.ref 30), some (.int (v4 + 6)), none, none] [] σ5
                  else
                    some (.inl (some (.int 0)), σ5)
                else
                  kf 23 [some (.ref 900), some (.ref 31), some (.ref 0), some (.ref 30), some (.int (v4 + 6)), none, none] [] σ5
              else
                some (.inl (some (.int 0)), σ5)) (fun _ _ => none)) (fun _ _ => none)
        else
          none) (fun _ _ => none)
    else
      none := by
  refine (uk_al (n := 88) (pc := 651) (gt_2 98 rfl) rfl).trans ?_
  refine (uk_al (n := 87) (pc := 652) (gt_2 99 rfl) rfl).trans ?_
  refine (uk_il (n := 86) (pc := 653) (gt_3 0 rfl) rfl).trans ?_
  refine (uk_ic (v := 1) (n := 85) (pc := 655) (gt_3 1 rfl) rfl).trans ?_
  refine (uk_ia (n := 84) (pc := 656) (gt_3 2 rfl)).trans ?_
  refine (uk_ix (n := 83) (pc := 657) (gt_3 3 rfl)).trans (uk_if ?_)
  refine (uk_al (n := 82) (pc := 658) (gt_3 4 rfl) rfl).trans ?_
  refine (uk_cS (r := []) (n := 81) (pc := 659) (gt_3 5 rfl) cl_162 rt_12005 rfl rfl rfl rfl rfl (cx_lw_away_0 σ ((xs (v4 + 1).toNatClampNeg)))).trans (uk_cI fun r1 σ1 => ?_)
  refine (uk_is (M := [some (.ref 900), some (.ref 31), some (.ref 0), some (.ref 30), some (.int v4), some (.int r1), none]) (n := 80) (pc := 662) (gt_3 6 rfl) rfl rfl).trans ?_
  refine (uk_al (n := 79) (pc := 664) (gt_3 7 rfl) rfl).trans ?_
  refine (uk_al (n := 78) (pc := 665) (gt_3 8 rfl) rfl).trans ?_
  refine (uk_il (n := 77) (pc := 666) (gt_3 9 rfl) rfl).trans ?_
  refine (uk_ic (v := 1) (n := 76) (pc := 668) (gt_3 10 rfl) rfl).trans ?_
  refine (uk_ia (n := 75) (pc := 669) (gt_3 11 rfl)).trans ?_
  refine (uk_ix (n := 74) (pc := 670) (gt_3 12 rfl)).trans (uk_if ?_)
  refine (uk_cN (r := []) (n := 73) (pc := 671) (gt_3 13 rfl) cl_164 rt_77 rfl rfl rfl rfl rfl sh_0 (cx_m_away_0 σ1 ((xs (v4 + 1).toNatClampNeg)))).trans (uk_cI fun r2 σ2 => ?_)
  refine (uk_is (M := [some (.ref 900), some (.ref 31), some (.ref 0), some (.ref 30), some (.int v4), some (.int r1), some (.int r2)]) (n := 72) (pc := 674) (gt_3 14 rfl) rfl rfl).trans ?_
  refine (uk_al (n := 71) (pc := 676) (gt_3 15 rfl) rfl).trans ?_
  refine (uk_cN (r := []) (n := 70) (pc := 677) (gt_3 16 rfl) cl_137 rt_1 rfl rfl rfl rfl rfl sh_0 (cx_m_thrown_0 σ2)).trans (uk_cI fun r3 σ3 => ?_)
  refine (uk_il (n := 69) (pc := 680) (gt_3 17 rfl) rfl).trans ?_
  refine (uk_jc (t := 687) (n := 68) (pc := 682) (gt_3 18 rfl) rfl).trans (uk_ite ?_ ?_)
  ·
    refine (uk_il (n := 67) (pc := 687) (gt_3 21 rfl) rfl).trans ?_
    refine (uk_jn (t := 704) (n := 66) (pc := 689) (gt_3 22 rfl) rfl).trans (uk_ite ?_ ?_)
    ·
      refine (uk_al (n := 65) (pc := 692) (gt_3 23 rfl) rfl).trans ?_
      refine (uk_ic (v := 0) (n := 64) (pc := 693) (gt_3 24 rfl) rfl).trans ?_
      refine (uk_la (q := 0) (n := 63) (pc := 694) (gt_3 25 rfl) ar_30 uk_in0 rfl).trans ?_
      refine (uk_il (n := 62) (pc := 695) (gt_3 26 rfl) rfl).trans ?_
      refine (uk_i2 (n := 61) (pc := 697) (gt_3 27 rfl)).trans ?_
      refine (uk_lcm (n := 60) (pc := 698) (gt_3 28 rfl)).trans ?_
      refine (uk_je (t := 704) (n := 59) (pc := 699) (gt_3 29 rfl) rfl).trans (uk_ite ?_ ?_)
      ·
        refine (uk_go (t := 2638) (n := 58) (pc := 704) (gt_3 32 rfl) rfl).trans ?_
        refine (uk_ii (v := 6) (M := [some (.ref 900), some (.ref 31), some (.ref 0), some (.ref 30), some (.int (v4 + 6)), some (.int r1), some (.int r2)]) (n := 57) (pc := 2638) (gt_15 85 rfl) rfl rfl rfl).trans ?_
        refine (uk_go (t := 23) (n := 56) (pc := 2641) (gt_15 86 rfl) rfl).trans ?_
        exact uk_kf (n := 55) (pc := 23) (gt_0 0 rfl) rfl
      ·
        refine (uk_ic (v := 0) (n := 58) (pc := 702) (gt_3 30 rfl) rfl).trans ?_
        exact uk_re (n := 57) (pc := 703) (gt_3 31 rfl) rt_12035 (Or.inl rfl)
    ·
      refine (uk_go (t := 2638) (n := 65) (pc := 704) (gt_3 32 rfl) rfl).trans ?_
      refine (uk_ii (v := 6) (M := [some (.ref 900), some (.ref 31), some (.ref 0), some (.ref 30), some (.int (v4 + 6)), some (.int r1), some (.int r2)]) (n := 64) (pc := 2638) (gt_15 85 rfl) rfl rfl rfl).trans ?_
      refine (uk_go (t := 23) (n := 63) (pc := 2641) (gt_15 86 rfl) rfl).trans ?_
      exact uk_kf (n := 62) (pc := 23) (gt_0 0 rfl) rfl
  ·
    refine (uk_ic (v := 0) (n := 67) (pc := 685) (gt_3 19 rfl) rfl).trans ?_
    exact uk_re (n := 66) (pc := 686) (gt_3 20 rfl) rt_12035 (Or.inl rfl)
set_option maxRecDepth 100000 in
theorem e_law_707 (Ls : Nat) (xs : Nat → Int32) (kf : en_K) (σ : en_S) (v4 : Int32) : en_uk bb_G bb_P bb_ML bb_HD Ls xs 12035 kf 89 707 [some (.ref 900), some (.ref 31), some (.ref 0), some (.ref 30), some (.int v4), none, none] [] σ =
    if en_in (v4 + 1) Ls then
      if en_in (v4 + 2) Ls then
        en_cI (x_lw_change_0 σ (xs (v4 + 1).toNatClampNeg) (xs (v4 + 2).toNatClampNeg)) (fun r2 σ1 =>
          if en_in (v4 + 1) Ls then
            if en_in (v4 + 2) Ls then
              en_cI (x_m_change_0 σ1 (xs (v4 + 1).toNatClampNeg) (xs (v4 + 2).toNatClampNeg)) (fun r4 σ3 =>
                en_cI (x_m_thrown_0 σ3) (fun r6 σ5 =>
                  if r6 = r2 then
                    if r2 = 0 then
                      if r4 = 0 then
                        if lg_cmp (σ5.2 30 0) 0 = 0 then
                          kf 23 [some (.ref 900), some (.ref 31), some (.ref 0), some (.ref 30), some (.int (v4 + 6)), none, none] [] σ5
                        else
                          some (.inl (some (.int 0)), σ5)
                      else
                        if lg_cmp (σ5.2 30 0) 1 = 0 then
                          kf 23 [some (.ref 900), some (.ref 31), some (.ref 0), some (.ref 30), some (.int (v4 + 6)), none, none] [] σ5
                        else
                          some (.inl (some (.int 0)), σ5)
                    else
                      kf 23 [some (.ref 900), some (.ref 31), some (.ref 0), some (.ref 30), some (.int (v4 + 6)), none, none] [] σ5
                  else
                    some (.inl (some (.int 0)), σ5)) (fun _ _ => none)) (fun _ _ => none)
            else
              none
          else
            none) (fun _ _ => none)
      else
        none
    else
      none := by
  refine (uk_al (n := 88) (pc := 707) (gt_3 33 rfl) rfl).trans ?_
  refine (uk_al (n := 87) (pc := 708) (gt_3 34 rfl) rfl).trans ?_
  refine (uk_il (n := 86) (pc := 709) (gt_3 35 rfl) rfl).trans ?_
  refine (uk_ic (v := 1) (n := 85) (pc := 711) (gt_3 36 rfl) rfl).trans ?_
  refine (uk_ia (n := 84) (pc := 712) (gt_3 37 rfl)).trans ?_
  refine (uk_ix (n := 83) (pc := 713) (gt_3 38 rfl)).trans (uk_if ?_)
  refine (uk_al (n := 82) (pc := 714) (gt_3 39 rfl) rfl).trans ?_
  refine (uk_il (n := 81) (pc := 715) (gt_3 40 rfl) rfl).trans ?_
  refine (uk_ic (v := 2) (n := 80) (pc := 717) (gt_3 41 rfl) rfl).trans ?_
  refine (uk_ia (n := 79) (pc := 718) (gt_3 42 rfl)).trans ?_
  refine (uk_ix (n := 78) (pc := 719) (gt_3 43 rfl)).trans (uk_if ?_)
  refine (uk_al (n := 77) (pc := 720) (gt_3 44 rfl) rfl).trans ?_
  refine (uk_cS (r := []) (n := 76) (pc := 721) (gt_3 45 rfl) cl_165 rt_12006 rfl rfl rfl rfl rfl (cx_lw_change_0 σ ((xs (v4 + 1).toNatClampNeg)) ((xs (v4 + 2).toNatClampNeg)))).trans (uk_cI fun r1 σ1 => ?_)
  refine (uk_is (M := [some (.ref 900), some (.ref 31), some (.ref 0), some (.ref 30), some (.int v4), some (.int r1), none]) (n := 75) (pc := 724) (gt_3 46 rfl) rfl rfl).trans ?_
  refine (uk_al (n := 74) (pc := 726) (gt_3 47 rfl) rfl).trans ?_
  refine (uk_al (n := 73) (pc := 727) (gt_3 48 rfl) rfl).trans ?_
  refine (uk_il (n := 72) (pc := 728) (gt_3 49 rfl) rfl).trans ?_
  refine (uk_ic (v := 1) (n := 71) (pc := 730) (gt_3 50 rfl) rfl).trans ?_
  refine (uk_ia (n := 70) (pc := 731) (gt_3 51 rfl)).trans ?_
  refine (uk_ix (n := 69) (pc := 732) (gt_3 52 rfl)).trans (uk_if ?_)
  refine (uk_al (n := 68) (pc := 733) (gt_3 53 rfl) rfl).trans ?_
  refine (uk_il (n := 67) (pc := 734) (gt_3 54 rfl) rfl).trans ?_
  refine (uk_ic (v := 2) (n := 66) (pc := 736) (gt_3 55 rfl) rfl).trans ?_
  refine (uk_ia (n := 65) (pc := 737) (gt_3 56 rfl)).trans ?_
  refine (uk_ix (n := 64) (pc := 738) (gt_3 57 rfl)).trans (uk_if ?_)
  refine (uk_cB (r := []) (n := 63) (pc := 739) (gt_3 58 rfl) cl_167 rt_78 rfl rfl rfl rfl rfl sh_0 (cx_m_change_0 σ1 ((xs (v4 + 1).toNatClampNeg)) ((xs (v4 + 2).toNatClampNeg)))).trans (uk_cI fun r2 σ2 => ?_)
  refine (uk_is (M := [some (.ref 900), some (.ref 31), some (.ref 0), some (.ref 30), some (.int v4), some (.int r1), some (.int r2)]) (n := 62) (pc := 742) (gt_3 59 rfl) rfl rfl).trans ?_
  refine (uk_al (n := 61) (pc := 744) (gt_3 60 rfl) rfl).trans ?_
  refine (uk_cN (r := []) (n := 60) (pc := 745) (gt_3 61 rfl) cl_137 rt_1 rfl rfl rfl rfl rfl sh_0 (cx_m_thrown_0 σ2)).trans (uk_cI fun r3 σ3 => ?_)
  refine (uk_il (n := 59) (pc := 748) (gt_3 62 rfl) rfl).trans ?_
  refine (uk_jc (t := 755) (n := 58) (pc := 750) (gt_3 63 rfl) rfl).trans (uk_ite ?_ ?_)
  ·
    refine (uk_il (n := 57) (pc := 755) (gt_3 66 rfl) rfl).trans ?_
    refine (uk_jn (t := 779) (n := 56) (pc := 757) (gt_3 67 rfl) rfl).trans (uk_ite ?_ ?_)
    ·
      refine (uk_al (n := 55) (pc := 760) (gt_3 68 rfl) rfl).trans ?_
      refine (uk_ic (v := 0) (n := 54) (pc := 761) (gt_3 69 rfl) rfl).trans ?_
      refine (uk_la (q := 0) (n := 53) (pc := 762) (gt_3 70 rfl) ar_30 uk_in0 rfl).trans ?_
      refine (uk_il (n := 52) (pc := 763) (gt_3 71 rfl) rfl).trans ?_
      refine (uk_je (t := 772) (n := 51) (pc := 765) (gt_3 72 rfl) rfl).trans (uk_ite ?_ ?_)
      ·
        refine (uk_lc (v := 0) (n := 50) (pc := 772) (gt_3 75 rfl) rfl).trans ?_
        refine (uk_lcm (n := 49) (pc := 773) (gt_3 76 rfl)).trans ?_
        refine (uk_je (t := 779) (n := 48) (pc := 774) (gt_3 77 rfl) rfl).trans (uk_ite ?_ ?_)
        ·
          refine (uk_go (t := 2638) (n := 47) (pc := 779) (gt_3 80 rfl) rfl).trans ?_
          refine (uk_ii (v := 6) (M := [some (.ref 900), some (.ref 31), some (.ref 0), some (.ref 30), some (.int (v4 + 6)), some (.int r1), some (.int r2)]) (n := 46) (pc := 2638) (gt_15 85 rfl) rfl rfl rfl).trans ?_
          refine (uk_go (t := 23) (n := 45) (pc := 2641) (gt_15 86 rfl) rfl).trans ?_
          exact uk_kf (n := 44) (pc := 23) (gt_0 0 rfl) rfl
        ·
          refine (uk_ic (v := 0) (n := 47) (pc := 777) (gt_3 78 rfl) rfl).trans ?_
          exact uk_re (n := 46) (pc := 778) (gt_3 79 rfl) rt_12035 (Or.inl rfl)
      ·
        refine (uk_lc (v := 1) (n := 50) (pc := 768) (gt_3 73 rfl) rfl).trans ?_
        refine (uk_go (t := 773) (n := 49) (pc := 769) (gt_3 74 rfl) rfl).trans ?_
        refine (uk_lcm (n := 48) (pc := 773) (gt_3 76 rfl)).trans ?_
        refine (uk_je (t := 779) (n := 47) (pc := 774) (gt_3 77 rfl) rfl).trans (uk_ite ?_ ?_)
        ·
          refine (uk_go (t := 2638) (n := 46) (pc := 779) (gt_3 80 rfl) rfl).trans ?_
          refine (uk_ii (v := 6) (M := [some (.ref 900), some (.ref 31), some (.ref 0), some (.ref 30), some (.int (v4 + 6)), some (.int r1), some (.int r2)]) (n := 45) (pc := 2638) (gt_15 85 rfl) rfl rfl rfl).trans ?_
          refine (uk_go (t := 23) (n := 44) (pc := 2641) (gt_15 86 rfl) rfl).trans ?_
          exact uk_kf (n := 43) (pc := 23) (gt_0 0 rfl) rfl
        ·
          refine (uk_ic (v := 0) (n := 46) (pc := 777) (gt_3 78 rfl) rfl).trans ?_
          exact uk_re (n := 45) (pc := 778) (gt_3 79 rfl) rt_12035 (Or.inl rfl)
    ·
      refine (uk_go (t := 2638) (n := 55) (pc := 779) (gt_3 80 rfl) rfl).trans ?_
      refine (uk_ii (v := 6) (M := [some (.ref 900), some (.ref 31), some (.ref 0), some (.ref 30), some (.int (v4 + 6)), some (.int r1), some (.int r2)]) (n := 54) (pc := 2638) (gt_15 85 rfl) rfl rfl rfl).trans ?_
      refine (uk_go (t := 23) (n := 53) (pc := 2641) (gt_15 86 rfl) rfl).trans ?_
      exact uk_kf (n := 52) (pc := 23) (gt_0 0 rfl) rfl
  ·
    refine (uk_ic (v := 0) (n := 57) (pc := 753) (gt_3 64 rfl) rfl).trans ?_
    exact uk_re (n := 56) (pc := 754) (gt_3 65 rfl) rt_12035 (Or.inl rfl)
set_option maxRecDepth 100000 in
theorem e_law_782 (Ls : Nat) (xs : Nat → Int32) (kf : en_K) (σ : en_S) (v4 : Int32) : en_uk bb_G bb_P bb_ML bb_HD Ls xs 12035 kf 89 782 [some (.ref 900), some (.ref 31), some (.ref 0), some (.ref 30), some (.int v4), none, none] [] σ =
    if en_in (v4 + 1) Ls then
      if en_in (v4 + 2) Ls then
        en_cI (x_lw_slander_0 σ (xs (v4 + 1).toNatClampNeg) (xs (v4 + 2).toNatClampNeg)) (fun r2 σ1 =>
          if en_in (v4 + 1) Ls then
            if en_in (v4 + 2) Ls then
              en_cI (x_m_slander_0 σ1 (xs (v4 + 1).toNatClampNeg) (xs (v4 + 2).toNatClampNeg)) (fun r4 σ3 =>
                en_cI (x_m_thrown_0 σ3) (fun r6 σ5 =>
                  if r6 = r2 then
                    if r2 = 0 then
                      if lg_cmp (σ5.2 30 0) r4.toInt64 = 0 then
                        kf 23 [some (.ref 900), some (.ref 31), some (.ref 0), some (.ref 30), some (.int (v4 + 6)), none, none] [] σ5
                      else
                        some (.inl (some (.int 0)), σ5)
                    else
                      kf 23 [some (.ref 900), some (.ref 31), some (.ref 0), some (.ref 30), some (.int (v4 + 6)), none, none] [] σ5
                  else
                    some (.inl (some (.int 0)), σ5)) (fun _ _ => none)) (fun _ _ => none)
            else
              none
          else
            none) (fun _ _ => none)
      else
        none
    else
      none := by
  refine (uk_al (n := 88) (pc := 782) (gt_3 81 rfl) rfl).trans ?_
  refine (uk_al (n := 87) (pc := 783) (gt_3 82 rfl) rfl).trans ?_
  refine (uk_il (n := 86) (pc := 784) (gt_3 83 rfl) rfl).trans ?_
  refine (uk_ic (v := 1) (n := 85) (pc := 786) (gt_3 84 rfl) rfl).trans ?_
  refine (uk_ia (n := 84) (pc := 787) (gt_3 85 rfl)).trans ?_
  refine (uk_ix (n := 83) (pc := 788) (gt_3 86 rfl)).trans (uk_if ?_)
  refine (uk_al (n := 82) (pc := 789) (gt_3 87 rfl) rfl).trans ?_
  refine (uk_il (n := 81) (pc := 790) (gt_3 88 rfl) rfl).trans ?_
  refine (uk_ic (v := 2) (n := 80) (pc := 792) (gt_3 89 rfl) rfl).trans ?_
  refine (uk_ia (n := 79) (pc := 793) (gt_3 90 rfl)).trans ?_
  refine (uk_ix (n := 78) (pc := 794) (gt_3 91 rfl)).trans (uk_if ?_)
  refine (uk_al (n := 77) (pc := 795) (gt_3 92 rfl) rfl).trans ?_
  refine (uk_cS (r := []) (n := 76) (pc := 796) (gt_3 93 rfl) cl_168 rt_12007 rfl rfl rfl rfl rfl (cx_lw_slander_0 σ ((xs (v4 + 1).toNatClampNeg)) ((xs (v4 + 2).toNatClampNeg)))).trans (uk_cI fun r1 σ1 => ?_)
  refine (uk_is (M := [some (.ref 900), some (.ref 31), some (.ref 0), some (.ref 30), some (.int v4), some (.int r1), none]) (n := 75) (pc := 799) (gt_3 94 rfl) rfl rfl).trans ?_
  refine (uk_al (n := 74) (pc := 801) (gt_3 95 rfl) rfl).trans ?_
  refine (uk_al (n := 73) (pc := 802) (gt_3 96 rfl) rfl).trans ?_
  refine (uk_il (n := 72) (pc := 803) (gt_3 97 rfl) rfl).trans ?_
  refine (uk_ic (v := 1) (n := 71) (pc := 805) (gt_3 98 rfl) rfl).trans ?_
  refine (uk_ia (n := 70) (pc := 806) (gt_3 99 rfl)).trans ?_
  refine (uk_ix (n := 69) (pc := 807) (gt_4 0 rfl)).trans (uk_if ?_)
  refine (uk_al (n := 68) (pc := 808) (gt_4 1 rfl) rfl).trans ?_
  refine (uk_il (n := 67) (pc := 809) (gt_4 2 rfl) rfl).trans ?_
  refine (uk_ic (v := 2) (n := 66) (pc := 811) (gt_4 3 rfl) rfl).trans ?_
  refine (uk_ia (n := 65) (pc := 812) (gt_4 4 rfl)).trans ?_
  refine (uk_ix (n := 64) (pc := 813) (gt_4 5 rfl)).trans (uk_if ?_)
  refine (uk_cN (r := []) (n := 63) (pc := 814) (gt_4 6 rfl) cl_170 rt_80 rfl rfl rfl rfl rfl sh_0 (cx_m_slander_0 σ1 ((xs (v4 + 1).toNatClampNeg)) ((xs (v4 + 2).toNatClampNeg)))).trans (uk_cI fun r2 σ2 => ?_)
  refine (uk_is (M := [some (.ref 900), some (.ref 31), some (.ref 0), some (.ref 30), some (.int v4), some (.int r1), some (.int r2)]) (n := 62) (pc := 817) (gt_4 7 rfl) rfl rfl).trans ?_
  refine (uk_al (n := 61) (pc := 819) (gt_4 8 rfl) rfl).trans ?_
  refine (uk_cN (r := []) (n := 60) (pc := 820) (gt_4 9 rfl) cl_137 rt_1 rfl rfl rfl rfl rfl sh_0 (cx_m_thrown_0 σ2)).trans (uk_cI fun r3 σ3 => ?_)
  refine (uk_il (n := 59) (pc := 823) (gt_4 10 rfl) rfl).trans ?_
  refine (uk_jc (t := 830) (n := 58) (pc := 825) (gt_4 11 rfl) rfl).trans (uk_ite ?_ ?_)
  ·
    refine (uk_il (n := 57) (pc := 830) (gt_4 14 rfl) rfl).trans ?_
    refine (uk_jn (t := 847) (n := 56) (pc := 832) (gt_4 15 rfl) rfl).trans (uk_ite ?_ ?_)
    ·
      refine (uk_al (n := 55) (pc := 835) (gt_4 16 rfl) rfl).trans ?_
      refine (uk_ic (v := 0) (n := 54) (pc := 836) (gt_4 17 rfl) rfl).trans ?_
      refine (uk_la (q := 0) (n := 53) (pc := 837) (gt_4 18 rfl) ar_30 uk_in0 rfl).trans ?_
      refine (uk_il (n := 52) (pc := 838) (gt_4 19 rfl) rfl).trans ?_
      refine (uk_i2 (n := 51) (pc := 840) (gt_4 20 rfl)).trans ?_
      refine (uk_lcm (n := 50) (pc := 841) (gt_4 21 rfl)).trans ?_
      refine (uk_je (t := 847) (n := 49) (pc := 842) (gt_4 22 rfl) rfl).trans (uk_ite ?_ ?_)
      ·
        refine (uk_go (t := 2638) (n := 48) (pc := 847) (gt_4 25 rfl) rfl).trans ?_
        refine (uk_ii (v := 6) (M := [some (.ref 900), some (.ref 31), some (.ref 0), some (.ref 30), some (.int (v4 + 6)), some (.int r1), some (.int r2)]) (n := 47) (pc := 2638) (gt_15 85 rfl) rfl rfl rfl).trans ?_
        refine (uk_go (t := 23) (n := 46) (pc := 2641) (gt_15 86 rfl) rfl).trans ?_
        exact uk_kf (n := 45) (pc := 23) (gt_0 0 rfl) rfl
      ·
        refine (uk_ic (v := 0) (n := 48) (pc := 845) (gt_4 23 rfl) rfl).trans ?_
        exact uk_re (n := 47) (pc := 846) (gt_4 24 rfl) rt_12035 (Or.inl rfl)
    ·
      refine (uk_go (t := 2638) (n := 55) (pc := 847) (gt_4 25 rfl) rfl).trans ?_
      refine (uk_ii (v := 6) (M := [some (.ref 900), some (.ref 31), some (.ref 0), some (.ref 30), some (.int (v4 + 6)), some (.int r1), some (.int r2)]) (n := 54) (pc := 2638) (gt_15 85 rfl) rfl rfl rfl).trans ?_
      refine (uk_go (t := 23) (n := 53) (pc := 2641) (gt_15 86 rfl) rfl).trans ?_
      exact uk_kf (n := 52) (pc := 23) (gt_0 0 rfl) rfl
  ·
    refine (uk_ic (v := 0) (n := 57) (pc := 828) (gt_4 12 rfl) rfl).trans ?_
    exact uk_re (n := 56) (pc := 829) (gt_4 13 rfl) rt_12035 (Or.inl rfl)
set_option maxRecDepth 100000 in
theorem e_law_850 (Ls : Nat) (xs : Nat → Int32) (kf : en_K) (σ : en_S) (v4 : Int32) : en_uk bb_G bb_P bb_ML bb_HD Ls xs 12035 kf 89 850 [some (.ref 900), some (.ref 31), some (.ref 0), some (.ref 30), some (.int v4), none, none] [] σ =
    if en_in (v4 + 1) Ls then
      if en_in (v4 + 2) Ls then
        en_cI (x_lw_praise_0 σ (xs (v4 + 1).toNatClampNeg) (xs (v4 + 2).toNatClampNeg)) (fun r2 σ1 =>
          if en_in (v4 + 1) Ls then
            if en_in (v4 + 2) Ls then
              en_cI (x_m_praise_0 σ1 (xs (v4 + 1).toNatClampNeg) (xs (v4 + 2).toNatClampNeg)) (fun r4 σ3 =>
                en_cI (x_m_thrown_0 σ3) (fun r6 σ5 =>
                  if r6 = r2 then
                    if r2 = 0 then
                      if lg_cmp (σ5.2 30 0) r4.toInt64 = 0 then
                        kf 23 [some (.ref 900), some (.ref 31), some (.ref 0), some (.ref 30), some (.int (v4 + 6)), none, none] [] σ5
                      else
                        some (.inl (some (.int 0)), σ5)
                    else
                      kf 23 [some (.ref 900), some (.ref 31), some (.ref 0), some (.ref 30), some (.int (v4 + 6)), none, none] [] σ5
                  else
                    some (.inl (some (.int 0)), σ5)) (fun _ _ => none)) (fun _ _ => none)
            else
              none
          else
            none) (fun _ _ => none)
      else
        none
    else
      none := by
  refine (uk_al (n := 88) (pc := 850) (gt_4 26 rfl) rfl).trans ?_
  refine (uk_al (n := 87) (pc := 851) (gt_4 27 rfl) rfl).trans ?_
  refine (uk_il (n := 86) (pc := 852) (gt_4 28 rfl) rfl).trans ?_
  refine (uk_ic (v := 1) (n := 85) (pc := 854) (gt_4 29 rfl) rfl).trans ?_
  refine (uk_ia (n := 84) (pc := 855) (gt_4 30 rfl)).trans ?_
  refine (uk_ix (n := 83) (pc := 856) (gt_4 31 rfl)).trans (uk_if ?_)
  refine (uk_al (n := 82) (pc := 857) (gt_4 32 rfl) rfl).trans ?_
  refine (uk_il (n := 81) (pc := 858) (gt_4 33 rfl) rfl).trans ?_
  refine (uk_ic (v := 2) (n := 80) (pc := 860) (gt_4 34 rfl) rfl).trans ?_
  refine (uk_ia (n := 79) (pc := 861) (gt_4 35 rfl)).trans ?_
  refine (uk_ix (n := 78) (pc := 862) (gt_4 36 rfl)).trans (uk_if ?_)
  refine (uk_al (n := 77) (pc := 863) (gt_4 37 rfl) rfl).trans ?_
  refine (uk_cS (r := []) (n := 76) (pc := 864) (gt_4 38 rfl) cl_171 rt_12008 rfl rfl rfl rfl rfl (cx_lw_praise_0 σ ((xs (v4 + 1).toNatClampNeg)) ((xs (v4 + 2).toNatClampNeg)))).trans (uk_cI fun r1 σ1 => ?_)
  refine (uk_is (M := [some (.ref 900), some (.ref 31), some (.ref 0), some (.ref 30), some (.int v4), some (.int r1), none]) (n := 75) (pc := 867) (gt_4 39 rfl) rfl rfl).trans ?_
  refine (uk_al (n := 74) (pc := 869) (gt_4 40 rfl) rfl).trans ?_
  refine (uk_al (n := 73) (pc := 870) (gt_4 41 rfl) rfl).trans ?_
  refine (uk_il (n := 72) (pc := 871) (gt_4 42 rfl) rfl).trans ?_
  refine (uk_ic (v := 1) (n := 71) (pc := 873) (gt_4 43 rfl) rfl).trans ?_
  refine (uk_ia (n := 70) (pc := 874) (gt_4 44 rfl)).trans ?_
  refine (uk_ix (n := 69) (pc := 875) (gt_4 45 rfl)).trans (uk_if ?_)
  refine (uk_al (n := 68) (pc := 876) (gt_4 46 rfl) rfl).trans ?_
  refine (uk_il (n := 67) (pc := 877) (gt_4 47 rfl) rfl).trans ?_
  refine (uk_ic (v := 2) (n := 66) (pc := 879) (gt_4 48 rfl) rfl).trans ?_
  refine (uk_ia (n := 65) (pc := 880) (gt_4 49 rfl)).trans ?_
  refine (uk_ix (n := 64) (pc := 881) (gt_4 50 rfl)).trans (uk_if ?_)
  refine (uk_cN (r := []) (n := 63) (pc := 882) (gt_4 51 rfl) cl_173 rt_81 rfl rfl rfl rfl rfl sh_0 (cx_m_praise_0 σ1 ((xs (v4 + 1).toNatClampNeg)) ((xs (v4 + 2).toNatClampNeg)))).trans (uk_cI fun r2 σ2 => ?_)
  refine (uk_is (M := [some (.ref 900), some (.ref 31), some (.ref 0), some (.ref 30), some (.int v4), some (.int r1), some (.int r2)]) (n := 62) (pc := 885) (gt_4 52 rfl) rfl rfl).trans ?_
  refine (uk_al (n := 61) (pc := 887) (gt_4 53 rfl) rfl).trans ?_
  refine (uk_cN (r := []) (n := 60) (pc := 888) (gt_4 54 rfl) cl_137 rt_1 rfl rfl rfl rfl rfl sh_0 (cx_m_thrown_0 σ2)).trans (uk_cI fun r3 σ3 => ?_)
  refine (uk_il (n := 59) (pc := 891) (gt_4 55 rfl) rfl).trans ?_
  refine (uk_jc (t := 898) (n := 58) (pc := 893) (gt_4 56 rfl) rfl).trans (uk_ite ?_ ?_)
  ·
    refine (uk_il (n := 57) (pc := 898) (gt_4 59 rfl) rfl).trans ?_
    refine (uk_jn (t := 915) (n := 56) (pc := 900) (gt_4 60 rfl) rfl).trans (uk_ite ?_ ?_)
    ·
      refine (uk_al (n := 55) (pc := 903) (gt_4 61 rfl) rfl).trans ?_
      refine (uk_ic (v := 0) (n := 54) (pc := 904) (gt_4 62 rfl) rfl).trans ?_
      refine (uk_la (q := 0) (n := 53) (pc := 905) (gt_4 63 rfl) ar_30 uk_in0 rfl).trans ?_
      refine (uk_il (n := 52) (pc := 906) (gt_4 64 rfl) rfl).trans ?_
      refine (uk_i2 (n := 51) (pc := 908) (gt_4 65 rfl)).trans ?_
      refine (uk_lcm (n := 50) (pc := 909) (gt_4 66 rfl)).trans ?_
      refine (uk_je (t := 915) (n := 49) (pc := 910) (gt_4 67 rfl) rfl).trans (uk_ite ?_ ?_)
      ·
        refine (uk_go (t := 2638) (n := 48) (pc := 915) (gt_4 70 rfl) rfl).trans ?_
        refine (uk_ii (v := 6) (M := [some (.ref 900), some (.ref 31), some (.ref 0), some (.ref 30), some (.int (v4 + 6)), some (.int r1), some (.int r2)]) (n := 47) (pc := 2638) (gt_15 85 rfl) rfl rfl rfl).trans ?_
        refine (uk_go (t := 23) (n := 46) (pc := 2641) (gt_15 86 rfl) rfl).trans ?_
        exact uk_kf (n := 45) (pc := 23) (gt_0 0 rfl) rfl
      ·
        refine (uk_ic (v := 0) (n := 48) (pc := 913) (gt_4 68 rfl) rfl).trans ?_
        exact uk_re (n := 47) (pc := 914) (gt_4 69 rfl) rt_12035 (Or.inl rfl)
    ·
      refine (uk_go (t := 2638) (n := 55) (pc := 915) (gt_4 70 rfl) rfl).trans ?_
      refine (uk_ii (v := 6) (M := [some (.ref 900), some (.ref 31), some (.ref 0), some (.ref 30), some (.int (v4 + 6)), some (.int r1), some (.int r2)]) (n := 54) (pc := 2638) (gt_15 85 rfl) rfl rfl rfl).trans ?_
      refine (uk_go (t := 23) (n := 53) (pc := 2641) (gt_15 86 rfl) rfl).trans ?_
      exact uk_kf (n := 52) (pc := 23) (gt_0 0 rfl) rfl
  ·
    refine (uk_ic (v := 0) (n := 57) (pc := 896) (gt_4 57 rfl) rfl).trans ?_
    exact uk_re (n := 56) (pc := 897) (gt_4 58 rfl) rt_12035 (Or.inl rfl)
set_option maxRecDepth 100000 in
theorem e_law_918 (Ls : Nat) (xs : Nat → Int32) (kf : en_K) (σ : en_S) (v4 : Int32) : en_uk bb_G bb_P bb_ML bb_HD Ls xs 12035 kf 89 918 [some (.ref 900), some (.ref 31), some (.ref 0), some (.ref 30), some (.int v4), none, none] [] σ =
    en_cI (x_b_undo_0 σ) (fun r2 σ1 =>
      en_cI (x_m_undo_0 σ1) (fun r4 σ3 =>
        if r2 = r4 then
          kf 23 [some (.ref 900), some (.ref 31), some (.ref 0), some (.ref 30), some (.int (v4 + 6)), none, none] [] σ3
        else
          some (.inl (some (.int 0)), σ3)) (fun _ _ => none)) (fun _ _ => none) := by
  refine (uk_al (n := 88) (pc := 918) (gt_4 71 rfl) rfl).trans ?_
  refine (uk_cN (r := []) (n := 87) (pc := 919) (gt_4 72 rfl) cl_174 rt_10013 rfl rfl rfl rfl rfl sh_31 (cx_b_undo_0 σ)).trans (uk_cI fun r1 σ1 => ?_)
  refine (uk_al (n := 86) (pc := 922) (gt_4 73 rfl) rfl).trans ?_
  refine (uk_cN (r := [.int r1]) (n := 85) (pc := 923) (gt_4 74 rfl) cl_177 rt_45 rfl rfl rfl rfl rfl sh_0 (cx_m_undo_0 σ1)).trans (uk_cI fun r2 σ2 => ?_)
  refine (uk_jc (t := 2638) (n := 84) (pc := 926) (gt_4 75 rfl) rfl).trans (uk_ite ?_ ?_)
  ·
    refine (uk_ii (v := 6) (M := [some (.ref 900), some (.ref 31), some (.ref 0), some (.ref 30), some (.int (v4 + 6)), none, none]) (n := 83) (pc := 2638) (gt_15 85 rfl) rfl rfl rfl).trans ?_
    refine (uk_go (t := 23) (n := 82) (pc := 2641) (gt_15 86 rfl) rfl).trans ?_
    exact uk_kf (n := 81) (pc := 23) (gt_0 0 rfl) rfl
  ·
    refine (uk_ic (v := 0) (n := 83) (pc := 929) (gt_4 76 rfl) rfl).trans ?_
    exact uk_re (n := 82) (pc := 930) (gt_4 77 rfl) rt_12035 (Or.inl rfl)
set_option maxRecDepth 100000 in
theorem e_law_931 (Ls : Nat) (xs : Nat → Int32) (kf : en_K) (σ : en_S) (v4 : Int32) : en_uk bb_G bb_P bb_ML bb_HD Ls xs 12035 kf 89 931 [some (.ref 900), some (.ref 31), some (.ref 0), some (.ref 30), some (.int v4), none, none] [] σ =
    if en_in (v4 + 1) Ls then
      if en_in (v4 + 2) Ls then
        if en_in (v4 + 3) Ls then
          en_cI (x_lw_then_0 σ (xs (v4 + 1).toNatClampNeg) (xs (v4 + 2).toNatClampNeg) (xs (v4 + 3).toNatClampNeg)) (fun r2 σ1 =>
            if en_in (v4 + 1) Ls then
              if en_in (v4 + 2) Ls then
                if en_in (v4 + 3) Ls then
                  en_cI (x_m_then_0 σ1 (xs (v4 + 1).toNatClampNeg) (xs (v4 + 2).toNatClampNeg) (xs (v4 + 3).toNatClampNeg)) (fun r4 σ3 =>
                    en_cI (x_m_thrown_0 σ3) (fun r6 σ5 =>
                      if r6 = r2 then
                        if r2 = 0 then
                          if lg_cmp (σ5.2 30 0) r4.toInt64 = 0 then
                            kf 23 [some (.ref 900), some (.ref 31), some (.ref 0), some (.ref 30), some (.int (v4 + 6)), none, none] [] σ5
                          else
                            some (.inl (some (.int 0)), σ5)
                        else
                          kf 23 [some (.ref 900), some (.ref 31), some (.ref 0), some (.ref 30), some (.int (v4 + 6)), none, none] [] σ5
                      else
                        some (.inl (some (.int 0)), σ5)) (fun _ _ => none)) (fun _ _ => none)
                else
                  none
              else
                none
            else
              none) (fun _ _ => none)
        else
          none
      else
        none
    else
      none := by
  refine (uk_al (n := 88) (pc := 931) (gt_4 78 rfl) rfl).trans ?_
  refine (uk_al (n := 87) (pc := 932) (gt_4 79 rfl) rfl).trans ?_
  refine (uk_il (n := 86) (pc := 933) (gt_4 80 rfl) rfl).trans ?_
  refine (uk_ic (v := 1) (n := 85) (pc := 935) (gt_4 81 rfl) rfl).trans ?_
  refine (uk_ia (n := 84) (pc := 936) (gt_4 82 rfl)).trans ?_
  refine (uk_ix (n := 83) (pc := 937) (gt_4 83 rfl)).trans (uk_if ?_)
  refine (uk_al (n := 82) (pc := 938) (gt_4 84 rfl) rfl).trans ?_
  refine (uk_il (n := 81) (pc := 939) (gt_4 85 rfl) rfl).trans ?_
  refine (uk_ic (v := 2) (n := 80) (pc := 941) (gt_4 86 rfl) rfl).trans ?_
  refine (uk_ia (n := 79) (pc := 942) (gt_4 87 rfl)).trans ?_
  refine (uk_ix (n := 78) (pc := 943) (gt_4 88 rfl)).trans (uk_if ?_)
  refine (uk_al (n := 77) (pc := 944) (gt_4 89 rfl) rfl).trans ?_
  refine (uk_il (n := 76) (pc := 945) (gt_4 90 rfl) rfl).trans ?_
  refine (uk_ic (v := 3) (n := 75) (pc := 947) (gt_4 91 rfl) rfl).trans ?_
  refine (uk_ia (n := 74) (pc := 948) (gt_4 92 rfl)).trans ?_
  refine (uk_ix (n := 73) (pc := 949) (gt_4 93 rfl)).trans (uk_if ?_)
  refine (uk_al (n := 72) (pc := 950) (gt_4 94 rfl) rfl).trans ?_
  refine (uk_cS (r := []) (n := 71) (pc := 951) (gt_4 95 rfl) cl_178 rt_12009 rfl rfl rfl rfl rfl (cx_lw_then_0 σ ((xs (v4 + 1).toNatClampNeg)) ((xs (v4 + 2).toNatClampNeg)) ((xs (v4 + 3).toNatClampNeg)))).trans (uk_cI fun r1 σ1 => ?_)
  refine (uk_is (M := [some (.ref 900), some (.ref 31), some (.ref 0), some (.ref 30), some (.int v4), some (.int r1), none]) (n := 70) (pc := 954) (gt_4 96 rfl) rfl rfl).trans ?_
  refine (uk_al (n := 69) (pc := 956) (gt_4 97 rfl) rfl).trans ?_
  refine (uk_al (n := 68) (pc := 957) (gt_4 98 rfl) rfl).trans ?_
  refine (uk_il (n := 67) (pc := 958) (gt_4 99 rfl) rfl).trans ?_
  refine (uk_ic (v := 1) (n := 66) (pc := 960) (gt_5 0 rfl) rfl).trans ?_
  refine (uk_ia (n := 65) (pc := 961) (gt_5 1 rfl)).trans ?_
  refine (uk_ix (n := 64) (pc := 962) (gt_5 2 rfl)).trans (uk_if ?_)
  refine (uk_al (n := 63) (pc := 963) (gt_5 3 rfl) rfl).trans ?_
  refine (uk_il (n := 62) (pc := 964) (gt_5 4 rfl) rfl).trans ?_
  refine (uk_ic (v := 2) (n := 61) (pc := 966) (gt_5 5 rfl) rfl).trans ?_
  refine (uk_ia (n := 60) (pc := 967) (gt_5 6 rfl)).trans ?_
  refine (uk_ix (n := 59) (pc := 968) (gt_5 7 rfl)).trans (uk_if ?_)
  refine (uk_al (n := 58) (pc := 969) (gt_5 8 rfl) rfl).trans ?_
  refine (uk_il (n := 57) (pc := 970) (gt_5 9 rfl) rfl).trans ?_
  refine (uk_ic (v := 3) (n := 56) (pc := 972) (gt_5 10 rfl) rfl).trans ?_
  refine (uk_ia (n := 55) (pc := 973) (gt_5 11 rfl)).trans ?_
  refine (uk_ix (n := 54) (pc := 974) (gt_5 12 rfl)).trans (uk_if ?_)
  refine (uk_cN (r := []) (n := 53) (pc := 975) (gt_5 13 rfl) cl_181 rt_83 rfl rfl rfl rfl rfl sh_0 (cx_m_then_0 σ1 ((xs (v4 + 1).toNatClampNeg)) ((xs (v4 + 2).toNatClampNeg)) ((xs (v4 + 3).toNatClampNeg)))).trans (uk_cI fun r2 σ2 => ?_)
  refine (uk_is (M := [some (.ref 900), some (.ref 31), some (.ref 0), some (.ref 30), some (.int v4), some (.int r1), some (.int r2)]) (n := 52) (pc := 978) (gt_5 14 rfl) rfl rfl).trans ?_
  refine (uk_al (n := 51) (pc := 980) (gt_5 15 rfl) rfl).trans ?_
  refine (uk_cN (r := []) (n := 50) (pc := 981) (gt_5 16 rfl) cl_137 rt_1 rfl rfl rfl rfl rfl sh_0 (cx_m_thrown_0 σ2)).trans (uk_cI fun r3 σ3 => ?_)
  refine (uk_il (n := 49) (pc := 984) (gt_5 17 rfl) rfl).trans ?_
  refine (uk_jc (t := 991) (n := 48) (pc := 986) (gt_5 18 rfl) rfl).trans (uk_ite ?_ ?_)
  ·
    refine (uk_il (n := 47) (pc := 991) (gt_5 21 rfl) rfl).trans ?_
    refine (uk_jn (t := 1008) (n := 46) (pc := 993) (gt_5 22 rfl) rfl).trans (uk_ite ?_ ?_)
    ·
      refine (uk_al (n := 45) (pc := 996) (gt_5 23 rfl) rfl).trans ?_
      refine (uk_ic (v := 0) (n := 44) (pc := 997) (gt_5 24 rfl) rfl).trans ?_
      refine (uk_la (q := 0) (n := 43) (pc := 998) (gt_5 25 rfl) ar_30 uk_in0 rfl).trans ?_
      refine (uk_il (n := 42) (pc := 999) (gt_5 26 rfl) rfl).trans ?_
      refine (uk_i2 (n := 41) (pc := 1001) (gt_5 27 rfl)).trans ?_
      refine (uk_lcm (n := 40) (pc := 1002) (gt_5 28 rfl)).trans ?_
      refine (uk_je (t := 1008) (n := 39) (pc := 1003) (gt_5 29 rfl) rfl).trans (uk_ite ?_ ?_)
      ·
        refine (uk_go (t := 2638) (n := 38) (pc := 1008) (gt_5 32 rfl) rfl).trans ?_
        refine (uk_ii (v := 6) (M := [some (.ref 900), some (.ref 31), some (.ref 0), some (.ref 30), some (.int (v4 + 6)), some (.int r1), some (.int r2)]) (n := 37) (pc := 2638) (gt_15 85 rfl) rfl rfl rfl).trans ?_
        refine (uk_go (t := 23) (n := 36) (pc := 2641) (gt_15 86 rfl) rfl).trans ?_
        exact uk_kf (n := 35) (pc := 23) (gt_0 0 rfl) rfl
      ·
        refine (uk_ic (v := 0) (n := 38) (pc := 1006) (gt_5 30 rfl) rfl).trans ?_
        exact uk_re (n := 37) (pc := 1007) (gt_5 31 rfl) rt_12035 (Or.inl rfl)
    ·
      refine (uk_go (t := 2638) (n := 45) (pc := 1008) (gt_5 32 rfl) rfl).trans ?_
      refine (uk_ii (v := 6) (M := [some (.ref 900), some (.ref 31), some (.ref 0), some (.ref 30), some (.int (v4 + 6)), some (.int r1), some (.int r2)]) (n := 44) (pc := 2638) (gt_15 85 rfl) rfl rfl rfl).trans ?_
      refine (uk_go (t := 23) (n := 43) (pc := 2641) (gt_15 86 rfl) rfl).trans ?_
      exact uk_kf (n := 42) (pc := 23) (gt_0 0 rfl) rfl
  ·
    refine (uk_ic (v := 0) (n := 47) (pc := 989) (gt_5 19 rfl) rfl).trans ?_
    exact uk_re (n := 46) (pc := 990) (gt_5 20 rfl) rt_12035 (Or.inl rfl)
set_option maxRecDepth 100000 in
theorem e_law_1011 (Ls : Nat) (xs : Nat → Int32) (kf : en_K) (σ : en_S) (v4 : Int32) : en_uk bb_G bb_P bb_ML bb_HD Ls xs 12035 kf 89 1011 [some (.ref 900), some (.ref 31), some (.ref 0), some (.ref 30), some (.int v4), none, none] [] σ =
    if en_in (v4 + 1) Ls then
      if en_in (v4 + 2) Ls then
        if en_in (v4 + 3) Ls then
          en_cI (x_lw_who_0 σ (xs (v4 + 1).toNatClampNeg) (xs (v4 + 2).toNatClampNeg) (xs (v4 + 3).toNatClampNeg)) (fun r2 σ1 =>
            if en_in (v4 + 1) Ls then
              if en_in (v4 + 2) Ls then
                if en_in (v4 + 3) Ls then
                  en_cI (x_m_who_0 σ1 (xs (v4 + 1).toNatClampNeg) (xs (v4 + 2).toNatClampNeg) (xs (v4 + 3).toNatClampNeg)) (fun r4 σ3 =>
                    en_cI (x_m_thrown_0 σ3) (fun r6 σ5 =>
                      if r6 = r2 then
                        if r2 = 0 then
                          if lg_cmp (σ5.2 30 0) r4.toInt64 = 0 then
                            kf 23 [some (.ref 900), some (.ref 31), some (.ref 0), some (.ref 30), some (.int (v4 + 6)), none, none] [] σ5
                          else
                            some (.inl (some (.int 0)), σ5)
                        else
                          kf 23 [some (.ref 900), some (.ref 31), some (.ref 0), some (.ref 30), some (.int (v4 + 6)), none, none] [] σ5
                      else
                        some (.inl (some (.int 0)), σ5)) (fun _ _ => none)) (fun _ _ => none)
                else
                  none
              else
                none
            else
              none) (fun _ _ => none)
        else
          none
      else
        none
    else
      none := by
  refine (uk_al (n := 88) (pc := 1011) (gt_5 33 rfl) rfl).trans ?_
  refine (uk_al (n := 87) (pc := 1012) (gt_5 34 rfl) rfl).trans ?_
  refine (uk_il (n := 86) (pc := 1013) (gt_5 35 rfl) rfl).trans ?_
  refine (uk_ic (v := 1) (n := 85) (pc := 1015) (gt_5 36 rfl) rfl).trans ?_
  refine (uk_ia (n := 84) (pc := 1016) (gt_5 37 rfl)).trans ?_
  refine (uk_ix (n := 83) (pc := 1017) (gt_5 38 rfl)).trans (uk_if ?_)
  refine (uk_al (n := 82) (pc := 1018) (gt_5 39 rfl) rfl).trans ?_
  refine (uk_il (n := 81) (pc := 1019) (gt_5 40 rfl) rfl).trans ?_
  refine (uk_ic (v := 2) (n := 80) (pc := 1021) (gt_5 41 rfl) rfl).trans ?_
  refine (uk_ia (n := 79) (pc := 1022) (gt_5 42 rfl)).trans ?_
  refine (uk_ix (n := 78) (pc := 1023) (gt_5 43 rfl)).trans (uk_if ?_)
  refine (uk_al (n := 77) (pc := 1024) (gt_5 44 rfl) rfl).trans ?_
  refine (uk_il (n := 76) (pc := 1025) (gt_5 45 rfl) rfl).trans ?_
  refine (uk_ic (v := 3) (n := 75) (pc := 1027) (gt_5 46 rfl) rfl).trans ?_
  refine (uk_ia (n := 74) (pc := 1028) (gt_5 47 rfl)).trans ?_
  refine (uk_ix (n := 73) (pc := 1029) (gt_5 48 rfl)).trans (uk_if ?_)
  refine (uk_al (n := 72) (pc := 1030) (gt_5 49 rfl) rfl).trans ?_
  refine (uk_cS (r := []) (n := 71) (pc := 1031) (gt_5 50 rfl) cl_182 rt_12010 rfl rfl rfl rfl rfl (cx_lw_who_0 σ ((xs (v4 + 1).toNatClampNeg)) ((xs (v4 + 2).toNatClampNeg)) ((xs (v4 + 3).toNatClampNeg)))).trans (uk_cI fun r1 σ1 => ?_)
  refine (uk_is (M := [some (.ref 900), some (.ref 31), some (.ref 0), some (.ref 30), some (.int v4), some (.int r1), none]) (n := 70) (pc := 1034) (gt_5 51 rfl) rfl rfl).trans ?_
  refine (uk_al (n := 69) (pc := 1036) (gt_5 52 rfl) rfl).trans ?_
  refine (uk_al (n := 68) (pc := 1037) (gt_5 53 rfl) rfl).trans ?_
  refine (uk_il (n := 67) (pc := 1038) (gt_5 54 rfl) rfl).trans ?_
  refine (uk_ic (v := 1) (n := 66) (pc := 1040) (gt_5 55 rfl) rfl).trans ?_
  refine (uk_ia (n := 65) (pc := 1041) (gt_5 56 rfl)).trans ?_
  refine (uk_ix (n := 64) (pc := 1042) (gt_5 57 rfl)).trans (uk_if ?_)
  refine (uk_al (n := 63) (pc := 1043) (gt_5 58 rfl) rfl).trans ?_
  refine (uk_il (n := 62) (pc := 1044) (gt_5 59 rfl) rfl).trans ?_
  refine (uk_ic (v := 2) (n := 61) (pc := 1046) (gt_5 60 rfl) rfl).trans ?_
  refine (uk_ia (n := 60) (pc := 1047) (gt_5 61 rfl)).trans ?_
  refine (uk_ix (n := 59) (pc := 1048) (gt_5 62 rfl)).trans (uk_if ?_)
  refine (uk_al (n := 58) (pc := 1049) (gt_5 63 rfl) rfl).trans ?_
  refine (uk_il (n := 57) (pc := 1050) (gt_5 64 rfl) rfl).trans ?_
  refine (uk_ic (v := 3) (n := 56) (pc := 1052) (gt_5 65 rfl) rfl).trans ?_
  refine (uk_ia (n := 55) (pc := 1053) (gt_5 66 rfl)).trans ?_
  refine (uk_ix (n := 54) (pc := 1054) (gt_5 67 rfl)).trans (uk_if ?_)
  refine (uk_cN (r := []) (n := 53) (pc := 1055) (gt_5 68 rfl) cl_184 rt_84 rfl rfl rfl rfl rfl sh_0 (cx_m_who_0 σ1 ((xs (v4 + 1).toNatClampNeg)) ((xs (v4 + 2).toNatClampNeg)) ((xs (v4 + 3).toNatClampNeg)))).trans (uk_cI fun r2 σ2 => ?_)
  refine (uk_is (M := [some (.ref 900), some (.ref 31), some (.ref 0), some (.ref 30), some (.int v4), some (.int r1), some (.int r2)]) (n := 52) (pc := 1058) (gt_5 69 rfl) rfl rfl).trans ?_
  refine (uk_al (n := 51) (pc := 1060) (gt_5 70 rfl) rfl).trans ?_
  refine (uk_cN (r := []) (n := 50) (pc := 1061) (gt_5 71 rfl) cl_137 rt_1 rfl rfl rfl rfl rfl sh_0 (cx_m_thrown_0 σ2)).trans (uk_cI fun r3 σ3 => ?_)
  refine (uk_il (n := 49) (pc := 1064) (gt_5 72 rfl) rfl).trans ?_
  refine (uk_jc (t := 1071) (n := 48) (pc := 1066) (gt_5 73 rfl) rfl).trans (uk_ite ?_ ?_)
  ·
    refine (uk_il (n := 47) (pc := 1071) (gt_5 76 rfl) rfl).trans ?_
    refine (uk_jn (t := 1088) (n := 46) (pc := 1073) (gt_5 77 rfl) rfl).trans (uk_ite ?_ ?_)
    ·
      refine (uk_al (n := 45) (pc := 1076) (gt_5 78 rfl) rfl).trans ?_
      refine (uk_ic (v := 0) (n := 44) (pc := 1077) (gt_5 79 rfl) rfl).trans ?_
      refine (uk_la (q := 0) (n := 43) (pc := 1078) (gt_5 80 rfl) ar_30 uk_in0 rfl).trans ?_
      refine (uk_il (n := 42) (pc := 1079) (gt_5 81 rfl) rfl).trans ?_
      refine (uk_i2 (n := 41) (pc := 1081) (gt_5 82 rfl)).trans ?_
      refine (uk_lcm (n := 40) (pc := 1082) (gt_5 83 rfl)).trans ?_
      refine (uk_je (t := 1088) (n := 39) (pc := 1083) (gt_5 84 rfl) rfl).trans (uk_ite ?_ ?_)
      ·
        refine (uk_go (t := 2638) (n := 38) (pc := 1088) (gt_5 87 rfl) rfl).trans ?_
        refine (uk_ii (v := 6) (M := [some (.ref 900), some (.ref 31), some (.ref 0), some (.ref 30), some (.int (v4 + 6)), some (.int r1), some (.int r2)]) (n := 37) (pc := 2638) (gt_15 85 rfl) rfl rfl rfl).trans ?_
        refine (uk_go (t := 23) (n := 36) (pc := 2641) (gt_15 86 rfl) rfl).trans ?_
        exact uk_kf (n := 35) (pc := 23) (gt_0 0 rfl) rfl
      ·
        refine (uk_ic (v := 0) (n := 38) (pc := 1086) (gt_5 85 rfl) rfl).trans ?_
        exact uk_re (n := 37) (pc := 1087) (gt_5 86 rfl) rt_12035 (Or.inl rfl)
    ·
      refine (uk_go (t := 2638) (n := 45) (pc := 1088) (gt_5 87 rfl) rfl).trans ?_
      refine (uk_ii (v := 6) (M := [some (.ref 900), some (.ref 31), some (.ref 0), some (.ref 30), some (.int (v4 + 6)), some (.int r1), some (.int r2)]) (n := 44) (pc := 2638) (gt_15 85 rfl) rfl rfl rfl).trans ?_
      refine (uk_go (t := 23) (n := 43) (pc := 2641) (gt_15 86 rfl) rfl).trans ?_
      exact uk_kf (n := 42) (pc := 23) (gt_0 0 rfl) rfl
  ·
    refine (uk_ic (v := 0) (n := 47) (pc := 1069) (gt_5 74 rfl) rfl).trans ?_
    exact uk_re (n := 46) (pc := 1070) (gt_5 75 rfl) rt_12035 (Or.inl rfl)
set_option maxRecDepth 100000 in
theorem e_law_1091 (Ls : Nat) (xs : Nat → Int32) (kf : en_K) (σ : en_S) (v4 : Int32) : en_uk bb_G bb_P bb_ML bb_HD Ls xs 12035 kf 89 1091 [some (.ref 900), some (.ref 31), some (.ref 0), some (.ref 30), some (.int v4), none, none] [] σ =
    if en_in (v4 + 1) Ls then
      en_cI (x_lw_fallen_0 σ (xs (v4 + 1).toNatClampNeg)) (fun r2 σ1 =>
        if en_in (v4 + 1) Ls then
          en_cI (x_m_fallen_0 σ1 (xs (v4 + 1).toNatClampNeg)) (fun r4 σ3 =>
            en_cI (x_m_thrown_0 σ3) (fun r6 σ5 =>
              if r6 = r2 then
                if r2 = 0 then
                  if lg_cmp (σ5.2 30 0) r4.toInt64 = 0 then
                    kf 23 [some (.ref 900), some (.ref 31), some (.ref 0), some (.ref 30), some (.int (v4 + 6)), none, none] [] σ5
                  else
                    some (.inl (some (.int 0)), σ5)
                else
                  kf 23 [some (.ref 900), some (.ref 31), some (.ref 0), some (.ref 30), some (.int (v4 + 6)), none, none] [] σ5
              else
                some (.inl (some (.int 0)), σ5)) (fun _ _ => none)) (fun _ _ => none)
        else
          none) (fun _ _ => none)
    else
      none := by
  refine (uk_al (n := 88) (pc := 1091) (gt_5 88 rfl) rfl).trans ?_
  refine (uk_al (n := 87) (pc := 1092) (gt_5 89 rfl) rfl).trans ?_
  refine (uk_il (n := 86) (pc := 1093) (gt_5 90 rfl) rfl).trans ?_
  refine (uk_ic (v := 1) (n := 85) (pc := 1095) (gt_5 91 rfl) rfl).trans ?_
  refine (uk_ia (n := 84) (pc := 1096) (gt_5 92 rfl)).trans ?_
  refine (uk_ix (n := 83) (pc := 1097) (gt_5 93 rfl)).trans (uk_if ?_)
  refine (uk_al (n := 82) (pc := 1098) (gt_5 94 rfl) rfl).trans ?_
  refine (uk_cS (r := []) (n := 81) (pc := 1099) (gt_5 95 rfl) cl_185 rt_12011 rfl rfl rfl rfl rfl (cx_lw_fallen_0 σ ((xs (v4 + 1).toNatClampNeg)))).trans (uk_cI fun r1 σ1 => ?_)
  refine (uk_is (M := [some (.ref 900), some (.ref 31), some (.ref 0), some (.ref 30), some (.int v4), some (.int r1), none]) (n := 80) (pc := 1102) (gt_5 96 rfl) rfl rfl).trans ?_
  refine (uk_al (n := 79) (pc := 1104) (gt_5 97 rfl) rfl).trans ?_
  refine (uk_al (n := 78) (pc := 1105) (gt_5 98 rfl) rfl).trans ?_
  refine (uk_il (n := 77) (pc := 1106) (gt_5 99 rfl) rfl).trans ?_
  refine (uk_ic (v := 1) (n := 76) (pc := 1108) (gt_6 0 rfl) rfl).trans ?_
  refine (uk_ia (n := 75) (pc := 1109) (gt_6 1 rfl)).trans ?_
  refine (uk_ix (n := 74) (pc := 1110) (gt_6 2 rfl)).trans (uk_if ?_)
  refine (uk_cN (r := []) (n := 73) (pc := 1111) (gt_6 3 rfl) cl_187 rt_85 rfl rfl rfl rfl rfl sh_0 (cx_m_fallen_0 σ1 ((xs (v4 + 1).toNatClampNeg)))).trans (uk_cI fun r2 σ2 => ?_)
  refine (uk_is (M := [some (.ref 900), some (.ref 31), some (.ref 0), some (.ref 30), some (.int v4), some (.int r1), some (.int r2)]) (n := 72) (pc := 1114) (gt_6 4 rfl) rfl rfl).trans ?_
  refine (uk_al (n := 71) (pc := 1116) (gt_6 5 rfl) rfl).trans ?_
  refine (uk_cN (r := []) (n := 70) (pc := 1117) (gt_6 6 rfl) cl_137 rt_1 rfl rfl rfl rfl rfl sh_0 (cx_m_thrown_0 σ2)).trans (uk_cI fun r3 σ3 => ?_)
  refine (uk_il (n := 69) (pc := 1120) (gt_6 7 rfl) rfl).trans ?_
  refine (uk_jc (t := 1127) (n := 68) (pc := 1122) (gt_6 8 rfl) rfl).trans (uk_ite ?_ ?_)
  ·
    refine (uk_il (n := 67) (pc := 1127) (gt_6 11 rfl) rfl).trans ?_
    refine (uk_jn (t := 1144) (n := 66) (pc := 1129) (gt_6 12 rfl) rfl).trans (uk_ite ?_ ?_)
    ·
      refine (uk_al (n := 65) (pc := 1132) (gt_6 13 rfl) rfl).trans ?_
      refine (uk_ic (v := 0) (n := 64) (pc := 1133) (gt_6 14 rfl) rfl).trans ?_
      refine (uk_la (q := 0) (n := 63) (pc := 1134) (gt_6 15 rfl) ar_30 uk_in0 rfl).trans ?_
      refine (uk_il (n := 62) (pc := 1135) (gt_6 16 rfl) rfl).trans ?_
      refine (uk_i2 (n := 61) (pc := 1137) (gt_6 17 rfl)).trans ?_
      refine (uk_lcm (n := 60) (pc := 1138) (gt_6 18 rfl)).trans ?_
      refine (uk_je (t := 1144) (n := 59) (pc := 1139) (gt_6 19 rfl) rfl).trans (uk_ite ?_ ?_)
      ·
        refine (uk_go (t := 2638) (n := 58) (pc := 1144) (gt_6 22 rfl) rfl).trans ?_
        refine (uk_ii (v := 6) (M := [some (.ref 900), some (.ref 31), some (.ref 0), some (.ref 30), some (.int (v4 + 6)), some (.int r1), some (.int r2)]) (n := 57) (pc := 2638) (gt_15 85 rfl) rfl rfl rfl).trans ?_
        refine (uk_go (t := 23) (n := 56) (pc := 2641) (gt_15 86 rfl) rfl).trans ?_
        exact uk_kf (n := 55) (pc := 23) (gt_0 0 rfl) rfl
      ·
        refine (uk_ic (v := 0) (n := 58) (pc := 1142) (gt_6 20 rfl) rfl).trans ?_
        exact uk_re (n := 57) (pc := 1143) (gt_6 21 rfl) rt_12035 (Or.inl rfl)
    ·
      refine (uk_go (t := 2638) (n := 65) (pc := 1144) (gt_6 22 rfl) rfl).trans ?_
      refine (uk_ii (v := 6) (M := [some (.ref 900), some (.ref 31), some (.ref 0), some (.ref 30), some (.int (v4 + 6)), some (.int r1), some (.int r2)]) (n := 64) (pc := 2638) (gt_15 85 rfl) rfl rfl rfl).trans ?_
      refine (uk_go (t := 23) (n := 63) (pc := 2641) (gt_15 86 rfl) rfl).trans ?_
      exact uk_kf (n := 62) (pc := 23) (gt_0 0 rfl) rfl
  ·
    refine (uk_ic (v := 0) (n := 67) (pc := 1125) (gt_6 9 rfl) rfl).trans ?_
    exact uk_re (n := 66) (pc := 1126) (gt_6 10 rfl) rt_12035 (Or.inl rfl)
set_option maxRecDepth 100000 in
theorem e_law_1147 (Ls : Nat) (xs : Nat → Int32) (kf : en_K) (σ : en_S) (v4 : Int32) : en_uk bb_G bb_P bb_ML bb_HD Ls xs 12035 kf 89 1147 [some (.ref 900), some (.ref 31), some (.ref 0), some (.ref 30), some (.int v4), none, none] [] σ =
    if en_in (v4 + 1) Ls then
      en_cI (x_lw_rests_0 σ (xs (v4 + 1).toNatClampNeg)) (fun r2 σ1 =>
        if en_in (v4 + 1) Ls then
          en_cI (x_m_rests_0 σ1 (xs (v4 + 1).toNatClampNeg)) (fun r4 σ3 =>
            en_cI (x_m_thrown_0 σ3) (fun r6 σ5 =>
              if r6 = r2 then
                if r2 = 0 then
                  if lg_cmp (σ5.2 30 0) r4.toInt64 = 0 then
                    kf 23 [some (.ref 900), some (.ref 31), some (.ref 0), some (.ref 30), some (.int (v4 + 6)), none, none] [] σ5
                  else
                    some (.inl (some (.int 0)), σ5)
                else
                  kf 23 [some (.ref 900), some (.ref 31), some (.ref 0), some (.ref 30), some (.int (v4 + 6)), none, none] [] σ5
              else
                some (.inl (some (.int 0)), σ5)) (fun _ _ => none)) (fun _ _ => none)
        else
          none) (fun _ _ => none)
    else
      none := by
  refine (uk_al (n := 88) (pc := 1147) (gt_6 23 rfl) rfl).trans ?_
  refine (uk_al (n := 87) (pc := 1148) (gt_6 24 rfl) rfl).trans ?_
  refine (uk_il (n := 86) (pc := 1149) (gt_6 25 rfl) rfl).trans ?_
  refine (uk_ic (v := 1) (n := 85) (pc := 1151) (gt_6 26 rfl) rfl).trans ?_
  refine (uk_ia (n := 84) (pc := 1152) (gt_6 27 rfl)).trans ?_
  refine (uk_ix (n := 83) (pc := 1153) (gt_6 28 rfl)).trans (uk_if ?_)
  refine (uk_al (n := 82) (pc := 1154) (gt_6 29 rfl) rfl).trans ?_
  refine (uk_cS (r := []) (n := 81) (pc := 1155) (gt_6 30 rfl) cl_188 rt_12012 rfl rfl rfl rfl rfl (cx_lw_rests_0 σ ((xs (v4 + 1).toNatClampNeg)))).trans (uk_cI fun r1 σ1 => ?_)
  refine (uk_is (M := [some (.ref 900), some (.ref 31), some (.ref 0), some (.ref 30), some (.int v4), some (.int r1), none]) (n := 80) (pc := 1158) (gt_6 31 rfl) rfl rfl).trans ?_
  refine (uk_al (n := 79) (pc := 1160) (gt_6 32 rfl) rfl).trans ?_
  refine (uk_al (n := 78) (pc := 1161) (gt_6 33 rfl) rfl).trans ?_
  refine (uk_il (n := 77) (pc := 1162) (gt_6 34 rfl) rfl).trans ?_
  refine (uk_ic (v := 1) (n := 76) (pc := 1164) (gt_6 35 rfl) rfl).trans ?_
  refine (uk_ia (n := 75) (pc := 1165) (gt_6 36 rfl)).trans ?_
  refine (uk_ix (n := 74) (pc := 1166) (gt_6 37 rfl)).trans (uk_if ?_)
  refine (uk_cN (r := []) (n := 73) (pc := 1167) (gt_6 38 rfl) cl_190 rt_87 rfl rfl rfl rfl rfl sh_0 (cx_m_rests_0 σ1 ((xs (v4 + 1).toNatClampNeg)))).trans (uk_cI fun r2 σ2 => ?_)
  refine (uk_is (M := [some (.ref 900), some (.ref 31), some (.ref 0), some (.ref 30), some (.int v4), some (.int r1), some (.int r2)]) (n := 72) (pc := 1170) (gt_6 39 rfl) rfl rfl).trans ?_
  refine (uk_al (n := 71) (pc := 1172) (gt_6 40 rfl) rfl).trans ?_
  refine (uk_cN (r := []) (n := 70) (pc := 1173) (gt_6 41 rfl) cl_137 rt_1 rfl rfl rfl rfl rfl sh_0 (cx_m_thrown_0 σ2)).trans (uk_cI fun r3 σ3 => ?_)
  refine (uk_il (n := 69) (pc := 1176) (gt_6 42 rfl) rfl).trans ?_
  refine (uk_jc (t := 1183) (n := 68) (pc := 1178) (gt_6 43 rfl) rfl).trans (uk_ite ?_ ?_)
  ·
    refine (uk_il (n := 67) (pc := 1183) (gt_6 46 rfl) rfl).trans ?_
    refine (uk_jn (t := 1200) (n := 66) (pc := 1185) (gt_6 47 rfl) rfl).trans (uk_ite ?_ ?_)
    ·
      refine (uk_al (n := 65) (pc := 1188) (gt_6 48 rfl) rfl).trans ?_
      refine (uk_ic (v := 0) (n := 64) (pc := 1189) (gt_6 49 rfl) rfl).trans ?_
      refine (uk_la (q := 0) (n := 63) (pc := 1190) (gt_6 50 rfl) ar_30 uk_in0 rfl).trans ?_
      refine (uk_il (n := 62) (pc := 1191) (gt_6 51 rfl) rfl).trans ?_
      refine (uk_i2 (n := 61) (pc := 1193) (gt_6 52 rfl)).trans ?_
      refine (uk_lcm (n := 60) (pc := 1194) (gt_6 53 rfl)).trans ?_
      refine (uk_je (t := 1200) (n := 59) (pc := 1195) (gt_6 54 rfl) rfl).trans (uk_ite ?_ ?_)
      ·
        refine (uk_go (t := 2638) (n := 58) (pc := 1200) (gt_6 57 rfl) rfl).trans ?_
        refine (uk_ii (v := 6) (M := [some (.ref 900), some (.ref 31), some (.ref 0), some (.ref 30), some (.int (v4 + 6)), some (.int r1), some (.int r2)]) (n := 57) (pc := 2638) (gt_15 85 rfl) rfl rfl rfl).trans ?_
        refine (uk_go (t := 23) (n := 56) (pc := 2641) (gt_15 86 rfl) rfl).trans ?_
        exact uk_kf (n := 55) (pc := 23) (gt_0 0 rfl) rfl
      ·
        refine (uk_ic (v := 0) (n := 58) (pc := 1198) (gt_6 55 rfl) rfl).trans ?_
        exact uk_re (n := 57) (pc := 1199) (gt_6 56 rfl) rt_12035 (Or.inl rfl)
    ·
      refine (uk_go (t := 2638) (n := 65) (pc := 1200) (gt_6 57 rfl) rfl).trans ?_
      refine (uk_ii (v := 6) (M := [some (.ref 900), some (.ref 31), some (.ref 0), some (.ref 30), some (.int (v4 + 6)), some (.int r1), some (.int r2)]) (n := 64) (pc := 2638) (gt_15 85 rfl) rfl rfl rfl).trans ?_
      refine (uk_go (t := 23) (n := 63) (pc := 2641) (gt_15 86 rfl) rfl).trans ?_
      exact uk_kf (n := 62) (pc := 23) (gt_0 0 rfl) rfl
  ·
    refine (uk_ic (v := 0) (n := 67) (pc := 1181) (gt_6 44 rfl) rfl).trans ?_
    exact uk_re (n := 66) (pc := 1182) (gt_6 45 rfl) rt_12035 (Or.inl rfl)
set_option maxRecDepth 100000 in
theorem e_law_1203 (Ls : Nat) (xs : Nat → Int32) (kf : en_K) (σ : en_S) (v4 : Int32) : en_uk bb_G bb_P bb_ML bb_HD Ls xs 12035 kf 89 1203 [some (.ref 900), some (.ref 31), some (.ref 0), some (.ref 30), some (.int v4), none, none] [] σ =
    if en_in (v4 + 1) Ls then
      if en_in (v4 + 2) Ls then
        en_cI (x_lw_meet_0 σ (xs (v4 + 1).toNatClampNeg) (xs (v4 + 2).toNatClampNeg)) (fun r2 σ1 =>
          if en_in (v4 + 1) Ls then
            if en_in (v4 + 2) Ls then
              en_cI (x_m_meet_0 σ1 (xs (v4 + 1).toNatClampNeg) (xs (v4 + 2).toNatClampNeg)) (fun r4 σ3 =>
                en_cI (x_m_thrown_0 σ3) (fun r6 σ5 =>
                  if r6 = r2 then
                    if r2 = 0 then
                      if lg_cmp (σ5.2 30 0) r4.toInt64 = 0 then
                        kf 23 [some (.ref 900), some (.ref 31), some (.ref 0), some (.ref 30), some (.int (v4 + 6)), none, none] [] σ5
                      else
                        some (.inl (some (.int 0)), σ5)
                    else
                      kf 23 [some (.ref 900), some (.ref 31), some (.ref 0), some (.ref 30), some (.int (v4 + 6)), none, none] [] σ5
                  else
                    some (.inl (some (.int 0)), σ5)) (fun _ _ => none)) (fun _ _ => none)
            else
              none
          else
            none) (fun _ _ => none)
      else
        none
    else
      none := by
  refine (uk_al (n := 88) (pc := 1203) (gt_6 58 rfl) rfl).trans ?_
  refine (uk_al (n := 87) (pc := 1204) (gt_6 59 rfl) rfl).trans ?_
  refine (uk_il (n := 86) (pc := 1205) (gt_6 60 rfl) rfl).trans ?_
  refine (uk_ic (v := 1) (n := 85) (pc := 1207) (gt_6 61 rfl) rfl).trans ?_
  refine (uk_ia (n := 84) (pc := 1208) (gt_6 62 rfl)).trans ?_
  refine (uk_ix (n := 83) (pc := 1209) (gt_6 63 rfl)).trans (uk_if ?_)
  refine (uk_al (n := 82) (pc := 1210) (gt_6 64 rfl) rfl).trans ?_
  refine (uk_il (n := 81) (pc := 1211) (gt_6 65 rfl) rfl).trans ?_
  refine (uk_ic (v := 2) (n := 80) (pc := 1213) (gt_6 66 rfl) rfl).trans ?_
  refine (uk_ia (n := 79) (pc := 1214) (gt_6 67 rfl)).trans ?_
  refine (uk_ix (n := 78) (pc := 1215) (gt_6 68 rfl)).trans (uk_if ?_)
  refine (uk_al (n := 77) (pc := 1216) (gt_6 69 rfl) rfl).trans ?_
  refine (uk_cS (r := []) (n := 76) (pc := 1217) (gt_6 70 rfl) cl_191 rt_12013 rfl rfl rfl rfl rfl (cx_lw_meet_0 σ ((xs (v4 + 1).toNatClampNeg)) ((xs (v4 + 2).toNatClampNeg)))).trans (uk_cI fun r1 σ1 => ?_)
  refine (uk_is (M := [some (.ref 900), some (.ref 31), some (.ref 0), some (.ref 30), some (.int v4), some (.int r1), none]) (n := 75) (pc := 1220) (gt_6 71 rfl) rfl rfl).trans ?_
  refine (uk_al (n := 74) (pc := 1222) (gt_6 72 rfl) rfl).trans ?_
  refine (uk_al (n := 73) (pc := 1223) (gt_6 73 rfl) rfl).trans ?_
  refine (uk_il (n := 72) (pc := 1224) (gt_6 74 rfl) rfl).trans ?_
  refine (uk_ic (v := 1) (n := 71) (pc := 1226) (gt_6 75 rfl) rfl).trans ?_
  refine (uk_ia (n := 70) (pc := 1227) (gt_6 76 rfl)).trans ?_
  refine (uk_ix (n := 69) (pc := 1228) (gt_6 77 rfl)).trans (uk_if ?_)
  refine (uk_al (n := 68) (pc := 1229) (gt_6 78 rfl) rfl).trans ?_
  refine (uk_il (n := 67) (pc := 1230) (gt_6 79 rfl) rfl).trans ?_
  refine (uk_ic (v := 2) (n := 66) (pc := 1232) (gt_6 80 rfl) rfl).trans ?_
  refine (uk_ia (n := 65) (pc := 1233) (gt_6 81 rfl)).trans ?_
  refine (uk_ix (n := 64) (pc := 1234) (gt_6 82 rfl)).trans (uk_if ?_)
  refine (uk_cN (r := []) (n := 63) (pc := 1235) (gt_6 83 rfl) cl_193 rt_89 rfl rfl rfl rfl rfl sh_0 (cx_m_meet_0 σ1 ((xs (v4 + 1).toNatClampNeg)) ((xs (v4 + 2).toNatClampNeg)))).trans (uk_cI fun r2 σ2 => ?_)
  refine (uk_is (M := [some (.ref 900), some (.ref 31), some (.ref 0), some (.ref 30), some (.int v4), some (.int r1), some (.int r2)]) (n := 62) (pc := 1238) (gt_6 84 rfl) rfl rfl).trans ?_
  refine (uk_al (n := 61) (pc := 1240) (gt_6 85 rfl) rfl).trans ?_
  refine (uk_cN (r := []) (n := 60) (pc := 1241) (gt_6 86 rfl) cl_137 rt_1 rfl rfl rfl rfl rfl sh_0 (cx_m_thrown_0 σ2)).trans (uk_cI fun r3 σ3 => ?_)
  refine (uk_il (n := 59) (pc := 1244) (gt_6 87 rfl) rfl).trans ?_
  refine (uk_jc (t := 1251) (n := 58) (pc := 1246) (gt_6 88 rfl) rfl).trans (uk_ite ?_ ?_)
  ·
    refine (uk_il (n := 57) (pc := 1251) (gt_6 91 rfl) rfl).trans ?_
    refine (uk_jn (t := 1268) (n := 56) (pc := 1253) (gt_6 92 rfl) rfl).trans (uk_ite ?_ ?_)
    ·
      refine (uk_al (n := 55) (pc := 1256) (gt_6 93 rfl) rfl).trans ?_
      refine (uk_ic (v := 0) (n := 54) (pc := 1257) (gt_6 94 rfl) rfl).trans ?_
      refine (uk_la (q := 0) (n := 53) (pc := 1258) (gt_6 95 rfl) ar_30 uk_in0 rfl).trans ?_
      refine (uk_il (n := 52) (pc := 1259) (gt_6 96 rfl) rfl).trans ?_
      refine (uk_i2 (n := 51) (pc := 1261) (gt_6 97 rfl)).trans ?_
      refine (uk_lcm (n := 50) (pc := 1262) (gt_6 98 rfl)).trans ?_
      refine (uk_je (t := 1268) (n := 49) (pc := 1263) (gt_6 99 rfl) rfl).trans (uk_ite ?_ ?_)
      ·
        refine (uk_go (t := 2638) (n := 48) (pc := 1268) (gt_7 2 rfl) rfl).trans ?_
        refine (uk_ii (v := 6) (M := [some (.ref 900), some (.ref 31), some (.ref 0), some (.ref 30), some (.int (v4 + 6)), some (.int r1), some (.int r2)]) (n := 47) (pc := 2638) (gt_15 85 rfl) rfl rfl rfl).trans ?_
        refine (uk_go (t := 23) (n := 46) (pc := 2641) (gt_15 86 rfl) rfl).trans ?_
        exact uk_kf (n := 45) (pc := 23) (gt_0 0 rfl) rfl
      ·
        refine (uk_ic (v := 0) (n := 48) (pc := 1266) (gt_7 0 rfl) rfl).trans ?_
        exact uk_re (n := 47) (pc := 1267) (gt_7 1 rfl) rt_12035 (Or.inl rfl)
    ·
      refine (uk_go (t := 2638) (n := 55) (pc := 1268) (gt_7 2 rfl) rfl).trans ?_
      refine (uk_ii (v := 6) (M := [some (.ref 900), some (.ref 31), some (.ref 0), some (.ref 30), some (.int (v4 + 6)), some (.int r1), some (.int r2)]) (n := 54) (pc := 2638) (gt_15 85 rfl) rfl rfl rfl).trans ?_
      refine (uk_go (t := 23) (n := 53) (pc := 2641) (gt_15 86 rfl) rfl).trans ?_
      exact uk_kf (n := 52) (pc := 23) (gt_0 0 rfl) rfl
  ·
    refine (uk_ic (v := 0) (n := 57) (pc := 1249) (gt_6 89 rfl) rfl).trans ?_
    exact uk_re (n := 56) (pc := 1250) (gt_6 90 rfl) rt_12035 (Or.inl rfl)
set_option maxRecDepth 100000 in
theorem e_law_1271 (Ls : Nat) (xs : Nat → Int32) (kf : en_K) (σ : en_S) (v4 : Int32) : en_uk bb_G bb_P bb_ML bb_HD Ls xs 12035 kf 89 1271 [some (.ref 900), some (.ref 31), some (.ref 0), some (.ref 30), some (.int v4), none, none] [] σ =
    if en_in (v4 + 1) Ls then
      if en_in (v4 + 2) Ls then
        en_cI (x_lw_later_0 σ (xs (v4 + 1).toNatClampNeg) (xs (v4 + 2).toNatClampNeg)) (fun r2 σ1 =>
          if en_in (v4 + 1) Ls then
            if en_in (v4 + 2) Ls then
              en_cI (x_m_later_0 σ1 (xs (v4 + 1).toNatClampNeg) (xs (v4 + 2).toNatClampNeg)) (fun r4 σ3 =>
                en_cI (x_m_thrown_0 σ3) (fun r6 σ5 =>
                  if r6 = r2 then
                    if r2 = 0 then
                      if lg_cmp (σ5.2 30 0) r4.toInt64 = 0 then
                        kf 23 [some (.ref 900), some (.ref 31), some (.ref 0), some (.ref 30), some (.int (v4 + 6)), none, none] [] σ5
                      else
                        some (.inl (some (.int 0)), σ5)
                    else
                      kf 23 [some (.ref 900), some (.ref 31), some (.ref 0), some (.ref 30), some (.int (v4 + 6)), none, none] [] σ5
                  else
                    some (.inl (some (.int 0)), σ5)) (fun _ _ => none)) (fun _ _ => none)
            else
              none
          else
            none) (fun _ _ => none)
      else
        none
    else
      none := by
  refine (uk_al (n := 88) (pc := 1271) (gt_7 3 rfl) rfl).trans ?_
  refine (uk_al (n := 87) (pc := 1272) (gt_7 4 rfl) rfl).trans ?_
  refine (uk_il (n := 86) (pc := 1273) (gt_7 5 rfl) rfl).trans ?_
  refine (uk_ic (v := 1) (n := 85) (pc := 1275) (gt_7 6 rfl) rfl).trans ?_
  refine (uk_ia (n := 84) (pc := 1276) (gt_7 7 rfl)).trans ?_
  refine (uk_ix (n := 83) (pc := 1277) (gt_7 8 rfl)).trans (uk_if ?_)
  refine (uk_al (n := 82) (pc := 1278) (gt_7 9 rfl) rfl).trans ?_
  refine (uk_il (n := 81) (pc := 1279) (gt_7 10 rfl) rfl).trans ?_
  refine (uk_ic (v := 2) (n := 80) (pc := 1281) (gt_7 11 rfl) rfl).trans ?_
  refine (uk_ia (n := 79) (pc := 1282) (gt_7 12 rfl)).trans ?_
  refine (uk_ix (n := 78) (pc := 1283) (gt_7 13 rfl)).trans (uk_if ?_)
  refine (uk_al (n := 77) (pc := 1284) (gt_7 14 rfl) rfl).trans ?_
  refine (uk_cS (r := []) (n := 76) (pc := 1285) (gt_7 15 rfl) cl_194 rt_12014 rfl rfl rfl rfl rfl (cx_lw_later_0 σ ((xs (v4 + 1).toNatClampNeg)) ((xs (v4 + 2).toNatClampNeg)))).trans (uk_cI fun r1 σ1 => ?_)
  refine (uk_is (M := [some (.ref 900), some (.ref 31), some (.ref 0), some (.ref 30), some (.int v4), some (.int r1), none]) (n := 75) (pc := 1288) (gt_7 16 rfl) rfl rfl).trans ?_
  refine (uk_al (n := 74) (pc := 1290) (gt_7 17 rfl) rfl).trans ?_
  refine (uk_al (n := 73) (pc := 1291) (gt_7 18 rfl) rfl).trans ?_
  refine (uk_il (n := 72) (pc := 1292) (gt_7 19 rfl) rfl).trans ?_
  refine (uk_ic (v := 1) (n := 71) (pc := 1294) (gt_7 20 rfl) rfl).trans ?_
  refine (uk_ia (n := 70) (pc := 1295) (gt_7 21 rfl)).trans ?_
  refine (uk_ix (n := 69) (pc := 1296) (gt_7 22 rfl)).trans (uk_if ?_)
  refine (uk_al (n := 68) (pc := 1297) (gt_7 23 rfl) rfl).trans ?_
  refine (uk_il (n := 67) (pc := 1298) (gt_7 24 rfl) rfl).trans ?_
  refine (uk_ic (v := 2) (n := 66) (pc := 1300) (gt_7 25 rfl) rfl).trans ?_
  refine (uk_ia (n := 65) (pc := 1301) (gt_7 26 rfl)).trans ?_
  refine (uk_ix (n := 64) (pc := 1302) (gt_7 27 rfl)).trans (uk_if ?_)
  refine (uk_cN (r := []) (n := 63) (pc := 1303) (gt_7 28 rfl) cl_196 rt_90 rfl rfl rfl rfl rfl sh_0 (cx_m_later_0 σ1 ((xs (v4 + 1).toNatClampNeg)) ((xs (v4 + 2).toNatClampNeg)))).trans (uk_cI fun r2 σ2 => ?_)
  refine (uk_is (M := [some (.ref 900), some (.ref 31), some (.ref 0), some (.ref 30), some (.int v4), some (.int r1), some (.int r2)]) (n := 62) (pc := 1306) (gt_7 29 rfl) rfl rfl).trans ?_
  refine (uk_al (n := 61) (pc := 1308) (gt_7 30 rfl) rfl).trans ?_
  refine (uk_cN (r := []) (n := 60) (pc := 1309) (gt_7 31 rfl) cl_137 rt_1 rfl rfl rfl rfl rfl sh_0 (cx_m_thrown_0 σ2)).trans (uk_cI fun r3 σ3 => ?_)
  refine (uk_il (n := 59) (pc := 1312) (gt_7 32 rfl) rfl).trans ?_
  refine (uk_jc (t := 1319) (n := 58) (pc := 1314) (gt_7 33 rfl) rfl).trans (uk_ite ?_ ?_)
  ·
    refine (uk_il (n := 57) (pc := 1319) (gt_7 36 rfl) rfl).trans ?_
    refine (uk_jn (t := 1336) (n := 56) (pc := 1321) (gt_7 37 rfl) rfl).trans (uk_ite ?_ ?_)
    ·
      refine (uk_al (n := 55) (pc := 1324) (gt_7 38 rfl) rfl).trans ?_
      refine (uk_ic (v := 0) (n := 54) (pc := 1325) (gt_7 39 rfl) rfl).trans ?_
      refine (uk_la (q := 0) (n := 53) (pc := 1326) (gt_7 40 rfl) ar_30 uk_in0 rfl).trans ?_
      refine (uk_il (n := 52) (pc := 1327) (gt_7 41 rfl) rfl).trans ?_
      refine (uk_i2 (n := 51) (pc := 1329) (gt_7 42 rfl)).trans ?_
      refine (uk_lcm (n := 50) (pc := 1330) (gt_7 43 rfl)).trans ?_
      refine (uk_je (t := 1336) (n := 49) (pc := 1331) (gt_7 44 rfl) rfl).trans (uk_ite ?_ ?_)
      ·
        refine (uk_go (t := 2638) (n := 48) (pc := 1336) (gt_7 47 rfl) rfl).trans ?_
        refine (uk_ii (v := 6) (M := [some (.ref 900), some (.ref 31), some (.ref 0), some (.ref 30), some (.int (v4 + 6)), some (.int r1), some (.int r2)]) (n := 47) (pc := 2638) (gt_15 85 rfl) rfl rfl rfl).trans ?_
        refine (uk_go (t := 23) (n := 46) (pc := 2641) (gt_15 86 rfl) rfl).trans ?_
        exact uk_kf (n := 45) (pc := 23) (gt_0 0 rfl) rfl
      ·
        refine (uk_ic (v := 0) (n := 48) (pc := 1334) (gt_7 45 rfl) rfl).trans ?_
        exact uk_re (n := 47) (pc := 1335) (gt_7 46 rfl) rt_12035 (Or.inl rfl)
    ·
      refine (uk_go (t := 2638) (n := 55) (pc := 1336) (gt_7 47 rfl) rfl).trans ?_
      refine (uk_ii (v := 6) (M := [some (.ref 900), some (.ref 31), some (.ref 0), some (.ref 30), some (.int (v4 + 6)), some (.int r1), some (.int r2)]) (n := 54) (pc := 2638) (gt_15 85 rfl) rfl rfl rfl).trans ?_
      refine (uk_go (t := 23) (n := 53) (pc := 2641) (gt_15 86 rfl) rfl).trans ?_
      exact uk_kf (n := 52) (pc := 23) (gt_0 0 rfl) rfl
  ·
    refine (uk_ic (v := 0) (n := 57) (pc := 1317) (gt_7 34 rfl) rfl).trans ?_
    exact uk_re (n := 56) (pc := 1318) (gt_7 35 rfl) rt_12035 (Or.inl rfl)
set_option maxRecDepth 100000 in
theorem e_law_1339 (Ls : Nat) (xs : Nat → Int32) (kf : en_K) (σ : en_S) (v4 : Int32) : en_uk bb_G bb_P bb_ML bb_HD Ls xs 12035 kf 89 1339 [some (.ref 900), some (.ref 31), some (.ref 0), some (.ref 30), some (.int v4), none, none] [] σ =
    if en_in (v4 + 1) Ls then
      if en_in (v4 + 2) Ls then
        en_cI (x_lw_calls_0 σ (xs (v4 + 1).toNatClampNeg) (xs (v4 + 2).toNatClampNeg)) (fun r2 σ1 =>
          if en_in (v4 + 1) Ls then
            if en_in (v4 + 2) Ls then
              en_cI (x_m_calls_0 σ1 (xs (v4 + 1).toNatClampNeg) (xs (v4 + 2).toNatClampNeg)) (fun r4 σ3 =>
                en_cI (x_m_thrown_0 σ3) (fun r6 σ5 =>
                  if r6 = r2 then
                    if r2 = 0 then
                      if lg_cmp (σ5.2 30 0) r4.toInt64 = 0 then
                        kf 23 [some (.ref 900), some (.ref 31), some (.ref 0), some (.ref 30), some (.int (v4 + 6)), none, none] [] σ5
                      else
                        some (.inl (some (.int 0)), σ5)
                    else
                      kf 23 [some (.ref 900), some (.ref 31), some (.ref 0), some (.ref 30), some (.int (v4 + 6)), none, none] [] σ5
                  else
                    some (.inl (some (.int 0)), σ5)) (fun _ _ => none)) (fun _ _ => none)
            else
              none
          else
            none) (fun _ _ => none)
      else
        none
    else
      none := by
  refine (uk_al (n := 88) (pc := 1339) (gt_7 48 rfl) rfl).trans ?_
  refine (uk_al (n := 87) (pc := 1340) (gt_7 49 rfl) rfl).trans ?_
  refine (uk_il (n := 86) (pc := 1341) (gt_7 50 rfl) rfl).trans ?_
  refine (uk_ic (v := 1) (n := 85) (pc := 1343) (gt_7 51 rfl) rfl).trans ?_
  refine (uk_ia (n := 84) (pc := 1344) (gt_7 52 rfl)).trans ?_
  refine (uk_ix (n := 83) (pc := 1345) (gt_7 53 rfl)).trans (uk_if ?_)
  refine (uk_al (n := 82) (pc := 1346) (gt_7 54 rfl) rfl).trans ?_
  refine (uk_il (n := 81) (pc := 1347) (gt_7 55 rfl) rfl).trans ?_
  refine (uk_ic (v := 2) (n := 80) (pc := 1349) (gt_7 56 rfl) rfl).trans ?_
  refine (uk_ia (n := 79) (pc := 1350) (gt_7 57 rfl)).trans ?_
  refine (uk_ix (n := 78) (pc := 1351) (gt_7 58 rfl)).trans (uk_if ?_)
  refine (uk_al (n := 77) (pc := 1352) (gt_7 59 rfl) rfl).trans ?_
  refine (uk_cS (r := []) (n := 76) (pc := 1353) (gt_7 60 rfl) cl_197 rt_12015 rfl rfl rfl rfl rfl (cx_lw_calls_0 σ ((xs (v4 + 1).toNatClampNeg)) ((xs (v4 + 2).toNatClampNeg)))).trans (uk_cI fun r1 σ1 => ?_)
  refine (uk_is (M := [some (.ref 900), some (.ref 31), some (.ref 0), some (.ref 30), some (.int v4), some (.int r1), none]) (n := 75) (pc := 1356) (gt_7 61 rfl) rfl rfl).trans ?_
  refine (uk_al (n := 74) (pc := 1358) (gt_7 62 rfl) rfl).trans ?_
  refine (uk_al (n := 73) (pc := 1359) (gt_7 63 rfl) rfl).trans ?_
  refine (uk_il (n := 72) (pc := 1360) (gt_7 64 rfl) rfl).trans ?_
  refine (uk_ic (v := 1) (n := 71) (pc := 1362) (gt_7 65 rfl) rfl).trans ?_
  refine (uk_ia (n := 70) (pc := 1363) (gt_7 66 rfl)).trans ?_
  refine (uk_ix (n := 69) (pc := 1364) (gt_7 67 rfl)).trans (uk_if ?_)
  refine (uk_al (n := 68) (pc := 1365) (gt_7 68 rfl) rfl).trans ?_
  refine (uk_il (n := 67) (pc := 1366) (gt_7 69 rfl) rfl).trans ?_
  refine (uk_ic (v := 2) (n := 66) (pc := 1368) (gt_7 70 rfl) rfl).trans ?_
  refine (uk_ia (n := 65) (pc := 1369) (gt_7 71 rfl)).trans ?_
  refine (uk_ix (n := 64) (pc := 1370) (gt_7 72 rfl)).trans (uk_if ?_)
  refine (uk_cN (r := []) (n := 63) (pc := 1371) (gt_7 73 rfl) cl_199 rt_91 rfl rfl rfl rfl rfl sh_0 (cx_m_calls_0 σ1 ((xs (v4 + 1).toNatClampNeg)) ((xs (v4 + 2).toNatClampNeg)))).trans (uk_cI fun r2 σ2 => ?_)
  refine (uk_is (M := [some (.ref 900), some (.ref 31), some (.ref 0), some (.ref 30), some (.int v4), some (.int r1), some (.int r2)]) (n := 62) (pc := 1374) (gt_7 74 rfl) rfl rfl).trans ?_
  refine (uk_al (n := 61) (pc := 1376) (gt_7 75 rfl) rfl).trans ?_
  refine (uk_cN (r := []) (n := 60) (pc := 1377) (gt_7 76 rfl) cl_137 rt_1 rfl rfl rfl rfl rfl sh_0 (cx_m_thrown_0 σ2)).trans (uk_cI fun r3 σ3 => ?_)
  refine (uk_il (n := 59) (pc := 1380) (gt_7 77 rfl) rfl).trans ?_
  refine (uk_jc (t := 1387) (n := 58) (pc := 1382) (gt_7 78 rfl) rfl).trans (uk_ite ?_ ?_)
  ·
    refine (uk_il (n := 57) (pc := 1387) (gt_7 81 rfl) rfl).trans ?_
    refine (uk_jn (t := 1404) (n := 56) (pc := 1389) (gt_7 82 rfl) rfl).trans (uk_ite ?_ ?_)
    ·
      refine (uk_al (n := 55) (pc := 1392) (gt_7 83 rfl) rfl).trans ?_
      refine (uk_ic (v := 0) (n := 54) (pc := 1393) (gt_7 84 rfl) rfl).trans ?_
      refine (uk_la (q := 0) (n := 53) (pc := 1394) (gt_7 85 rfl) ar_30 uk_in0 rfl).trans ?_
      refine (uk_il (n := 52) (pc := 1395) (gt_7 86 rfl) rfl).trans ?_
      refine (uk_i2 (n := 51) (pc := 1397) (gt_7 87 rfl)).trans ?_
      refine (uk_lcm (n := 50) (pc := 1398) (gt_7 88 rfl)).trans ?_
      refine (uk_je (t := 1404) (n := 49) (pc := 1399) (gt_7 89 rfl) rfl).trans (uk_ite ?_ ?_)
      ·
        refine (uk_go (t := 2638) (n := 48) (pc := 1404) (gt_7 92 rfl) rfl).trans ?_
        refine (uk_ii (v := 6) (M := [some (.ref 900), some (.ref 31), some (.ref 0), some (.ref 30), some (.int (v4 + 6)), some (.int r1), some (.int r2)]) (n := 47) (pc := 2638) (gt_15 85 rfl) rfl rfl rfl).trans ?_
        refine (uk_go (t := 23) (n := 46) (pc := 2641) (gt_15 86 rfl) rfl).trans ?_
        exact uk_kf (n := 45) (pc := 23) (gt_0 0 rfl) rfl
      ·
        refine (uk_ic (v := 0) (n := 48) (pc := 1402) (gt_7 90 rfl) rfl).trans ?_
        exact uk_re (n := 47) (pc := 1403) (gt_7 91 rfl) rt_12035 (Or.inl rfl)
    ·
      refine (uk_go (t := 2638) (n := 55) (pc := 1404) (gt_7 92 rfl) rfl).trans ?_
      refine (uk_ii (v := 6) (M := [some (.ref 900), some (.ref 31), some (.ref 0), some (.ref 30), some (.int (v4 + 6)), some (.int r1), some (.int r2)]) (n := 54) (pc := 2638) (gt_15 85 rfl) rfl rfl rfl).trans ?_
      refine (uk_go (t := 23) (n := 53) (pc := 2641) (gt_15 86 rfl) rfl).trans ?_
      exact uk_kf (n := 52) (pc := 23) (gt_0 0 rfl) rfl
  ·
    refine (uk_ic (v := 0) (n := 57) (pc := 1385) (gt_7 79 rfl) rfl).trans ?_
    exact uk_re (n := 56) (pc := 1386) (gt_7 80 rfl) rt_12035 (Or.inl rfl)
set_option maxRecDepth 100000 in
theorem e_law_1407 (Ls : Nat) (xs : Nat → Int32) (kf : en_K) (σ : en_S) (v4 : Int32) : en_uk bb_G bb_P bb_ML bb_HD Ls xs 12035 kf 89 1407 [some (.ref 900), some (.ref 31), some (.ref 0), some (.ref 30), some (.int v4), none, none] [] σ =
    if en_in (v4 + 1) Ls then
      en_cI (x_lw_toBear_0 σ (xs (v4 + 1).toNatClampNeg)) (fun r2 σ1 =>
        if en_in (v4 + 1) Ls then
          en_cI (x_m_toBear_0 σ1 (xs (v4 + 1).toNatClampNeg)) (fun r4 σ3 =>
            en_cI (x_m_thrown_0 σ3) (fun r6 σ5 =>
              if r6 = r2 then
                if r2 = 0 then
                  if lg_cmp (σ5.2 30 0) r4.toInt64 = 0 then
                    kf 23 [some (.ref 900), some (.ref 31), some (.ref 0), some (.ref 30), some (.int (v4 + 6)), none, none] [] σ5
                  else
                    some (.inl (some (.int 0)), σ5)
                else
                  kf 23 [some (.ref 900), some (.ref 31), some (.ref 0), some (.ref 30), some (.int (v4 + 6)), none, none] [] σ5
              else
                some (.inl (some (.int 0)), σ5)) (fun _ _ => none)) (fun _ _ => none)
        else
          none) (fun _ _ => none)
    else
      none := by
  refine (uk_al (n := 88) (pc := 1407) (gt_7 93 rfl) rfl).trans ?_
  refine (uk_al (n := 87) (pc := 1408) (gt_7 94 rfl) rfl).trans ?_
  refine (uk_il (n := 86) (pc := 1409) (gt_7 95 rfl) rfl).trans ?_
  refine (uk_ic (v := 1) (n := 85) (pc := 1411) (gt_7 96 rfl) rfl).trans ?_
  refine (uk_ia (n := 84) (pc := 1412) (gt_7 97 rfl)).trans ?_
  refine (uk_ix (n := 83) (pc := 1413) (gt_7 98 rfl)).trans (uk_if ?_)
  refine (uk_al (n := 82) (pc := 1414) (gt_7 99 rfl) rfl).trans ?_
  refine (uk_cS (r := []) (n := 81) (pc := 1415) (gt_8 0 rfl) cl_200 rt_12016 rfl rfl rfl rfl rfl (cx_lw_toBear_0 σ ((xs (v4 + 1).toNatClampNeg)))).trans (uk_cI fun r1 σ1 => ?_)
  refine (uk_is (M := [some (.ref 900), some (.ref 31), some (.ref 0), some (.ref 30), some (.int v4), some (.int r1), none]) (n := 80) (pc := 1418) (gt_8 1 rfl) rfl rfl).trans ?_
  refine (uk_al (n := 79) (pc := 1420) (gt_8 2 rfl) rfl).trans ?_
  refine (uk_al (n := 78) (pc := 1421) (gt_8 3 rfl) rfl).trans ?_
  refine (uk_il (n := 77) (pc := 1422) (gt_8 4 rfl) rfl).trans ?_
  refine (uk_ic (v := 1) (n := 76) (pc := 1424) (gt_8 5 rfl) rfl).trans ?_
  refine (uk_ia (n := 75) (pc := 1425) (gt_8 6 rfl)).trans ?_
  refine (uk_ix (n := 74) (pc := 1426) (gt_8 7 rfl)).trans (uk_if ?_)
  refine (uk_cN (r := []) (n := 73) (pc := 1427) (gt_8 8 rfl) cl_202 rt_93 rfl rfl rfl rfl rfl sh_0 (cx_m_toBear_0 σ1 ((xs (v4 + 1).toNatClampNeg)))).trans (uk_cI fun r2 σ2 => ?_)
  refine (uk_is (M := [some (.ref 900), some (.ref 31), some (.ref 0), some (.ref 30), some (.int v4), some (.int r1), some (.int r2)]) (n := 72) (pc := 1430) (gt_8 9 rfl) rfl rfl).trans ?_
  refine (uk_al (n := 71) (pc := 1432) (gt_8 10 rfl) rfl).trans ?_
  refine (uk_cN (r := []) (n := 70) (pc := 1433) (gt_8 11 rfl) cl_137 rt_1 rfl rfl rfl rfl rfl sh_0 (cx_m_thrown_0 σ2)).trans (uk_cI fun r3 σ3 => ?_)
  refine (uk_il (n := 69) (pc := 1436) (gt_8 12 rfl) rfl).trans ?_
  refine (uk_jc (t := 1443) (n := 68) (pc := 1438) (gt_8 13 rfl) rfl).trans (uk_ite ?_ ?_)
  ·
    refine (uk_il (n := 67) (pc := 1443) (gt_8 16 rfl) rfl).trans ?_
    refine (uk_jn (t := 1460) (n := 66) (pc := 1445) (gt_8 17 rfl) rfl).trans (uk_ite ?_ ?_)
    ·
      refine (uk_al (n := 65) (pc := 1448) (gt_8 18 rfl) rfl).trans ?_
      refine (uk_ic (v := 0) (n := 64) (pc := 1449) (gt_8 19 rfl) rfl).trans ?_
      refine (uk_la (q := 0) (n := 63) (pc := 1450) (gt_8 20 rfl) ar_30 uk_in0 rfl).trans ?_
      refine (uk_il (n := 62) (pc := 1451) (gt_8 21 rfl) rfl).trans ?_
      refine (uk_i2 (n := 61) (pc := 1453) (gt_8 22 rfl)).trans ?_
      refine (uk_lcm (n := 60) (pc := 1454) (gt_8 23 rfl)).trans ?_
      refine (uk_je (t := 1460) (n := 59) (pc := 1455) (gt_8 24 rfl) rfl).trans (uk_ite ?_ ?_)
      ·
        refine (uk_go (t := 2638) (n := 58) (pc := 1460) (gt_8 27 rfl) rfl).trans ?_
        refine (uk_ii (v := 6) (M := [some (.ref 900), some (.ref 31), some (.ref 0), some (.ref 30), some (.int (v4 + 6)), some (.int r1), some (.int r2)]) (n := 57) (pc := 2638) (gt_15 85 rfl) rfl rfl rfl).trans ?_
        refine (uk_go (t := 23) (n := 56) (pc := 2641) (gt_15 86 rfl) rfl).trans ?_
        exact uk_kf (n := 55) (pc := 23) (gt_0 0 rfl) rfl
      ·
        refine (uk_ic (v := 0) (n := 58) (pc := 1458) (gt_8 25 rfl) rfl).trans ?_
        exact uk_re (n := 57) (pc := 1459) (gt_8 26 rfl) rt_12035 (Or.inl rfl)
    ·
      refine (uk_go (t := 2638) (n := 65) (pc := 1460) (gt_8 27 rfl) rfl).trans ?_
      refine (uk_ii (v := 6) (M := [some (.ref 900), some (.ref 31), some (.ref 0), some (.ref 30), some (.int (v4 + 6)), some (.int r1), some (.int r2)]) (n := 64) (pc := 2638) (gt_15 85 rfl) rfl rfl rfl).trans ?_
      refine (uk_go (t := 23) (n := 63) (pc := 2641) (gt_15 86 rfl) rfl).trans ?_
      exact uk_kf (n := 62) (pc := 23) (gt_0 0 rfl) rfl
  ·
    refine (uk_ic (v := 0) (n := 67) (pc := 1441) (gt_8 14 rfl) rfl).trans ?_
    exact uk_re (n := 66) (pc := 1442) (gt_8 15 rfl) rt_12035 (Or.inl rfl)
set_option maxRecDepth 100000 in
theorem e_law_1463 (Ls : Nat) (xs : Nat → Int32) (kf : en_K) (σ : en_S) (v4 : Int32) : en_uk bb_G bb_P bb_ML bb_HD Ls xs 12035 kf 89 1463 [some (.ref 900), some (.ref 31), some (.ref 0), some (.ref 30), some (.int v4), none, none] [] σ =
    if en_in (v4 + 1) Ls then
      en_cI (x_lw_crew_0 σ (xs (v4 + 1).toNatClampNeg)) (fun r2 σ1 =>
        if en_in (v4 + 1) Ls then
          en_cI (x_m_crew_0 σ1 (xs (v4 + 1).toNatClampNeg)) (fun r4 σ3 =>
            en_cI (x_m_thrown_0 σ3) (fun r6 σ5 =>
              if r6 = r2 then
                if r2 = 0 then
                  if lg_cmp (σ5.2 30 0) r4.toInt64 = 0 then
                    kf 23 [some (.ref 900), some (.ref 31), some (.ref 0), some (.ref 30), some (.int (v4 + 6)), none, none] [] σ5
                  else
                    some (.inl (some (.int 0)), σ5)
                else
                  kf 23 [some (.ref 900), some (.ref 31), some (.ref 0), some (.ref 30), some (.int (v4 + 6)), none, none] [] σ5
              else
                some (.inl (some (.int 0)), σ5)) (fun _ _ => none)) (fun _ _ => none)
        else
          none) (fun _ _ => none)
    else
      none := by
  refine (uk_al (n := 88) (pc := 1463) (gt_8 28 rfl) rfl).trans ?_
  refine (uk_al (n := 87) (pc := 1464) (gt_8 29 rfl) rfl).trans ?_
  refine (uk_il (n := 86) (pc := 1465) (gt_8 30 rfl) rfl).trans ?_
  refine (uk_ic (v := 1) (n := 85) (pc := 1467) (gt_8 31 rfl) rfl).trans ?_
  refine (uk_ia (n := 84) (pc := 1468) (gt_8 32 rfl)).trans ?_
  refine (uk_ix (n := 83) (pc := 1469) (gt_8 33 rfl)).trans (uk_if ?_)
  refine (uk_al (n := 82) (pc := 1470) (gt_8 34 rfl) rfl).trans ?_
  refine (uk_cS (r := []) (n := 81) (pc := 1471) (gt_8 35 rfl) cl_203 rt_12017 rfl rfl rfl rfl rfl (cx_lw_crew_0 σ ((xs (v4 + 1).toNatClampNeg)))).trans (uk_cI fun r1 σ1 => ?_)
  refine (uk_is (M := [some (.ref 900), some (.ref 31), some (.ref 0), some (.ref 30), some (.int v4), some (.int r1), none]) (n := 80) (pc := 1474) (gt_8 36 rfl) rfl rfl).trans ?_
  refine (uk_al (n := 79) (pc := 1476) (gt_8 37 rfl) rfl).trans ?_
  refine (uk_al (n := 78) (pc := 1477) (gt_8 38 rfl) rfl).trans ?_
  refine (uk_il (n := 77) (pc := 1478) (gt_8 39 rfl) rfl).trans ?_
  refine (uk_ic (v := 1) (n := 76) (pc := 1480) (gt_8 40 rfl) rfl).trans ?_
  refine (uk_ia (n := 75) (pc := 1481) (gt_8 41 rfl)).trans ?_
  refine (uk_ix (n := 74) (pc := 1482) (gt_8 42 rfl)).trans (uk_if ?_)
  refine (uk_cN (r := []) (n := 73) (pc := 1483) (gt_8 43 rfl) cl_205 rt_94 rfl rfl rfl rfl rfl sh_0 (cx_m_crew_0 σ1 ((xs (v4 + 1).toNatClampNeg)))).trans (uk_cI fun r2 σ2 => ?_)
  refine (uk_is (M := [some (.ref 900), some (.ref 31), some (.ref 0), some (.ref 30), some (.int v4), some (.int r1), some (.int r2)]) (n := 72) (pc := 1486) (gt_8 44 rfl) rfl rfl).trans ?_
  refine (uk_al (n := 71) (pc := 1488) (gt_8 45 rfl) rfl).trans ?_
  refine (uk_cN (r := []) (n := 70) (pc := 1489) (gt_8 46 rfl) cl_137 rt_1 rfl rfl rfl rfl rfl sh_0 (cx_m_thrown_0 σ2)).trans (uk_cI fun r3 σ3 => ?_)
  refine (uk_il (n := 69) (pc := 1492) (gt_8 47 rfl) rfl).trans ?_
  refine (uk_jc (t := 1499) (n := 68) (pc := 1494) (gt_8 48 rfl) rfl).trans (uk_ite ?_ ?_)
  ·
    refine (uk_il (n := 67) (pc := 1499) (gt_8 51 rfl) rfl).trans ?_
    refine (uk_jn (t := 1516) (n := 66) (pc := 1501) (gt_8 52 rfl) rfl).trans (uk_ite ?_ ?_)
    ·
      refine (uk_al (n := 65) (pc := 1504) (gt_8 53 rfl) rfl).trans ?_
      refine (uk_ic (v := 0) (n := 64) (pc := 1505) (gt_8 54 rfl) rfl).trans ?_
      refine (uk_la (q := 0) (n := 63) (pc := 1506) (gt_8 55 rfl) ar_30 uk_in0 rfl).trans ?_
      refine (uk_il (n := 62) (pc := 1507) (gt_8 56 rfl) rfl).trans ?_
      refine (uk_i2 (n := 61) (pc := 1509) (gt_8 57 rfl)).trans ?_
      refine (uk_lcm (n := 60) (pc := 1510) (gt_8 58 rfl)).trans ?_
      refine (uk_je (t := 1516) (n := 59) (pc := 1511) (gt_8 59 rfl) rfl).trans (uk_ite ?_ ?_)
      ·
        refine (uk_go (t := 2638) (n := 58) (pc := 1516) (gt_8 62 rfl) rfl).trans ?_
        refine (uk_ii (v := 6) (M := [some (.ref 900), some (.ref 31), some (.ref 0), some (.ref 30), some (.int (v4 + 6)), some (.int r1), some (.int r2)]) (n := 57) (pc := 2638) (gt_15 85 rfl) rfl rfl rfl).trans ?_
        refine (uk_go (t := 23) (n := 56) (pc := 2641) (gt_15 86 rfl) rfl).trans ?_
        exact uk_kf (n := 55) (pc := 23) (gt_0 0 rfl) rfl
      ·
        refine (uk_ic (v := 0) (n := 58) (pc := 1514) (gt_8 60 rfl) rfl).trans ?_
        exact uk_re (n := 57) (pc := 1515) (gt_8 61 rfl) rt_12035 (Or.inl rfl)
    ·
      refine (uk_go (t := 2638) (n := 65) (pc := 1516) (gt_8 62 rfl) rfl).trans ?_
      refine (uk_ii (v := 6) (M := [some (.ref 900), some (.ref 31), some (.ref 0), some (.ref 30), some (.int (v4 + 6)), some (.int r1), some (.int r2)]) (n := 64) (pc := 2638) (gt_15 85 rfl) rfl rfl rfl).trans ?_
      refine (uk_go (t := 23) (n := 63) (pc := 2641) (gt_15 86 rfl) rfl).trans ?_
      exact uk_kf (n := 62) (pc := 23) (gt_0 0 rfl) rfl
  ·
    refine (uk_ic (v := 0) (n := 67) (pc := 1497) (gt_8 49 rfl) rfl).trans ?_
    exact uk_re (n := 66) (pc := 1498) (gt_8 50 rfl) rt_12035 (Or.inl rfl)
