/-! written by a program: one turn of the law's loop -/
set_option maxRecDepth 100000 in
theorem e_law_1519 (Ls : Nat) (xs : Nat → Int32) (kf : en_K) (σ : en_S) (v4 : Int32) : en_uk bb_G bb_P bb_ML bb_HD Ls xs 12035 kf 89 1519 [some (.ref 900), some (.ref 31), some (.ref 0), some (.ref 30), some (.int v4), none, none] [] σ =
    if en_in (v4 + 1) Ls then
      en_cI (x_lw_toSlander_0 σ (xs (v4 + 1).toNatClampNeg)) (fun r2 σ1 =>
        if en_in (v4 + 1) Ls then
          en_cI (x_m_toSlander_0 σ1 (xs (v4 + 1).toNatClampNeg)) (fun r4 σ3 =>
            en_cI (x_m_thrown_0 σ3) (fun r6 σ5 =>
              if r6 = r2 then
                if r2 = 0 then
                  if lg_cmp (σ5.2 30 0) r4.toInt64 = 0 then
                    kf 23 [some (.ref 900), some (.ref 31), some (.ref 0), some (.ref 30), some (.int (v4 + 6)), none, none] [] σ5
                  else
                    some (.inl (some (.int 0)), σ5)
                else
                  kf 23 [some (.ref 900), some (.ref 31), some (.ref 0), some (.ref 30), some (.int (v4 + 6)), none, none] [] σ5
              else
                some (.inl (some (.int 0)), σ5)) (fun _ _ => none)) (fun _ _ => none)
        else
          none) (fun _ _ => none)
    else
      none := by
  refine (uk_al (n := 88) (pc := 1519) (gt_8 63 rfl) rfl).trans ?_
  refine (uk_al (n := 87) (pc := 1520) (gt_8 64 rfl) rfl).trans ?_
  refine (uk_il (n := 86) (pc := 1521) (gt_8 65 rfl) rfl).trans ?_
  refine (uk_ic (v := 1) (n := 85) (pc := 1523) (gt_8 66 rfl) rfl).trans ?_
  refine (uk_ia (n := 84) (pc := 1524) (gt_8 67 rfl)).trans ?_
  refine (uk_ix (n := 83) (pc := 1525) (gt_8 68 rfl)).trans (uk_if ?_)
  refine (uk_al (n := 82) (pc := 1526) (gt_8 69 rfl) rfl).trans ?_
  refine (uk_cS (r := []) (n := 81) (pc := 1527) (gt_8 70 rfl) cl_206 rt_12018 rfl rfl rfl rfl rfl (cx_lw_toSlander_0 σ ((xs (v4 + 1).toNatClampNeg)))).trans (uk_cI fun r1 σ1 => ?_)
  refine (uk_is (M := [some (.ref 900), some (.ref 31), some (.ref 0), some (.ref 30), some (.int v4), some (.int r1), none]) (n := 80) (pc := 1530) (gt_8 71 rfl) rfl rfl).trans ?_
  refine (uk_al (n := 79) (pc := 1532) (gt_8 72 rfl) rfl).trans ?_
  refine (uk_al (n := 78) (pc := 1533) (gt_8 73 rfl) rfl).trans ?_
  refine (uk_il (n := 77) (pc := 1534) (gt_8 74 rfl) rfl).trans ?_
  refine (uk_ic (v := 1) (n := 76) (pc := 1536) (gt_8 75 rfl) rfl).trans ?_
  refine (uk_ia (n := 75) (pc := 1537) (gt_8 76 rfl)).trans ?_
  refine (uk_ix (n := 74) (pc := 1538) (gt_8 77 rfl)).trans (uk_if ?_)
  refine (uk_cN (r := []) (n := 73) (pc := 1539) (gt_8 78 rfl) cl_208 rt_95 rfl rfl rfl rfl rfl sh_0 (cx_m_toSlander_0 σ1 ((xs (v4 + 1).toNatClampNeg)))).trans (uk_cI fun r2 σ2 => ?_)
  refine (uk_is (M := [some (.ref 900), some (.ref 31), some (.ref 0), some (.ref 30), some (.int v4), some (.int r1), some (.int r2)]) (n := 72) (pc := 1542) (gt_8 79 rfl) rfl rfl).trans ?_
  refine (uk_al (n := 71) (pc := 1544) (gt_8 80 rfl) rfl).trans ?_
  refine (uk_cN (r := []) (n := 70) (pc := 1545) (gt_8 81 rfl) cl_137 rt_1 rfl rfl rfl rfl rfl sh_0 (cx_m_thrown_0 σ2)).trans (uk_cI fun r3 σ3 => ?_)
  refine (uk_il (n := 69) (pc := 1548) (gt_8 82 rfl) rfl).trans ?_
  refine (uk_jc (t := 1555) (n := 68) (pc := 1550) (gt_8 83 rfl) rfl).trans (uk_ite ?_ ?_)
  ·
    refine (uk_il (n := 67) (pc := 1555) (gt_8 86 rfl) rfl).trans ?_
    refine (uk_jn (t := 1572) (n := 66) (pc := 1557) (gt_8 87 rfl) rfl).trans (uk_ite ?_ ?_)
    ·
      refine (uk_al (n := 65) (pc := 1560) (gt_8 88 rfl) rfl).trans ?_
      refine (uk_ic (v := 0) (n := 64) (pc := 1561) (gt_8 89 rfl) rfl).trans ?_
      refine (uk_la (q := 0) (n := 63) (pc := 1562) (gt_8 90 rfl) ar_30 uk_in0 rfl).trans ?_
      refine (uk_il (n := 62) (pc := 1563) (gt_8 91 rfl) rfl).trans ?_
      refine (uk_i2 (n := 61) (pc := 1565) (gt_8 92 rfl)).trans ?_
      refine (uk_lcm (n := 60) (pc := 1566) (gt_8 93 rfl)).trans ?_
      refine (uk_je (t := 1572) (n := 59) (pc := 1567) (gt_8 94 rfl) rfl).trans (uk_ite ?_ ?_)
      ·
        refine (uk_go (t := 2638) (n := 58) (pc := 1572) (gt_8 97 rfl) rfl).trans ?_
        refine (uk_ii (v := 6) (M := [some (.ref 900), some (.ref 31), some (.ref 0), some (.ref 30), some (.int (v4 + 6)), some (.int r1), some (.int r2)]) (n := 57) (pc := 2638) (gt_15 85 rfl) rfl rfl rfl).trans ?_
        refine (uk_go (t := 23) (n := 56) (pc := 2641) (gt_15 86 rfl) rfl).trans ?_
        exact uk_kf (n := 55) (pc := 23) (gt_0 0 rfl) rfl
      ·
        refine (uk_ic (v := 0) (n := 58) (pc := 1570) (gt_8 95 rfl) rfl).trans ?_
        exact uk_re (n := 57) (pc := 1571) (gt_8 96 rfl) rt_12035 (Or.inl rfl)
    ·
      refine (uk_go (t := 2638) (n := 65) (pc := 1572) (gt_8 97 rfl) rfl).trans ?_
      refine (uk_ii (v := 6) (M := [some (.ref 900), some (.ref 31), some (.ref 0), some (.ref 30), some (.int (v4 + 6)), some (.int r1), some (.int r2)]) (n := 64) (pc := 2638) (gt_15 85 rfl) rfl rfl rfl).trans ?_
      refine (uk_go (t := 23) (n := 63) (pc := 2641) (gt_15 86 rfl) rfl).trans ?_
      exact uk_kf (n := 62) (pc := 23) (gt_0 0 rfl) rfl
  ·
    refine (uk_ic (v := 0) (n := 67) (pc := 1553) (gt_8 84 rfl) rfl).trans ?_
    exact uk_re (n := 66) (pc := 1554) (gt_8 85 rfl) rt_12035 (Or.inl rfl)
set_option maxRecDepth 100000 in
theorem e_law_1575 (Ls : Nat) (xs : Nat → Int32) (kf : en_K) (σ : en_S) (v4 : Int32) : en_uk bb_G bb_P bb_ML bb_HD Ls xs 12035 kf 89 1575 [some (.ref 900), some (.ref 31), some (.ref 0), some (.ref 30), some (.int v4), none, none] [] σ =
    if en_in (v4 + 1) Ls then
      en_cI (x_lw_toWait_0 σ (xs (v4 + 1).toNatClampNeg)) (fun r2 σ1 =>
        if en_in (v4 + 1) Ls then
          en_cI (x_m_toWait_0 σ1 (xs (v4 + 1).toNatClampNeg)) (fun r4 σ3 =>
            en_cI (x_m_thrown_0 σ3) (fun r6 σ5 =>
              if r6 = r2 then
                if r2 = 0 then
                  if lg_cmp (σ5.2 30 0) r4.toInt64 = 0 then
                    kf 23 [some (.ref 900), some (.ref 31), some (.ref 0), some (.ref 30), some (.int (v4 + 6)), none, none] [] σ5
                  else
                    some (.inl (some (.int 0)), σ5)
                else
                  kf 23 [some (.ref 900), some (.ref 31), some (.ref 0), some (.ref 30), some (.int (v4 + 6)), none, none] [] σ5
              else
                some (.inl (some (.int 0)), σ5)) (fun _ _ => none)) (fun _ _ => none)
        else
          none) (fun _ _ => none)
    else
      none := by
  refine (uk_al (n := 88) (pc := 1575) (gt_8 98 rfl) rfl).trans ?_
  refine (uk_al (n := 87) (pc := 1576) (gt_8 99 rfl) rfl).trans ?_
  refine (uk_il (n := 86) (pc := 1577) (gt_9 0 rfl) rfl).trans ?_
  refine (uk_ic (v := 1) (n := 85) (pc := 1579) (gt_9 1 rfl) rfl).trans ?_
  refine (uk_ia (n := 84) (pc := 1580) (gt_9 2 rfl)).trans ?_
  refine (uk_ix (n := 83) (pc := 1581) (gt_9 3 rfl)).trans (uk_if ?_)
  refine (uk_al (n := 82) (pc := 1582) (gt_9 4 rfl) rfl).trans ?_
  refine (uk_cS (r := []) (n := 81) (pc := 1583) (gt_9 5 rfl) cl_209 rt_12019 rfl rfl rfl rfl rfl (cx_lw_toWait_0 σ ((xs (v4 + 1).toNatClampNeg)))).trans (uk_cI fun r1 σ1 => ?_)
  refine (uk_is (M := [some (.ref 900), some (.ref 31), some (.ref 0), some (.ref 30), some (.int v4), some (.int r1), none]) (n := 80) (pc := 1586) (gt_9 6 rfl) rfl rfl).trans ?_
  refine (uk_al (n := 79) (pc := 1588) (gt_9 7 rfl) rfl).trans ?_
  refine (uk_al (n := 78) (pc := 1589) (gt_9 8 rfl) rfl).trans ?_
  refine (uk_il (n := 77) (pc := 1590) (gt_9 9 rfl) rfl).trans ?_
  refine (uk_ic (v := 1) (n := 76) (pc := 1592) (gt_9 10 rfl) rfl).trans ?_
  refine (uk_ia (n := 75) (pc := 1593) (gt_9 11 rfl)).trans ?_
  refine (uk_ix (n := 74) (pc := 1594) (gt_9 12 rfl)).trans (uk_if ?_)
  refine (uk_cN (r := []) (n := 73) (pc := 1595) (gt_9 13 rfl) cl_211 rt_88 rfl rfl rfl rfl rfl sh_0 (cx_m_toWait_0 σ1 ((xs (v4 + 1).toNatClampNeg)))).trans (uk_cI fun r2 σ2 => ?_)
  refine (uk_is (M := [some (.ref 900), some (.ref 31), some (.ref 0), some (.ref 30), some (.int v4), some (.int r1), some (.int r2)]) (n := 72) (pc := 1598) (gt_9 14 rfl) rfl rfl).trans ?_
  refine (uk_al (n := 71) (pc := 1600) (gt_9 15 rfl) rfl).trans ?_
  refine (uk_cN (r := []) (n := 70) (pc := 1601) (gt_9 16 rfl) cl_137 rt_1 rfl rfl rfl rfl rfl sh_0 (cx_m_thrown_0 σ2)).trans (uk_cI fun r3 σ3 => ?_)
  refine (uk_il (n := 69) (pc := 1604) (gt_9 17 rfl) rfl).trans ?_
  refine (uk_jc (t := 1611) (n := 68) (pc := 1606) (gt_9 18 rfl) rfl).trans (uk_ite ?_ ?_)
  ·
    refine (uk_il (n := 67) (pc := 1611) (gt_9 21 rfl) rfl).trans ?_
    refine (uk_jn (t := 1628) (n := 66) (pc := 1613) (gt_9 22 rfl) rfl).trans (uk_ite ?_ ?_)
    ·
      refine (uk_al (n := 65) (pc := 1616) (gt_9 23 rfl) rfl).trans ?_
      refine (uk_ic (v := 0) (n := 64) (pc := 1617) (gt_9 24 rfl) rfl).trans ?_
      refine (uk_la (q := 0) (n := 63) (pc := 1618) (gt_9 25 rfl) ar_30 uk_in0 rfl).trans ?_
      refine (uk_il (n := 62) (pc := 1619) (gt_9 26 rfl) rfl).trans ?_
      refine (uk_i2 (n := 61) (pc := 1621) (gt_9 27 rfl)).trans ?_
      refine (uk_lcm (n := 60) (pc := 1622) (gt_9 28 rfl)).trans ?_
      refine (uk_je (t := 1628) (n := 59) (pc := 1623) (gt_9 29 rfl) rfl).trans (uk_ite ?_ ?_)
      ·
        refine (uk_go (t := 2638) (n := 58) (pc := 1628) (gt_9 32 rfl) rfl).trans ?_
        refine (uk_ii (v := 6) (M := [some (.ref 900), some (.ref 31), some (.ref 0), some (.ref 30), some (.int (v4 + 6)), some (.int r1), some (.int r2)]) (n := 57) (pc := 2638) (gt_15 85 rfl) rfl rfl rfl).trans ?_
        refine (uk_go (t := 23) (n := 56) (pc := 2641) (gt_15 86 rfl) rfl).trans ?_
        exact uk_kf (n := 55) (pc := 23) (gt_0 0 rfl) rfl
      ·
        refine (uk_ic (v := 0) (n := 58) (pc := 1626) (gt_9 30 rfl) rfl).trans ?_
        exact uk_re (n := 57) (pc := 1627) (gt_9 31 rfl) rt_12035 (Or.inl rfl)
    ·
      refine (uk_go (t := 2638) (n := 65) (pc := 1628) (gt_9 32 rfl) rfl).trans ?_
      refine (uk_ii (v := 6) (M := [some (.ref 900), some (.ref 31), some (.ref 0), some (.ref 30), some (.int (v4 + 6)), some (.int r1), some (.int r2)]) (n := 64) (pc := 2638) (gt_15 85 rfl) rfl rfl rfl).trans ?_
      refine (uk_go (t := 23) (n := 63) (pc := 2641) (gt_15 86 rfl) rfl).trans ?_
      exact uk_kf (n := 62) (pc := 23) (gt_0 0 rfl) rfl
  ·
    refine (uk_ic (v := 0) (n := 67) (pc := 1609) (gt_9 19 rfl) rfl).trans ?_
    exact uk_re (n := 66) (pc := 1610) (gt_9 20 rfl) rt_12035 (Or.inl rfl)
set_option maxRecDepth 100000 in
theorem e_law_1631 (Ls : Nat) (xs : Nat → Int32) (kf : en_K) (σ : en_S) (v4 : Int32) : en_uk bb_G bb_P bb_ML bb_HD Ls xs 12035 kf 89 1631 [some (.ref 900), some (.ref 31), some (.ref 0), some (.ref 30), some (.int v4), none, none] [] σ =
    if en_in (v4 + 1) Ls then
      if en_in (v4 + 2) Ls then
        if en_in (v4 + 3) Ls then
          en_cI (x_lw_way_0 σ (xs (v4 + 1).toNatClampNeg) (xs (v4 + 2).toNatClampNeg) (xs (v4 + 3).toNatClampNeg)) (fun r2 σ1 =>
            if en_in (v4 + 1) Ls then
              if en_in (v4 + 2) Ls then
                if en_in (v4 + 3) Ls then
                  en_cI (x_m_way_0 σ1 (xs (v4 + 1).toNatClampNeg) (xs (v4 + 2).toNatClampNeg) (xs (v4 + 3).toNatClampNeg)) (fun r4 σ3 =>
                    en_cI (x_m_thrown_0 σ3) (fun r6 σ5 =>
                      if r6 = r2 then
                        if r2 = 0 then
                          if lg_cmp (σ5.2 30 0) r4.toInt64 = 0 then
                            kf 23 [some (.ref 900), some (.ref 31), some (.ref 0), some (.ref 30), some (.int (v4 + 6)), none, none] [] σ5
                          else
                            some (.inl (some (.int 0)), σ5)
                        else
                          kf 23 [some (.ref 900), some (.ref 31), some (.ref 0), some (.ref 30), some (.int (v4 + 6)), none, none] [] σ5
                      else
                        some (.inl (some (.int 0)), σ5)) (fun _ _ => none)) (fun _ _ => none)
                else
                  none
              else
                none
            else
              none) (fun _ _ => none)
        else
          none
      else
        none
    else
      none := by
  refine (uk_al (n := 88) (pc := 1631) (gt_9 33 rfl) rfl).trans ?_
  refine (uk_al (n := 87) (pc := 1632) (gt_9 34 rfl) rfl).trans ?_
  refine (uk_il (n := 86) (pc := 1633) (gt_9 35 rfl) rfl).trans ?_
  refine (uk_ic (v := 1) (n := 85) (pc := 1635) (gt_9 36 rfl) rfl).trans ?_
  refine (uk_ia (n := 84) (pc := 1636) (gt_9 37 rfl)).trans ?_
  refine (uk_ix (n := 83) (pc := 1637) (gt_9 38 rfl)).trans (uk_if ?_)
  refine (uk_al (n := 82) (pc := 1638) (gt_9 39 rfl) rfl).trans ?_
  refine (uk_il (n := 81) (pc := 1639) (gt_9 40 rfl) rfl).trans ?_
  refine (uk_ic (v := 2) (n := 80) (pc := 1641) (gt_9 41 rfl) rfl).trans ?_
  refine (uk_ia (n := 79) (pc := 1642) (gt_9 42 rfl)).trans ?_
  refine (uk_ix (n := 78) (pc := 1643) (gt_9 43 rfl)).trans (uk_if ?_)
  refine (uk_al (n := 77) (pc := 1644) (gt_9 44 rfl) rfl).trans ?_
  refine (uk_il (n := 76) (pc := 1645) (gt_9 45 rfl) rfl).trans ?_
  refine (uk_ic (v := 3) (n := 75) (pc := 1647) (gt_9 46 rfl) rfl).trans ?_
  refine (uk_ia (n := 74) (pc := 1648) (gt_9 47 rfl)).trans ?_
  refine (uk_ix (n := 73) (pc := 1649) (gt_9 48 rfl)).trans (uk_if ?_)
  refine (uk_al (n := 72) (pc := 1650) (gt_9 49 rfl) rfl).trans ?_
  refine (uk_cS (r := []) (n := 71) (pc := 1651) (gt_9 50 rfl) cl_212 rt_12020 rfl rfl rfl rfl rfl (cx_lw_way_0 σ ((xs (v4 + 1).toNatClampNeg)) ((xs (v4 + 2).toNatClampNeg)) ((xs (v4 + 3).toNatClampNeg)))).trans (uk_cI fun r1 σ1 => ?_)
  refine (uk_is (M := [some (.ref 900), some (.ref 31), some (.ref 0), some (.ref 30), some (.int v4), some (.int r1), none]) (n := 70) (pc := 1654) (gt_9 51 rfl) rfl rfl).trans ?_
  refine (uk_al (n := 69) (pc := 1656) (gt_9 52 rfl) rfl).trans ?_
  refine (uk_al (n := 68) (pc := 1657) (gt_9 53 rfl) rfl).trans ?_
  refine (uk_il (n := 67) (pc := 1658) (gt_9 54 rfl) rfl).trans ?_
  refine (uk_ic (v := 1) (n := 66) (pc := 1660) (gt_9 55 rfl) rfl).trans ?_
  refine (uk_ia (n := 65) (pc := 1661) (gt_9 56 rfl)).trans ?_
  refine (uk_ix (n := 64) (pc := 1662) (gt_9 57 rfl)).trans (uk_if ?_)
  refine (uk_al (n := 63) (pc := 1663) (gt_9 58 rfl) rfl).trans ?_
  refine (uk_il (n := 62) (pc := 1664) (gt_9 59 rfl) rfl).trans ?_
  refine (uk_ic (v := 2) (n := 61) (pc := 1666) (gt_9 60 rfl) rfl).trans ?_
  refine (uk_ia (n := 60) (pc := 1667) (gt_9 61 rfl)).trans ?_
  refine (uk_ix (n := 59) (pc := 1668) (gt_9 62 rfl)).trans (uk_if ?_)
  refine (uk_al (n := 58) (pc := 1669) (gt_9 63 rfl) rfl).trans ?_
  refine (uk_il (n := 57) (pc := 1670) (gt_9 64 rfl) rfl).trans ?_
  refine (uk_ic (v := 3) (n := 56) (pc := 1672) (gt_9 65 rfl) rfl).trans ?_
  refine (uk_ia (n := 55) (pc := 1673) (gt_9 66 rfl)).trans ?_
  refine (uk_ix (n := 54) (pc := 1674) (gt_9 67 rfl)).trans (uk_if ?_)
  refine (uk_cN (r := []) (n := 53) (pc := 1675) (gt_9 68 rfl) cl_214 rt_98 rfl rfl rfl rfl rfl sh_0 (cx_m_way_0 σ1 ((xs (v4 + 1).toNatClampNeg)) ((xs (v4 + 2).toNatClampNeg)) ((xs (v4 + 3).toNatClampNeg)))).trans (uk_cI fun r2 σ2 => ?_)
  refine (uk_is (M := [some (.ref 900), some (.ref 31), some (.ref 0), some (.ref 30), some (.int v4), some (.int r1), some (.int r2)]) (n := 52) (pc := 1678) (gt_9 69 rfl) rfl rfl).trans ?_
  refine (uk_al (n := 51) (pc := 1680) (gt_9 70 rfl) rfl).trans ?_
  refine (uk_cN (r := []) (n := 50) (pc := 1681) (gt_9 71 rfl) cl_137 rt_1 rfl rfl rfl rfl rfl sh_0 (cx_m_thrown_0 σ2)).trans (uk_cI fun r3 σ3 => ?_)
  refine (uk_il (n := 49) (pc := 1684) (gt_9 72 rfl) rfl).trans ?_
  refine (uk_jc (t := 1691) (n := 48) (pc := 1686) (gt_9 73 rfl) rfl).trans (uk_ite ?_ ?_)
  ·
    refine (uk_il (n := 47) (pc := 1691) (gt_9 76 rfl) rfl).trans ?_
    refine (uk_jn (t := 1708) (n := 46) (pc := 1693) (gt_9 77 rfl) rfl).trans (uk_ite ?_ ?_)
    ·
      refine (uk_al (n := 45) (pc := 1696) (gt_9 78 rfl) rfl).trans ?_
      refine (uk_ic (v := 0) (n := 44) (pc := 1697) (gt_9 79 rfl) rfl).trans ?_
      refine (uk_la (q := 0) (n := 43) (pc := 1698) (gt_9 80 rfl) ar_30 uk_in0 rfl).trans ?_
      refine (uk_il (n := 42) (pc := 1699) (gt_9 81 rfl) rfl).trans ?_
      refine (uk_i2 (n := 41) (pc := 1701) (gt_9 82 rfl)).trans ?_
      refine (uk_lcm (n := 40) (pc := 1702) (gt_9 83 rfl)).trans ?_
      refine (uk_je (t := 1708) (n := 39) (pc := 1703) (gt_9 84 rfl) rfl).trans (uk_ite ?_ ?_)
      ·
        refine (uk_go (t := 2638) (n := 38) (pc := 1708) (gt_9 87 rfl) rfl).trans ?_
        refine (uk_ii (v := 6) (M := [some (.ref 900), some (.ref 31), some (.ref 0), some (.ref 30), some (.int (v4 + 6)), some (.int r1), some (.int r2)]) (n := 37) (pc := 2638) (gt_15 85 rfl) rfl rfl rfl).trans ?_
        refine (uk_go (t := 23) (n := 36) (pc := 2641) (gt_15 86 rfl) rfl).trans ?_
        exact uk_kf (n := 35) (pc := 23) (gt_0 0 rfl) rfl
      ·
        refine (uk_ic (v := 0) (n := 38) (pc := 1706) (gt_9 85 rfl) rfl).trans ?_
        exact uk_re (n := 37) (pc := 1707) (gt_9 86 rfl) rt_12035 (Or.inl rfl)
    ·
      refine (uk_go (t := 2638) (n := 45) (pc := 1708) (gt_9 87 rfl) rfl).trans ?_
      refine (uk_ii (v := 6) (M := [some (.ref 900), some (.ref 31), some (.ref 0), some (.ref 30), some (.int (v4 + 6)), some (.int r1), some (.int r2)]) (n := 44) (pc := 2638) (gt_15 85 rfl) rfl rfl rfl).trans ?_
      refine (uk_go (t := 23) (n := 43) (pc := 2641) (gt_15 86 rfl) rfl).trans ?_
      exact uk_kf (n := 42) (pc := 23) (gt_0 0 rfl) rfl
  ·
    refine (uk_ic (v := 0) (n := 47) (pc := 1689) (gt_9 74 rfl) rfl).trans ?_
    exact uk_re (n := 46) (pc := 1690) (gt_9 75 rfl) rt_12035 (Or.inl rfl)
set_option maxRecDepth 100000 in
theorem e_law_1711 (Ls : Nat) (xs : Nat → Int32) (kf : en_K) (σ : en_S) (v4 : Int32) : en_uk bb_G bb_P bb_ML bb_HD Ls xs 12035 kf 89 1711 [some (.ref 900), some (.ref 31), some (.ref 0), some (.ref 30), some (.int v4), none, none] [] σ =
    if en_in (v4 + 1) Ls then
      if en_in (v4 + 2) Ls then
        if en_in (v4 + 3) Ls then
          en_cI (x_lw_see_0 σ (xs (v4 + 1).toNatClampNeg) (xs (v4 + 2).toNatClampNeg) (xs (v4 + 3).toNatClampNeg)) (fun r2 σ1 =>
            if en_in (v4 + 1) Ls then
              if en_in (v4 + 2) Ls then
                if en_in (v4 + 3) Ls then
                  en_cI (x_m_see_0 σ1 (xs (v4 + 1).toNatClampNeg) (xs (v4 + 2).toNatClampNeg) (xs (v4 + 3).toNatClampNeg)) (fun r4 σ3 =>
                    en_cI (x_m_thrown_0 σ3) (fun r6 σ5 =>
                      if r6 = r2 then
                        if r2 = 0 then
                          if lg_cmp (σ5.2 30 0) r4.toInt64 = 0 then
                            kf 23 [some (.ref 900), some (.ref 31), some (.ref 0), some (.ref 30), some (.int (v4 + 6)), none, none] [] σ5
                          else
                            some (.inl (some (.int 0)), σ5)
                        else
                          kf 23 [some (.ref 900), some (.ref 31), some (.ref 0), some (.ref 30), some (.int (v4 + 6)), none, none] [] σ5
                      else
                        some (.inl (some (.int 0)), σ5)) (fun _ _ => none)) (fun _ _ => none)
                else
                  none
              else
                none
            else
              none) (fun _ _ => none)
        else
          none
      else
        none
    else
      none := by
  refine (uk_al (n := 88) (pc := 1711) (gt_9 88 rfl) rfl).trans ?_
  refine (uk_al (n := 87) (pc := 1712) (gt_9 89 rfl) rfl).trans ?_
  refine (uk_il (n := 86) (pc := 1713) (gt_9 90 rfl) rfl).trans ?_
  refine (uk_ic (v := 1) (n := 85) (pc := 1715) (gt_9 91 rfl) rfl).trans ?_
  refine (uk_ia (n := 84) (pc := 1716) (gt_9 92 rfl)).trans ?_
  refine (uk_ix (n := 83) (pc := 1717) (gt_9 93 rfl)).trans (uk_if ?_)
  refine (uk_al (n := 82) (pc := 1718) (gt_9 94 rfl) rfl).trans ?_
  refine (uk_il (n := 81) (pc := 1719) (gt_9 95 rfl) rfl).trans ?_
  refine (uk_ic (v := 2) (n := 80) (pc := 1721) (gt_9 96 rfl) rfl).trans ?_
  refine (uk_ia (n := 79) (pc := 1722) (gt_9 97 rfl)).trans ?_
  refine (uk_ix (n := 78) (pc := 1723) (gt_9 98 rfl)).trans (uk_if ?_)
  refine (uk_al (n := 77) (pc := 1724) (gt_9 99 rfl) rfl).trans ?_
  refine (uk_il (n := 76) (pc := 1725) (gt_10 0 rfl) rfl).trans ?_
  refine (uk_ic (v := 3) (n := 75) (pc := 1727) (gt_10 1 rfl) rfl).trans ?_
  refine (uk_ia (n := 74) (pc := 1728) (gt_10 2 rfl)).trans ?_
  refine (uk_ix (n := 73) (pc := 1729) (gt_10 3 rfl)).trans (uk_if ?_)
  refine (uk_al (n := 72) (pc := 1730) (gt_10 4 rfl) rfl).trans ?_
  refine (uk_cS (r := []) (n := 71) (pc := 1731) (gt_10 5 rfl) cl_215 rt_12021 rfl rfl rfl rfl rfl (cx_lw_see_0 σ ((xs (v4 + 1).toNatClampNeg)) ((xs (v4 + 2).toNatClampNeg)) ((xs (v4 + 3).toNatClampNeg)))).trans (uk_cI fun r1 σ1 => ?_)
  refine (uk_is (M := [some (.ref 900), some (.ref 31), some (.ref 0), some (.ref 30), some (.int v4), some (.int r1), none]) (n := 70) (pc := 1734) (gt_10 6 rfl) rfl rfl).trans ?_
  refine (uk_al (n := 69) (pc := 1736) (gt_10 7 rfl) rfl).trans ?_
  refine (uk_al (n := 68) (pc := 1737) (gt_10 8 rfl) rfl).trans ?_
  refine (uk_il (n := 67) (pc := 1738) (gt_10 9 rfl) rfl).trans ?_
  refine (uk_ic (v := 1) (n := 66) (pc := 1740) (gt_10 10 rfl) rfl).trans ?_
  refine (uk_ia (n := 65) (pc := 1741) (gt_10 11 rfl)).trans ?_
  refine (uk_ix (n := 64) (pc := 1742) (gt_10 12 rfl)).trans (uk_if ?_)
  refine (uk_al (n := 63) (pc := 1743) (gt_10 13 rfl) rfl).trans ?_
  refine (uk_il (n := 62) (pc := 1744) (gt_10 14 rfl) rfl).trans ?_
  refine (uk_ic (v := 2) (n := 61) (pc := 1746) (gt_10 15 rfl) rfl).trans ?_
  refine (uk_ia (n := 60) (pc := 1747) (gt_10 16 rfl)).trans ?_
  refine (uk_ix (n := 59) (pc := 1748) (gt_10 17 rfl)).trans (uk_if ?_)
  refine (uk_al (n := 58) (pc := 1749) (gt_10 18 rfl) rfl).trans ?_
  refine (uk_il (n := 57) (pc := 1750) (gt_10 19 rfl) rfl).trans ?_
  refine (uk_ic (v := 3) (n := 56) (pc := 1752) (gt_10 20 rfl) rfl).trans ?_
  refine (uk_ia (n := 55) (pc := 1753) (gt_10 21 rfl)).trans ?_
  refine (uk_ix (n := 54) (pc := 1754) (gt_10 22 rfl)).trans (uk_if ?_)
  refine (uk_cN (r := []) (n := 53) (pc := 1755) (gt_10 23 rfl) cl_217 rt_103 rfl rfl rfl rfl rfl sh_0 (cx_m_see_0 σ1 ((xs (v4 + 1).toNatClampNeg)) ((xs (v4 + 2).toNatClampNeg)) ((xs (v4 + 3).toNatClampNeg)))).trans (uk_cI fun r2 σ2 => ?_)
  refine (uk_is (M := [some (.ref 900), some (.ref 31), some (.ref 0), some (.ref 30), some (.int v4), some (.int r1), some (.int r2)]) (n := 52) (pc := 1758) (gt_10 24 rfl) rfl rfl).trans ?_
  refine (uk_al (n := 51) (pc := 1760) (gt_10 25 rfl) rfl).trans ?_
  refine (uk_cN (r := []) (n := 50) (pc := 1761) (gt_10 26 rfl) cl_137 rt_1 rfl rfl rfl rfl rfl sh_0 (cx_m_thrown_0 σ2)).trans (uk_cI fun r3 σ3 => ?_)
  refine (uk_il (n := 49) (pc := 1764) (gt_10 27 rfl) rfl).trans ?_
  refine (uk_jc (t := 1771) (n := 48) (pc := 1766) (gt_10 28 rfl) rfl).trans (uk_ite ?_ ?_)
  ·
    refine (uk_il (n := 47) (pc := 1771) (gt_10 31 rfl) rfl).trans ?_
    refine (uk_jn (t := 1788) (n := 46) (pc := 1773) (gt_10 32 rfl) rfl).trans (uk_ite ?_ ?_)
    ·
      refine (uk_al (n := 45) (pc := 1776) (gt_10 33 rfl) rfl).trans ?_
      refine (uk_ic (v := 0) (n := 44) (pc := 1777) (gt_10 34 rfl) rfl).trans ?_
      refine (uk_la (q := 0) (n := 43) (pc := 1778) (gt_10 35 rfl) ar_30 uk_in0 rfl).trans ?_
      refine (uk_il (n := 42) (pc := 1779) (gt_10 36 rfl) rfl).trans ?_
      refine (uk_i2 (n := 41) (pc := 1781) (gt_10 37 rfl)).trans ?_
      refine (uk_lcm (n := 40) (pc := 1782) (gt_10 38 rfl)).trans ?_
      refine (uk_je (t := 1788) (n := 39) (pc := 1783) (gt_10 39 rfl) rfl).trans (uk_ite ?_ ?_)
      ·
        refine (uk_go (t := 2638) (n := 38) (pc := 1788) (gt_10 42 rfl) rfl).trans ?_
        refine (uk_ii (v := 6) (M := [some (.ref 900), some (.ref 31), some (.ref 0), some (.ref 30), some (.int (v4 + 6)), some (.int r1), some (.int r2)]) (n := 37) (pc := 2638) (gt_15 85 rfl) rfl rfl rfl).trans ?_
        refine (uk_go (t := 23) (n := 36) (pc := 2641) (gt_15 86 rfl) rfl).trans ?_
        exact uk_kf (n := 35) (pc := 23) (gt_0 0 rfl) rfl
      ·
        refine (uk_ic (v := 0) (n := 38) (pc := 1786) (gt_10 40 rfl) rfl).trans ?_
        exact uk_re (n := 37) (pc := 1787) (gt_10 41 rfl) rt_12035 (Or.inl rfl)
    ·
      refine (uk_go (t := 2638) (n := 45) (pc := 1788) (gt_10 42 rfl) rfl).trans ?_
      refine (uk_ii (v := 6) (M := [some (.ref 900), some (.ref 31), some (.ref 0), some (.ref 30), some (.int (v4 + 6)), some (.int r1), some (.int r2)]) (n := 44) (pc := 2638) (gt_15 85 rfl) rfl rfl rfl).trans ?_
      refine (uk_go (t := 23) (n := 43) (pc := 2641) (gt_15 86 rfl) rfl).trans ?_
      exact uk_kf (n := 42) (pc := 23) (gt_0 0 rfl) rfl
  ·
    refine (uk_ic (v := 0) (n := 47) (pc := 1769) (gt_10 29 rfl) rfl).trans ?_
    exact uk_re (n := 46) (pc := 1770) (gt_10 30 rfl) rt_12035 (Or.inl rfl)
set_option maxRecDepth 100000 in
theorem e_law_1791 (Ls : Nat) (xs : Nat → Int32) (kf : en_K) (σ : en_S) (v4 : Int32) : en_uk bb_G bb_P bb_ML bb_HD Ls xs 12035 kf 89 1791 [some (.ref 900), some (.ref 31), some (.ref 0), some (.ref 30), some (.int v4), none, none] [] σ =
    en_cV (x_b_forget_0 σ) (fun σ1 =>
      en_cV (x_m_forget_0 σ1) (fun σ2 =>
        kf 23 [some (.ref 900), some (.ref 31), some (.ref 0), some (.ref 30), some (.int (v4 + 6)), none, none] [] σ2) (fun _ _ => none)) (fun _ _ => none) := by
  refine (uk_al (n := 88) (pc := 1791) (gt_10 43 rfl) rfl).trans ?_
  refine (uk_cV (r := []) (n := 87) (pc := 1792) (gt_10 44 rfl) cl_218 rt_10027 rfl rfl rfl rfl rfl sh_31 (cx_b_forget_0 σ)).trans (uk_cVc fun σ1 => ?_)
  refine (uk_al (n := 86) (pc := 1795) (gt_10 45 rfl) rfl).trans ?_
  refine (uk_cV (r := []) (n := 85) (pc := 1796) (gt_10 46 rfl) cl_221 rt_104 rfl rfl rfl rfl rfl sh_0 (cx_m_forget_0 σ1)).trans (uk_cVc fun σ2 => ?_)
  refine (uk_go (t := 2638) (n := 84) (pc := 1799) (gt_10 47 rfl) rfl).trans ?_
  refine (uk_ii (v := 6) (M := [some (.ref 900), some (.ref 31), some (.ref 0), some (.ref 30), some (.int (v4 + 6)), none, none]) (n := 83) (pc := 2638) (gt_15 85 rfl) rfl rfl rfl).trans ?_
  refine (uk_go (t := 23) (n := 82) (pc := 2641) (gt_15 86 rfl) rfl).trans ?_
  exact uk_kf (n := 81) (pc := 23) (gt_0 0 rfl) rfl
set_option maxRecDepth 100000 in
theorem e_law_1802 (Ls : Nat) (xs : Nat → Int32) (kf : en_K) (σ : en_S) (v4 : Int32) : en_uk bb_G bb_P bb_ML bb_HD Ls xs 12035 kf 89 1802 [some (.ref 900), some (.ref 31), some (.ref 0), some (.ref 30), some (.int v4), none, none] [] σ =
    if en_in (v4 + 1) Ls then
      en_cI (x_lw_weighed_0 σ (xs (v4 + 1).toNatClampNeg)) (fun r2 σ1 =>
        if en_in (v4 + 1) Ls then
          en_cI (x_m_weighed_0 σ1 (xs (v4 + 1).toNatClampNeg)) (fun r4 σ3 =>
            en_cI (x_m_thrown_0 σ3) (fun r6 σ5 =>
              if r6 = r2 then
                if r2 = 0 then
                  if lg_cmp (σ5.2 30 0) r4.toInt64 = 0 then
                    kf 23 [some (.ref 900), some (.ref 31), some (.ref 0), some (.ref 30), some (.int (v4 + 6)), none, none] [] σ5
                  else
                    some (.inl (some (.int 0)), σ5)
                else
                  kf 23 [some (.ref 900), some (.ref 31), some (.ref 0), some (.ref 30), some (.int (v4 + 6)), none, none] [] σ5
              else
                some (.inl (some (.int 0)), σ5)) (fun _ _ => none)) (fun _ _ => none)
        else
          none) (fun _ _ => none)
    else
      none := by
  refine (uk_al (n := 88) (pc := 1802) (gt_10 48 rfl) rfl).trans ?_
  refine (uk_al (n := 87) (pc := 1803) (gt_10 49 rfl) rfl).trans ?_
  refine (uk_il (n := 86) (pc := 1804) (gt_10 50 rfl) rfl).trans ?_
  refine (uk_ic (v := 1) (n := 85) (pc := 1806) (gt_10 51 rfl) rfl).trans ?_
  refine (uk_ia (n := 84) (pc := 1807) (gt_10 52 rfl)).trans ?_
  refine (uk_ix (n := 83) (pc := 1808) (gt_10 53 rfl)).trans (uk_if ?_)
  refine (uk_al (n := 82) (pc := 1809) (gt_10 54 rfl) rfl).trans ?_
  refine (uk_cS (r := []) (n := 81) (pc := 1810) (gt_10 55 rfl) cl_222 rt_12022 rfl rfl rfl rfl rfl (cx_lw_weighed_0 σ ((xs (v4 + 1).toNatClampNeg)))).trans (uk_cI fun r1 σ1 => ?_)
  refine (uk_is (M := [some (.ref 900), some (.ref 31), some (.ref 0), some (.ref 30), some (.int v4), some (.int r1), none]) (n := 80) (pc := 1813) (gt_10 56 rfl) rfl rfl).trans ?_
  refine (uk_al (n := 79) (pc := 1815) (gt_10 57 rfl) rfl).trans ?_
  refine (uk_al (n := 78) (pc := 1816) (gt_10 58 rfl) rfl).trans ?_
  refine (uk_il (n := 77) (pc := 1817) (gt_10 59 rfl) rfl).trans ?_
  refine (uk_ic (v := 1) (n := 76) (pc := 1819) (gt_10 60 rfl) rfl).trans ?_
  refine (uk_ia (n := 75) (pc := 1820) (gt_10 61 rfl)).trans ?_
  refine (uk_ix (n := 74) (pc := 1821) (gt_10 62 rfl)).trans (uk_if ?_)
  refine (uk_cN (r := []) (n := 73) (pc := 1822) (gt_10 63 rfl) cl_224 rt_107 rfl rfl rfl rfl rfl sh_0 (cx_m_weighed_0 σ1 ((xs (v4 + 1).toNatClampNeg)))).trans (uk_cI fun r2 σ2 => ?_)
  refine (uk_is (M := [some (.ref 900), some (.ref 31), some (.ref 0), some (.ref 30), some (.int v4), some (.int r1), some (.int r2)]) (n := 72) (pc := 1825) (gt_10 64 rfl) rfl rfl).trans ?_
  refine (uk_al (n := 71) (pc := 1827) (gt_10 65 rfl) rfl).trans ?_
  refine (uk_cN (r := []) (n := 70) (pc := 1828) (gt_10 66 rfl) cl_137 rt_1 rfl rfl rfl rfl rfl sh_0 (cx_m_thrown_0 σ2)).trans (uk_cI fun r3 σ3 => ?_)
  refine (uk_il (n := 69) (pc := 1831) (gt_10 67 rfl) rfl).trans ?_
  refine (uk_jc (t := 1838) (n := 68) (pc := 1833) (gt_10 68 rfl) rfl).trans (uk_ite ?_ ?_)
  ·
    refine (uk_il (n := 67) (pc := 1838) (gt_10 71 rfl) rfl).trans ?_
    refine (uk_jn (t := 1855) (n := 66) (pc := 1840) (gt_10 72 rfl) rfl).trans (uk_ite ?_ ?_)
    ·
      refine (uk_al (n := 65) (pc := 1843) (gt_10 73 rfl) rfl).trans ?_
      refine (uk_ic (v := 0) (n := 64) (pc := 1844) (gt_10 74 rfl) rfl).trans ?_
      refine (uk_la (q := 0) (n := 63) (pc := 1845) (gt_10 75 rfl) ar_30 uk_in0 rfl).trans ?_
      refine (uk_il (n := 62) (pc := 1846) (gt_10 76 rfl) rfl).trans ?_
      refine (uk_i2 (n := 61) (pc := 1848) (gt_10 77 rfl)).trans ?_
      refine (uk_lcm (n := 60) (pc := 1849) (gt_10 78 rfl)).trans ?_
      refine (uk_je (t := 1855) (n := 59) (pc := 1850) (gt_10 79 rfl) rfl).trans (uk_ite ?_ ?_)
      ·
        refine (uk_go (t := 2638) (n := 58) (pc := 1855) (gt_10 82 rfl) rfl).trans ?_
        refine (uk_ii (v := 6) (M := [some (.ref 900), some (.ref 31), some (.ref 0), some (.ref 30), some (.int (v4 + 6)), some (.int r1), some (.int r2)]) (n := 57) (pc := 2638) (gt_15 85 rfl) rfl rfl rfl).trans ?_
        refine (uk_go (t := 23) (n := 56) (pc := 2641) (gt_15 86 rfl) rfl).trans ?_
        exact uk_kf (n := 55) (pc := 23) (gt_0 0 rfl) rfl
      ·
        refine (uk_ic (v := 0) (n := 58) (pc := 1853) (gt_10 80 rfl) rfl).trans ?_
        exact uk_re (n := 57) (pc := 1854) (gt_10 81 rfl) rt_12035 (Or.inl rfl)
    ·
      refine (uk_go (t := 2638) (n := 65) (pc := 1855) (gt_10 82 rfl) rfl).trans ?_
      refine (uk_ii (v := 6) (M := [some (.ref 900), some (.ref 31), some (.ref 0), some (.ref 30), some (.int (v4 + 6)), some (.int r1), some (.int r2)]) (n := 64) (pc := 2638) (gt_15 85 rfl) rfl rfl rfl).trans ?_
      refine (uk_go (t := 23) (n := 63) (pc := 2641) (gt_15 86 rfl) rfl).trans ?_
      exact uk_kf (n := 62) (pc := 23) (gt_0 0 rfl) rfl
  ·
    refine (uk_ic (v := 0) (n := 67) (pc := 1836) (gt_10 69 rfl) rfl).trans ?_
    exact uk_re (n := 66) (pc := 1837) (gt_10 70 rfl) rt_12035 (Or.inl rfl)
set_option maxRecDepth 100000 in
theorem e_law_1858 (Ls : Nat) (xs : Nat → Int32) (kf : en_K) (σ : en_S) (v4 : Int32) : en_uk bb_G bb_P bb_ML bb_HD Ls xs 12035 kf 89 1858 [some (.ref 900), some (.ref 31), some (.ref 0), some (.ref 30), some (.int v4), none, none] [] σ =
    if en_in (v4 + 1) Ls then
      en_cI (x_lw_look_0 σ (xs (v4 + 1).toNatClampNeg)) (fun r2 σ1 =>
        if en_in (v4 + 1) Ls then
          en_cI (x_m_look_0 σ1 (xs (v4 + 1).toNatClampNeg)) (fun r4 σ3 =>
            en_cI (x_m_thrown_0 σ3) (fun r6 σ5 =>
              if r6 = r2 then
                if r2 = 0 then
                  if lg_cmp (σ5.2 30 0) r4.toInt64 = 0 then
                    kf 23 [some (.ref 900), some (.ref 31), some (.ref 0), some (.ref 30), some (.int (v4 + 6)), none, none] [] σ5
                  else
                    some (.inl (some (.int 0)), σ5)
                else
                  kf 23 [some (.ref 900), some (.ref 31), some (.ref 0), some (.ref 30), some (.int (v4 + 6)), none, none] [] σ5
              else
                some (.inl (some (.int 0)), σ5)) (fun _ _ => none)) (fun _ _ => none)
        else
          none) (fun _ _ => none)
    else
      none := by
  refine (uk_al (n := 88) (pc := 1858) (gt_10 83 rfl) rfl).trans ?_
  refine (uk_al (n := 87) (pc := 1859) (gt_10 84 rfl) rfl).trans ?_
  refine (uk_il (n := 86) (pc := 1860) (gt_10 85 rfl) rfl).trans ?_
  refine (uk_ic (v := 1) (n := 85) (pc := 1862) (gt_10 86 rfl) rfl).trans ?_
  refine (uk_ia (n := 84) (pc := 1863) (gt_10 87 rfl)).trans ?_
  refine (uk_ix (n := 83) (pc := 1864) (gt_10 88 rfl)).trans (uk_if ?_)
  refine (uk_al (n := 82) (pc := 1865) (gt_10 89 rfl) rfl).trans ?_
  refine (uk_cS (r := []) (n := 81) (pc := 1866) (gt_10 90 rfl) cl_225 rt_12023 rfl rfl rfl rfl rfl (cx_lw_look_0 σ ((xs (v4 + 1).toNatClampNeg)))).trans (uk_cI fun r1 σ1 => ?_)
  refine (uk_is (M := [some (.ref 900), some (.ref 31), some (.ref 0), some (.ref 30), some (.int v4), some (.int r1), none]) (n := 80) (pc := 1869) (gt_10 91 rfl) rfl rfl).trans ?_
  refine (uk_al (n := 79) (pc := 1871) (gt_10 92 rfl) rfl).trans ?_
  refine (uk_al (n := 78) (pc := 1872) (gt_10 93 rfl) rfl).trans ?_
  refine (uk_il (n := 77) (pc := 1873) (gt_10 94 rfl) rfl).trans ?_
  refine (uk_ic (v := 1) (n := 76) (pc := 1875) (gt_10 95 rfl) rfl).trans ?_
  refine (uk_ia (n := 75) (pc := 1876) (gt_10 96 rfl)).trans ?_
  refine (uk_ix (n := 74) (pc := 1877) (gt_10 97 rfl)).trans (uk_if ?_)
  refine (uk_cN (r := []) (n := 73) (pc := 1878) (gt_10 98 rfl) cl_227 rt_108 rfl rfl rfl rfl rfl sh_0 (cx_m_look_0 σ1 ((xs (v4 + 1).toNatClampNeg)))).trans (uk_cI fun r2 σ2 => ?_)
  refine (uk_is (M := [some (.ref 900), some (.ref 31), some (.ref 0), some (.ref 30), some (.int v4), some (.int r1), some (.int r2)]) (n := 72) (pc := 1881) (gt_10 99 rfl) rfl rfl).trans ?_
  refine (uk_al (n := 71) (pc := 1883) (gt_11 0 rfl) rfl).trans ?_
  refine (uk_cN (r := []) (n := 70) (pc := 1884) (gt_11 1 rfl) cl_137 rt_1 rfl rfl rfl rfl rfl sh_0 (cx_m_thrown_0 σ2)).trans (uk_cI fun r3 σ3 => ?_)
  refine (uk_il (n := 69) (pc := 1887) (gt_11 2 rfl) rfl).trans ?_
  refine (uk_jc (t := 1894) (n := 68) (pc := 1889) (gt_11 3 rfl) rfl).trans (uk_ite ?_ ?_)
  ·
    refine (uk_il (n := 67) (pc := 1894) (gt_11 6 rfl) rfl).trans ?_
    refine (uk_jn (t := 1911) (n := 66) (pc := 1896) (gt_11 7 rfl) rfl).trans (uk_ite ?_ ?_)
    ·
      refine (uk_al (n := 65) (pc := 1899) (gt_11 8 rfl) rfl).trans ?_
      refine (uk_ic (v := 0) (n := 64) (pc := 1900) (gt_11 9 rfl) rfl).trans ?_
      refine (uk_la (q := 0) (n := 63) (pc := 1901) (gt_11 10 rfl) ar_30 uk_in0 rfl).trans ?_
      refine (uk_il (n := 62) (pc := 1902) (gt_11 11 rfl) rfl).trans ?_
      refine (uk_i2 (n := 61) (pc := 1904) (gt_11 12 rfl)).trans ?_
      refine (uk_lcm (n := 60) (pc := 1905) (gt_11 13 rfl)).trans ?_
      refine (uk_je (t := 1911) (n := 59) (pc := 1906) (gt_11 14 rfl) rfl).trans (uk_ite ?_ ?_)
      ·
        refine (uk_go (t := 2638) (n := 58) (pc := 1911) (gt_11 17 rfl) rfl).trans ?_
        refine (uk_ii (v := 6) (M := [some (.ref 900), some (.ref 31), some (.ref 0), some (.ref 30), some (.int (v4 + 6)), some (.int r1), some (.int r2)]) (n := 57) (pc := 2638) (gt_15 85 rfl) rfl rfl rfl).trans ?_
        refine (uk_go (t := 23) (n := 56) (pc := 2641) (gt_15 86 rfl) rfl).trans ?_
        exact uk_kf (n := 55) (pc := 23) (gt_0 0 rfl) rfl
      ·
        refine (uk_ic (v := 0) (n := 58) (pc := 1909) (gt_11 15 rfl) rfl).trans ?_
        exact uk_re (n := 57) (pc := 1910) (gt_11 16 rfl) rt_12035 (Or.inl rfl)
    ·
      refine (uk_go (t := 2638) (n := 65) (pc := 1911) (gt_11 17 rfl) rfl).trans ?_
      refine (uk_ii (v := 6) (M := [some (.ref 900), some (.ref 31), some (.ref 0), some (.ref 30), some (.int (v4 + 6)), some (.int r1), some (.int r2)]) (n := 64) (pc := 2638) (gt_15 85 rfl) rfl rfl rfl).trans ?_
      refine (uk_go (t := 23) (n := 63) (pc := 2641) (gt_15 86 rfl) rfl).trans ?_
      exact uk_kf (n := 62) (pc := 23) (gt_0 0 rfl) rfl
  ·
    refine (uk_ic (v := 0) (n := 67) (pc := 1892) (gt_11 4 rfl) rfl).trans ?_
    exact uk_re (n := 66) (pc := 1893) (gt_11 5 rfl) rt_12035 (Or.inl rfl)
set_option maxRecDepth 100000 in
theorem e_law_1914 (Ls : Nat) (xs : Nat → Int32) (kf : en_K) (σ : en_S) (v4 : Int32) : en_uk bb_G bb_P bb_ML bb_HD Ls xs 12035 kf 89 1914 [some (.ref 900), some (.ref 31), some (.ref 0), some (.ref 30), some (.int v4), none, none] [] σ =
    if en_in (v4 + 1) Ls then
      if en_in (v4 + 2) Ls then
        if en_in (v4 + 3) Ls then
          en_cI (x_lw_rain_0 σ (xs (v4 + 1).toNatClampNeg) (xs (v4 + 2).toNatClampNeg) (xs (v4 + 3).toNatClampNeg)) (fun r2 σ1 =>
            if en_in (v4 + 1) Ls then
              if en_in (v4 + 2) Ls then
                if en_in (v4 + 3) Ls then
                  en_cI (x_m_rain_0 σ1 (xs (v4 + 1).toNatClampNeg) (xs (v4 + 2).toNatClampNeg) (xs (v4 + 3).toNatClampNeg)) (fun r4 σ3 =>
                    en_cI (x_m_thrown_0 σ3) (fun r6 σ5 =>
                      if r6 = r2 then
                        if r2 = 0 then
                          if lg_cmp (σ5.2 30 0) r4.toInt64 = 0 then
                            kf 23 [some (.ref 900), some (.ref 31), some (.ref 0), some (.ref 30), some (.int (v4 + 6)), none, none] [] σ5
                          else
                            some (.inl (some (.int 0)), σ5)
                        else
                          kf 23 [some (.ref 900), some (.ref 31), some (.ref 0), some (.ref 30), some (.int (v4 + 6)), none, none] [] σ5
                      else
                        some (.inl (some (.int 0)), σ5)) (fun _ _ => none)) (fun _ _ => none)
                else
                  none
              else
                none
            else
              none) (fun _ _ => none)
        else
          none
      else
        none
    else
      none := by
  refine (uk_al (n := 88) (pc := 1914) (gt_11 18 rfl) rfl).trans ?_
  refine (uk_al (n := 87) (pc := 1915) (gt_11 19 rfl) rfl).trans ?_
  refine (uk_il (n := 86) (pc := 1916) (gt_11 20 rfl) rfl).trans ?_
  refine (uk_ic (v := 1) (n := 85) (pc := 1918) (gt_11 21 rfl) rfl).trans ?_
  refine (uk_ia (n := 84) (pc := 1919) (gt_11 22 rfl)).trans ?_
  refine (uk_ix (n := 83) (pc := 1920) (gt_11 23 rfl)).trans (uk_if ?_)
  refine (uk_al (n := 82) (pc := 1921) (gt_11 24 rfl) rfl).trans ?_
  refine (uk_il (n := 81) (pc := 1922) (gt_11 25 rfl) rfl).trans ?_
  refine (uk_ic (v := 2) (n := 80) (pc := 1924) (gt_11 26 rfl) rfl).trans ?_
  refine (uk_ia (n := 79) (pc := 1925) (gt_11 27 rfl)).trans ?_
  refine (uk_ix (n := 78) (pc := 1926) (gt_11 28 rfl)).trans (uk_if ?_)
  refine (uk_al (n := 77) (pc := 1927) (gt_11 29 rfl) rfl).trans ?_
  refine (uk_il (n := 76) (pc := 1928) (gt_11 30 rfl) rfl).trans ?_
  refine (uk_ic (v := 3) (n := 75) (pc := 1930) (gt_11 31 rfl) rfl).trans ?_
  refine (uk_ia (n := 74) (pc := 1931) (gt_11 32 rfl)).trans ?_
  refine (uk_ix (n := 73) (pc := 1932) (gt_11 33 rfl)).trans (uk_if ?_)
  refine (uk_al (n := 72) (pc := 1933) (gt_11 34 rfl) rfl).trans ?_
  refine (uk_cS (r := []) (n := 71) (pc := 1934) (gt_11 35 rfl) cl_228 rt_12024 rfl rfl rfl rfl rfl (cx_lw_rain_0 σ ((xs (v4 + 1).toNatClampNeg)) ((xs (v4 + 2).toNatClampNeg)) ((xs (v4 + 3).toNatClampNeg)))).trans (uk_cI fun r1 σ1 => ?_)
  refine (uk_is (M := [some (.ref 900), some (.ref 31), some (.ref 0), some (.ref 30), some (.int v4), some (.int r1), none]) (n := 70) (pc := 1937) (gt_11 36 rfl) rfl rfl).trans ?_
  refine (uk_al (n := 69) (pc := 1939) (gt_11 37 rfl) rfl).trans ?_
  refine (uk_al (n := 68) (pc := 1940) (gt_11 38 rfl) rfl).trans ?_
  refine (uk_il (n := 67) (pc := 1941) (gt_11 39 rfl) rfl).trans ?_
  refine (uk_ic (v := 1) (n := 66) (pc := 1943) (gt_11 40 rfl) rfl).trans ?_
  refine (uk_ia (n := 65) (pc := 1944) (gt_11 41 rfl)).trans ?_
  refine (uk_ix (n := 64) (pc := 1945) (gt_11 42 rfl)).trans (uk_if ?_)
  refine (uk_al (n := 63) (pc := 1946) (gt_11 43 rfl) rfl).trans ?_
  refine (uk_il (n := 62) (pc := 1947) (gt_11 44 rfl) rfl).trans ?_
  refine (uk_ic (v := 2) (n := 61) (pc := 1949) (gt_11 45 rfl) rfl).trans ?_
  refine (uk_ia (n := 60) (pc := 1950) (gt_11 46 rfl)).trans ?_
  refine (uk_ix (n := 59) (pc := 1951) (gt_11 47 rfl)).trans (uk_if ?_)
  refine (uk_al (n := 58) (pc := 1952) (gt_11 48 rfl) rfl).trans ?_
  refine (uk_il (n := 57) (pc := 1953) (gt_11 49 rfl) rfl).trans ?_
  refine (uk_ic (v := 3) (n := 56) (pc := 1955) (gt_11 50 rfl) rfl).trans ?_
  refine (uk_ia (n := 55) (pc := 1956) (gt_11 51 rfl)).trans ?_
  refine (uk_ix (n := 54) (pc := 1957) (gt_11 52 rfl)).trans (uk_if ?_)
  refine (uk_cN (r := []) (n := 53) (pc := 1958) (gt_11 53 rfl) cl_230 rt_109 rfl rfl rfl rfl rfl sh_0 (cx_m_rain_0 σ1 ((xs (v4 + 1).toNatClampNeg)) ((xs (v4 + 2).toNatClampNeg)) ((xs (v4 + 3).toNatClampNeg)))).trans (uk_cI fun r2 σ2 => ?_)
  refine (uk_is (M := [some (.ref 900), some (.ref 31), some (.ref 0), some (.ref 30), some (.int v4), some (.int r1), some (.int r2)]) (n := 52) (pc := 1961) (gt_11 54 rfl) rfl rfl).trans ?_
  refine (uk_al (n := 51) (pc := 1963) (gt_11 55 rfl) rfl).trans ?_
  refine (uk_cN (r := []) (n := 50) (pc := 1964) (gt_11 56 rfl) cl_137 rt_1 rfl rfl rfl rfl rfl sh_0 (cx_m_thrown_0 σ2)).trans (uk_cI fun r3 σ3 => ?_)
  refine (uk_il (n := 49) (pc := 1967) (gt_11 57 rfl) rfl).trans ?_
  refine (uk_jc (t := 1974) (n := 48) (pc := 1969) (gt_11 58 rfl) rfl).trans (uk_ite ?_ ?_)
  ·
    refine (uk_il (n := 47) (pc := 1974) (gt_11 61 rfl) rfl).trans ?_
    refine (uk_jn (t := 1991) (n := 46) (pc := 1976) (gt_11 62 rfl) rfl).trans (uk_ite ?_ ?_)
    ·
      refine (uk_al (n := 45) (pc := 1979) (gt_11 63 rfl) rfl).trans ?_
      refine (uk_ic (v := 0) (n := 44) (pc := 1980) (gt_11 64 rfl) rfl).trans ?_
      refine (uk_la (q := 0) (n := 43) (pc := 1981) (gt_11 65 rfl) ar_30 uk_in0 rfl).trans ?_
      refine (uk_il (n := 42) (pc := 1982) (gt_11 66 rfl) rfl).trans ?_
      refine (uk_i2 (n := 41) (pc := 1984) (gt_11 67 rfl)).trans ?_
      refine (uk_lcm (n := 40) (pc := 1985) (gt_11 68 rfl)).trans ?_
      refine (uk_je (t := 1991) (n := 39) (pc := 1986) (gt_11 69 rfl) rfl).trans (uk_ite ?_ ?_)
      ·
        refine (uk_go (t := 2638) (n := 38) (pc := 1991) (gt_11 72 rfl) rfl).trans ?_
        refine (uk_ii (v := 6) (M := [some (.ref 900), some (.ref 31), some (.ref 0), some (.ref 30), some (.int (v4 + 6)), some (.int r1), some (.int r2)]) (n := 37) (pc := 2638) (gt_15 85 rfl) rfl rfl rfl).trans ?_
        refine (uk_go (t := 23) (n := 36) (pc := 2641) (gt_15 86 rfl) rfl).trans ?_
        exact uk_kf (n := 35) (pc := 23) (gt_0 0 rfl) rfl
      ·
        refine (uk_ic (v := 0) (n := 38) (pc := 1989) (gt_11 70 rfl) rfl).trans ?_
        exact uk_re (n := 37) (pc := 1990) (gt_11 71 rfl) rt_12035 (Or.inl rfl)
    ·
      refine (uk_go (t := 2638) (n := 45) (pc := 1991) (gt_11 72 rfl) rfl).trans ?_
      refine (uk_ii (v := 6) (M := [some (.ref 900), some (.ref 31), some (.ref 0), some (.ref 30), some (.int (v4 + 6)), some (.int r1), some (.int r2)]) (n := 44) (pc := 2638) (gt_15 85 rfl) rfl rfl rfl).trans ?_
      refine (uk_go (t := 23) (n := 43) (pc := 2641) (gt_15 86 rfl) rfl).trans ?_
      exact uk_kf (n := 42) (pc := 23) (gt_0 0 rfl) rfl
  ·
    refine (uk_ic (v := 0) (n := 47) (pc := 1972) (gt_11 59 rfl) rfl).trans ?_
    exact uk_re (n := 46) (pc := 1973) (gt_11 60 rfl) rt_12035 (Or.inl rfl)
set_option maxRecDepth 100000 in
theorem e_law_1994 (Ls : Nat) (xs : Nat → Int32) (kf : en_K) (σ : en_S) (v4 : Int32) : en_uk bb_G bb_P bb_ML bb_HD Ls xs 12035 kf 89 1994 [some (.ref 900), some (.ref 31), some (.ref 0), some (.ref 30), some (.int v4), none, none] [] σ =
    if en_in (v4 + 1) Ls then
      if en_in (v4 + 2) Ls then
        if en_in (v4 + 3) Ls then
          en_cI (x_lw_game_0 σ (xs (v4 + 1).toNatClampNeg) (xs (v4 + 2).toNatClampNeg) (xs (v4 + 3).toNatClampNeg)) (fun r2 σ1 =>
            if en_in (v4 + 1) Ls then
              if en_in (v4 + 2) Ls then
                if en_in (v4 + 3) Ls then
                  en_cI (x_m_game_0 σ1 (xs (v4 + 1).toNatClampNeg) (xs (v4 + 2).toNatClampNeg) (xs (v4 + 3).toNatClampNeg)) (fun r4 σ3 =>
                    en_cI (x_m_thrown_0 σ3) (fun r6 σ5 =>
                      if r6 = r2 then
                        if r2 = 0 then
                          if lg_cmp (σ5.2 30 0) r4.toInt64 = 0 then
                            kf 23 [some (.ref 900), some (.ref 31), some (.ref 0), some (.ref 30), some (.int (v4 + 6)), none, none] [] σ5
                          else
                            some (.inl (some (.int 0)), σ5)
                        else
                          kf 23 [some (.ref 900), some (.ref 31), some (.ref 0), some (.ref 30), some (.int (v4 + 6)), none, none] [] σ5
                      else
                        some (.inl (some (.int 0)), σ5)) (fun _ _ => none)) (fun _ _ => none)
                else
                  none
              else
                none
            else
              none) (fun _ _ => none)
        else
          none
      else
        none
    else
      none := by
  refine (uk_al (n := 88) (pc := 1994) (gt_11 73 rfl) rfl).trans ?_
  refine (uk_al (n := 87) (pc := 1995) (gt_11 74 rfl) rfl).trans ?_
  refine (uk_il (n := 86) (pc := 1996) (gt_11 75 rfl) rfl).trans ?_
  refine (uk_ic (v := 1) (n := 85) (pc := 1998) (gt_11 76 rfl) rfl).trans ?_
  refine (uk_ia (n := 84) (pc := 1999) (gt_11 77 rfl)).trans ?_
  refine (uk_ix (n := 83) (pc := 2000) (gt_11 78 rfl)).trans (uk_if ?_)
  refine (uk_al (n := 82) (pc := 2001) (gt_11 79 rfl) rfl).trans ?_
  refine (uk_il (n := 81) (pc := 2002) (gt_11 80 rfl) rfl).trans ?_
  refine (uk_ic (v := 2) (n := 80) (pc := 2004) (gt_11 81 rfl) rfl).trans ?_
  refine (uk_ia (n := 79) (pc := 2005) (gt_11 82 rfl)).trans ?_
  refine (uk_ix (n := 78) (pc := 2006) (gt_11 83 rfl)).trans (uk_if ?_)
  refine (uk_al (n := 77) (pc := 2007) (gt_11 84 rfl) rfl).trans ?_
  refine (uk_il (n := 76) (pc := 2008) (gt_11 85 rfl) rfl).trans ?_
  refine (uk_ic (v := 3) (n := 75) (pc := 2010) (gt_11 86 rfl) rfl).trans ?_
  refine (uk_ia (n := 74) (pc := 2011) (gt_11 87 rfl)).trans ?_
  refine (uk_ix (n := 73) (pc := 2012) (gt_11 88 rfl)).trans (uk_if ?_)
  refine (uk_al (n := 72) (pc := 2013) (gt_11 89 rfl) rfl).trans ?_
  refine (uk_cS (r := []) (n := 71) (pc := 2014) (gt_11 90 rfl) cl_231 rt_12025 rfl rfl rfl rfl rfl (cx_lw_game_0 σ ((xs (v4 + 1).toNatClampNeg)) ((xs (v4 + 2).toNatClampNeg)) ((xs (v4 + 3).toNatClampNeg)))).trans (uk_cI fun r1 σ1 => ?_)
  refine (uk_is (M := [some (.ref 900), some (.ref 31), some (.ref 0), some (.ref 30), some (.int v4), some (.int r1), none]) (n := 70) (pc := 2017) (gt_11 91 rfl) rfl rfl).trans ?_
  refine (uk_al (n := 69) (pc := 2019) (gt_11 92 rfl) rfl).trans ?_
  refine (uk_al (n := 68) (pc := 2020) (gt_11 93 rfl) rfl).trans ?_
  refine (uk_il (n := 67) (pc := 2021) (gt_11 94 rfl) rfl).trans ?_
  refine (uk_ic (v := 1) (n := 66) (pc := 2023) (gt_11 95 rfl) rfl).trans ?_
  refine (uk_ia (n := 65) (pc := 2024) (gt_11 96 rfl)).trans ?_
  refine (uk_ix (n := 64) (pc := 2025) (gt_11 97 rfl)).trans (uk_if ?_)
  refine (uk_al (n := 63) (pc := 2026) (gt_11 98 rfl) rfl).trans ?_
  refine (uk_il (n := 62) (pc := 2027) (gt_11 99 rfl) rfl).trans ?_
  refine (uk_ic (v := 2) (n := 61) (pc := 2029) (gt_12 0 rfl) rfl).trans ?_
  refine (uk_ia (n := 60) (pc := 2030) (gt_12 1 rfl)).trans ?_
  refine (uk_ix (n := 59) (pc := 2031) (gt_12 2 rfl)).trans (uk_if ?_)
  refine (uk_al (n := 58) (pc := 2032) (gt_12 3 rfl) rfl).trans ?_
  refine (uk_il (n := 57) (pc := 2033) (gt_12 4 rfl) rfl).trans ?_
  refine (uk_ic (v := 3) (n := 56) (pc := 2035) (gt_12 5 rfl) rfl).trans ?_
  refine (uk_ia (n := 55) (pc := 2036) (gt_12 6 rfl)).trans ?_
  refine (uk_ix (n := 54) (pc := 2037) (gt_12 7 rfl)).trans (uk_if ?_)
  refine (uk_cN (r := []) (n := 53) (pc := 2038) (gt_12 8 rfl) cl_233 rt_111 rfl rfl rfl rfl rfl sh_0 (cx_m_game_0 σ1 ((xs (v4 + 1).toNatClampNeg)) ((xs (v4 + 2).toNatClampNeg)) ((xs (v4 + 3).toNatClampNeg)))).trans (uk_cI fun r2 σ2 => ?_)
  refine (uk_is (M := [some (.ref 900), some (.ref 31), some (.ref 0), some (.ref 30), some (.int v4), some (.int r1), some (.int r2)]) (n := 52) (pc := 2041) (gt_12 9 rfl) rfl rfl).trans ?_
  refine (uk_al (n := 51) (pc := 2043) (gt_12 10 rfl) rfl).trans ?_
  refine (uk_cN (r := []) (n := 50) (pc := 2044) (gt_12 11 rfl) cl_137 rt_1 rfl rfl rfl rfl rfl sh_0 (cx_m_thrown_0 σ2)).trans (uk_cI fun r3 σ3 => ?_)
  refine (uk_il (n := 49) (pc := 2047) (gt_12 12 rfl) rfl).trans ?_
  refine (uk_jc (t := 2054) (n := 48) (pc := 2049) (gt_12 13 rfl) rfl).trans (uk_ite ?_ ?_)
  ·
    refine (uk_il (n := 47) (pc := 2054) (gt_12 16 rfl) rfl).trans ?_
    refine (uk_jn (t := 2071) (n := 46) (pc := 2056) (gt_12 17 rfl) rfl).trans (uk_ite ?_ ?_)
    ·
      refine (uk_al (n := 45) (pc := 2059) (gt_12 18 rfl) rfl).trans ?_
      refine (uk_ic (v := 0) (n := 44) (pc := 2060) (gt_12 19 rfl) rfl).trans ?_
      refine (uk_la (q := 0) (n := 43) (pc := 2061) (gt_12 20 rfl) ar_30 uk_in0 rfl).trans ?_
      refine (uk_il (n := 42) (pc := 2062) (gt_12 21 rfl) rfl).trans ?_
      refine (uk_i2 (n := 41) (pc := 2064) (gt_12 22 rfl)).trans ?_
      refine (uk_lcm (n := 40) (pc := 2065) (gt_12 23 rfl)).trans ?_
      refine (uk_je (t := 2071) (n := 39) (pc := 2066) (gt_12 24 rfl) rfl).trans (uk_ite ?_ ?_)
      ·
        refine (uk_go (t := 2638) (n := 38) (pc := 2071) (gt_12 27 rfl) rfl).trans ?_
        refine (uk_ii (v := 6) (M := [some (.ref 900), some (.ref 31), some (.ref 0), some (.ref 30), some (.int (v4 + 6)), some (.int r1), some (.int r2)]) (n := 37) (pc := 2638) (gt_15 85 rfl) rfl rfl rfl).trans ?_
        refine (uk_go (t := 23) (n := 36) (pc := 2641) (gt_15 86 rfl) rfl).trans ?_
        exact uk_kf (n := 35) (pc := 23) (gt_0 0 rfl) rfl
      ·
        refine (uk_ic (v := 0) (n := 38) (pc := 2069) (gt_12 25 rfl) rfl).trans ?_
        exact uk_re (n := 37) (pc := 2070) (gt_12 26 rfl) rt_12035 (Or.inl rfl)
    ·
      refine (uk_go (t := 2638) (n := 45) (pc := 2071) (gt_12 27 rfl) rfl).trans ?_
      refine (uk_ii (v := 6) (M := [some (.ref 900), some (.ref 31), some (.ref 0), some (.ref 30), some (.int (v4 + 6)), some (.int r1), some (.int r2)]) (n := 44) (pc := 2638) (gt_15 85 rfl) rfl rfl rfl).trans ?_
      refine (uk_go (t := 23) (n := 43) (pc := 2641) (gt_15 86 rfl) rfl).trans ?_
      exact uk_kf (n := 42) (pc := 23) (gt_0 0 rfl) rfl
  ·
    refine (uk_ic (v := 0) (n := 47) (pc := 2052) (gt_12 14 rfl) rfl).trans ?_
    exact uk_re (n := 46) (pc := 2053) (gt_12 15 rfl) rt_12035 (Or.inl rfl)
set_option maxRecDepth 100000 in
theorem e_law_2074 (Ls : Nat) (xs : Nat → Int32) (kf : en_K) (σ : en_S) (v4 : Int32) : en_uk bb_G bb_P bb_ML bb_HD Ls xs 12035 kf 89 2074 [some (.ref 900), some (.ref 31), some (.ref 0), some (.ref 30), some (.int v4), none, none] [] σ =
    if en_in (v4 + 1) Ls then
      if en_in (v4 + 2) Ls then
        if en_in (v4 + 3) Ls then
          en_cI (x_lw_years_0 σ (xs (v4 + 1).toNatClampNeg) (xs (v4 + 2).toNatClampNeg) (xs (v4 + 3).toNatClampNeg)) (fun r2 σ1 =>
            if en_in (v4 + 1) Ls then
              if en_in (v4 + 2) Ls then
                if en_in (v4 + 3) Ls then
                  en_cI (x_m_years_0 σ1 (xs (v4 + 1).toNatClampNeg) (xs (v4 + 2).toNatClampNeg) (xs (v4 + 3).toNatClampNeg)) (fun r4 σ3 =>
                    en_cI (x_m_thrown_0 σ3) (fun r6 σ5 =>
                      if r6 = r2 then
                        if r2 = 0 then
                          if lg_cmp (σ5.2 30 0) r4.toInt64 = 0 then
                            kf 23 [some (.ref 900), some (.ref 31), some (.ref 0), some (.ref 30), some (.int (v4 + 6)), none, none] [] σ5
                          else
                            some (.inl (some (.int 0)), σ5)
                        else
                          kf 23 [some (.ref 900), some (.ref 31), some (.ref 0), some (.ref 30), some (.int (v4 + 6)), none, none] [] σ5
                      else
                        some (.inl (some (.int 0)), σ5)) (fun _ _ => none)) (fun _ _ => none)
                else
                  none
              else
                none
            else
              none) (fun _ _ => none)
        else
          none
      else
        none
    else
      none := by
  refine (uk_al (n := 88) (pc := 2074) (gt_12 28 rfl) rfl).trans ?_
  refine (uk_al (n := 87) (pc := 2075) (gt_12 29 rfl) rfl).trans ?_
  refine (uk_il (n := 86) (pc := 2076) (gt_12 30 rfl) rfl).trans ?_
  refine (uk_ic (v := 1) (n := 85) (pc := 2078) (gt_12 31 rfl) rfl).trans ?_
  refine (uk_ia (n := 84) (pc := 2079) (gt_12 32 rfl)).trans ?_
  refine (uk_ix (n := 83) (pc := 2080) (gt_12 33 rfl)).trans (uk_if ?_)
  refine (uk_al (n := 82) (pc := 2081) (gt_12 34 rfl) rfl).trans ?_
  refine (uk_il (n := 81) (pc := 2082) (gt_12 35 rfl) rfl).trans ?_
  refine (uk_ic (v := 2) (n := 80) (pc := 2084) (gt_12 36 rfl) rfl).trans ?_
  refine (uk_ia (n := 79) (pc := 2085) (gt_12 37 rfl)).trans ?_
  refine (uk_ix (n := 78) (pc := 2086) (gt_12 38 rfl)).trans (uk_if ?_)
  refine (uk_al (n := 77) (pc := 2087) (gt_12 39 rfl) rfl).trans ?_
  refine (uk_il (n := 76) (pc := 2088) (gt_12 40 rfl) rfl).trans ?_
  refine (uk_ic (v := 3) (n := 75) (pc := 2090) (gt_12 41 rfl) rfl).trans ?_
  refine (uk_ia (n := 74) (pc := 2091) (gt_12 42 rfl)).trans ?_
  refine (uk_ix (n := 73) (pc := 2092) (gt_12 43 rfl)).trans (uk_if ?_)
  refine (uk_al (n := 72) (pc := 2093) (gt_12 44 rfl) rfl).trans ?_
  refine (uk_cS (r := []) (n := 71) (pc := 2094) (gt_12 45 rfl) cl_234 rt_12026 rfl rfl rfl rfl rfl (cx_lw_years_0 σ ((xs (v4 + 1).toNatClampNeg)) ((xs (v4 + 2).toNatClampNeg)) ((xs (v4 + 3).toNatClampNeg)))).trans (uk_cI fun r1 σ1 => ?_)
  refine (uk_is (M := [some (.ref 900), some (.ref 31), some (.ref 0), some (.ref 30), some (.int v4), some (.int r1), none]) (n := 70) (pc := 2097) (gt_12 46 rfl) rfl rfl).trans ?_
  refine (uk_al (n := 69) (pc := 2099) (gt_12 47 rfl) rfl).trans ?_
  refine (uk_al (n := 68) (pc := 2100) (gt_12 48 rfl) rfl).trans ?_
  refine (uk_il (n := 67) (pc := 2101) (gt_12 49 rfl) rfl).trans ?_
  refine (uk_ic (v := 1) (n := 66) (pc := 2103) (gt_12 50 rfl) rfl).trans ?_
  refine (uk_ia (n := 65) (pc := 2104) (gt_12 51 rfl)).trans ?_
  refine (uk_ix (n := 64) (pc := 2105) (gt_12 52 rfl)).trans (uk_if ?_)
  refine (uk_al (n := 63) (pc := 2106) (gt_12 53 rfl) rfl).trans ?_
  refine (uk_il (n := 62) (pc := 2107) (gt_12 54 rfl) rfl).trans ?_
  refine (uk_ic (v := 2) (n := 61) (pc := 2109) (gt_12 55 rfl) rfl).trans ?_
  refine (uk_ia (n := 60) (pc := 2110) (gt_12 56 rfl)).trans ?_
  refine (uk_ix (n := 59) (pc := 2111) (gt_12 57 rfl)).trans (uk_if ?_)
  refine (uk_al (n := 58) (pc := 2112) (gt_12 58 rfl) rfl).trans ?_
  refine (uk_il (n := 57) (pc := 2113) (gt_12 59 rfl) rfl).trans ?_
  refine (uk_ic (v := 3) (n := 56) (pc := 2115) (gt_12 60 rfl) rfl).trans ?_
  refine (uk_ia (n := 55) (pc := 2116) (gt_12 61 rfl)).trans ?_
  refine (uk_ix (n := 54) (pc := 2117) (gt_12 62 rfl)).trans (uk_if ?_)
  refine (uk_cN (r := []) (n := 53) (pc := 2118) (gt_12 63 rfl) cl_236 rt_114 rfl rfl rfl rfl rfl sh_0 (cx_m_years_0 σ1 ((xs (v4 + 1).toNatClampNeg)) ((xs (v4 + 2).toNatClampNeg)) ((xs (v4 + 3).toNatClampNeg)))).trans (uk_cI fun r2 σ2 => ?_)
  refine (uk_is (M := [some (.ref 900), some (.ref 31), some (.ref 0), some (.ref 30), some (.int v4), some (.int r1), some (.int r2)]) (n := 52) (pc := 2121) (gt_12 64 rfl) rfl rfl).trans ?_
  refine (uk_al (n := 51) (pc := 2123) (gt_12 65 rfl) rfl).trans ?_
  refine (uk_cN (r := []) (n := 50) (pc := 2124) (gt_12 66 rfl) cl_137 rt_1 rfl rfl rfl rfl rfl sh_0 (cx_m_thrown_0 σ2)).trans (uk_cI fun r3 σ3 => ?_)
  refine (uk_il (n := 49) (pc := 2127) (gt_12 67 rfl) rfl).trans ?_
  refine (uk_jc (t := 2134) (n := 48) (pc := 2129) (gt_12 68 rfl) rfl).trans (uk_ite ?_ ?_)
  ·
    refine (uk_il (n := 47) (pc := 2134) (gt_12 71 rfl) rfl).trans ?_
    refine (uk_jn (t := 2151) (n := 46) (pc := 2136) (gt_12 72 rfl) rfl).trans (uk_ite ?_ ?_)
    ·
      refine (uk_al (n := 45) (pc := 2139) (gt_12 73 rfl) rfl).trans ?_
      refine (uk_ic (v := 0) (n := 44) (pc := 2140) (gt_12 74 rfl) rfl).trans ?_
      refine (uk_la (q := 0) (n := 43) (pc := 2141) (gt_12 75 rfl) ar_30 uk_in0 rfl).trans ?_
      refine (uk_il (n := 42) (pc := 2142) (gt_12 76 rfl) rfl).trans ?_
      refine (uk_i2 (n := 41) (pc := 2144) (gt_12 77 rfl)).trans ?_
      refine (uk_lcm (n := 40) (pc := 2145) (gt_12 78 rfl)).trans ?_
      refine (uk_je (t := 2151) (n := 39) (pc := 2146) (gt_12 79 rfl) rfl).trans (uk_ite ?_ ?_)
      ·
        refine (uk_go (t := 2638) (n := 38) (pc := 2151) (gt_12 82 rfl) rfl).trans ?_
        refine (uk_ii (v := 6) (M := [some (.ref 900), some (.ref 31), some (.ref 0), some (.ref 30), some (.int (v4 + 6)), some (.int r1), some (.int r2)]) (n := 37) (pc := 2638) (gt_15 85 rfl) rfl rfl rfl).trans ?_
        refine (uk_go (t := 23) (n := 36) (pc := 2641) (gt_15 86 rfl) rfl).trans ?_
        exact uk_kf (n := 35) (pc := 23) (gt_0 0 rfl) rfl
      ·
        refine (uk_ic (v := 0) (n := 38) (pc := 2149) (gt_12 80 rfl) rfl).trans ?_
        exact uk_re (n := 37) (pc := 2150) (gt_12 81 rfl) rt_12035 (Or.inl rfl)
    ·
      refine (uk_go (t := 2638) (n := 45) (pc := 2151) (gt_12 82 rfl) rfl).trans ?_
      refine (uk_ii (v := 6) (M := [some (.ref 900), some (.ref 31), some (.ref 0), some (.ref 30), some (.int (v4 + 6)), some (.int r1), some (.int r2)]) (n := 44) (pc := 2638) (gt_15 85 rfl) rfl rfl rfl).trans ?_
      refine (uk_go (t := 23) (n := 43) (pc := 2641) (gt_15 86 rfl) rfl).trans ?_
      exact uk_kf (n := 42) (pc := 23) (gt_0 0 rfl) rfl
  ·
    refine (uk_ic (v := 0) (n := 47) (pc := 2132) (gt_12 69 rfl) rfl).trans ?_
    exact uk_re (n := 46) (pc := 2133) (gt_12 70 rfl) rt_12035 (Or.inl rfl)
set_option maxRecDepth 100000 in
theorem e_law_2154 (Ls : Nat) (xs : Nat → Int32) (kf : en_K) (σ : en_S) (v4 : Int32) : en_uk bb_G bb_P bb_ML bb_HD Ls xs 12035 kf 89 2154 [some (.ref 900), some (.ref 31), some (.ref 0), some (.ref 30), some (.int v4), none, none] [] σ =
    if en_in (v4 + 1) Ls then
      en_cI (x_lw_idle_0 σ (xs (v4 + 1).toNatClampNeg)) (fun r2 σ1 =>
        if en_in (v4 + 1) Ls then
          en_cI (x_m_idle_0 σ1 (xs (v4 + 1).toNatClampNeg)) (fun r4 σ3 =>
            en_cI (x_m_thrown_0 σ3) (fun r6 σ5 =>
              if r6 = r2 then
                if r2 = 0 then
                  if lg_cmp (σ5.2 30 0) r4.toInt64 = 0 then
                    kf 23 [some (.ref 900), some (.ref 31), some (.ref 0), some (.ref 30), some (.int (v4 + 6)), none, none] [] σ5
                  else
                    some (.inl (some (.int 0)), σ5)
                else
                  kf 23 [some (.ref 900), some (.ref 31), some (.ref 0), some (.ref 30), some (.int (v4 + 6)), none, none] [] σ5
              else
                some (.inl (some (.int 0)), σ5)) (fun _ _ => none)) (fun _ _ => none)
        else
          none) (fun _ _ => none)
    else
      none := by
  refine (uk_al (n := 88) (pc := 2154) (gt_12 83 rfl) rfl).trans ?_
  refine (uk_al (n := 87) (pc := 2155) (gt_12 84 rfl) rfl).trans ?_
  refine (uk_il (n := 86) (pc := 2156) (gt_12 85 rfl) rfl).trans ?_
  refine (uk_ic (v := 1) (n := 85) (pc := 2158) (gt_12 86 rfl) rfl).trans ?_
  refine (uk_ia (n := 84) (pc := 2159) (gt_12 87 rfl)).trans ?_
  refine (uk_ix (n := 83) (pc := 2160) (gt_12 88 rfl)).trans (uk_if ?_)
  refine (uk_al (n := 82) (pc := 2161) (gt_12 89 rfl) rfl).trans ?_
  refine (uk_cS (r := []) (n := 81) (pc := 2162) (gt_12 90 rfl) cl_237 rt_12027 rfl rfl rfl rfl rfl (cx_lw_idle_0 σ ((xs (v4 + 1).toNatClampNeg)))).trans (uk_cI fun r1 σ1 => ?_)
  refine (uk_is (M := [some (.ref 900), some (.ref 31), some (.ref 0), some (.ref 30), some (.int v4), some (.int r1), none]) (n := 80) (pc := 2165) (gt_12 91 rfl) rfl rfl).trans ?_
  refine (uk_al (n := 79) (pc := 2167) (gt_12 92 rfl) rfl).trans ?_
  refine (uk_al (n := 78) (pc := 2168) (gt_12 93 rfl) rfl).trans ?_
  refine (uk_il (n := 77) (pc := 2169) (gt_12 94 rfl) rfl).trans ?_
  refine (uk_ic (v := 1) (n := 76) (pc := 2171) (gt_12 95 rfl) rfl).trans ?_
  refine (uk_ia (n := 75) (pc := 2172) (gt_12 96 rfl)).trans ?_
  refine (uk_ix (n := 74) (pc := 2173) (gt_12 97 rfl)).trans (uk_if ?_)
  refine (uk_cN (r := []) (n := 73) (pc := 2174) (gt_12 98 rfl) cl_239 rt_115 rfl rfl rfl rfl rfl sh_0 (cx_m_idle_0 σ1 ((xs (v4 + 1).toNatClampNeg)))).trans (uk_cI fun r2 σ2 => ?_)
  refine (uk_is (M := [some (.ref 900), some (.ref 31), some (.ref 0), some (.ref 30), some (.int v4), some (.int r1), some (.int r2)]) (n := 72) (pc := 2177) (gt_12 99 rfl) rfl rfl).trans ?_
  refine (uk_al (n := 71) (pc := 2179) (gt_13 0 rfl) rfl).trans ?_
  refine (uk_cN (r := []) (n := 70) (pc := 2180) (gt_13 1 rfl) cl_137 rt_1 rfl rfl rfl rfl rfl sh_0 (cx_m_thrown_0 σ2)).trans (uk_cI fun r3 σ3 => ?_)
  refine (uk_il (n := 69) (pc := 2183) (gt_13 2 rfl) rfl).trans ?_
  refine (uk_jc (t := 2190) (n := 68) (pc := 2185) (gt_13 3 rfl) rfl).trans (uk_ite ?_ ?_)
  ·
    refine (uk_il (n := 67) (pc := 2190) (gt_13 6 rfl) rfl).trans ?_
    refine (uk_jn (t := 2207) (n := 66) (pc := 2192) (gt_13 7 rfl) rfl).trans (uk_ite ?_ ?_)
    ·
      refine (uk_al (n := 65) (pc := 2195) (gt_13 8 rfl) rfl).trans ?_
      refine (uk_ic (v := 0) (n := 64) (pc := 2196) (gt_13 9 rfl) rfl).trans ?_
      refine (uk_la (q := 0) (n := 63) (pc := 2197) (gt_13 10 rfl) ar_30 uk_in0 rfl).trans ?_
      refine (uk_il (n := 62) (pc := 2198) (gt_13 11 rfl) rfl).trans ?_
      refine (uk_i2 (n := 61) (pc := 2200) (gt_13 12 rfl)).trans ?_
      refine (uk_lcm (n := 60) (pc := 2201) (gt_13 13 rfl)).trans ?_
      refine (uk_je (t := 2207) (n := 59) (pc := 2202) (gt_13 14 rfl) rfl).trans (uk_ite ?_ ?_)
      ·
        refine (uk_go (t := 2638) (n := 58) (pc := 2207) (gt_13 17 rfl) rfl).trans ?_
        refine (uk_ii (v := 6) (M := [some (.ref 900), some (.ref 31), some (.ref 0), some (.ref 30), some (.int (v4 + 6)), some (.int r1), some (.int r2)]) (n := 57) (pc := 2638) (gt_15 85 rfl) rfl rfl rfl).trans ?_
        refine (uk_go (t := 23) (n := 56) (pc := 2641) (gt_15 86 rfl) rfl).trans ?_
        exact uk_kf (n := 55) (pc := 23) (gt_0 0 rfl) rfl
      ·
        refine (uk_ic (v := 0) (n := 58) (pc := 2205) (gt_13 15 rfl) rfl).trans ?_
        exact uk_re (n := 57) (pc := 2206) (gt_13 16 rfl) rt_12035 (Or.inl rfl)
    ·
      refine (uk_go (t := 2638) (n := 65) (pc := 2207) (gt_13 17 rfl) rfl).trans ?_
      refine (uk_ii (v := 6) (M := [some (.ref 900), some (.ref 31), some (.ref 0), some (.ref 30), some (.int (v4 + 6)), some (.int r1), some (.int r2)]) (n := 64) (pc := 2638) (gt_15 85 rfl) rfl rfl rfl).trans ?_
      refine (uk_go (t := 23) (n := 63) (pc := 2641) (gt_15 86 rfl) rfl).trans ?_
      exact uk_kf (n := 62) (pc := 23) (gt_0 0 rfl) rfl
  ·
    refine (uk_ic (v := 0) (n := 67) (pc := 2188) (gt_13 4 rfl) rfl).trans ?_
    exact uk_re (n := 66) (pc := 2189) (gt_13 5 rfl) rt_12035 (Or.inl rfl)
set_option maxRecDepth 100000 in
theorem e_law_2210 (Ls : Nat) (xs : Nat → Int32) (kf : en_K) (σ : en_S) (v4 : Int32) : en_uk bb_G bb_P bb_ML bb_HD Ls xs 12035 kf 89 2210 [some (.ref 900), some (.ref 31), some (.ref 0), some (.ref 30), some (.int v4), none, none] [] σ =
    if en_in (v4 + 1) Ls then
      en_cI (x_lw_nearest_0 σ (xs (v4 + 1).toNatClampNeg)) (fun r2 σ1 =>
        if en_in (v4 + 1) Ls then
          en_cI (x_m_nearest_0 σ1 (xs (v4 + 1).toNatClampNeg)) (fun r4 σ3 =>
            en_cI (x_m_thrown_0 σ3) (fun r6 σ5 =>
              if r6 = r2 then
                if r2 = 0 then
                  if lg_cmp (σ5.2 30 0) r4.toInt64 = 0 then
                    kf 23 [some (.ref 900), some (.ref 31), some (.ref 0), some (.ref 30), some (.int (v4 + 6)), none, none] [] σ5
                  else
                    some (.inl (some (.int 0)), σ5)
                else
                  kf 23 [some (.ref 900), some (.ref 31), some (.ref 0), some (.ref 30), some (.int (v4 + 6)), none, none] [] σ5
              else
                some (.inl (some (.int 0)), σ5)) (fun _ _ => none)) (fun _ _ => none)
        else
          none) (fun _ _ => none)
    else
      none := by
  refine (uk_al (n := 88) (pc := 2210) (gt_13 18 rfl) rfl).trans ?_
  refine (uk_al (n := 87) (pc := 2211) (gt_13 19 rfl) rfl).trans ?_
  refine (uk_il (n := 86) (pc := 2212) (gt_13 20 rfl) rfl).trans ?_
  refine (uk_ic (v := 1) (n := 85) (pc := 2214) (gt_13 21 rfl) rfl).trans ?_
  refine (uk_ia (n := 84) (pc := 2215) (gt_13 22 rfl)).trans ?_
  refine (uk_ix (n := 83) (pc := 2216) (gt_13 23 rfl)).trans (uk_if ?_)
  refine (uk_al (n := 82) (pc := 2217) (gt_13 24 rfl) rfl).trans ?_
  refine (uk_cS (r := []) (n := 81) (pc := 2218) (gt_13 25 rfl) cl_240 rt_12028 rfl rfl rfl rfl rfl (cx_lw_nearest_0 σ ((xs (v4 + 1).toNatClampNeg)))).trans (uk_cI fun r1 σ1 => ?_)
  refine (uk_is (M := [some (.ref 900), some (.ref 31), some (.ref 0), some (.ref 30), some (.int v4), some (.int r1), none]) (n := 80) (pc := 2221) (gt_13 26 rfl) rfl rfl).trans ?_
  refine (uk_al (n := 79) (pc := 2223) (gt_13 27 rfl) rfl).trans ?_
  refine (uk_al (n := 78) (pc := 2224) (gt_13 28 rfl) rfl).trans ?_
  refine (uk_il (n := 77) (pc := 2225) (gt_13 29 rfl) rfl).trans ?_
  refine (uk_ic (v := 1) (n := 76) (pc := 2227) (gt_13 30 rfl) rfl).trans ?_
  refine (uk_ia (n := 75) (pc := 2228) (gt_13 31 rfl)).trans ?_
  refine (uk_ix (n := 74) (pc := 2229) (gt_13 32 rfl)).trans (uk_if ?_)
  refine (uk_cN (r := []) (n := 73) (pc := 2230) (gt_13 33 rfl) cl_242 rt_99 rfl rfl rfl rfl rfl sh_0 (cx_m_nearest_0 σ1 ((xs (v4 + 1).toNatClampNeg)))).trans (uk_cI fun r2 σ2 => ?_)
  refine (uk_is (M := [some (.ref 900), some (.ref 31), some (.ref 0), some (.ref 30), some (.int v4), some (.int r1), some (.int r2)]) (n := 72) (pc := 2233) (gt_13 34 rfl) rfl rfl).trans ?_
  refine (uk_al (n := 71) (pc := 2235) (gt_13 35 rfl) rfl).trans ?_
  refine (uk_cN (r := []) (n := 70) (pc := 2236) (gt_13 36 rfl) cl_137 rt_1 rfl rfl rfl rfl rfl sh_0 (cx_m_thrown_0 σ2)).trans (uk_cI fun r3 σ3 => ?_)
  refine (uk_il (n := 69) (pc := 2239) (gt_13 37 rfl) rfl).trans ?_
  refine (uk_jc (t := 2246) (n := 68) (pc := 2241) (gt_13 38 rfl) rfl).trans (uk_ite ?_ ?_)
  ·
    refine (uk_il (n := 67) (pc := 2246) (gt_13 41 rfl) rfl).trans ?_
    refine (uk_jn (t := 2263) (n := 66) (pc := 2248) (gt_13 42 rfl) rfl).trans (uk_ite ?_ ?_)
    ·
      refine (uk_al (n := 65) (pc := 2251) (gt_13 43 rfl) rfl).trans ?_
      refine (uk_ic (v := 0) (n := 64) (pc := 2252) (gt_13 44 rfl) rfl).trans ?_
      refine (uk_la (q := 0) (n := 63) (pc := 2253) (gt_13 45 rfl) ar_30 uk_in0 rfl).trans ?_
      refine (uk_il (n := 62) (pc := 2254) (gt_13 46 rfl) rfl).trans ?_
      refine (uk_i2 (n := 61) (pc := 2256) (gt_13 47 rfl)).trans ?_
      refine (uk_lcm (n := 60) (pc := 2257) (gt_13 48 rfl)).trans ?_
      refine (uk_je (t := 2263) (n := 59) (pc := 2258) (gt_13 49 rfl) rfl).trans (uk_ite ?_ ?_)
      ·
        refine (uk_go (t := 2638) (n := 58) (pc := 2263) (gt_13 52 rfl) rfl).trans ?_
        refine (uk_ii (v := 6) (M := [some (.ref 900), some (.ref 31), some (.ref 0), some (.ref 30), some (.int (v4 + 6)), some (.int r1), some (.int r2)]) (n := 57) (pc := 2638) (gt_15 85 rfl) rfl rfl rfl).trans ?_
        refine (uk_go (t := 23) (n := 56) (pc := 2641) (gt_15 86 rfl) rfl).trans ?_
        exact uk_kf (n := 55) (pc := 23) (gt_0 0 rfl) rfl
      ·
        refine (uk_ic (v := 0) (n := 58) (pc := 2261) (gt_13 50 rfl) rfl).trans ?_
        exact uk_re (n := 57) (pc := 2262) (gt_13 51 rfl) rt_12035 (Or.inl rfl)
    ·
      refine (uk_go (t := 2638) (n := 65) (pc := 2263) (gt_13 52 rfl) rfl).trans ?_
      refine (uk_ii (v := 6) (M := [some (.ref 900), some (.ref 31), some (.ref 0), some (.ref 30), some (.int (v4 + 6)), some (.int r1), some (.int r2)]) (n := 64) (pc := 2638) (gt_15 85 rfl) rfl rfl rfl).trans ?_
      refine (uk_go (t := 23) (n := 63) (pc := 2641) (gt_15 86 rfl) rfl).trans ?_
      exact uk_kf (n := 62) (pc := 23) (gt_0 0 rfl) rfl
  ·
    refine (uk_ic (v := 0) (n := 67) (pc := 2244) (gt_13 39 rfl) rfl).trans ?_
    exact uk_re (n := 66) (pc := 2245) (gt_13 40 rfl) rt_12035 (Or.inl rfl)
set_option maxRecDepth 100000 in
theorem e_law_2266 (Ls : Nat) (xs : Nat → Int32) (kf : en_K) (σ : en_S) (v4 : Int32) : en_uk bb_G bb_P bb_ML bb_HD Ls xs 12035 kf 89 2266 [some (.ref 900), some (.ref 31), some (.ref 0), some (.ref 30), some (.int v4), none, none] [] σ =
    if en_in (v4 + 1) Ls then
      if en_in (v4 + 2) Ls then
        en_cI (x_lw_ahead_0 σ (xs (v4 + 1).toNatClampNeg) (xs (v4 + 2).toNatClampNeg)) (fun r2 σ1 =>
          if en_in (v4 + 1) Ls then
            if en_in (v4 + 2) Ls then
              en_cI (x_m_ahead_0 σ1 (xs (v4 + 1).toNatClampNeg) (xs (v4 + 2).toNatClampNeg)) (fun r4 σ3 =>
                en_cI (x_m_thrown_0 σ3) (fun r6 σ5 =>
                  if r6 = r2 then
                    if r2 = 0 then
                      if lg_cmp (σ5.2 30 0) r4.toInt64 = 0 then
                        kf 23 [some (.ref 900), some (.ref 31), some (.ref 0), some (.ref 30), some (.int (v4 + 6)), none, none] [] σ5
                      else
                        some (.inl (some (.int 0)), σ5)
                    else
                      kf 23 [some (.ref 900), some (.ref 31), some (.ref 0), some (.ref 30), some (.int (v4 + 6)), none, none] [] σ5
                  else
                    some (.inl (some (.int 0)), σ5)) (fun _ _ => none)) (fun _ _ => none)
            else
              none
          else
            none) (fun _ _ => none)
      else
        none
    else
      none := by
  refine (uk_al (n := 88) (pc := 2266) (gt_13 53 rfl) rfl).trans ?_
  refine (uk_al (n := 87) (pc := 2267) (gt_13 54 rfl) rfl).trans ?_
  refine (uk_il (n := 86) (pc := 2268) (gt_13 55 rfl) rfl).trans ?_
  refine (uk_ic (v := 1) (n := 85) (pc := 2270) (gt_13 56 rfl) rfl).trans ?_
  refine (uk_ia (n := 84) (pc := 2271) (gt_13 57 rfl)).trans ?_
  refine (uk_ix (n := 83) (pc := 2272) (gt_13 58 rfl)).trans (uk_if ?_)
  refine (uk_al (n := 82) (pc := 2273) (gt_13 59 rfl) rfl).trans ?_
  refine (uk_il (n := 81) (pc := 2274) (gt_13 60 rfl) rfl).trans ?_
  refine (uk_ic (v := 2) (n := 80) (pc := 2276) (gt_13 61 rfl) rfl).trans ?_
  refine (uk_ia (n := 79) (pc := 2277) (gt_13 62 rfl)).trans ?_
  refine (uk_ix (n := 78) (pc := 2278) (gt_13 63 rfl)).trans (uk_if ?_)
  refine (uk_al (n := 77) (pc := 2279) (gt_13 64 rfl) rfl).trans ?_
  refine (uk_cS (r := []) (n := 76) (pc := 2280) (gt_13 65 rfl) cl_243 rt_12029 rfl rfl rfl rfl rfl (cx_lw_ahead_0 σ ((xs (v4 + 1).toNatClampNeg)) ((xs (v4 + 2).toNatClampNeg)))).trans (uk_cI fun r1 σ1 => ?_)
  refine (uk_is (M := [some (.ref 900), some (.ref 31), some (.ref 0), some (.ref 30), some (.int v4), some (.int r1), none]) (n := 75) (pc := 2283) (gt_13 66 rfl) rfl rfl).trans ?_
  refine (uk_al (n := 74) (pc := 2285) (gt_13 67 rfl) rfl).trans ?_
  refine (uk_al (n := 73) (pc := 2286) (gt_13 68 rfl) rfl).trans ?_
  refine (uk_il (n := 72) (pc := 2287) (gt_13 69 rfl) rfl).trans ?_
  refine (uk_ic (v := 1) (n := 71) (pc := 2289) (gt_13 70 rfl) rfl).trans ?_
  refine (uk_ia (n := 70) (pc := 2290) (gt_13 71 rfl)).trans ?_
  refine (uk_ix (n := 69) (pc := 2291) (gt_13 72 rfl)).trans (uk_if ?_)
  refine (uk_al (n := 68) (pc := 2292) (gt_13 73 rfl) rfl).trans ?_
  refine (uk_il (n := 67) (pc := 2293) (gt_13 74 rfl) rfl).trans ?_
  refine (uk_ic (v := 2) (n := 66) (pc := 2295) (gt_13 75 rfl) rfl).trans ?_
  refine (uk_ia (n := 65) (pc := 2296) (gt_13 76 rfl)).trans ?_
  refine (uk_ix (n := 64) (pc := 2297) (gt_13 77 rfl)).trans (uk_if ?_)
  refine (uk_cN (r := []) (n := 63) (pc := 2298) (gt_13 78 rfl) cl_245 rt_101 rfl rfl rfl rfl rfl sh_0 (cx_m_ahead_0 σ1 ((xs (v4 + 1).toNatClampNeg)) ((xs (v4 + 2).toNatClampNeg)))).trans (uk_cI fun r2 σ2 => ?_)
  refine (uk_is (M := [some (.ref 900), some (.ref 31), some (.ref 0), some (.ref 30), some (.int v4), some (.int r1), some (.int r2)]) (n := 62) (pc := 2301) (gt_13 79 rfl) rfl rfl).trans ?_
  refine (uk_al (n := 61) (pc := 2303) (gt_13 80 rfl) rfl).trans ?_
  refine (uk_cN (r := []) (n := 60) (pc := 2304) (gt_13 81 rfl) cl_137 rt_1 rfl rfl rfl rfl rfl sh_0 (cx_m_thrown_0 σ2)).trans (uk_cI fun r3 σ3 => ?_)
  refine (uk_il (n := 59) (pc := 2307) (gt_13 82 rfl) rfl).trans ?_
  refine (uk_jc (t := 2314) (n := 58) (pc := 2309) (gt_13 83 rfl) rfl).trans (uk_ite ?_ ?_)
  ·
    refine (uk_il (n := 57) (pc := 2314) (gt_13 86 rfl) rfl).trans ?_
    refine (uk_jn (t := 2331) (n := 56) (pc := 2316) (gt_13 87 rfl) rfl).trans (uk_ite ?_ ?_)
    ·
      refine (uk_al (n := 55) (pc := 2319) (gt_13 88 rfl) rfl).trans ?_
      refine (uk_ic (v := 0) (n := 54) (pc := 2320) (gt_13 89 rfl) rfl).trans ?_
      refine (uk_la (q := 0) (n := 53) (pc := 2321) (gt_13 90 rfl) ar_30 uk_in0 rfl).trans ?_
      refine (uk_il (n := 52) (pc := 2322) (gt_13 91 rfl) rfl).trans ?_
      refine (uk_i2 (n := 51) (pc := 2324) (gt_13 92 rfl)).trans ?_
      refine (uk_lcm (n := 50) (pc := 2325) (gt_13 93 rfl)).trans ?_
      refine (uk_je (t := 2331) (n := 49) (pc := 2326) (gt_13 94 rfl) rfl).trans (uk_ite ?_ ?_)
      ·
        refine (uk_go (t := 2638) (n := 48) (pc := 2331) (gt_13 97 rfl) rfl).trans ?_
        refine (uk_ii (v := 6) (M := [some (.ref 900), some (.ref 31), some (.ref 0), some (.ref 30), some (.int (v4 + 6)), some (.int r1), some (.int r2)]) (n := 47) (pc := 2638) (gt_15 85 rfl) rfl rfl rfl).trans ?_
        refine (uk_go (t := 23) (n := 46) (pc := 2641) (gt_15 86 rfl) rfl).trans ?_
        exact uk_kf (n := 45) (pc := 23) (gt_0 0 rfl) rfl
      ·
        refine (uk_ic (v := 0) (n := 48) (pc := 2329) (gt_13 95 rfl) rfl).trans ?_
        exact uk_re (n := 47) (pc := 2330) (gt_13 96 rfl) rt_12035 (Or.inl rfl)
    ·
      refine (uk_go (t := 2638) (n := 55) (pc := 2331) (gt_13 97 rfl) rfl).trans ?_
      refine (uk_ii (v := 6) (M := [some (.ref 900), some (.ref 31), some (.ref 0), some (.ref 30), some (.int (v4 + 6)), some (.int r1), some (.int r2)]) (n := 54) (pc := 2638) (gt_15 85 rfl) rfl rfl rfl).trans ?_
      refine (uk_go (t := 23) (n := 53) (pc := 2641) (gt_15 86 rfl) rfl).trans ?_
      exact uk_kf (n := 52) (pc := 23) (gt_0 0 rfl) rfl
  ·
    refine (uk_ic (v := 0) (n := 57) (pc := 2312) (gt_13 84 rfl) rfl).trans ?_
    exact uk_re (n := 56) (pc := 2313) (gt_13 85 rfl) rt_12035 (Or.inl rfl)
set_option maxRecDepth 100000 in
theorem e_law_2334 (Ls : Nat) (xs : Nat → Int32) (kf : en_K) (σ : en_S) (v4 : Int32) : en_uk bb_G bb_P bb_ML bb_HD Ls xs 12035 kf 89 2334 [some (.ref 900), some (.ref 31), some (.ref 0), some (.ref 30), some (.int v4), none, none] [] σ =
    if en_in (v4 + 1) Ls then
      en_cI (x_lw_alone_0 σ (xs (v4 + 1).toNatClampNeg)) (fun r2 σ1 =>
        if en_in (v4 + 1) Ls then
          en_cI (x_m_alone_0 σ1 (xs (v4 + 1).toNatClampNeg)) (fun r4 σ3 =>
            en_cI (x_m_thrown_0 σ3) (fun r6 σ5 =>
              if r6 = r2 then
                if r2 = 0 then
                  if lg_cmp (σ5.2 30 0) r4.toInt64 = 0 then
                    kf 23 [some (.ref 900), some (.ref 31), some (.ref 0), some (.ref 30), some (.int (v4 + 6)), none, none] [] σ5
                  else
                    some (.inl (some (.int 0)), σ5)
                else
                  kf 23 [some (.ref 900), some (.ref 31), some (.ref 0), some (.ref 30), some (.int (v4 + 6)), none, none] [] σ5
              else
                some (.inl (some (.int 0)), σ5)) (fun _ _ => none)) (fun _ _ => none)
        else
          none) (fun _ _ => none)
    else
      none := by
  refine (uk_al (n := 88) (pc := 2334) (gt_13 98 rfl) rfl).trans ?_
  refine (uk_al (n := 87) (pc := 2335) (gt_13 99 rfl) rfl).trans ?_
  refine (uk_il (n := 86) (pc := 2336) (gt_14 0 rfl) rfl).trans ?_
  refine (uk_ic (v := 1) (n := 85) (pc := 2338) (gt_14 1 rfl) rfl).trans ?_
  refine (uk_ia (n := 84) (pc := 2339) (gt_14 2 rfl)).trans ?_
  refine (uk_ix (n := 83) (pc := 2340) (gt_14 3 rfl)).trans (uk_if ?_)
  refine (uk_al (n := 82) (pc := 2341) (gt_14 4 rfl) rfl).trans ?_
  refine (uk_cS (r := []) (n := 81) (pc := 2342) (gt_14 5 rfl) cl_246 rt_12030 rfl rfl rfl rfl rfl (cx_lw_alone_0 σ ((xs (v4 + 1).toNatClampNeg)))).trans (uk_cI fun r1 σ1 => ?_)
  refine (uk_is (M := [some (.ref 900), some (.ref 31), some (.ref 0), some (.ref 30), some (.int v4), some (.int r1), none]) (n := 80) (pc := 2345) (gt_14 6 rfl) rfl rfl).trans ?_
  refine (uk_al (n := 79) (pc := 2347) (gt_14 7 rfl) rfl).trans ?_
  refine (uk_al (n := 78) (pc := 2348) (gt_14 8 rfl) rfl).trans ?_
  refine (uk_il (n := 77) (pc := 2349) (gt_14 9 rfl) rfl).trans ?_
  refine (uk_ic (v := 1) (n := 76) (pc := 2351) (gt_14 10 rfl) rfl).trans ?_
  refine (uk_ia (n := 75) (pc := 2352) (gt_14 11 rfl)).trans ?_
  refine (uk_ix (n := 74) (pc := 2353) (gt_14 12 rfl)).trans (uk_if ?_)
  refine (uk_cN (r := []) (n := 73) (pc := 2354) (gt_14 13 rfl) cl_248 rt_96 rfl rfl rfl rfl rfl sh_0 (cx_m_alone_0 σ1 ((xs (v4 + 1).toNatClampNeg)))).trans (uk_cI fun r2 σ2 => ?_)
  refine (uk_is (M := [some (.ref 900), some (.ref 31), some (.ref 0), some (.ref 30), some (.int v4), some (.int r1), some (.int r2)]) (n := 72) (pc := 2357) (gt_14 14 rfl) rfl rfl).trans ?_
  refine (uk_al (n := 71) (pc := 2359) (gt_14 15 rfl) rfl).trans ?_
  refine (uk_cN (r := []) (n := 70) (pc := 2360) (gt_14 16 rfl) cl_137 rt_1 rfl rfl rfl rfl rfl sh_0 (cx_m_thrown_0 σ2)).trans (uk_cI fun r3 σ3 => ?_)
  refine (uk_il (n := 69) (pc := 2363) (gt_14 17 rfl) rfl).trans ?_
  refine (uk_jc (t := 2370) (n := 68) (pc := 2365) (gt_14 18 rfl) rfl).trans (uk_ite ?_ ?_)
  ·
    refine (uk_il (n := 67) (pc := 2370) (gt_14 21 rfl) rfl).trans ?_
    refine (uk_jn (t := 2387) (n := 66) (pc := 2372) (gt_14 22 rfl) rfl).trans (uk_ite ?_ ?_)
    ·
      refine (uk_al (n := 65) (pc := 2375) (gt_14 23 rfl) rfl).trans ?_
      refine (uk_ic (v := 0) (n := 64) (pc := 2376) (gt_14 24 rfl) rfl).trans ?_
      refine (uk_la (q := 0) (n := 63) (pc := 2377) (gt_14 25 rfl) ar_30 uk_in0 rfl).trans ?_
      refine (uk_il (n := 62) (pc := 2378) (gt_14 26 rfl) rfl).trans ?_
      refine (uk_i2 (n := 61) (pc := 2380) (gt_14 27 rfl)).trans ?_
      refine (uk_lcm (n := 60) (pc := 2381) (gt_14 28 rfl)).trans ?_
      refine (uk_je (t := 2387) (n := 59) (pc := 2382) (gt_14 29 rfl) rfl).trans (uk_ite ?_ ?_)
      ·
        refine (uk_go (t := 2638) (n := 58) (pc := 2387) (gt_14 32 rfl) rfl).trans ?_
        refine (uk_ii (v := 6) (M := [some (.ref 900), some (.ref 31), some (.ref 0), some (.ref 30), some (.int (v4 + 6)), some (.int r1), some (.int r2)]) (n := 57) (pc := 2638) (gt_15 85 rfl) rfl rfl rfl).trans ?_
        refine (uk_go (t := 23) (n := 56) (pc := 2641) (gt_15 86 rfl) rfl).trans ?_
        exact uk_kf (n := 55) (pc := 23) (gt_0 0 rfl) rfl
      ·
        refine (uk_ic (v := 0) (n := 58) (pc := 2385) (gt_14 30 rfl) rfl).trans ?_
        exact uk_re (n := 57) (pc := 2386) (gt_14 31 rfl) rt_12035 (Or.inl rfl)
    ·
      refine (uk_go (t := 2638) (n := 65) (pc := 2387) (gt_14 32 rfl) rfl).trans ?_
      refine (uk_ii (v := 6) (M := [some (.ref 900), some (.ref 31), some (.ref 0), some (.ref 30), some (.int (v4 + 6)), some (.int r1), some (.int r2)]) (n := 64) (pc := 2638) (gt_15 85 rfl) rfl rfl rfl).trans ?_
      refine (uk_go (t := 23) (n := 63) (pc := 2641) (gt_15 86 rfl) rfl).trans ?_
      exact uk_kf (n := 62) (pc := 23) (gt_0 0 rfl) rfl
  ·
    refine (uk_ic (v := 0) (n := 67) (pc := 2368) (gt_14 19 rfl) rfl).trans ?_
    exact uk_re (n := 66) (pc := 2369) (gt_14 20 rfl) rt_12035 (Or.inl rfl)
set_option maxRecDepth 100000 in
theorem e_law_2390 (Ls : Nat) (xs : Nat → Int32) (kf : en_K) (σ : en_S) (v4 : Int32) : en_uk bb_G bb_P bb_ML bb_HD Ls xs 12035 kf 89 2390 [some (.ref 900), some (.ref 31), some (.ref 0), some (.ref 30), some (.int v4), none, none] [] σ =
    if en_in (v4 + 1) Ls then
      en_cI (x_lw_weariest_0 σ (xs (v4 + 1).toNatClampNeg)) (fun r2 σ1 =>
        if en_in (v4 + 1) Ls then
          en_cI (x_m_weariest_0 σ1 (xs (v4 + 1).toNatClampNeg)) (fun r4 σ3 =>
            en_cI (x_m_thrown_0 σ3) (fun r6 σ5 =>
              if r6 = r2 then
                if r2 = 0 then
                  if lg_cmp (σ5.2 30 0) r4.toInt64 = 0 then
                    kf 23 [some (.ref 900), some (.ref 31), some (.ref 0), some (.ref 30), some (.int (v4 + 6)), none, none] [] σ5
                  else
                    some (.inl (some (.int 0)), σ5)
                else
                  kf 23 [some (.ref 900), some (.ref 31), some (.ref 0), some (.ref 30), some (.int (v4 + 6)), none, none] [] σ5
              else
                some (.inl (some (.int 0)), σ5)) (fun _ _ => none)) (fun _ _ => none)
        else
          none) (fun _ _ => none)
    else
      none := by
  refine (uk_al (n := 88) (pc := 2390) (gt_14 33 rfl) rfl).trans ?_
  refine (uk_al (n := 87) (pc := 2391) (gt_14 34 rfl) rfl).trans ?_
  refine (uk_il (n := 86) (pc := 2392) (gt_14 35 rfl) rfl).trans ?_
  refine (uk_ic (v := 1) (n := 85) (pc := 2394) (gt_14 36 rfl) rfl).trans ?_
  refine (uk_ia (n := 84) (pc := 2395) (gt_14 37 rfl)).trans ?_
  refine (uk_ix (n := 83) (pc := 2396) (gt_14 38 rfl)).trans (uk_if ?_)
  refine (uk_al (n := 82) (pc := 2397) (gt_14 39 rfl) rfl).trans ?_
  refine (uk_cS (r := []) (n := 81) (pc := 2398) (gt_14 40 rfl) cl_249 rt_12031 rfl rfl rfl rfl rfl (cx_lw_weariest_0 σ ((xs (v4 + 1).toNatClampNeg)))).trans (uk_cI fun r1 σ1 => ?_)
  refine (uk_is (M := [some (.ref 900), some (.ref 31), some (.ref 0), some (.ref 30), some (.int v4), some (.int r1), none]) (n := 80) (pc := 2401) (gt_14 41 rfl) rfl rfl).trans ?_
  refine (uk_al (n := 79) (pc := 2403) (gt_14 42 rfl) rfl).trans ?_
  refine (uk_al (n := 78) (pc := 2404) (gt_14 43 rfl) rfl).trans ?_
  refine (uk_il (n := 77) (pc := 2405) (gt_14 44 rfl) rfl).trans ?_
  refine (uk_ic (v := 1) (n := 76) (pc := 2407) (gt_14 45 rfl) rfl).trans ?_
  refine (uk_ia (n := 75) (pc := 2408) (gt_14 46 rfl)).trans ?_
  refine (uk_ix (n := 74) (pc := 2409) (gt_14 47 rfl)).trans (uk_if ?_)
  refine (uk_cN (r := []) (n := 73) (pc := 2410) (gt_14 48 rfl) cl_251 rt_116 rfl rfl rfl rfl rfl sh_0 (cx_m_weariest_0 σ1 ((xs (v4 + 1).toNatClampNeg)))).trans (uk_cI fun r2 σ2 => ?_)
  refine (uk_is (M := [some (.ref 900), some (.ref 31), some (.ref 0), some (.ref 30), some (.int v4), some (.int r1), some (.int r2)]) (n := 72) (pc := 2413) (gt_14 49 rfl) rfl rfl).trans ?_
  refine (uk_al (n := 71) (pc := 2415) (gt_14 50 rfl) rfl).trans ?_
  refine (uk_cN (r := []) (n := 70) (pc := 2416) (gt_14 51 rfl) cl_137 rt_1 rfl rfl rfl rfl rfl sh_0 (cx_m_thrown_0 σ2)).trans (uk_cI fun r3 σ3 => ?_)
  refine (uk_il (n := 69) (pc := 2419) (gt_14 52 rfl) rfl).trans ?_
  refine (uk_jc (t := 2426) (n := 68) (pc := 2421) (gt_14 53 rfl) rfl).trans (uk_ite ?_ ?_)
  ·
    refine (uk_il (n := 67) (pc := 2426) (gt_14 56 rfl) rfl).trans ?_
    refine (uk_jn (t := 2443) (n := 66) (pc := 2428) (gt_14 57 rfl) rfl).trans (uk_ite ?_ ?_)
    ·
      refine (uk_al (n := 65) (pc := 2431) (gt_14 58 rfl) rfl).trans ?_
      refine (uk_ic (v := 0) (n := 64) (pc := 2432) (gt_14 59 rfl) rfl).trans ?_
      refine (uk_la (q := 0) (n := 63) (pc := 2433) (gt_14 60 rfl) ar_30 uk_in0 rfl).trans ?_
      refine (uk_il (n := 62) (pc := 2434) (gt_14 61 rfl) rfl).trans ?_
      refine (uk_i2 (n := 61) (pc := 2436) (gt_14 62 rfl)).trans ?_
      refine (uk_lcm (n := 60) (pc := 2437) (gt_14 63 rfl)).trans ?_
      refine (uk_je (t := 2443) (n := 59) (pc := 2438) (gt_14 64 rfl) rfl).trans (uk_ite ?_ ?_)
      ·
        refine (uk_go (t := 2638) (n := 58) (pc := 2443) (gt_14 67 rfl) rfl).trans ?_
        refine (uk_ii (v := 6) (M := [some (.ref 900), some (.ref 31), some (.ref 0), some (.ref 30), some (.int (v4 + 6)), some (.int r1), some (.int r2)]) (n := 57) (pc := 2638) (gt_15 85 rfl) rfl rfl rfl).trans ?_
        refine (uk_go (t := 23) (n := 56) (pc := 2641) (gt_15 86 rfl) rfl).trans ?_
        exact uk_kf (n := 55) (pc := 23) (gt_0 0 rfl) rfl
      ·
        refine (uk_ic (v := 0) (n := 58) (pc := 2441) (gt_14 65 rfl) rfl).trans ?_
        exact uk_re (n := 57) (pc := 2442) (gt_14 66 rfl) rt_12035 (Or.inl rfl)
    ·
      refine (uk_go (t := 2638) (n := 65) (pc := 2443) (gt_14 67 rfl) rfl).trans ?_
      refine (uk_ii (v := 6) (M := [some (.ref 900), some (.ref 31), some (.ref 0), some (.ref 30), some (.int (v4 + 6)), some (.int r1), some (.int r2)]) (n := 64) (pc := 2638) (gt_15 85 rfl) rfl rfl rfl).trans ?_
      refine (uk_go (t := 23) (n := 63) (pc := 2641) (gt_15 86 rfl) rfl).trans ?_
      exact uk_kf (n := 62) (pc := 23) (gt_0 0 rfl) rfl
  ·
    refine (uk_ic (v := 0) (n := 67) (pc := 2424) (gt_14 54 rfl) rfl).trans ?_
    exact uk_re (n := 66) (pc := 2425) (gt_14 55 rfl) rt_12035 (Or.inl rfl)
set_option maxRecDepth 100000 in
theorem e_law_2446 (Ls : Nat) (xs : Nat → Int32) (kf : en_K) (σ : en_S) (v4 : Int32) : en_uk bb_G bb_P bb_ML bb_HD Ls xs 12035 kf 89 2446 [some (.ref 900), some (.ref 31), some (.ref 0), some (.ref 30), some (.int v4), none, none] [] σ =
    if en_in (v4 + 1) Ls then
      en_cI (x_lw_onRoutes_0 σ (xs (v4 + 1).toNatClampNeg)) (fun r2 σ1 =>
        if en_in (v4 + 1) Ls then
          en_cI (x_m_onRoutes_0 σ1 (xs (v4 + 1).toNatClampNeg)) (fun r4 σ3 =>
            en_cI (x_m_thrown_0 σ3) (fun r6 σ5 =>
              if r6 = r2 then
                if r2 = 0 then
                  if lg_cmp (σ5.2 30 0) r4.toInt64 = 0 then
                    kf 23 [some (.ref 900), some (.ref 31), some (.ref 0), some (.ref 30), some (.int (v4 + 6)), none, none] [] σ5
                  else
                    some (.inl (some (.int 0)), σ5)
                else
                  kf 23 [some (.ref 900), some (.ref 31), some (.ref 0), some (.ref 30), some (.int (v4 + 6)), none, none] [] σ5
              else
                some (.inl (some (.int 0)), σ5)) (fun _ _ => none)) (fun _ _ => none)
        else
          none) (fun _ _ => none)
    else
      none := by
  refine (uk_al (n := 88) (pc := 2446) (gt_14 68 rfl) rfl).trans ?_
  refine (uk_al (n := 87) (pc := 2447) (gt_14 69 rfl) rfl).trans ?_
  refine (uk_il (n := 86) (pc := 2448) (gt_14 70 rfl) rfl).trans ?_
  refine (uk_ic (v := 1) (n := 85) (pc := 2450) (gt_14 71 rfl) rfl).trans ?_
  refine (uk_ia (n := 84) (pc := 2451) (gt_14 72 rfl)).trans ?_
  refine (uk_ix (n := 83) (pc := 2452) (gt_14 73 rfl)).trans (uk_if ?_)
  refine (uk_al (n := 82) (pc := 2453) (gt_14 74 rfl) rfl).trans ?_
  refine (uk_cS (r := []) (n := 81) (pc := 2454) (gt_14 75 rfl) cl_252 rt_12032 rfl rfl rfl rfl rfl (cx_lw_onRoutes_0 σ ((xs (v4 + 1).toNatClampNeg)))).trans (uk_cI fun r1 σ1 => ?_)
  refine (uk_is (M := [some (.ref 900), some (.ref 31), some (.ref 0), some (.ref 30), some (.int v4), some (.int r1), none]) (n := 80) (pc := 2457) (gt_14 76 rfl) rfl rfl).trans ?_
  refine (uk_al (n := 79) (pc := 2459) (gt_14 77 rfl) rfl).trans ?_
  refine (uk_al (n := 78) (pc := 2460) (gt_14 78 rfl) rfl).trans ?_
  refine (uk_il (n := 77) (pc := 2461) (gt_14 79 rfl) rfl).trans ?_
  refine (uk_ic (v := 1) (n := 76) (pc := 2463) (gt_14 80 rfl) rfl).trans ?_
  refine (uk_ia (n := 75) (pc := 2464) (gt_14 81 rfl)).trans ?_
  refine (uk_ix (n := 74) (pc := 2465) (gt_14 82 rfl)).trans (uk_if ?_)
  refine (uk_cN (r := []) (n := 73) (pc := 2466) (gt_14 83 rfl) cl_254 rt_102 rfl rfl rfl rfl rfl sh_0 (cx_m_onRoutes_0 σ1 ((xs (v4 + 1).toNatClampNeg)))).trans (uk_cI fun r2 σ2 => ?_)
  refine (uk_is (M := [some (.ref 900), some (.ref 31), some (.ref 0), some (.ref 30), some (.int v4), some (.int r1), some (.int r2)]) (n := 72) (pc := 2469) (gt_14 84 rfl) rfl rfl).trans ?_
  refine (uk_al (n := 71) (pc := 2471) (gt_14 85 rfl) rfl).trans ?_
  refine (uk_cN (r := []) (n := 70) (pc := 2472) (gt_14 86 rfl) cl_137 rt_1 rfl rfl rfl rfl rfl sh_0 (cx_m_thrown_0 σ2)).trans (uk_cI fun r3 σ3 => ?_)
  refine (uk_il (n := 69) (pc := 2475) (gt_14 87 rfl) rfl).trans ?_
  refine (uk_jc (t := 2482) (n := 68) (pc := 2477) (gt_14 88 rfl) rfl).trans (uk_ite ?_ ?_)
  ·
    refine (uk_il (n := 67) (pc := 2482) (gt_14 91 rfl) rfl).trans ?_
    refine (uk_jn (t := 2499) (n := 66) (pc := 2484) (gt_14 92 rfl) rfl).trans (uk_ite ?_ ?_)
    ·
      refine (uk_al (n := 65) (pc := 2487) (gt_14 93 rfl) rfl).trans ?_
      refine (uk_ic (v := 0) (n := 64) (pc := 2488) (gt_14 94 rfl) rfl).trans ?_
      refine (uk_la (q := 0) (n := 63) (pc := 2489) (gt_14 95 rfl) ar_30 uk_in0 rfl).trans ?_
      refine (uk_il (n := 62) (pc := 2490) (gt_14 96 rfl) rfl).trans ?_
      refine (uk_i2 (n := 61) (pc := 2492) (gt_14 97 rfl)).trans ?_
      refine (uk_lcm (n := 60) (pc := 2493) (gt_14 98 rfl)).trans ?_
      refine (uk_je (t := 2499) (n := 59) (pc := 2494) (gt_14 99 rfl) rfl).trans (uk_ite ?_ ?_)
      ·
        refine (uk_go (t := 2638) (n := 58) (pc := 2499) (gt_15 2 rfl) rfl).trans ?_
        refine (uk_ii (v := 6) (M := [some (.ref 900), some (.ref 31), some (.ref 0), some (.ref 30), some (.int (v4 + 6)), some (.int r1), some (.int r2)]) (n := 57) (pc := 2638) (gt_15 85 rfl) rfl rfl rfl).trans ?_
        refine (uk_go (t := 23) (n := 56) (pc := 2641) (gt_15 86 rfl) rfl).trans ?_
        exact uk_kf (n := 55) (pc := 23) (gt_0 0 rfl) rfl
      ·
        refine (uk_ic (v := 0) (n := 58) (pc := 2497) (gt_15 0 rfl) rfl).trans ?_
        exact uk_re (n := 57) (pc := 2498) (gt_15 1 rfl) rt_12035 (Or.inl rfl)
    ·
      refine (uk_go (t := 2638) (n := 65) (pc := 2499) (gt_15 2 rfl) rfl).trans ?_
      refine (uk_ii (v := 6) (M := [some (.ref 900), some (.ref 31), some (.ref 0), some (.ref 30), some (.int (v4 + 6)), some (.int r1), some (.int r2)]) (n := 64) (pc := 2638) (gt_15 85 rfl) rfl rfl rfl).trans ?_
      refine (uk_go (t := 23) (n := 63) (pc := 2641) (gt_15 86 rfl) rfl).trans ?_
      exact uk_kf (n := 62) (pc := 23) (gt_0 0 rfl) rfl
  ·
    refine (uk_ic (v := 0) (n := 67) (pc := 2480) (gt_14 89 rfl) rfl).trans ?_
    exact uk_re (n := 66) (pc := 2481) (gt_14 90 rfl) rt_12035 (Or.inl rfl)
set_option maxRecDepth 100000 in
theorem e_law_2502 (Ls : Nat) (xs : Nat → Int32) (kf : en_K) (σ : en_S) (v4 : Int32) : en_uk bb_G bb_P bb_ML bb_HD Ls xs 12035 kf 89 2502 [some (.ref 900), some (.ref 31), some (.ref 0), some (.ref 30), some (.int v4), none, none] [] σ =
    if en_in (v4 + 1) Ls then
      en_cI (x_lw_reach_0 σ (xs (v4 + 1).toNatClampNeg)) (fun r2 σ1 =>
        if en_in (v4 + 1) Ls then
          en_cI (x_m_reach_0 σ1 (xs (v4 + 1).toNatClampNeg)) (fun r4 σ3 =>
            en_cI (x_m_thrown_0 σ3) (fun r6 σ5 =>
              if r6 = r2 then
                if r2 = 0 then
                  if lg_cmp (σ5.2 30 0) r4.toInt64 = 0 then
                    kf 23 [some (.ref 900), some (.ref 31), some (.ref 0), some (.ref 30), some (.int (v4 + 6)), none, none] [] σ5
                  else
                    some (.inl (some (.int 0)), σ5)
                else
                  kf 23 [some (.ref 900), some (.ref 31), some (.ref 0), some (.ref 30), some (.int (v4 + 6)), none, none] [] σ5
              else
                some (.inl (some (.int 0)), σ5)) (fun _ _ => none)) (fun _ _ => none)
        else
          none) (fun _ _ => none)
    else
      none := by
  refine (uk_al (n := 88) (pc := 2502) (gt_15 3 rfl) rfl).trans ?_
  refine (uk_al (n := 87) (pc := 2503) (gt_15 4 rfl) rfl).trans ?_
  refine (uk_il (n := 86) (pc := 2504) (gt_15 5 rfl) rfl).trans ?_
  refine (uk_ic (v := 1) (n := 85) (pc := 2506) (gt_15 6 rfl) rfl).trans ?_
  refine (uk_ia (n := 84) (pc := 2507) (gt_15 7 rfl)).trans ?_
  refine (uk_ix (n := 83) (pc := 2508) (gt_15 8 rfl)).trans (uk_if ?_)
  refine (uk_al (n := 82) (pc := 2509) (gt_15 9 rfl) rfl).trans ?_
  refine (uk_cS (r := []) (n := 81) (pc := 2510) (gt_15 10 rfl) cl_255 rt_12033 rfl rfl rfl rfl rfl (cx_lw_reach_0 σ ((xs (v4 + 1).toNatClampNeg)))).trans (uk_cI fun r1 σ1 => ?_)
  refine (uk_is (M := [some (.ref 900), some (.ref 31), some (.ref 0), some (.ref 30), some (.int v4), some (.int r1), none]) (n := 80) (pc := 2513) (gt_15 11 rfl) rfl rfl).trans ?_
  refine (uk_al (n := 79) (pc := 2515) (gt_15 12 rfl) rfl).trans ?_
  refine (uk_al (n := 78) (pc := 2516) (gt_15 13 rfl) rfl).trans ?_
  refine (uk_il (n := 77) (pc := 2517) (gt_15 14 rfl) rfl).trans ?_
  refine (uk_ic (v := 1) (n := 76) (pc := 2519) (gt_15 15 rfl) rfl).trans ?_
  refine (uk_ia (n := 75) (pc := 2520) (gt_15 16 rfl)).trans ?_
  refine (uk_ix (n := 74) (pc := 2521) (gt_15 17 rfl)).trans (uk_if ?_)
  refine (uk_cN (r := []) (n := 73) (pc := 2522) (gt_15 18 rfl) cl_257 rt_100 rfl rfl rfl rfl rfl sh_0 (cx_m_reach_0 σ1 ((xs (v4 + 1).toNatClampNeg)))).trans (uk_cI fun r2 σ2 => ?_)
  refine (uk_is (M := [some (.ref 900), some (.ref 31), some (.ref 0), some (.ref 30), some (.int v4), some (.int r1), some (.int r2)]) (n := 72) (pc := 2525) (gt_15 19 rfl) rfl rfl).trans ?_
  refine (uk_al (n := 71) (pc := 2527) (gt_15 20 rfl) rfl).trans ?_
  refine (uk_cN (r := []) (n := 70) (pc := 2528) (gt_15 21 rfl) cl_137 rt_1 rfl rfl rfl rfl rfl sh_0 (cx_m_thrown_0 σ2)).trans (uk_cI fun r3 σ3 => ?_)
  refine (uk_il (n := 69) (pc := 2531) (gt_15 22 rfl) rfl).trans ?_
  refine (uk_jc (t := 2538) (n := 68) (pc := 2533) (gt_15 23 rfl) rfl).trans (uk_ite ?_ ?_)
  ·
    refine (uk_il (n := 67) (pc := 2538) (gt_15 26 rfl) rfl).trans ?_
    refine (uk_jn (t := 2555) (n := 66) (pc := 2540) (gt_15 27 rfl) rfl).trans (uk_ite ?_ ?_)
    ·
      refine (uk_al (n := 65) (pc := 2543) (gt_15 28 rfl) rfl).trans ?_
      refine (uk_ic (v := 0) (n := 64) (pc := 2544) (gt_15 29 rfl) rfl).trans ?_
      refine (uk_la (q := 0) (n := 63) (pc := 2545) (gt_15 30 rfl) ar_30 uk_in0 rfl).trans ?_
      refine (uk_il (n := 62) (pc := 2546) (gt_15 31 rfl) rfl).trans ?_
      refine (uk_i2 (n := 61) (pc := 2548) (gt_15 32 rfl)).trans ?_
      refine (uk_lcm (n := 60) (pc := 2549) (gt_15 33 rfl)).trans ?_
      refine (uk_je (t := 2555) (n := 59) (pc := 2550) (gt_15 34 rfl) rfl).trans (uk_ite ?_ ?_)
      ·
        refine (uk_go (t := 2638) (n := 58) (pc := 2555) (gt_15 37 rfl) rfl).trans ?_
        refine (uk_ii (v := 6) (M := [some (.ref 900), some (.ref 31), some (.ref 0), some (.ref 30), some (.int (v4 + 6)), some (.int r1), some (.int r2)]) (n := 57) (pc := 2638) (gt_15 85 rfl) rfl rfl rfl).trans ?_
        refine (uk_go (t := 23) (n := 56) (pc := 2641) (gt_15 86 rfl) rfl).trans ?_
        exact uk_kf (n := 55) (pc := 23) (gt_0 0 rfl) rfl
      ·
        refine (uk_ic (v := 0) (n := 58) (pc := 2553) (gt_15 35 rfl) rfl).trans ?_
        exact uk_re (n := 57) (pc := 2554) (gt_15 36 rfl) rt_12035 (Or.inl rfl)
    ·
      refine (uk_go (t := 2638) (n := 65) (pc := 2555) (gt_15 37 rfl) rfl).trans ?_
      refine (uk_ii (v := 6) (M := [some (.ref 900), some (.ref 31), some (.ref 0), some (.ref 30), some (.int (v4 + 6)), some (.int r1), some (.int r2)]) (n := 64) (pc := 2638) (gt_15 85 rfl) rfl rfl rfl).trans ?_
      refine (uk_go (t := 23) (n := 63) (pc := 2641) (gt_15 86 rfl) rfl).trans ?_
      exact uk_kf (n := 62) (pc := 23) (gt_0 0 rfl) rfl
  ·
    refine (uk_ic (v := 0) (n := 67) (pc := 2536) (gt_15 24 rfl) rfl).trans ?_
    exact uk_re (n := 66) (pc := 2537) (gt_15 25 rfl) rt_12035 (Or.inl rfl)
set_option maxRecDepth 100000 in
theorem e_law_2558 (Ls : Nat) (xs : Nat → Int32) (kf : en_K) (σ : en_S) (v4 : Int32) : en_uk bb_G bb_P bb_ML bb_HD Ls xs 12035 kf 89 2558 [some (.ref 900), some (.ref 31), some (.ref 0), some (.ref 30), some (.int v4), none, none] [] σ =
    if en_in (v4 + 1) Ls then
      en_cI (x_lw_total_0 σ (xs (v4 + 1).toNatClampNeg)) (fun r2 σ1 =>
        if en_in (v4 + 1) Ls then
          en_cI (x_m_total_0 σ1 (xs (v4 + 1).toNatClampNeg)) (fun r4 σ3 =>
            en_cI (x_m_thrown_0 σ3) (fun r6 σ5 =>
              if r6 = r2 then
                if r2 = 0 then
                  if lg_cmp (σ5.2 30 0) r4.toInt64 = 0 then
                    kf 23 [some (.ref 900), some (.ref 31), some (.ref 0), some (.ref 30), some (.int (v4 + 6)), none, none] [] σ5
                  else
                    some (.inl (some (.int 0)), σ5)
                else
                  kf 23 [some (.ref 900), some (.ref 31), some (.ref 0), some (.ref 30), some (.int (v4 + 6)), none, none] [] σ5
              else
                some (.inl (some (.int 0)), σ5)) (fun _ _ => none)) (fun _ _ => none)
        else
          none) (fun _ _ => none)
    else
      none := by
  refine (uk_al (n := 88) (pc := 2558) (gt_15 38 rfl) rfl).trans ?_
  refine (uk_al (n := 87) (pc := 2559) (gt_15 39 rfl) rfl).trans ?_
  refine (uk_il (n := 86) (pc := 2560) (gt_15 40 rfl) rfl).trans ?_
  refine (uk_ic (v := 1) (n := 85) (pc := 2562) (gt_15 41 rfl) rfl).trans ?_
  refine (uk_ia (n := 84) (pc := 2563) (gt_15 42 rfl)).trans ?_
  refine (uk_ix (n := 83) (pc := 2564) (gt_15 43 rfl)).trans (uk_if ?_)
  refine (uk_al (n := 82) (pc := 2565) (gt_15 44 rfl) rfl).trans ?_
  refine (uk_cS (r := []) (n := 81) (pc := 2566) (gt_15 45 rfl) cl_258 rt_12034 rfl rfl rfl rfl rfl (cx_lw_total_0 σ ((xs (v4 + 1).toNatClampNeg)))).trans (uk_cI fun r1 σ1 => ?_)
  refine (uk_is (M := [some (.ref 900), some (.ref 31), some (.ref 0), some (.ref 30), some (.int v4), some (.int r1), none]) (n := 80) (pc := 2569) (gt_15 46 rfl) rfl rfl).trans ?_
  refine (uk_al (n := 79) (pc := 2571) (gt_15 47 rfl) rfl).trans ?_
  refine (uk_al (n := 78) (pc := 2572) (gt_15 48 rfl) rfl).trans ?_
  refine (uk_il (n := 77) (pc := 2573) (gt_15 49 rfl) rfl).trans ?_
  refine (uk_ic (v := 1) (n := 76) (pc := 2575) (gt_15 50 rfl) rfl).trans ?_
  refine (uk_ia (n := 75) (pc := 2576) (gt_15 51 rfl)).trans ?_
  refine (uk_ix (n := 74) (pc := 2577) (gt_15 52 rfl)).trans (uk_if ?_)
  refine (uk_cN (r := []) (n := 73) (pc := 2578) (gt_15 53 rfl) cl_260 rt_117 rfl rfl rfl rfl rfl sh_0 (cx_m_total_0 σ1 ((xs (v4 + 1).toNatClampNeg)))).trans (uk_cI fun r2 σ2 => ?_)
  refine (uk_is (M := [some (.ref 900), some (.ref 31), some (.ref 0), some (.ref 30), some (.int v4), some (.int r1), some (.int r2)]) (n := 72) (pc := 2581) (gt_15 54 rfl) rfl rfl).trans ?_
  refine (uk_al (n := 71) (pc := 2583) (gt_15 55 rfl) rfl).trans ?_
  refine (uk_cN (r := []) (n := 70) (pc := 2584) (gt_15 56 rfl) cl_137 rt_1 rfl rfl rfl rfl rfl sh_0 (cx_m_thrown_0 σ2)).trans (uk_cI fun r3 σ3 => ?_)
  refine (uk_il (n := 69) (pc := 2587) (gt_15 57 rfl) rfl).trans ?_
  refine (uk_jc (t := 2594) (n := 68) (pc := 2589) (gt_15 58 rfl) rfl).trans (uk_ite ?_ ?_)
  ·
    refine (uk_il (n := 67) (pc := 2594) (gt_15 61 rfl) rfl).trans ?_
    refine (uk_jn (t := 2611) (n := 66) (pc := 2596) (gt_15 62 rfl) rfl).trans (uk_ite ?_ ?_)
    ·
      refine (uk_al (n := 65) (pc := 2599) (gt_15 63 rfl) rfl).trans ?_
      refine (uk_ic (v := 0) (n := 64) (pc := 2600) (gt_15 64 rfl) rfl).trans ?_
      refine (uk_la (q := 0) (n := 63) (pc := 2601) (gt_15 65 rfl) ar_30 uk_in0 rfl).trans ?_
      refine (uk_il (n := 62) (pc := 2602) (gt_15 66 rfl) rfl).trans ?_
      refine (uk_i2 (n := 61) (pc := 2604) (gt_15 67 rfl)).trans ?_
      refine (uk_lcm (n := 60) (pc := 2605) (gt_15 68 rfl)).trans ?_
      refine (uk_je (t := 2611) (n := 59) (pc := 2606) (gt_15 69 rfl) rfl).trans (uk_ite ?_ ?_)
      ·
        refine (uk_go (t := 2638) (n := 58) (pc := 2611) (gt_15 72 rfl) rfl).trans ?_
        refine (uk_ii (v := 6) (M := [some (.ref 900), some (.ref 31), some (.ref 0), some (.ref 30), some (.int (v4 + 6)), some (.int r1), some (.int r2)]) (n := 57) (pc := 2638) (gt_15 85 rfl) rfl rfl rfl).trans ?_
        refine (uk_go (t := 23) (n := 56) (pc := 2641) (gt_15 86 rfl) rfl).trans ?_
        exact uk_kf (n := 55) (pc := 23) (gt_0 0 rfl) rfl
      ·
        refine (uk_ic (v := 0) (n := 58) (pc := 2609) (gt_15 70 rfl) rfl).trans ?_
        exact uk_re (n := 57) (pc := 2610) (gt_15 71 rfl) rt_12035 (Or.inl rfl)
    ·
      refine (uk_go (t := 2638) (n := 65) (pc := 2611) (gt_15 72 rfl) rfl).trans ?_
      refine (uk_ii (v := 6) (M := [some (.ref 900), some (.ref 31), some (.ref 0), some (.ref 30), some (.int (v4 + 6)), some (.int r1), some (.int r2)]) (n := 64) (pc := 2638) (gt_15 85 rfl) rfl rfl rfl).trans ?_
      refine (uk_go (t := 23) (n := 63) (pc := 2641) (gt_15 86 rfl) rfl).trans ?_
      exact uk_kf (n := 62) (pc := 23) (gt_0 0 rfl) rfl
  ·
    refine (uk_ic (v := 0) (n := 67) (pc := 2592) (gt_15 59 rfl) rfl).trans ?_
    exact uk_re (n := 66) (pc := 2593) (gt_15 60 rfl) rt_12035 (Or.inl rfl)
set_option maxRecDepth 100000 in
theorem e_law_2614 (Ls : Nat) (xs : Nat → Int32) (kf : en_K) (σ : en_S) (v4 : Int32) : en_uk bb_G bb_P bb_ML bb_HD Ls xs 12035 kf 89 2614 [some (.ref 900), some (.ref 31), some (.ref 0), some (.ref 30), some (.int v4), none, none] [] σ =
    en_cV (x_b_image_0 σ) (fun σ1 =>
      en_cV (x_m_image_0 σ1) (fun σ2 =>
        kf 23 [some (.ref 900), some (.ref 31), some (.ref 0), some (.ref 30), some (.int (v4 + 6)), none, none] [] σ2) (fun _ _ => none)) (fun _ _ => none) := by
  refine (uk_al (n := 88) (pc := 2614) (gt_15 73 rfl) rfl).trans ?_
  refine (uk_cV (r := []) (n := 87) (pc := 2615) (gt_15 74 rfl) cl_261 rt_10041 rfl rfl rfl rfl rfl sh_31 (cx_b_image_0 σ)).trans (uk_cVc fun σ1 => ?_)
  refine (uk_al (n := 86) (pc := 2618) (gt_15 75 rfl) rfl).trans ?_
  refine (uk_cV (r := []) (n := 85) (pc := 2619) (gt_15 76 rfl) cl_264 rt_118 rfl rfl rfl rfl rfl sh_0 (cx_m_image_0 σ1)).trans (uk_cVc fun σ2 => ?_)
  refine (uk_go (t := 2638) (n := 84) (pc := 2622) (gt_15 77 rfl) rfl).trans ?_
  refine (uk_ii (v := 6) (M := [some (.ref 900), some (.ref 31), some (.ref 0), some (.ref 30), some (.int (v4 + 6)), none, none]) (n := 83) (pc := 2638) (gt_15 85 rfl) rfl rfl rfl).trans ?_
  refine (uk_go (t := 23) (n := 82) (pc := 2641) (gt_15 86 rfl) rfl).trans ?_
  exact uk_kf (n := 81) (pc := 23) (gt_0 0 rfl) rfl
set_option maxRecDepth 100000 in
theorem e_law_2625 (Ls : Nat) (xs : Nat → Int32) (kf : en_K) (σ : en_S) (v4 : Int32) : en_uk bb_G bb_P bb_ML bb_HD Ls xs 12035 kf 89 2625 [some (.ref 900), some (.ref 31), some (.ref 0), some (.ref 30), some (.int v4), none, none] [] σ =
    en_cI (x_b_restore_0 σ) (fun r2 σ1 =>
      en_cI (x_m_restore_0 σ1) (fun r4 σ3 =>
        if r2 = r4 then
          kf 23 [some (.ref 900), some (.ref 31), some (.ref 0), some (.ref 30), some (.int (v4 + 6)), none, none] [] σ3
        else
          some (.inl (some (.int 0)), σ3)) (fun _ _ => none)) (fun _ _ => none) := by
  refine (uk_al (n := 88) (pc := 2625) (gt_15 78 rfl) rfl).trans ?_
  refine (uk_cB (r := []) (n := 87) (pc := 2626) (gt_15 79 rfl) cl_265 rt_10042 rfl rfl rfl rfl rfl sh_31 (cx_b_restore_0 σ)).trans (uk_cI fun r1 σ1 => ?_)
  refine (uk_al (n := 86) (pc := 2629) (gt_15 80 rfl) rfl).trans ?_
  refine (uk_cB (r := [.int r1]) (n := 85) (pc := 2630) (gt_15 81 rfl) cl_269 rt_119 rfl rfl rfl rfl rfl sh_0 (cx_m_restore_0 σ1)).trans (uk_cI fun r2 σ2 => ?_)
  refine (uk_jc (t := 2638) (n := 84) (pc := 2633) (gt_15 82 rfl) rfl).trans (uk_ite ?_ ?_)
  ·
    refine (uk_ii (v := 6) (M := [some (.ref 900), some (.ref 31), some (.ref 0), some (.ref 30), some (.int (v4 + 6)), none, none]) (n := 83) (pc := 2638) (gt_15 85 rfl) rfl rfl rfl).trans ?_
    refine (uk_go (t := 23) (n := 82) (pc := 2641) (gt_15 86 rfl) rfl).trans ?_
    exact uk_kf (n := 81) (pc := 23) (gt_0 0 rfl) rfl
  ·
    refine (uk_ic (v := 0) (n := 83) (pc := 2636) (gt_15 83 rfl) rfl).trans ?_
    exact uk_re (n := 82) (pc := 2637) (gt_15 84 rfl) rt_12035 (Or.inl rfl)
set_option maxRecDepth 100000 in
theorem e_law_2638 (Ls : Nat) (xs : Nat → Int32) (kf : en_K) (σ : en_S) (v4 : Int32) : en_uk bb_G bb_P bb_ML bb_HD Ls xs 12035 kf 89 2638 [some (.ref 900), some (.ref 31), some (.ref 0), some (.ref 30), some (.int v4), none, none] [] σ =
    kf 23 [some (.ref 900), some (.ref 31), some (.ref 0), some (.ref 30), some (.int (v4 + 6)), none, none] [] σ := by
  refine (uk_ii (v := 6) (M := [some (.ref 900), some (.ref 31), some (.ref 0), some (.ref 30), some (.int (v4 + 6)), none, none]) (n := 88) (pc := 2638) (gt_15 85 rfl) rfl rfl rfl).trans ?_
  refine (uk_go (t := 23) (n := 87) (pc := 2641) (gt_15 86 rfl) rfl).trans ?_
  exact uk_kf (n := 86) (pc := 23) (gt_0 0 rfl) rfl
