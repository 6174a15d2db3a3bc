/-! written by a program: each region's equation -/
set_option maxRecDepth 100000 in
set_option maxHeartbeats 1000000 in
theorem e_lw_land_0 (σ : en_S) (v1 : Int32) : x_lw_land_0 σ v1 =
    en_cI (x_b_land_0 σ v1) (fun r2 σ1 =>
      some (.inl (some (.int 0)), (σ1.1, en_u2 σ1.2 30 0 r2.toInt64))) (fun e σ => en_hx 1 (bb_hq (99999, 0, 13, 3) e) (fun t j => bb_x 0 12000 t (en_set [some (.ref 31), some (.int v1), some (.ref 30), none] j none) [] σ) e σ) := en_ex_un (G := bb_G) (P := bb_P) (ML := bb_ML) (HD := bb_HD) 12 1 12000 0 [some (.ref 31), some (.int v1), some (.ref 30), none] [] σ
set_option maxRecDepth 100000 in
set_option maxHeartbeats 1000000 in
theorem e_lw_land_13 (σ : en_S) : x_lw_land_13 σ =
    some (.inl (some (.int 1)), σ) := en_ex_un (G := bb_G) (P := bb_P) (ML := bb_ML) (HD := bb_HD) 4 0 12000 13 [none, none, none, none] [] σ
set_option maxRecDepth 100000 in
set_option maxHeartbeats 1000000 in
theorem e_lw_count_0 (σ : en_S) (v1 : Int32) : x_lw_count_0 σ v1 =
    en_cI (x_b_count_0 σ v1) (fun r2 σ1 =>
      some (.inl (some (.int 0)), (σ1.1, en_u2 σ1.2 30 0 r2.toInt64))) (fun e σ => en_hx 1 (bb_hq (13, 3, 99999, 0) e) (fun t j => bb_x 0 12001 t (en_set [some (.ref 31), some (.int v1), some (.ref 30), none] j none) [] σ) e σ) := en_ex_un (G := bb_G) (P := bb_P) (ML := bb_ML) (HD := bb_HD) 12 1 12001 0 [some (.ref 31), some (.int v1), some (.ref 30), none] [] σ
set_option maxRecDepth 100000 in
set_option maxHeartbeats 1000000 in
theorem e_lw_count_13 (σ : en_S) : x_lw_count_13 σ =
    some (.inl (some (.int 1)), σ) := en_ex_un (G := bb_G) (P := bb_P) (ML := bb_ML) (HD := bb_HD) 4 0 12001 13 [none, none, none, none] [] σ
set_option maxRecDepth 100000 in
set_option maxHeartbeats 1000000 in
theorem e_lw_box_0 (σ : en_S) (v1 : Int32) (v2 : Int32) : x_lw_box_0 σ v1 v2 =
    en_cI (x_b_box_0 σ v1 v2) (fun r2 σ1 =>
      some (.inl (some (.int 0)), (σ1.1, en_u2 σ1.2 30 0 r2.toInt64))) (fun e σ => en_hx 1 (bb_hq (15, 4, 99999, 0) e) (fun t j => bb_x 0 12002 t (en_set [some (.ref 31), some (.int v1), some (.int v2), some (.ref 30), none] j none) [] σ) e σ) := en_ex_un (G := bb_G) (P := bb_P) (ML := bb_ML) (HD := bb_HD) 13 1 12002 0 [some (.ref 31), some (.int v1), some (.int v2), some (.ref 30), none] [] σ
set_option maxRecDepth 100000 in
set_option maxHeartbeats 1000000 in
theorem e_lw_box_15 (σ : en_S) : x_lw_box_15 σ =
    some (.inl (some (.int 1)), σ) := en_ex_un (G := bb_G) (P := bb_P) (ML := bb_ML) (HD := bb_HD) 4 0 12002 15 [none, none, none, none, none] [] σ
set_option maxRecDepth 100000 in
set_option maxHeartbeats 1000000 in
theorem e_lw_bearer_0 (σ : en_S) (v1 : Int32) (v2 : Int32) : x_lw_bearer_0 σ v1 v2 =
    en_cI (x_b_bearer_0 σ v1 v2) (fun r2 σ1 =>
      some (.inl (some (.int 0)), (σ1.1, en_u2 σ1.2 30 0 r2.toInt64))) (fun e σ => en_hx 1 (bb_hq (15, 4, 99999, 0) e) (fun t j => bb_x 0 12003 t (en_set [some (.ref 31), some (.int v1), some (.int v2), some (.ref 30), none] j none) [] σ) e σ) := en_ex_un (G := bb_G) (P := bb_P) (ML := bb_ML) (HD := bb_HD) 13 1 12003 0 [some (.ref 31), some (.int v1), some (.int v2), some (.ref 30), none] [] σ
set_option maxRecDepth 100000 in
set_option maxHeartbeats 1000000 in
theorem e_lw_bearer_15 (σ : en_S) : x_lw_bearer_15 σ =
    some (.inl (some (.int 1)), σ) := en_ex_un (G := bb_G) (P := bb_P) (ML := bb_ML) (HD := bb_HD) 4 0 12003 15 [none, none, none, none, none] [] σ
set_option maxRecDepth 100000 in
set_option maxHeartbeats 1000000 in
theorem e_lw_hand_0 (σ : en_S) (v1 : Int32) (v2 : Int32) : x_lw_hand_0 σ v1 v2 =
    en_cI (x_b_hand_0 σ v1 v2) (fun r2 σ1 =>
      some (.inl (some (.int 0)), (σ1.1, en_u2 σ1.2 30 0 r2.toInt64))) (fun e σ => en_hx 1 (bb_hq (15, 4, 99999, 0) e) (fun t j => bb_x 0 12004 t (en_set [some (.ref 31), some (.int v1), some (.int v2), some (.ref 30), none] j none) [] σ) e σ) := en_ex_un (G := bb_G) (P := bb_P) (ML := bb_ML) (HD := bb_HD) 13 1 12004 0 [some (.ref 31), some (.int v1), some (.int v2), some (.ref 30), none] [] σ
set_option maxRecDepth 100000 in
set_option maxHeartbeats 1000000 in
theorem e_lw_hand_15 (σ : en_S) : x_lw_hand_15 σ =
    some (.inl (some (.int 1)), σ) := en_ex_un (G := bb_G) (P := bb_P) (ML := bb_ML) (HD := bb_HD) 4 0 12004 15 [none, none, none, none, none] [] σ
set_option maxRecDepth 100000 in
set_option maxHeartbeats 1000000 in
theorem e_lw_away_0 (σ : en_S) (v1 : Int32) : x_lw_away_0 σ v1 =
    en_cI (x_b_away_0 σ v1) (fun r2 σ1 =>
      some (.inl (some (.int 0)), (σ1.1, en_u2 σ1.2 30 0 r2.toInt64))) (fun e σ => en_hx 1 (bb_hq (13, 3, 99999, 0) e) (fun t j => bb_x 0 12005 t (en_set [some (.ref 31), some (.int v1), some (.ref 30), none] j none) [] σ) e σ) := en_ex_un (G := bb_G) (P := bb_P) (ML := bb_ML) (HD := bb_HD) 12 1 12005 0 [some (.ref 31), some (.int v1), some (.ref 30), none] [] σ
set_option maxRecDepth 100000 in
set_option maxHeartbeats 1000000 in
theorem e_lw_away_13 (σ : en_S) : x_lw_away_13 σ =
    some (.inl (some (.int 1)), σ) := en_ex_un (G := bb_G) (P := bb_P) (ML := bb_ML) (HD := bb_HD) 4 0 12005 13 [none, none, none, none] [] σ
set_option maxRecDepth 100000 in
set_option maxHeartbeats 1000000 in
theorem e_lw_change_0 (σ : en_S) (v1 : Int32) (v2 : Int32) : x_lw_change_0 σ v1 v2 =
    en_cI (x_b_change_0 σ v1 v2) (fun r2 σ1 =>
      if r2 = 0 then
        some (.inl (some (.int 0)), (σ1.1, en_u2 σ1.2 30 0 0))
      else
        some (.inl (some (.int 0)), (σ1.1, en_u2 σ1.2 30 0 1))) (fun e σ => en_hx 1 (bb_hq (22, 4, 99999, 0) e) (fun t j => bb_x 0 12006 t (en_set [some (.ref 31), some (.int v1), some (.int v2), some (.ref 30), none] j none) [] σ) e σ) := en_ex_un (G := bb_G) (P := bb_P) (ML := bb_ML) (HD := bb_HD) 20 1 12006 0 [some (.ref 31), some (.int v1), some (.int v2), some (.ref 30), none] [] σ
set_option maxRecDepth 100000 in
set_option maxHeartbeats 1000000 in
theorem e_lw_change_22 (σ : en_S) : x_lw_change_22 σ =
    some (.inl (some (.int 1)), σ) := en_ex_un (G := bb_G) (P := bb_P) (ML := bb_ML) (HD := bb_HD) 4 0 12006 22 [none, none, none, none, none] [] σ
set_option maxRecDepth 100000 in
set_option maxHeartbeats 1000000 in
theorem e_lw_slander_0 (σ : en_S) (v1 : Int32) (v2 : Int32) : x_lw_slander_0 σ v1 v2 =
    en_cI (x_b_slander_0 σ v1 v2) (fun r2 σ1 =>
      some (.inl (some (.int 0)), (σ1.1, en_u2 σ1.2 30 0 r2.toInt64))) (fun e σ => en_hx 1 (bb_hq (15, 4, 99999, 0) e) (fun t j => bb_x 0 12007 t (en_set [some (.ref 31), some (.int v1), some (.int v2), some (.ref 30), none] j none) [] σ) e σ) := en_ex_un (G := bb_G) (P := bb_P) (ML := bb_ML) (HD := bb_HD) 13 1 12007 0 [some (.ref 31), some (.int v1), some (.int v2), some (.ref 30), none] [] σ
set_option maxRecDepth 100000 in
set_option maxHeartbeats 1000000 in
theorem e_lw_slander_15 (σ : en_S) : x_lw_slander_15 σ =
    some (.inl (some (.int 1)), σ) := en_ex_un (G := bb_G) (P := bb_P) (ML := bb_ML) (HD := bb_HD) 4 0 12007 15 [none, none, none, none, none] [] σ
set_option maxRecDepth 100000 in
set_option maxHeartbeats 1000000 in
theorem e_lw_praise_0 (σ : en_S) (v1 : Int32) (v2 : Int32) : x_lw_praise_0 σ v1 v2 =
    en_cI (x_b_praise_0 σ v1 v2) (fun r2 σ1 =>
      some (.inl (some (.int 0)), (σ1.1, en_u2 σ1.2 30 0 r2.toInt64))) (fun e σ => en_hx 1 (bb_hq (15, 4, 99999, 0) e) (fun t j => bb_x 0 12008 t (en_set [some (.ref 31), some (.int v1), some (.int v2), some (.ref 30), none] j none) [] σ) e σ) := en_ex_un (G := bb_G) (P := bb_P) (ML := bb_ML) (HD := bb_HD) 13 1 12008 0 [some (.ref 31), some (.int v1), some (.int v2), some (.ref 30), none] [] σ
set_option maxRecDepth 100000 in
set_option maxHeartbeats 1000000 in
theorem e_lw_praise_15 (σ : en_S) : x_lw_praise_15 σ =
    some (.inl (some (.int 1)), σ) := en_ex_un (G := bb_G) (P := bb_P) (ML := bb_ML) (HD := bb_HD) 4 0 12008 15 [none, none, none, none, none] [] σ
set_option maxRecDepth 100000 in
set_option maxHeartbeats 1000000 in
theorem e_lw_then_0 (σ : en_S) (v1 : Int32) (v2 : Int32) (v3 : Int32) : x_lw_then_0 σ v1 v2 v3 =
    en_cI (x_b_then_0 σ v1 v2 v3) (fun r2 σ1 =>
      some (.inl (some (.int 0)), (σ1.1, en_u2 σ1.2 30 0 r2.toInt64))) (fun e σ => en_hx 1 (bb_hq (17, 5, 21, 5) e) (fun t j => bb_x 0 12009 t (en_set [some (.ref 31), some (.int v1), some (.int v2), some (.int v3), some (.ref 30), none] j none) [] σ) e σ) := en_ex_un (G := bb_G) (P := bb_P) (ML := bb_ML) (HD := bb_HD) 14 1 12009 0 [some (.ref 31), some (.int v1), some (.int v2), some (.int v3), some (.ref 30), none] [] σ
set_option maxRecDepth 100000 in
set_option maxHeartbeats 1000000 in
theorem e_lw_then_21 (σ : en_S) : x_lw_then_21 σ =
    some (.inl (some (.int 2)), σ) := en_ex_un (G := bb_G) (P := bb_P) (ML := bb_ML) (HD := bb_HD) 4 0 12009 21 [none, none, none, none, none, none] [] σ
set_option maxRecDepth 100000 in
set_option maxHeartbeats 1000000 in
theorem e_lw_then_17 (σ : en_S) : x_lw_then_17 σ =
    some (.inl (some (.int 1)), σ) := en_ex_un (G := bb_G) (P := bb_P) (ML := bb_ML) (HD := bb_HD) 4 0 12009 17 [none, none, none, none, none, none] [] σ
set_option maxRecDepth 100000 in
set_option maxHeartbeats 1000000 in
theorem e_lw_who_0 (σ : en_S) (v1 : Int32) (v2 : Int32) (v3 : Int32) : x_lw_who_0 σ v1 v2 v3 =
    en_cI (x_b_who_0 σ v1 v2 v3) (fun r2 σ1 =>
      some (.inl (some (.int 0)), (σ1.1, en_u2 σ1.2 30 0 r2.toInt64))) (fun e σ => en_hx 1 (bb_hq (17, 5, 21, 5) e) (fun t j => bb_x 0 12010 t (en_set [some (.ref 31), some (.int v1), some (.int v2), some (.int v3), some (.ref 30), none] j none) [] σ) e σ) := en_ex_un (G := bb_G) (P := bb_P) (ML := bb_ML) (HD := bb_HD) 14 1 12010 0 [some (.ref 31), some (.int v1), some (.int v2), some (.int v3), some (.ref 30), none] [] σ
set_option maxRecDepth 100000 in
set_option maxHeartbeats 1000000 in
theorem e_lw_who_21 (σ : en_S) : x_lw_who_21 σ =
    some (.inl (some (.int 2)), σ) := en_ex_un (G := bb_G) (P := bb_P) (ML := bb_ML) (HD := bb_HD) 4 0 12010 21 [none, none, none, none, none, none] [] σ
set_option maxRecDepth 100000 in
set_option maxHeartbeats 1000000 in
theorem e_lw_who_17 (σ : en_S) : x_lw_who_17 σ =
    some (.inl (some (.int 1)), σ) := en_ex_un (G := bb_G) (P := bb_P) (ML := bb_ML) (HD := bb_HD) 4 0 12010 17 [none, none, none, none, none, none] [] σ
set_option maxRecDepth 100000 in
set_option maxHeartbeats 1000000 in
theorem e_lw_fallen_0 (σ : en_S) (v1 : Int32) : x_lw_fallen_0 σ v1 =
    en_cI (x_b_fallen_0 σ v1) (fun r2 σ1 =>
      some (.inl (some (.int 0)), (σ1.1, en_u2 σ1.2 30 0 r2.toInt64))) (fun e σ => en_hx 1 (bb_hq (13, 3, 99999, 0) e) (fun t j => bb_x 0 12011 t (en_set [some (.ref 31), some (.int v1), some (.ref 30), none] j none) [] σ) e σ) := en_ex_un (G := bb_G) (P := bb_P) (ML := bb_ML) (HD := bb_HD) 12 1 12011 0 [some (.ref 31), some (.int v1), some (.ref 30), none] [] σ
set_option maxRecDepth 100000 in
set_option maxHeartbeats 1000000 in
theorem e_lw_fallen_13 (σ : en_S) : x_lw_fallen_13 σ =
    some (.inl (some (.int 1)), σ) := en_ex_un (G := bb_G) (P := bb_P) (ML := bb_ML) (HD := bb_HD) 4 0 12011 13 [none, none, none, none] [] σ
set_option maxRecDepth 100000 in
set_option maxHeartbeats 1000000 in
theorem e_lw_rests_0 (σ : en_S) (v1 : Int32) : x_lw_rests_0 σ v1 =
    en_cI (x_b_rests_0 σ v1) (fun r2 σ1 =>
      some (.inl (some (.int 0)), (σ1.1, en_u2 σ1.2 30 0 r2.toInt64))) (fun e σ => en_hx 1 (bb_hq (13, 3, 99999, 0) e) (fun t j => bb_x 0 12012 t (en_set [some (.ref 31), some (.int v1), some (.ref 30), none] j none) [] σ) e σ) := en_ex_un (G := bb_G) (P := bb_P) (ML := bb_ML) (HD := bb_HD) 12 1 12012 0 [some (.ref 31), some (.int v1), some (.ref 30), none] [] σ
set_option maxRecDepth 100000 in
set_option maxHeartbeats 1000000 in
theorem e_lw_rests_13 (σ : en_S) : x_lw_rests_13 σ =
    some (.inl (some (.int 1)), σ) := en_ex_un (G := bb_G) (P := bb_P) (ML := bb_ML) (HD := bb_HD) 4 0 12012 13 [none, none, none, none] [] σ
set_option maxRecDepth 100000 in
set_option maxHeartbeats 1000000 in
theorem e_lw_meet_0 (σ : en_S) (v1 : Int32) (v2 : Int32) : x_lw_meet_0 σ v1 v2 =
    en_cI (x_b_meet_0 σ v1 v2) (fun r2 σ1 =>
      some (.inl (some (.int 0)), (σ1.1, en_u2 σ1.2 30 0 r2.toInt64))) (fun e σ => en_hx 1 (bb_hq (15, 4, 99999, 0) e) (fun t j => bb_x 0 12013 t (en_set [some (.ref 31), some (.int v1), some (.int v2), some (.ref 30), none] j none) [] σ) e σ) := en_ex_un (G := bb_G) (P := bb_P) (ML := bb_ML) (HD := bb_HD) 13 1 12013 0 [some (.ref 31), some (.int v1), some (.int v2), some (.ref 30), none] [] σ
set_option maxRecDepth 100000 in
set_option maxHeartbeats 1000000 in
theorem e_lw_meet_15 (σ : en_S) : x_lw_meet_15 σ =
    some (.inl (some (.int 1)), σ) := en_ex_un (G := bb_G) (P := bb_P) (ML := bb_ML) (HD := bb_HD) 4 0 12013 15 [none, none, none, none, none] [] σ
set_option maxRecDepth 100000 in
set_option maxHeartbeats 1000000 in
theorem e_lw_later_0 (σ : en_S) (v1 : Int32) (v2 : Int32) : x_lw_later_0 σ v1 v2 =
    en_cI (x_b_later_0 σ v1 v2) (fun r2 σ1 =>
      some (.inl (some (.int 0)), (σ1.1, en_u2 σ1.2 30 0 r2.toInt64))) (fun e σ => en_hx 1 (bb_hq (15, 4, 19, 4) e) (fun t j => bb_x 0 12014 t (en_set [some (.ref 31), some (.int v1), some (.int v2), some (.ref 30), none] j none) [] σ) e σ) := en_ex_un (G := bb_G) (P := bb_P) (ML := bb_ML) (HD := bb_HD) 13 1 12014 0 [some (.ref 31), some (.int v1), some (.int v2), some (.ref 30), none] [] σ
set_option maxRecDepth 100000 in
set_option maxHeartbeats 1000000 in
theorem e_lw_later_19 (σ : en_S) : x_lw_later_19 σ =
    some (.inl (some (.int 2)), σ) := en_ex_un (G := bb_G) (P := bb_P) (ML := bb_ML) (HD := bb_HD) 4 0 12014 19 [none, none, none, none, none] [] σ
set_option maxRecDepth 100000 in
set_option maxHeartbeats 1000000 in
theorem e_lw_later_15 (σ : en_S) : x_lw_later_15 σ =
    some (.inl (some (.int 1)), σ) := en_ex_un (G := bb_G) (P := bb_P) (ML := bb_ML) (HD := bb_HD) 4 0 12014 15 [none, none, none, none, none] [] σ
set_option maxRecDepth 100000 in
set_option maxHeartbeats 1000000 in
theorem e_lw_calls_0 (σ : en_S) (v1 : Int32) (v2 : Int32) : x_lw_calls_0 σ v1 v2 =
    en_cI (x_b_calls_0 σ v1 v2) (fun r2 σ1 =>
      some (.inl (some (.int 0)), (σ1.1, en_u2 σ1.2 30 0 r2.toInt64))) (fun e σ => en_hx 1 (bb_hq (15, 4, 19, 4) e) (fun t j => bb_x 0 12015 t (en_set [some (.ref 31), some (.int v1), some (.int v2), some (.ref 30), none] j none) [] σ) e σ) := en_ex_un (G := bb_G) (P := bb_P) (ML := bb_ML) (HD := bb_HD) 13 1 12015 0 [some (.ref 31), some (.int v1), some (.int v2), some (.ref 30), none] [] σ
set_option maxRecDepth 100000 in
set_option maxHeartbeats 1000000 in
theorem e_lw_calls_19 (σ : en_S) : x_lw_calls_19 σ =
    some (.inl (some (.int 2)), σ) := en_ex_un (G := bb_G) (P := bb_P) (ML := bb_ML) (HD := bb_HD) 4 0 12015 19 [none, none, none, none, none] [] σ
set_option maxRecDepth 100000 in
set_option maxHeartbeats 1000000 in
theorem e_lw_calls_15 (σ : en_S) : x_lw_calls_15 σ =
    some (.inl (some (.int 1)), σ) := en_ex_un (G := bb_G) (P := bb_P) (ML := bb_ML) (HD := bb_HD) 4 0 12015 15 [none, none, none, none, none] [] σ
set_option maxRecDepth 100000 in
set_option maxHeartbeats 1000000 in
theorem e_lw_toBear_0 (σ : en_S) (v1 : Int32) : x_lw_toBear_0 σ v1 =
    en_cI (x_b_toBear_0 σ v1) (fun r2 σ1 =>
      some (.inl (some (.int 0)), (σ1.1, en_u2 σ1.2 30 0 r2.toInt64))) (fun e σ => en_hx 1 (bb_hq (13, 3, 99999, 0) e) (fun t j => bb_x 0 12016 t (en_set [some (.ref 31), some (.int v1), some (.ref 30), none] j none) [] σ) e σ) := en_ex_un (G := bb_G) (P := bb_P) (ML := bb_ML) (HD := bb_HD) 12 1 12016 0 [some (.ref 31), some (.int v1), some (.ref 30), none] [] σ
set_option maxRecDepth 100000 in
set_option maxHeartbeats 1000000 in
theorem e_lw_toBear_13 (σ : en_S) : x_lw_toBear_13 σ =
    some (.inl (some (.int 1)), σ) := en_ex_un (G := bb_G) (P := bb_P) (ML := bb_ML) (HD := bb_HD) 4 0 12016 13 [none, none, none, none] [] σ
set_option maxRecDepth 100000 in
set_option maxHeartbeats 1000000 in
theorem e_lw_crew_0 (σ : en_S) (v1 : Int32) : x_lw_crew_0 σ v1 =
    en_cI (x_b_crew_0 σ v1) (fun r2 σ1 =>
      some (.inl (some (.int 0)), (σ1.1, en_u2 σ1.2 30 0 r2.toInt64))) (fun e σ => en_hx 1 (bb_hq (13, 3, 99999, 0) e) (fun t j => bb_x 0 12017 t (en_set [some (.ref 31), some (.int v1), some (.ref 30), none] j none) [] σ) e σ) := en_ex_un (G := bb_G) (P := bb_P) (ML := bb_ML) (HD := bb_HD) 12 1 12017 0 [some (.ref 31), some (.int v1), some (.ref 30), none] [] σ
set_option maxRecDepth 100000 in
set_option maxHeartbeats 1000000 in
theorem e_lw_crew_13 (σ : en_S) : x_lw_crew_13 σ =
    some (.inl (some (.int 1)), σ) := en_ex_un (G := bb_G) (P := bb_P) (ML := bb_ML) (HD := bb_HD) 4 0 12017 13 [none, none, none, none] [] σ
set_option maxRecDepth 100000 in
set_option maxHeartbeats 1000000 in
theorem e_lw_toSlander_0 (σ : en_S) (v1 : Int32) : x_lw_toSlander_0 σ v1 =
    en_cI (x_b_toSlander_0 σ v1) (fun r2 σ1 =>
      some (.inl (some (.int 0)), (σ1.1, en_u2 σ1.2 30 0 r2.toInt64))) (fun e σ => en_hx 1 (bb_hq (13, 3, 99999, 0) e) (fun t j => bb_x 0 12018 t (en_set [some (.ref 31), some (.int v1), some (.ref 30), none] j none) [] σ) e σ) := en_ex_un (G := bb_G) (P := bb_P) (ML := bb_ML) (HD := bb_HD) 12 1 12018 0 [some (.ref 31), some (.int v1), some (.ref 30), none] [] σ
set_option maxRecDepth 100000 in
set_option maxHeartbeats 1000000 in
theorem e_lw_toSlander_13 (σ : en_S) : x_lw_toSlander_13 σ =
    some (.inl (some (.int 1)), σ) := en_ex_un (G := bb_G) (P := bb_P) (ML := bb_ML) (HD := bb_HD) 4 0 12018 13 [none, none, none, none] [] σ
set_option maxRecDepth 100000 in
set_option maxHeartbeats 1000000 in
theorem e_lw_toWait_0 (σ : en_S) (v1 : Int32) : x_lw_toWait_0 σ v1 =
    en_cI (x_b_toWait_0 σ v1) (fun r2 σ1 =>
      some (.inl (some (.int 0)), (σ1.1, en_u2 σ1.2 30 0 r2.toInt64))) (fun e σ => en_hx 1 (bb_hq (13, 3, 99999, 0) e) (fun t j => bb_x 0 12019 t (en_set [some (.ref 31), some (.int v1), some (.ref 30), none] j none) [] σ) e σ) := en_ex_un (G := bb_G) (P := bb_P) (ML := bb_ML) (HD := bb_HD) 12 1 12019 0 [some (.ref 31), some (.int v1), some (.ref 30), none] [] σ
set_option maxRecDepth 100000 in
set_option maxHeartbeats 1000000 in
theorem e_lw_toWait_13 (σ : en_S) : x_lw_toWait_13 σ =
    some (.inl (some (.int 1)), σ) := en_ex_un (G := bb_G) (P := bb_P) (ML := bb_ML) (HD := bb_HD) 4 0 12019 13 [none, none, none, none] [] σ
set_option maxRecDepth 100000 in
set_option maxHeartbeats 1000000 in
theorem e_lw_way_0 (σ : en_S) (v1 : Int32) (v2 : Int32) (v3 : Int32) : x_lw_way_0 σ v1 v2 v3 =
    en_cI (x_b_way_0 σ v1 v2 v3) (fun r2 σ1 =>
      some (.inl (some (.int 0)), (σ1.1, en_u2 σ1.2 30 0 r2.toInt64))) (fun e σ => en_hx 1 (bb_hq (17, 5, 99999, 0) e) (fun t j => bb_x 0 12020 t (en_set [some (.ref 31), some (.int v1), some (.int v2), some (.int v3), some (.ref 30), none] j none) [] σ) e σ) := en_ex_un (G := bb_G) (P := bb_P) (ML := bb_ML) (HD := bb_HD) 14 1 12020 0 [some (.ref 31), some (.int v1), some (.int v2), some (.int v3), some (.ref 30), none] [] σ
set_option maxRecDepth 100000 in
set_option maxHeartbeats 1000000 in
theorem e_lw_way_17 (σ : en_S) : x_lw_way_17 σ =
    some (.inl (some (.int 1)), σ) := en_ex_un (G := bb_G) (P := bb_P) (ML := bb_ML) (HD := bb_HD) 4 0 12020 17 [none, none, none, none, none, none] [] σ
set_option maxRecDepth 100000 in
set_option maxHeartbeats 1000000 in
theorem e_lw_see_0 (σ : en_S) (v1 : Int32) (v2 : Int32) (v3 : Int32) : x_lw_see_0 σ v1 v2 v3 =
    en_cI (x_b_see_0 σ v1 v2 v3) (fun r2 σ1 =>
      some (.inl (some (.int 0)), (σ1.1, en_u2 σ1.2 30 0 r2.toInt64))) (fun e σ => en_hx 1 (bb_hq (17, 5, 99999, 0) e) (fun t j => bb_x 0 12021 t (en_set [some (.ref 31), some (.int v1), some (.int v2), some (.int v3), some (.ref 30), none] j none) [] σ) e σ) := en_ex_un (G := bb_G) (P := bb_P) (ML := bb_ML) (HD := bb_HD) 14 1 12021 0 [some (.ref 31), some (.int v1), some (.int v2), some (.int v3), some (.ref 30), none] [] σ
set_option maxRecDepth 100000 in
set_option maxHeartbeats 1000000 in
theorem e_lw_see_17 (σ : en_S) : x_lw_see_17 σ =
    some (.inl (some (.int 1)), σ) := en_ex_un (G := bb_G) (P := bb_P) (ML := bb_ML) (HD := bb_HD) 4 0 12021 17 [none, none, none, none, none, none] [] σ
set_option maxRecDepth 100000 in
set_option maxHeartbeats 1000000 in
theorem e_lw_weighed_0 (σ : en_S) (v1 : Int32) : x_lw_weighed_0 σ v1 =
    en_cI (x_b_weighed_0 σ v1) (fun r2 σ1 =>
      some (.inl (some (.int 0)), (σ1.1, en_u2 σ1.2 30 0 r2.toInt64))) (fun e σ => en_hx 1 (bb_hq (13, 3, 99999, 0) e) (fun t j => bb_x 0 12022 t (en_set [some (.ref 31), some (.int v1), some (.ref 30), none] j none) [] σ) e σ) := en_ex_un (G := bb_G) (P := bb_P) (ML := bb_ML) (HD := bb_HD) 12 1 12022 0 [some (.ref 31), some (.int v1), some (.ref 30), none] [] σ
set_option maxRecDepth 100000 in
set_option maxHeartbeats 1000000 in
theorem e_lw_weighed_13 (σ : en_S) : x_lw_weighed_13 σ =
    some (.inl (some (.int 1)), σ) := en_ex_un (G := bb_G) (P := bb_P) (ML := bb_ML) (HD := bb_HD) 4 0 12022 13 [none, none, none, none] [] σ
set_option maxRecDepth 100000 in
set_option maxHeartbeats 1000000 in
theorem e_lw_look_0 (σ : en_S) (v1 : Int32) : x_lw_look_0 σ v1 =
    en_cI (x_b_look_0 σ v1) (fun r2 σ1 =>
      some (.inl (some (.int 0)), (σ1.1, en_u2 σ1.2 30 0 r2.toInt64))) (fun e σ => en_hx 1 (bb_hq (13, 3, 99999, 0) e) (fun t j => bb_x 0 12023 t (en_set [some (.ref 31), some (.int v1), some (.ref 30), none] j none) [] σ) e σ) := en_ex_un (G := bb_G) (P := bb_P) (ML := bb_ML) (HD := bb_HD) 12 1 12023 0 [some (.ref 31), some (.int v1), some (.ref 30), none] [] σ
set_option maxRecDepth 100000 in
set_option maxHeartbeats 1000000 in
theorem e_lw_look_13 (σ : en_S) : x_lw_look_13 σ =
    some (.inl (some (.int 1)), σ) := en_ex_un (G := bb_G) (P := bb_P) (ML := bb_ML) (HD := bb_HD) 4 0 12023 13 [none, none, none, none] [] σ
set_option maxRecDepth 100000 in
set_option maxHeartbeats 1000000 in
theorem e_lw_rain_0 (σ : en_S) (v1 : Int32) (v2 : Int32) (v3 : Int32) : x_lw_rain_0 σ v1 v2 v3 =
    en_cI (x_b_rain_0 σ v1 v2 v3) (fun r2 σ1 =>
      some (.inl (some (.int 0)), (σ1.1, en_u2 σ1.2 30 0 r2.toInt64))) (fun e σ => en_hx 1 (bb_hq (17, 5, 21, 5) e) (fun t j => bb_x 0 12024 t (en_set [some (.ref 31), some (.int v1), some (.int v2), some (.int v3), some (.ref 30), none] j none) [] σ) e σ) := en_ex_un (G := bb_G) (P := bb_P) (ML := bb_ML) (HD := bb_HD) 14 1 12024 0 [some (.ref 31), some (.int v1), some (.int v2), some (.int v3), some (.ref 30), none] [] σ
set_option maxRecDepth 100000 in
set_option maxHeartbeats 1000000 in
theorem e_lw_rain_21 (σ : en_S) : x_lw_rain_21 σ =
    some (.inl (some (.int 2)), σ) := en_ex_un (G := bb_G) (P := bb_P) (ML := bb_ML) (HD := bb_HD) 4 0 12024 21 [none, none, none, none, none, none] [] σ
set_option maxRecDepth 100000 in
set_option maxHeartbeats 1000000 in
theorem e_lw_rain_17 (σ : en_S) : x_lw_rain_17 σ =
    some (.inl (some (.int 1)), σ) := en_ex_un (G := bb_G) (P := bb_P) (ML := bb_ML) (HD := bb_HD) 4 0 12024 17 [none, none, none, none, none, none] [] σ
set_option maxRecDepth 100000 in
set_option maxHeartbeats 1000000 in
theorem e_lw_game_0 (σ : en_S) (v1 : Int32) (v2 : Int32) (v3 : Int32) : x_lw_game_0 σ v1 v2 v3 =
    en_cI (x_b_game_0 σ v1 v2 v3) (fun r2 σ1 =>
      some (.inl (some (.int 0)), (σ1.1, en_u2 σ1.2 30 0 r2.toInt64))) (fun e σ => en_hx 1 (bb_hq (17, 5, 21, 5) e) (fun t j => bb_x 0 12025 t (en_set [some (.ref 31), some (.int v1), some (.int v2), some (.int v3), some (.ref 30), none] j none) [] σ) e σ) := en_ex_un (G := bb_G) (P := bb_P) (ML := bb_ML) (HD := bb_HD) 14 1 12025 0 [some (.ref 31), some (.int v1), some (.int v2), some (.int v3), some (.ref 30), none] [] σ
set_option maxRecDepth 100000 in
set_option maxHeartbeats 1000000 in
theorem e_lw_game_21 (σ : en_S) : x_lw_game_21 σ =
    some (.inl (some (.int 2)), σ) := en_ex_un (G := bb_G) (P := bb_P) (ML := bb_ML) (HD := bb_HD) 4 0 12025 21 [none, none, none, none, none, none] [] σ
set_option maxRecDepth 100000 in
set_option maxHeartbeats 1000000 in
theorem e_lw_game_17 (σ : en_S) : x_lw_game_17 σ =
    some (.inl (some (.int 1)), σ) := en_ex_un (G := bb_G) (P := bb_P) (ML := bb_ML) (HD := bb_HD) 4 0 12025 17 [none, none, none, none, none, none] [] σ
set_option maxRecDepth 100000 in
set_option maxHeartbeats 1000000 in
theorem e_lw_years_0 (σ : en_S) (v1 : Int32) (v2 : Int32) (v3 : Int32) : x_lw_years_0 σ v1 v2 v3 =
    en_cI (x_b_years_0 σ v1 v2 v3) (fun r2 σ1 =>
      some (.inl (some (.int 0)), (σ1.1, en_u2 σ1.2 30 0 r2.toInt64))) (fun e σ => en_hx 1 (bb_hq (17, 5, 21, 5) e) (fun t j => bb_x 0 12026 t (en_set [some (.ref 31), some (.int v1), some (.int v2), some (.int v3), some (.ref 30), none] j none) [] σ) e σ) := en_ex_un (G := bb_G) (P := bb_P) (ML := bb_ML) (HD := bb_HD) 14 1 12026 0 [some (.ref 31), some (.int v1), some (.int v2), some (.int v3), some (.ref 30), none] [] σ
set_option maxRecDepth 100000 in
set_option maxHeartbeats 1000000 in
theorem e_lw_years_21 (σ : en_S) : x_lw_years_21 σ =
    some (.inl (some (.int 2)), σ) := en_ex_un (G := bb_G) (P := bb_P) (ML := bb_ML) (HD := bb_HD) 4 0 12026 21 [none, none, none, none, none, none] [] σ
set_option maxRecDepth 100000 in
set_option maxHeartbeats 1000000 in
theorem e_lw_years_17 (σ : en_S) : x_lw_years_17 σ =
    some (.inl (some (.int 1)), σ) := en_ex_un (G := bb_G) (P := bb_P) (ML := bb_ML) (HD := bb_HD) 4 0 12026 17 [none, none, none, none, none, none] [] σ
set_option maxRecDepth 100000 in
set_option maxHeartbeats 1000000 in
theorem e_lw_idle_0 (σ : en_S) (v1 : Int32) : x_lw_idle_0 σ v1 =
    en_cI (x_b_idle_0 σ v1) (fun r2 σ1 =>
      some (.inl (some (.int 0)), (σ1.1, en_u2 σ1.2 30 0 r2.toInt64))) (fun e σ => en_hx 1 (bb_hq (13, 3, 99999, 0) e) (fun t j => bb_x 0 12027 t (en_set [some (.ref 31), some (.int v1), some (.ref 30), none] j none) [] σ) e σ) := en_ex_un (G := bb_G) (P := bb_P) (ML := bb_ML) (HD := bb_HD) 12 1 12027 0 [some (.ref 31), some (.int v1), some (.ref 30), none] [] σ
set_option maxRecDepth 100000 in
set_option maxHeartbeats 1000000 in
theorem e_lw_idle_13 (σ : en_S) : x_lw_idle_13 σ =
    some (.inl (some (.int 1)), σ) := en_ex_un (G := bb_G) (P := bb_P) (ML := bb_ML) (HD := bb_HD) 4 0 12027 13 [none, none, none, none] [] σ
set_option maxRecDepth 100000 in
set_option maxHeartbeats 1000000 in
theorem e_lw_nearest_0 (σ : en_S) (v1 : Int32) : x_lw_nearest_0 σ v1 =
    en_cI (x_b_nearest_0 σ v1) (fun r2 σ1 =>
      some (.inl (some (.int 0)), (σ1.1, en_u2 σ1.2 30 0 r2.toInt64))) (fun e σ => en_hx 1 (bb_hq (13, 3, 99999, 0) e) (fun t j => bb_x 0 12028 t (en_set [some (.ref 31), some (.int v1), some (.ref 30), none] j none) [] σ) e σ) := en_ex_un (G := bb_G) (P := bb_P) (ML := bb_ML) (HD := bb_HD) 12 1 12028 0 [some (.ref 31), some (.int v1), some (.ref 30), none] [] σ
set_option maxRecDepth 100000 in
set_option maxHeartbeats 1000000 in
theorem e_lw_nearest_13 (σ : en_S) : x_lw_nearest_13 σ =
    some (.inl (some (.int 1)), σ) := en_ex_un (G := bb_G) (P := bb_P) (ML := bb_ML) (HD := bb_HD) 4 0 12028 13 [none, none, none, none] [] σ
set_option maxRecDepth 100000 in
set_option maxHeartbeats 1000000 in
theorem e_lw_ahead_0 (σ : en_S) (v1 : Int32) (v2 : Int32) : x_lw_ahead_0 σ v1 v2 =
    en_cI (x_b_ahead_0 σ v1 v2) (fun r2 σ1 =>
      some (.inl (some (.int 0)), (σ1.1, en_u2 σ1.2 30 0 r2.toInt64))) (fun e σ => en_hx 1 (bb_hq (15, 4, 99999, 0) e) (fun t j => bb_x 0 12029 t (en_set [some (.ref 31), some (.int v1), some (.int v2), some (.ref 30), none] j none) [] σ) e σ) := en_ex_un (G := bb_G) (P := bb_P) (ML := bb_ML) (HD := bb_HD) 13 1 12029 0 [some (.ref 31), some (.int v1), some (.int v2), some (.ref 30), none] [] σ
set_option maxRecDepth 100000 in
set_option maxHeartbeats 1000000 in
theorem e_lw_ahead_15 (σ : en_S) : x_lw_ahead_15 σ =
    some (.inl (some (.int 1)), σ) := en_ex_un (G := bb_G) (P := bb_P) (ML := bb_ML) (HD := bb_HD) 4 0 12029 15 [none, none, none, none, none] [] σ
set_option maxRecDepth 100000 in
set_option maxHeartbeats 1000000 in
theorem e_lw_alone_0 (σ : en_S) (v1 : Int32) : x_lw_alone_0 σ v1 =
    en_cI (x_b_alone_0 σ v1) (fun r2 σ1 =>
      some (.inl (some (.int 0)), (σ1.1, en_u2 σ1.2 30 0 r2.toInt64))) (fun e σ => en_hx 1 (bb_hq (13, 3, 99999, 0) e) (fun t j => bb_x 0 12030 t (en_set [some (.ref 31), some (.int v1), some (.ref 30), none] j none) [] σ) e σ) := en_ex_un (G := bb_G) (P := bb_P) (ML := bb_ML) (HD := bb_HD) 12 1 12030 0 [some (.ref 31), some (.int v1), some (.ref 30), none] [] σ
set_option maxRecDepth 100000 in
set_option maxHeartbeats 1000000 in
theorem e_lw_alone_13 (σ : en_S) : x_lw_alone_13 σ =
    some (.inl (some (.int 1)), σ) := en_ex_un (G := bb_G) (P := bb_P) (ML := bb_ML) (HD := bb_HD) 4 0 12030 13 [none, none, none, none] [] σ
set_option maxRecDepth 100000 in
set_option maxHeartbeats 1000000 in
theorem e_lw_weariest_0 (σ : en_S) (v1 : Int32) : x_lw_weariest_0 σ v1 =
    en_cI (x_b_weariest_0 σ v1) (fun r2 σ1 =>
      some (.inl (some (.int 0)), (σ1.1, en_u2 σ1.2 30 0 r2.toInt64))) (fun e σ => en_hx 1 (bb_hq (99999, 0, 13, 3) e) (fun t j => bb_x 0 12031 t (en_set [some (.ref 31), some (.int v1), some (.ref 30), none] j none) [] σ) e σ) := en_ex_un (G := bb_G) (P := bb_P) (ML := bb_ML) (HD := bb_HD) 12 1 12031 0 [some (.ref 31), some (.int v1), some (.ref 30), none] [] σ
set_option maxRecDepth 100000 in
set_option maxHeartbeats 1000000 in
theorem e_lw_weariest_13 (σ : en_S) : x_lw_weariest_13 σ =
    some (.inl (some (.int 1)), σ) := en_ex_un (G := bb_G) (P := bb_P) (ML := bb_ML) (HD := bb_HD) 4 0 12031 13 [none, none, none, none] [] σ
set_option maxRecDepth 100000 in
set_option maxHeartbeats 1000000 in
theorem e_lw_onRoutes_0 (σ : en_S) (v1 : Int32) : x_lw_onRoutes_0 σ v1 =
    en_cI (x_b_onRoutes_0 σ v1) (fun r2 σ1 =>
      some (.inl (some (.int 0)), (σ1.1, en_u2 σ1.2 30 0 r2.toInt64))) (fun e σ => en_hx 1 (bb_hq (13, 3, 99999, 0) e) (fun t j => bb_x 0 12032 t (en_set [some (.ref 31), some (.int v1), some (.ref 30), none] j none) [] σ) e σ) := en_ex_un (G := bb_G) (P := bb_P) (ML := bb_ML) (HD := bb_HD) 12 1 12032 0 [some (.ref 31), some (.int v1), some (.ref 30), none] [] σ
set_option maxRecDepth 100000 in
set_option maxHeartbeats 1000000 in
theorem e_lw_onRoutes_13 (σ : en_S) : x_lw_onRoutes_13 σ =
    some (.inl (some (.int 1)), σ) := en_ex_un (G := bb_G) (P := bb_P) (ML := bb_ML) (HD := bb_HD) 4 0 12032 13 [none, none, none, none] [] σ
set_option maxRecDepth 100000 in
set_option maxHeartbeats 1000000 in
theorem e_lw_reach_0 (σ : en_S) (v1 : Int32) : x_lw_reach_0 σ v1 =
    en_cI (x_b_reach_0 σ v1) (fun r2 σ1 =>
      some (.inl (some (.int 0)), (σ1.1, en_u2 σ1.2 30 0 r2.toInt64))) (fun e σ => en_hx 1 (bb_hq (13, 3, 99999, 0) e) (fun t j => bb_x 0 12033 t (en_set [some (.ref 31), some (.int v1), some (.ref 30), none] j none) [] σ) e σ) := en_ex_un (G := bb_G) (P := bb_P) (ML := bb_ML) (HD := bb_HD) 12 1 12033 0 [some (.ref 31), some (.int v1), some (.ref 30), none] [] σ
set_option maxRecDepth 100000 in
set_option maxHeartbeats 1000000 in
theorem e_lw_reach_13 (σ : en_S) : x_lw_reach_13 σ =
    some (.inl (some (.int 1)), σ) := en_ex_un (G := bb_G) (P := bb_P) (ML := bb_ML) (HD := bb_HD) 4 0 12033 13 [none, none, none, none] [] σ
set_option maxRecDepth 100000 in
set_option maxHeartbeats 1000000 in
theorem e_lw_total_0 (σ : en_S) (v1 : Int32) : x_lw_total_0 σ v1 =
    en_cI (x_b_total_0 σ v1) (fun r2 σ1 =>
      some (.inl (some (.int 0)), (σ1.1, en_u2 σ1.2 30 0 r2.toInt64))) (fun e σ => en_hx 1 (bb_hq (99999, 0, 13, 3) e) (fun t j => bb_x 0 12034 t (en_set [some (.ref 31), some (.int v1), some (.ref 30), none] j none) [] σ) e σ) := en_ex_un (G := bb_G) (P := bb_P) (ML := bb_ML) (HD := bb_HD) 12 1 12034 0 [some (.ref 31), some (.int v1), some (.ref 30), none] [] σ
set_option maxRecDepth 100000 in
set_option maxHeartbeats 1000000 in
theorem e_lw_total_13 (σ : en_S) : x_lw_total_13 σ =
    some (.inl (some (.int 1)), σ) := en_ex_un (G := bb_G) (P := bb_P) (ML := bb_ML) (HD := bb_HD) 4 0 12034 13 [none, none, none, none] [] σ
