set_option maxRecDepth 20000 in
theorem jge_1 : jget 1 = jm_1 := rfl
set_option maxRecDepth 20000 in
theorem jcw_1 : jCW 1 := jcw_of (i := 102) jge_1 rfl ((jtk_1 (j := 22) (by decide)).trans (show tables_1_1[22]? = some (.code jm_1.1 jm_1.2.1 jm_1.2.2.1 jm_1.2.2.2.1) from rfl))
set_option maxRecDepth 20000 in
theorem jge_2 : jget 2 = jm_2 := rfl
set_option maxRecDepth 20000 in
theorem jcw_2 : jCW 2 := jcw_of (i := 110) jge_2 rfl ((jtk_1 (j := 30) (by decide)).trans (show tables_1_1[30]? = some (.code jm_2.1 jm_2.2.1 jm_2.2.2.1 jm_2.2.2.2.1) from rfl))
set_option maxRecDepth 20000 in
theorem jge_3 : jget 3 = jm_3 := rfl
set_option maxRecDepth 20000 in
theorem jcw_3 : jCW 3 := jcw_of (i := 116) jge_3 rfl ((jtk_1 (j := 36) (by decide)).trans (show tables_1_1[36]? = some (.code jm_3.1 jm_3.2.1 jm_3.2.2.1 jm_3.2.2.2.1) from rfl))
set_option maxRecDepth 20000 in
theorem jge_4 : jget 4 = jm_4 := rfl
set_option maxRecDepth 20000 in
theorem jcw_4 : jCW 4 := jcw_of (i := 132) jge_4 rfl ((jtk_1 (j := 52) (by decide)).trans (show tables_1_1[52]? = some (.code jm_4.1 jm_4.2.1 jm_4.2.2.1 jm_4.2.2.2.1) from rfl))
set_option maxRecDepth 20000 in
theorem jge_5 : jget 5 = jm_5 := rfl
set_option maxRecDepth 20000 in
theorem jcw_5 : jCW 5 := jcw_of (i := 136) jge_5 rfl ((jtk_1 (j := 56) (by decide)).trans (show tables_1_1[56]? = some (.code jm_5.1 jm_5.2.1 jm_5.2.2.1 jm_5.2.2.2.1) from rfl))
set_option maxRecDepth 20000 in
theorem jge_6 : jget 6 = jm_6 := rfl
set_option maxRecDepth 20000 in
theorem jcw_6 : jCW 6 := jcw_of (i := 139) jge_6 rfl ((jtk_1 (j := 59) (by decide)).trans (show tables_1_1[59]? = some (.code jm_6.1 jm_6.2.1 jm_6.2.2.1 jm_6.2.2.2.1) from rfl))
set_option maxRecDepth 20000 in
theorem jge_7 : jget 7 = jm_7 := rfl
set_option maxRecDepth 20000 in
theorem jcw_7 : jCW 7 := jcw_of (i := 184) jge_7 rfl ((jtk_1 (j := 104) (by decide)).trans (show tables_1_1[104]? = some (.code jm_7.1 jm_7.2.1 jm_7.2.2.1 jm_7.2.2.2.1) from rfl))
set_option maxRecDepth 20000 in
theorem jge_8 : jget 8 = jm_8 := rfl
set_option maxRecDepth 20000 in
theorem jcw_8 : jCW 8 := jcw_of (i := 194) jge_8 rfl ((jtk_1 (j := 114) (by decide)).trans (show tables_1_1[114]? = some (.code jm_8.1 jm_8.2.1 jm_8.2.2.1 jm_8.2.2.2.1) from rfl))
set_option maxRecDepth 20000 in
theorem jge_9 : jget 9 = jm_9 := rfl
set_option maxRecDepth 20000 in
theorem jcw_9 : jCW 9 := jcw_of (i := 202) jge_9 rfl ((jtk_1 (j := 122) (by decide)).trans (show tables_1_1[122]? = some (.code jm_9.1 jm_9.2.1 jm_9.2.2.1 jm_9.2.2.2.1) from rfl))
set_option maxRecDepth 20000 in
theorem jge_10 : jget 10 = jm_10 := rfl
set_option maxRecDepth 20000 in
theorem jcw_10 : jCW 10 := jcw_of (i := 227) jge_10 rfl ((jtk_1 (j := 147) (by decide)).trans (show tables_1_1[147]? = some (.code jm_10.1 jm_10.2.1 jm_10.2.2.1 jm_10.2.2.2.1) from rfl))
set_option maxRecDepth 20000 in
theorem jge_11 : jget 11 = jm_11 := rfl
set_option maxRecDepth 20000 in
theorem jcw_11 : jCW 11 := jcw_of (i := 260) jge_11 rfl ((jtk_1 (j := 180) (by decide)).trans (show tables_1_1[180]? = some (.code jm_11.1 jm_11.2.1 jm_11.2.2.1 jm_11.2.2.2.1) from rfl))
set_option maxRecDepth 20000 in
theorem jge_12 : jget 12 = jm_12 := rfl
set_option maxRecDepth 20000 in
theorem jcw_12 : jCW 12 := jcw_of (i := 320) jge_12 rfl ((jtk_2 (j := 0) (by decide)).trans (show tables_1_2[0]? = some (.code jm_12.1 jm_12.2.1 jm_12.2.2.1 jm_12.2.2.2.1) from rfl))
set_option maxRecDepth 20000 in
theorem jge_13 : jget 13 = jm_13 := rfl
set_option maxRecDepth 20000 in
theorem jcw_13 : jCW 13 := jcw_of (i := 324) jge_13 rfl ((jtk_2 (j := 4) (by decide)).trans (show tables_1_2[4]? = some (.code jm_13.1 jm_13.2.1 jm_13.2.2.1 jm_13.2.2.2.1) from rfl))
set_option maxRecDepth 20000 in
theorem jge_14 : jget 14 = jm_14 := rfl
set_option maxRecDepth 20000 in
theorem jcw_14 : jCW 14 := jcw_of (i := 328) jge_14 rfl ((jtk_2 (j := 8) (by decide)).trans (show tables_1_2[8]? = some (.code jm_14.1 jm_14.2.1 jm_14.2.2.1 jm_14.2.2.2.1) from rfl))
set_option maxRecDepth 20000 in
theorem jge_15 : jget 15 = jm_15 := rfl
set_option maxRecDepth 20000 in
theorem jcw_15 : jCW 15 := jcw_of (i := 332) jge_15 rfl ((jtk_2 (j := 12) (by decide)).trans (show tables_1_2[12]? = some (.code jm_15.1 jm_15.2.1 jm_15.2.2.1 jm_15.2.2.2.1) from rfl))
set_option maxRecDepth 20000 in
theorem jge_16 : jget 16 = jm_16 := rfl
set_option maxRecDepth 20000 in
theorem jcw_16 : jCW 16 := jcw_of (i := 336) jge_16 rfl ((jtk_2 (j := 16) (by decide)).trans (show tables_1_2[16]? = some (.code jm_16.1 jm_16.2.1 jm_16.2.2.1 jm_16.2.2.2.1) from rfl))
set_option maxRecDepth 20000 in
theorem jge_17 : jget 17 = jm_17 := rfl
set_option maxRecDepth 20000 in
theorem jcw_17 : jCW 17 := jcw_of (i := 340) jge_17 rfl ((jtk_2 (j := 20) (by decide)).trans (show tables_1_2[20]? = some (.code jm_17.1 jm_17.2.1 jm_17.2.2.1 jm_17.2.2.2.1) from rfl))
set_option maxRecDepth 20000 in
theorem jge_18 : jget 18 = jm_18 := rfl
set_option maxRecDepth 20000 in
theorem jcw_18 : jCW 18 := jcw_of (i := 344) jge_18 rfl ((jtk_2 (j := 24) (by decide)).trans (show tables_1_2[24]? = some (.code jm_18.1 jm_18.2.1 jm_18.2.2.1 jm_18.2.2.2.1) from rfl))
set_option maxRecDepth 20000 in
theorem jge_19 : jget 19 = jm_19 := rfl
set_option maxRecDepth 20000 in
theorem jcw_19 : jCW 19 := jcw_of (i := 348) jge_19 rfl ((jtk_2 (j := 28) (by decide)).trans (show tables_1_2[28]? = some (.code jm_19.1 jm_19.2.1 jm_19.2.2.1 jm_19.2.2.2.1) from rfl))
set_option maxRecDepth 20000 in
theorem jge_20 : jget 20 = jm_20 := rfl
set_option maxRecDepth 20000 in
theorem jcw_20 : jCW 20 := jcw_of (i := 423) jge_20 rfl ((jtk_2 (j := 103) (by decide)).trans (show tables_1_2[103]? = some (.code jm_20.1 jm_20.2.1 jm_20.2.2.1 jm_20.2.2.2.1) from rfl))
set_option maxRecDepth 20000 in
theorem jge_21 : jget 21 = jm_21 := rfl
set_option maxRecDepth 20000 in
theorem jcw_21 : jCW 21 := jcw_of (i := 427) jge_21 rfl ((jtk_2 (j := 107) (by decide)).trans (show tables_1_2[107]? = some (.code jm_21.1 jm_21.2.1 jm_21.2.2.1 jm_21.2.2.2.1) from rfl))
set_option maxRecDepth 20000 in
theorem jge_22 : jget 22 = jm_22 := rfl
set_option maxRecDepth 20000 in
theorem jcw_22 : jCW 22 := jcw_of (i := 431) jge_22 rfl ((jtk_2 (j := 111) (by decide)).trans (show tables_1_2[111]? = some (.code jm_22.1 jm_22.2.1 jm_22.2.2.1 jm_22.2.2.2.1) from rfl))
set_option maxRecDepth 20000 in
theorem jge_23 : jget 23 = jm_23 := rfl
set_option maxRecDepth 20000 in
theorem jcw_23 : jCW 23 := jcw_of (i := 435) jge_23 rfl ((jtk_2 (j := 115) (by decide)).trans (show tables_1_2[115]? = some (.code jm_23.1 jm_23.2.1 jm_23.2.2.1 jm_23.2.2.2.1) from rfl))
set_option maxRecDepth 20000 in
theorem jge_24 : jget 24 = jm_24 := rfl
set_option maxRecDepth 20000 in
theorem jcw_24 : jCW 24 := jcw_of (i := 439) jge_24 rfl ((jtk_2 (j := 119) (by decide)).trans (show tables_1_2[119]? = some (.code jm_24.1 jm_24.2.1 jm_24.2.2.1 jm_24.2.2.2.1) from rfl))
set_option maxRecDepth 20000 in
theorem jge_25 : jget 25 = jm_25 := rfl
set_option maxRecDepth 20000 in
theorem jcw_25 : jCW 25 := jcw_of (i := 443) jge_25 rfl ((jtk_2 (j := 123) (by decide)).trans (show tables_1_2[123]? = some (.code jm_25.1 jm_25.2.1 jm_25.2.2.1 jm_25.2.2.2.1) from rfl))
set_option maxRecDepth 20000 in
theorem jge_26 : jget 26 = jm_26 := rfl
set_option maxRecDepth 20000 in
theorem jcw_26 : jCW 26 := jcw_of (i := 447) jge_26 rfl ((jtk_2 (j := 127) (by decide)).trans (show tables_1_2[127]? = some (.code jm_26.1 jm_26.2.1 jm_26.2.2.1 jm_26.2.2.2.1) from rfl))
set_option maxRecDepth 20000 in
theorem jge_27 : jget 27 = jm_27 := rfl
set_option maxRecDepth 20000 in
theorem jcw_27 : jCW 27 := jcw_of (i := 451) jge_27 rfl ((jtk_2 (j := 131) (by decide)).trans (show tables_1_2[131]? = some (.code jm_27.1 jm_27.2.1 jm_27.2.2.1 jm_27.2.2.2.1) from rfl))
set_option maxRecDepth 20000 in
theorem jge_28 : jget 28 = jm_28 := rfl
set_option maxRecDepth 20000 in
theorem jcw_28 : jCW 28 := jcw_of (i := 455) jge_28 rfl ((jtk_2 (j := 135) (by decide)).trans (show tables_1_2[135]? = some (.code jm_28.1 jm_28.2.1 jm_28.2.2.1 jm_28.2.2.2.1) from rfl))
set_option maxRecDepth 20000 in
theorem jge_29 : jget 29 = jm_29 := rfl
set_option maxRecDepth 20000 in
theorem jcw_29 : jCW 29 := jcw_of (i := 458) jge_29 rfl ((jtk_2 (j := 138) (by decide)).trans (show tables_1_2[138]? = some (.code jm_29.1 jm_29.2.1 jm_29.2.2.1 jm_29.2.2.2.1) from rfl))
set_option maxRecDepth 20000 in
theorem jge_30 : jget 30 = jm_30 := rfl
set_option maxRecDepth 20000 in
theorem jcw_30 : jCW 30 := jcw_of (i := 462) jge_30 rfl ((jtk_2 (j := 142) (by decide)).trans (show tables_1_2[142]? = some (.code jm_30.1 jm_30.2.1 jm_30.2.2.1 jm_30.2.2.2.1) from rfl))
set_option maxRecDepth 20000 in
theorem jge_31 : jget 31 = jm_31 := rfl
set_option maxRecDepth 20000 in
theorem jcw_31 : jCW 31 := jcw_of (i := 465) jge_31 rfl ((jtk_2 (j := 145) (by decide)).trans (show tables_1_2[145]? = some (.code jm_31.1 jm_31.2.1 jm_31.2.2.1 jm_31.2.2.2.1) from rfl))
set_option maxRecDepth 20000 in
theorem jge_32 : jget 32 = jm_32 := rfl
set_option maxRecDepth 20000 in
theorem jcw_32 : jCW 32 := jcw_of (i := 510) jge_32 rfl ((jtk_2 (j := 190) (by decide)).trans (show tables_1_2[190]? = some (.code jm_32.1 jm_32.2.1 jm_32.2.2.1 jm_32.2.2.2.1) from rfl))
set_option maxRecDepth 20000 in
theorem jge_33 : jget 33 = jm_33 := rfl
set_option maxRecDepth 20000 in
theorem jcw_33 : jCW 33 := jcw_of (i := 514) jge_33 rfl ((jtk_2 (j := 194) (by decide)).trans (show tables_1_2[194]? = some (.code jm_33.1 jm_33.2.1 jm_33.2.2.1 jm_33.2.2.2.1) from rfl))
set_option maxRecDepth 20000 in
theorem jge_34 : jget 34 = jm_34 := rfl
set_option maxRecDepth 20000 in
theorem jcw_34 : jCW 34 := jcw_of (i := 517) jge_34 rfl ((jtk_2 (j := 197) (by decide)).trans (show tables_1_2[197]? = some (.code jm_34.1 jm_34.2.1 jm_34.2.2.1 jm_34.2.2.2.1) from rfl))
set_option maxRecDepth 20000 in
theorem jge_35 : jget 35 = jm_35 := rfl
set_option maxRecDepth 20000 in
theorem jcw_35 : jCW 35 := jcw_of (i := 523) jge_35 rfl ((jtk_2 (j := 203) (by decide)).trans (show tables_1_2[203]? = some (.code jm_35.1 jm_35.2.1 jm_35.2.2.1 jm_35.2.2.2.1) from rfl))
set_option maxRecDepth 20000 in
theorem jge_36 : jget 36 = jm_36 := rfl
set_option maxRecDepth 20000 in
theorem jcw_36 : jCW 36 := jcw_of (i := 527) jge_36 rfl ((jtk_2 (j := 207) (by decide)).trans (show tables_1_2[207]? = some (.code jm_36.1 jm_36.2.1 jm_36.2.2.1 jm_36.2.2.2.1) from rfl))
set_option maxRecDepth 20000 in
theorem jge_37 : jget 37 = jm_37 := rfl
set_option maxRecDepth 20000 in
theorem jcw_37 : jCW 37 := jcw_of (i := 531) jge_37 rfl ((jtk_2 (j := 211) (by decide)).trans (show tables_1_2[211]? = some (.code jm_37.1 jm_37.2.1 jm_37.2.2.1 jm_37.2.2.2.1) from rfl))
set_option maxRecDepth 20000 in
theorem jge_38 : jget 38 = jm_38 := rfl
set_option maxRecDepth 20000 in
theorem jcw_38 : jCW 38 := jcw_of (i := 535) jge_38 rfl ((jtk_2 (j := 215) (by decide)).trans (show tables_1_2[215]? = some (.code jm_38.1 jm_38.2.1 jm_38.2.2.1 jm_38.2.2.2.1) from rfl))
set_option maxRecDepth 20000 in
theorem jge_39 : jget 39 = jm_39 := rfl
set_option maxRecDepth 20000 in
theorem jcw_39 : jCW 39 := jcw_of (i := 539) jge_39 rfl ((jtk_2 (j := 219) (by decide)).trans (show tables_1_2[219]? = some (.code jm_39.1 jm_39.2.1 jm_39.2.2.1 jm_39.2.2.2.1) from rfl))
set_option maxRecDepth 20000 in
theorem jge_40 : jget 40 = jm_40 := rfl
set_option maxRecDepth 20000 in
theorem jcw_40 : jCW 40 := jcw_of (i := 542) jge_40 rfl ((jtk_2 (j := 222) (by decide)).trans (show tables_1_2[222]? = some (.code jm_40.1 jm_40.2.1 jm_40.2.2.1 jm_40.2.2.2.1) from rfl))
set_option maxRecDepth 20000 in
theorem jge_41 : jget 41 = jm_41 := rfl
set_option maxRecDepth 20000 in
theorem jcw_41 : jCW 41 := jcw_of (i := 545) jge_41 rfl ((jtk_2 (j := 225) (by decide)).trans (show tables_1_2[225]? = some (.code jm_41.1 jm_41.2.1 jm_41.2.2.1 jm_41.2.2.2.1) from rfl))
set_option maxRecDepth 20000 in
theorem jge_42 : jget 42 = jm_42 := rfl
set_option maxRecDepth 20000 in
theorem jcw_42 : jCW 42 := jcw_of (i := 549) jge_42 rfl ((jtk_2 (j := 229) (by decide)).trans (show tables_1_2[229]? = some (.code jm_42.1 jm_42.2.1 jm_42.2.2.1 jm_42.2.2.2.1) from rfl))
set_option maxRecDepth 20000 in
theorem jge_43 : jget 43 = jm_43 := rfl
set_option maxRecDepth 20000 in
theorem jcw_43 : jCW 43 := jcw_of (i := 552) jge_43 rfl ((jtk_2 (j := 232) (by decide)).trans (show tables_1_2[232]? = some (.code jm_43.1 jm_43.2.1 jm_43.2.2.1 jm_43.2.2.2.1) from rfl))
set_option maxRecDepth 20000 in
theorem jge_44 : jget 44 = jm_44 := rfl
set_option maxRecDepth 20000 in
theorem jcw_44 : jCW 44 := jcw_of (i := 556) jge_44 rfl ((jtk_2 (j := 236) (by decide)).trans (show tables_1_2[236]? = some (.code jm_44.1 jm_44.2.1 jm_44.2.2.1 jm_44.2.2.2.1) from rfl))
set_option maxRecDepth 20000 in
theorem jge_45 : jget 45 = jm_45 := rfl
set_option maxRecDepth 20000 in
theorem jcw_45 : jCW 45 := jcw_of (i := 559) jge_45 rfl ((jtk_2 (j := 239) (by decide)).trans (show tables_1_2[239]? = some (.code jm_45.1 jm_45.2.1 jm_45.2.2.1 jm_45.2.2.2.1) from rfl))
set_option maxRecDepth 20000 in
theorem jge_46 : jget 46 = jm_46 := rfl
set_option maxRecDepth 20000 in
theorem jcw_46 : jCW 46 := jcw_of (i := 562) jge_46 rfl ((jtk_3 (j := 2) (by decide)).trans (show tables_1_3[2]? = some (.code jm_46.1 jm_46.2.1 jm_46.2.2.1 jm_46.2.2.2.1) from rfl))
set_option maxRecDepth 20000 in
theorem jge_47 : jget 47 = jm_47 := rfl
set_option maxRecDepth 20000 in
theorem jcw_47 : jCW 47 := jcw_of (i := 567) jge_47 rfl ((jtk_3 (j := 7) (by decide)).trans (show tables_1_3[7]? = some (.code jm_47.1 jm_47.2.1 jm_47.2.2.1 jm_47.2.2.2.1) from rfl))
set_option maxRecDepth 20000 in
theorem jge_48 : jget 48 = jm_48 := rfl
set_option maxRecDepth 20000 in
theorem jcw_48 : jCW 48 := jcw_of (i := 574) jge_48 rfl ((jtk_3 (j := 14) (by decide)).trans (show tables_1_3[14]? = some (.code jm_48.1 jm_48.2.1 jm_48.2.2.1 jm_48.2.2.2.1) from rfl))
set_option maxRecDepth 20000 in
theorem jge_49 : jget 49 = jm_49 := rfl
set_option maxRecDepth 20000 in
theorem jcw_49 : jCW 49 := jcw_of (i := 578) jge_49 rfl ((jtk_3 (j := 18) (by decide)).trans (show tables_1_3[18]? = some (.code jm_49.1 jm_49.2.1 jm_49.2.2.1 jm_49.2.2.2.1) from rfl))
set_option maxRecDepth 20000 in
theorem jge_50 : jget 50 = jm_50 := rfl
set_option maxRecDepth 20000 in
theorem jcw_50 : jCW 50 := jcw_of (i := 582) jge_50 rfl ((jtk_3 (j := 22) (by decide)).trans (show tables_1_3[22]? = some (.code jm_50.1 jm_50.2.1 jm_50.2.2.1 jm_50.2.2.2.1) from rfl))
set_option maxRecDepth 20000 in
theorem jge_51 : jget 51 = jm_51 := rfl
set_option maxRecDepth 20000 in
theorem jcw_51 : jCW 51 := jcw_of (i := 586) jge_51 rfl ((jtk_3 (j := 26) (by decide)).trans (show tables_1_3[26]? = some (.code jm_51.1 jm_51.2.1 jm_51.2.2.1 jm_51.2.2.2.1) from rfl))
set_option maxRecDepth 20000 in
theorem jge_52 : jget 52 = jm_52 := rfl
set_option maxRecDepth 20000 in
theorem jcw_52 : jCW 52 := jcw_of (i := 590) jge_52 rfl ((jtk_3 (j := 30) (by decide)).trans (show tables_1_3[30]? = some (.code jm_52.1 jm_52.2.1 jm_52.2.2.1 jm_52.2.2.2.1) from rfl))
set_option maxRecDepth 20000 in
theorem jge_53 : jget 53 = jm_53 := rfl
set_option maxRecDepth 20000 in
theorem jcw_53 : jCW 53 := jcw_of (i := 596) jge_53 rfl ((jtk_3 (j := 36) (by decide)).trans (show tables_1_3[36]? = some (.code jm_53.1 jm_53.2.1 jm_53.2.2.1 jm_53.2.2.2.1) from rfl))
set_option maxRecDepth 20000 in
theorem jge_54 : jget 54 = jm_54 := rfl
set_option maxRecDepth 20000 in
theorem jcw_54 : jCW 54 := jcw_of (i := 601) jge_54 rfl ((jtk_3 (j := 41) (by decide)).trans (show tables_1_3[41]? = some (.code jm_54.1 jm_54.2.1 jm_54.2.2.1 jm_54.2.2.2.1) from rfl))
set_option maxRecDepth 20000 in
theorem jge_55 : jget 55 = jm_55 := rfl
set_option maxRecDepth 20000 in
theorem jcw_55 : jCW 55 := jcw_of (i := 605) jge_55 rfl ((jtk_3 (j := 45) (by decide)).trans (show tables_1_3[45]? = some (.code jm_55.1 jm_55.2.1 jm_55.2.2.1 jm_55.2.2.2.1) from rfl))
set_option maxRecDepth 20000 in
theorem jge_56 : jget 56 = jm_56 := rfl
set_option maxRecDepth 20000 in
theorem jcw_56 : jCW 56 := jcw_of (i := 610) jge_56 rfl ((jtk_3 (j := 50) (by decide)).trans (show tables_1_3[50]? = some (.code jm_56.1 jm_56.2.1 jm_56.2.2.1 jm_56.2.2.2.1) from rfl))
set_option maxRecDepth 20000 in
theorem jge_57 : jget 57 = jm_57 := rfl
set_option maxRecDepth 20000 in
theorem jcw_57 : jCW 57 := jcw_of (i := 614) jge_57 rfl ((jtk_3 (j := 54) (by decide)).trans (show tables_1_3[54]? = some (.code jm_57.1 jm_57.2.1 jm_57.2.2.1 jm_57.2.2.2.1) from rfl))
set_option maxRecDepth 20000 in
theorem jge_58 : jget 58 = jm_58 := rfl
set_option maxRecDepth 20000 in
theorem jcw_58 : jCW 58 := jcw_of (i := 618) jge_58 rfl ((jtk_3 (j := 58) (by decide)).trans (show tables_1_3[58]? = some (.code jm_58.1 jm_58.2.1 jm_58.2.2.1 jm_58.2.2.2.1) from rfl))
set_option maxRecDepth 20000 in
theorem jge_59 : jget 59 = jm_59 := rfl
set_option maxRecDepth 20000 in
theorem jcw_59 : jCW 59 := jcw_of (i := 622) jge_59 rfl ((jtk_3 (j := 62) (by decide)).trans (show tables_1_3[62]? = some (.code jm_59.1 jm_59.2.1 jm_59.2.2.1 jm_59.2.2.2.1) from rfl))
set_option maxRecDepth 20000 in
theorem jge_60 : jget 60 = jm_60 := rfl
set_option maxRecDepth 20000 in
theorem jcw_60 : jCW 60 := jcw_of (i := 626) jge_60 rfl ((jtk_3 (j := 66) (by decide)).trans (show tables_1_3[66]? = some (.code jm_60.1 jm_60.2.1 jm_60.2.2.1 jm_60.2.2.2.1) from rfl))
set_option maxRecDepth 20000 in
theorem jge_61 : jget 61 = jm_61 := rfl
set_option maxRecDepth 20000 in
theorem jcw_61 : jCW 61 := jcw_of (i := 630) jge_61 rfl ((jtk_3 (j := 70) (by decide)).trans (show tables_1_3[70]? = some (.code jm_61.1 jm_61.2.1 jm_61.2.2.1 jm_61.2.2.2.1) from rfl))
set_option maxRecDepth 20000 in
theorem jge_62 : jget 62 = jm_62 := rfl
set_option maxRecDepth 20000 in
theorem jcw_62 : jCW 62 := jcw_of (i := 634) jge_62 rfl ((jtk_3 (j := 74) (by decide)).trans (show tables_1_3[74]? = some (.code jm_62.1 jm_62.2.1 jm_62.2.2.1 jm_62.2.2.2.1) from rfl))
set_option maxRecDepth 20000 in
theorem jge_63 : jget 63 = jm_63 := rfl
set_option maxRecDepth 20000 in
theorem jcw_63 : jCW 63 := jcw_of (i := 638) jge_63 rfl ((jtk_3 (j := 78) (by decide)).trans (show tables_1_3[78]? = some (.code jm_63.1 jm_63.2.1 jm_63.2.2.1 jm_63.2.2.2.1) from rfl))
set_option maxRecDepth 20000 in
theorem jge_64 : jget 64 = jm_64 := rfl
set_option maxRecDepth 20000 in
theorem jcw_64 : jCW 64 := jcw_of (i := 643) jge_64 rfl ((jtk_3 (j := 83) (by decide)).trans (show tables_1_3[83]? = some (.code jm_64.1 jm_64.2.1 jm_64.2.2.1 jm_64.2.2.2.1) from rfl))
set_option maxRecDepth 20000 in
theorem jge_65 : jget 65 = jm_65 := rfl
set_option maxRecDepth 20000 in
theorem jcw_65 : jCW 65 := jcw_of (i := 648) jge_65 rfl ((jtk_3 (j := 88) (by decide)).trans (show tables_1_3[88]? = some (.code jm_65.1 jm_65.2.1 jm_65.2.2.1 jm_65.2.2.2.1) from rfl))
set_option maxRecDepth 20000 in
theorem jge_66 : jget 66 = jm_66 := rfl
set_option maxRecDepth 20000 in
theorem jcw_66 : jCW 66 := jcw_of (i := 652) jge_66 rfl ((jtk_3 (j := 92) (by decide)).trans (show tables_1_3[92]? = some (.code jm_66.1 jm_66.2.1 jm_66.2.2.1 jm_66.2.2.2.1) from rfl))
set_option maxRecDepth 20000 in
theorem jge_67 : jget 67 = jm_67 := rfl
set_option maxRecDepth 20000 in
theorem jcw_67 : jCW 67 := jcw_of (i := 655) jge_67 rfl ((jtk_3 (j := 95) (by decide)).trans (show tables_1_3[95]? = some (.code jm_67.1 jm_67.2.1 jm_67.2.2.1 jm_67.2.2.2.1) from rfl))
set_option maxRecDepth 20000 in
theorem jge_68 : jget 68 = jm_68 := rfl
set_option maxRecDepth 20000 in
theorem jcw_68 : jCW 68 := jcw_of (i := 660) jge_68 rfl ((jtk_3 (j := 100) (by decide)).trans (show tables_1_3[100]? = some (.code jm_68.1 jm_68.2.1 jm_68.2.2.1 jm_68.2.2.2.1) from rfl))
set_option maxRecDepth 20000 in
theorem jge_69 : jget 69 = jm_69 := rfl
set_option maxRecDepth 20000 in
theorem jcw_69 : jCW 69 := jcw_of (i := 664) jge_69 rfl ((jtk_3 (j := 104) (by decide)).trans (show tables_1_3[104]? = some (.code jm_69.1 jm_69.2.1 jm_69.2.2.1 jm_69.2.2.2.1) from rfl))
set_option maxRecDepth 20000 in
theorem jge_70 : jget 70 = jm_70 := rfl
set_option maxRecDepth 20000 in
theorem jcw_70 : jCW 70 := jcw_of (i := 669) jge_70 rfl ((jtk_3 (j := 109) (by decide)).trans (show tables_1_3[109]? = some (.code jm_70.1 jm_70.2.1 jm_70.2.2.1 jm_70.2.2.2.1) from rfl))
set_option maxRecDepth 20000 in
theorem jge_71 : jget 71 = jm_71 := rfl
set_option maxRecDepth 20000 in
theorem jcw_71 : jCW 71 := jcw_of (i := 672) jge_71 rfl ((jtk_3 (j := 112) (by decide)).trans (show tables_1_3[112]? = some (.code jm_71.1 jm_71.2.1 jm_71.2.2.1 jm_71.2.2.2.1) from rfl))
set_option maxRecDepth 20000 in
theorem jge_72 : jget 72 = jm_72 := rfl
set_option maxRecDepth 20000 in
theorem jcw_72 : jCW 72 := jcw_of (i := 677) jge_72 rfl ((jtk_3 (j := 117) (by decide)).trans (show tables_1_3[117]? = some (.code jm_72.1 jm_72.2.1 jm_72.2.2.1 jm_72.2.2.2.1) from rfl))
set_option maxRecDepth 20000 in
theorem jge_73 : jget 73 = jm_73 := rfl
set_option maxRecDepth 20000 in
theorem jcw_73 : jCW 73 := jcw_of (i := 682) jge_73 rfl ((jtk_3 (j := 122) (by decide)).trans (show tables_1_3[122]? = some (.code jm_73.1 jm_73.2.1 jm_73.2.2.1 jm_73.2.2.2.1) from rfl))
set_option maxRecDepth 20000 in
theorem jge_74 : jget 74 = jm_74 := rfl
set_option maxRecDepth 20000 in
theorem jcw_74 : jCW 74 := jcw_of (i := 686) jge_74 rfl ((jtk_3 (j := 126) (by decide)).trans (show tables_1_3[126]? = some (.code jm_74.1 jm_74.2.1 jm_74.2.2.1 jm_74.2.2.2.1) from rfl))
set_option maxRecDepth 20000 in
theorem jge_75 : jget 75 = jm_75 := rfl
set_option maxRecDepth 20000 in
theorem jcw_75 : jCW 75 := jcw_of (i := 689) jge_75 rfl ((jtk_3 (j := 129) (by decide)).trans (show tables_1_3[129]? = some (.code jm_75.1 jm_75.2.1 jm_75.2.2.1 jm_75.2.2.2.1) from rfl))
set_option maxRecDepth 20000 in
theorem jge_76 : jget 76 = jm_76 := rfl
set_option maxRecDepth 20000 in
theorem jcw_76 : jCW 76 := jcw_of (i := 695) jge_76 rfl ((jtk_3 (j := 135) (by decide)).trans (show tables_1_3[135]? = some (.code jm_76.1 jm_76.2.1 jm_76.2.2.1 jm_76.2.2.2.1) from rfl))
set_option maxRecDepth 20000 in
theorem jge_77 : jget 77 = jm_77 := rfl
set_option maxRecDepth 20000 in
theorem jcw_77 : jCW 77 := jcw_of (i := 699) jge_77 rfl ((jtk_3 (j := 139) (by decide)).trans (show tables_1_3[139]? = some (.code jm_77.1 jm_77.2.1 jm_77.2.2.1 jm_77.2.2.2.1) from rfl))
set_option maxRecDepth 20000 in
theorem jge_78 : jget 78 = jm_78 := rfl
set_option maxRecDepth 20000 in
theorem jcw_78 : jCW 78 := jcw_of (i := 703) jge_78 rfl ((jtk_3 (j := 143) (by decide)).trans (show tables_1_3[143]? = some (.code jm_78.1 jm_78.2.1 jm_78.2.2.1 jm_78.2.2.2.1) from rfl))
set_option maxRecDepth 20000 in
theorem jge_79 : jget 79 = jm_79 := rfl
set_option maxRecDepth 20000 in
theorem jcw_79 : jCW 79 := jcw_of (i := 707) jge_79 rfl ((jtk_3 (j := 147) (by decide)).trans (show tables_1_3[147]? = some (.code jm_79.1 jm_79.2.1 jm_79.2.2.1 jm_79.2.2.2.1) from rfl))
set_option maxRecDepth 20000 in
theorem jge_80 : jget 80 = jm_80 := rfl
set_option maxRecDepth 20000 in
theorem jcw_80 : jCW 80 := jcw_of (i := 711) jge_80 rfl ((jtk_3 (j := 151) (by decide)).trans (show tables_1_3[151]? = some (.code jm_80.1 jm_80.2.1 jm_80.2.2.1 jm_80.2.2.2.1) from rfl))
set_option maxRecDepth 20000 in
theorem jge_81 : jget 81 = jm_81 := rfl
set_option maxRecDepth 20000 in
theorem jcw_81 : jCW 81 := jcw_of (i := 715) jge_81 rfl ((jtk_3 (j := 155) (by decide)).trans (show tables_1_3[155]? = some (.code jm_81.1 jm_81.2.1 jm_81.2.2.1 jm_81.2.2.2.1) from rfl))
set_option maxRecDepth 20000 in
theorem jge_82 : jget 82 = jm_82 := rfl
set_option maxRecDepth 20000 in
theorem jcw_82 : jCW 82 := jcw_of (i := 718) jge_82 rfl ((jtk_3 (j := 158) (by decide)).trans (show tables_1_3[158]? = some (.code jm_82.1 jm_82.2.1 jm_82.2.2.1 jm_82.2.2.2.1) from rfl))
set_option maxRecDepth 20000 in
theorem jge_83 : jget 83 = jm_83 := rfl
set_option maxRecDepth 20000 in
theorem jcw_83 : jCW 83 := jcw_of (i := 722) jge_83 rfl ((jtk_3 (j := 162) (by decide)).trans (show tables_1_3[162]? = some (.code jm_83.1 jm_83.2.1 jm_83.2.2.1 jm_83.2.2.2.1) from rfl))
set_option maxRecDepth 20000 in
theorem jge_84 : jget 84 = jm_84 := rfl
set_option maxRecDepth 20000 in
theorem jcw_84 : jCW 84 := jcw_of (i := 727) jge_84 rfl ((jtk_3 (j := 167) (by decide)).trans (show tables_1_3[167]? = some (.code jm_84.1 jm_84.2.1 jm_84.2.2.1 jm_84.2.2.2.1) from rfl))
set_option maxRecDepth 20000 in
theorem jge_85 : jget 85 = jm_85 := rfl
set_option maxRecDepth 20000 in
theorem jcw_85 : jCW 85 := jcw_of (i := 731) jge_85 rfl ((jtk_3 (j := 171) (by decide)).trans (show tables_1_3[171]? = some (.code jm_85.1 jm_85.2.1 jm_85.2.2.1 jm_85.2.2.2.1) from rfl))
set_option maxRecDepth 20000 in
theorem jge_86 : jget 86 = jm_86 := rfl
set_option maxRecDepth 20000 in
theorem jcw_86 : jCW 86 := jcw_of (i := 735) jge_86 rfl ((jtk_3 (j := 175) (by decide)).trans (show tables_1_3[175]? = some (.code jm_86.1 jm_86.2.1 jm_86.2.2.1 jm_86.2.2.2.1) from rfl))
set_option maxRecDepth 20000 in
theorem jge_87 : jget 87 = jm_87 := rfl
set_option maxRecDepth 20000 in
theorem jcw_87 : jCW 87 := jcw_of (i := 741) jge_87 rfl ((jtk_3 (j := 181) (by decide)).trans (show tables_1_3[181]? = some (.code jm_87.1 jm_87.2.1 jm_87.2.2.1 jm_87.2.2.2.1) from rfl))
set_option maxRecDepth 20000 in
theorem jge_88 : jget 88 = jm_88 := rfl
set_option maxRecDepth 20000 in
theorem jcw_88 : jCW 88 := jcw_of (i := 746) jge_88 rfl ((jtk_3 (j := 186) (by decide)).trans (show tables_1_3[186]? = some (.code jm_88.1 jm_88.2.1 jm_88.2.2.1 jm_88.2.2.2.1) from rfl))
set_option maxRecDepth 20000 in
theorem jge_89 : jget 89 = jm_89 := rfl
set_option maxRecDepth 20000 in
theorem jcw_89 : jCW 89 := jcw_of (i := 750) jge_89 rfl ((jtk_3 (j := 190) (by decide)).trans (show tables_1_3[190]? = some (.code jm_89.1 jm_89.2.1 jm_89.2.2.1 jm_89.2.2.2.1) from rfl))
set_option maxRecDepth 20000 in
theorem jge_90 : jget 90 = jm_90 := rfl
set_option maxRecDepth 20000 in
theorem jcw_90 : jCW 90 := jcw_of (i := 753) jge_90 rfl ((jtk_3 (j := 193) (by decide)).trans (show tables_1_3[193]? = some (.code jm_90.1 jm_90.2.1 jm_90.2.2.1 jm_90.2.2.2.1) from rfl))
set_option maxRecDepth 20000 in
theorem jge_91 : jget 91 = jm_91 := rfl
set_option maxRecDepth 20000 in
theorem jcw_91 : jCW 91 := jcw_of (i := 758) jge_91 rfl ((jtk_3 (j := 198) (by decide)).trans (show tables_1_3[198]? = some (.code jm_91.1 jm_91.2.1 jm_91.2.2.1 jm_91.2.2.2.1) from rfl))
set_option maxRecDepth 20000 in
theorem jge_92 : jget 92 = jm_92 := rfl
set_option maxRecDepth 20000 in
theorem jcw_92 : jCW 92 := jcw_of (i := 772) jge_92 rfl ((jtk_3 (j := 212) (by decide)).trans (show tables_1_3[212]? = some (.code jm_92.1 jm_92.2.1 jm_92.2.2.1 jm_92.2.2.2.1) from rfl))
set_option maxRecDepth 20000 in
theorem jge_93 : jget 93 = jm_93 := rfl
set_option maxRecDepth 20000 in
theorem jcw_93 : jCW 93 := jcw_of (i := 776) jge_93 rfl ((jtk_3 (j := 216) (by decide)).trans (show tables_1_3[216]? = some (.code jm_93.1 jm_93.2.1 jm_93.2.2.1 jm_93.2.2.2.1) from rfl))
set_option maxRecDepth 20000 in
theorem jge_94 : jget 94 = jm_94 := rfl
set_option maxRecDepth 20000 in
theorem jcw_94 : jCW 94 := jcw_of (i := 780) jge_94 rfl ((jtk_3 (j := 220) (by decide)).trans (show tables_1_3[220]? = some (.code jm_94.1 jm_94.2.1 jm_94.2.2.1 jm_94.2.2.2.1) from rfl))
set_option maxRecDepth 20000 in
theorem jge_95 : jget 95 = jm_95 := rfl
set_option maxRecDepth 20000 in
theorem jcw_95 : jCW 95 := jcw_of (i := 784) jge_95 rfl ((jtk_3 (j := 224) (by decide)).trans (show tables_1_3[224]? = some (.code jm_95.1 jm_95.2.1 jm_95.2.2.1 jm_95.2.2.2.1) from rfl))
set_option maxRecDepth 20000 in
theorem jge_96 : jget 96 = jm_96 := rfl
set_option maxRecDepth 20000 in
theorem jcw_96 : jCW 96 := jcw_of (i := 788) jge_96 rfl ((jtk_3 (j := 228) (by decide)).trans (show tables_1_3[228]? = some (.code jm_96.1 jm_96.2.1 jm_96.2.2.1 jm_96.2.2.2.1) from rfl))
set_option maxRecDepth 20000 in
theorem jge_97 : jget 97 = jm_97 := rfl
set_option maxRecDepth 20000 in
theorem jcw_97 : jCW 97 := jcw_of (i := 792) jge_97 rfl ((jtk_3 (j := 232) (by decide)).trans (show tables_1_3[232]? = some (.code jm_97.1 jm_97.2.1 jm_97.2.2.1 jm_97.2.2.2.1) from rfl))
set_option maxRecDepth 20000 in
theorem jge_98 : jget 98 = jm_98 := rfl
set_option maxRecDepth 20000 in
theorem jcw_98 : jCW 98 := jcw_of (i := 796) jge_98 rfl ((jtk_3 (j := 236) (by decide)).trans (show tables_1_3[236]? = some (.code jm_98.1 jm_98.2.1 jm_98.2.2.1 jm_98.2.2.2.1) from rfl))
set_option maxRecDepth 20000 in
theorem jge_99 : jget 99 = jm_99 := rfl
set_option maxRecDepth 20000 in
theorem jcw_99 : jCW 99 := jcw_of (i := 800) jge_99 rfl ((jtk_4 (j := 0) (by decide)).trans (show tables_1_4[0]? = some (.code jm_99.1 jm_99.2.1 jm_99.2.2.1 jm_99.2.2.2.1) from rfl))
set_option maxRecDepth 20000 in
theorem jge_100 : jget 100 = jm_100 := rfl
set_option maxRecDepth 20000 in
theorem jcw_100 : jCW 100 := jcw_of (i := 806) jge_100 rfl ((jtk_4 (j := 6) (by decide)).trans (show tables_1_4[6]? = some (.code jm_100.1 jm_100.2.1 jm_100.2.2.1 jm_100.2.2.2.1) from rfl))
set_option maxRecDepth 20000 in
theorem jge_101 : jget 101 = jm_101 := rfl
set_option maxRecDepth 20000 in
theorem jcw_101 : jCW 101 := jcw_of (i := 811) jge_101 rfl ((jtk_4 (j := 11) (by decide)).trans (show tables_1_4[11]? = some (.code jm_101.1 jm_101.2.1 jm_101.2.2.1 jm_101.2.2.2.1) from rfl))
set_option maxRecDepth 20000 in
theorem jge_102 : jget 102 = jm_102 := rfl
set_option maxRecDepth 20000 in
theorem jcw_102 : jCW 102 := jcw_of (i := 817) jge_102 rfl ((jtk_4 (j := 17) (by decide)).trans (show tables_1_4[17]? = some (.code jm_102.1 jm_102.2.1 jm_102.2.2.1 jm_102.2.2.2.1) from rfl))
set_option maxRecDepth 20000 in
theorem jge_103 : jget 103 = jm_103 := rfl
set_option maxRecDepth 20000 in
theorem jcw_103 : jCW 103 := jcw_of (i := 823) jge_103 rfl ((jtk_4 (j := 23) (by decide)).trans (show tables_1_4[23]? = some (.code jm_103.1 jm_103.2.1 jm_103.2.2.1 jm_103.2.2.2.1) from rfl))
set_option maxRecDepth 20000 in
theorem jge_104 : jget 104 = jm_104 := rfl
set_option maxRecDepth 20000 in
theorem jcw_104 : jCW 104 := jcw_of (i := 827) jge_104 rfl ((jtk_4 (j := 27) (by decide)).trans (show tables_1_4[27]? = some (.code jm_104.1 jm_104.2.1 jm_104.2.2.1 jm_104.2.2.2.1) from rfl))
set_option maxRecDepth 20000 in
theorem jge_105 : jget 105 = jm_105 := rfl
set_option maxRecDepth 20000 in
theorem jcw_105 : jCW 105 := jcw_of (i := 832) jge_105 rfl ((jtk_4 (j := 32) (by decide)).trans (show tables_1_4[32]? = some (.code jm_105.1 jm_105.2.1 jm_105.2.2.1 jm_105.2.2.2.1) from rfl))
set_option maxRecDepth 20000 in
theorem jge_106 : jget 106 = jm_106 := rfl
set_option maxRecDepth 20000 in
theorem jcw_106 : jCW 106 := jcw_of (i := 836) jge_106 rfl ((jtk_4 (j := 36) (by decide)).trans (show tables_1_4[36]? = some (.code jm_106.1 jm_106.2.1 jm_106.2.2.1 jm_106.2.2.2.1) from rfl))
set_option maxRecDepth 20000 in
theorem jge_107 : jget 107 = jm_107 := rfl
set_option maxRecDepth 20000 in
theorem jcw_107 : jCW 107 := jcw_of (i := 840) jge_107 rfl ((jtk_4 (j := 40) (by decide)).trans (show tables_1_4[40]? = some (.code jm_107.1 jm_107.2.1 jm_107.2.2.1 jm_107.2.2.2.1) from rfl))
set_option maxRecDepth 20000 in
theorem jge_108 : jget 108 = jm_108 := rfl
set_option maxRecDepth 20000 in
theorem jcw_108 : jCW 108 := jcw_of (i := 844) jge_108 rfl ((jtk_4 (j := 44) (by decide)).trans (show tables_1_4[44]? = some (.code jm_108.1 jm_108.2.1 jm_108.2.2.1 jm_108.2.2.2.1) from rfl))
set_option maxRecDepth 20000 in
theorem jge_109 : jget 109 = jm_109 := rfl
set_option maxRecDepth 20000 in
theorem jcw_109 : jCW 109 := jcw_of (i := 848) jge_109 rfl ((jtk_4 (j := 48) (by decide)).trans (show tables_1_4[48]? = some (.code jm_109.1 jm_109.2.1 jm_109.2.2.1 jm_109.2.2.2.1) from rfl))
set_option maxRecDepth 20000 in
theorem jge_110 : jget 110 = jm_110 := rfl
set_option maxRecDepth 20000 in
theorem jcw_110 : jCW 110 := jcw_of (i := 852) jge_110 rfl ((jtk_4 (j := 52) (by decide)).trans (show tables_1_4[52]? = some (.code jm_110.1 jm_110.2.1 jm_110.2.2.1 jm_110.2.2.2.1) from rfl))
set_option maxRecDepth 20000 in
theorem jge_111 : jget 111 = jm_111 := rfl
set_option maxRecDepth 20000 in
theorem jcw_111 : jCW 111 := jcw_of (i := 856) jge_111 rfl ((jtk_4 (j := 56) (by decide)).trans (show tables_1_4[56]? = some (.code jm_111.1 jm_111.2.1 jm_111.2.2.1 jm_111.2.2.2.1) from rfl))
set_option maxRecDepth 20000 in
theorem jge_112 : jget 112 = jm_112 := rfl
set_option maxRecDepth 20000 in
theorem jcw_112 : jCW 112 := jcw_of (i := 860) jge_112 rfl ((jtk_4 (j := 60) (by decide)).trans (show tables_1_4[60]? = some (.code jm_112.1 jm_112.2.1 jm_112.2.2.1 jm_112.2.2.2.1) from rfl))
set_option maxRecDepth 20000 in
theorem jge_113 : jget 113 = jm_113 := rfl
set_option maxRecDepth 20000 in
theorem jcw_113 : jCW 113 := jcw_of (i := 865) jge_113 rfl ((jtk_4 (j := 65) (by decide)).trans (show tables_1_4[65]? = some (.code jm_113.1 jm_113.2.1 jm_113.2.2.1 jm_113.2.2.2.1) from rfl))
set_option maxRecDepth 20000 in
theorem jge_114 : jget 114 = jm_114 := rfl
set_option maxRecDepth 20000 in
theorem jcw_114 : jCW 114 := jcw_of (i := 869) jge_114 rfl ((jtk_4 (j := 69) (by decide)).trans (show tables_1_4[69]? = some (.code jm_114.1 jm_114.2.1 jm_114.2.2.1 jm_114.2.2.2.1) from rfl))
set_option maxRecDepth 20000 in
theorem jge_115 : jget 115 = jm_115 := rfl
set_option maxRecDepth 20000 in
theorem jcw_115 : jCW 115 := jcw_of (i := 873) jge_115 rfl ((jtk_4 (j := 73) (by decide)).trans (show tables_1_4[73]? = some (.code jm_115.1 jm_115.2.1 jm_115.2.2.1 jm_115.2.2.2.1) from rfl))
set_option maxRecDepth 20000 in
theorem jge_116 : jget 116 = jm_116 := rfl
set_option maxRecDepth 20000 in
theorem jcw_116 : jCW 116 := jcw_of (i := 877) jge_116 rfl ((jtk_4 (j := 77) (by decide)).trans (show tables_1_4[77]? = some (.code jm_116.1 jm_116.2.1 jm_116.2.2.1 jm_116.2.2.2.1) from rfl))
set_option maxRecDepth 20000 in
theorem jge_117 : jget 117 = jm_117 := rfl
set_option maxRecDepth 20000 in
theorem jcw_117 : jCW 117 := jcw_of (i := 881) jge_117 rfl ((jtk_4 (j := 81) (by decide)).trans (show tables_1_4[81]? = some (.code jm_117.1 jm_117.2.1 jm_117.2.2.1 jm_117.2.2.2.1) from rfl))
set_option maxRecDepth 20000 in
theorem jge_118 : jget 118 = jm_118 := rfl
set_option maxRecDepth 20000 in
theorem jcw_118 : jCW 118 := jcw_of (i := 885) jge_118 rfl ((jtk_4 (j := 85) (by decide)).trans (show tables_1_4[85]? = some (.code jm_118.1 jm_118.2.1 jm_118.2.2.1 jm_118.2.2.2.1) from rfl))
set_option maxRecDepth 20000 in
theorem jge_119 : jget 119 = jm_119 := rfl
set_option maxRecDepth 20000 in
theorem jcw_119 : jCW 119 := jcw_of (i := 889) jge_119 rfl ((jtk_4 (j := 89) (by decide)).trans (show tables_1_4[89]? = some (.code jm_119.1 jm_119.2.1 jm_119.2.2.1 jm_119.2.2.2.1) from rfl))
set_option maxRecDepth 20000 in
theorem jge_120 : jget 120 = jm_120 := rfl
set_option maxRecDepth 20000 in
theorem jcw_120 : jCW 120 := jcw_of (i := 894) jge_120 rfl ((jtk_4 (j := 94) (by decide)).trans (show tables_1_4[94]? = some (.code jm_120.1 jm_120.2.1 jm_120.2.2.1 jm_120.2.2.2.1) from rfl))
set_option maxRecDepth 20000 in
theorem jge_121 : jget 121 = jm_121 := rfl
set_option maxRecDepth 20000 in
theorem jcw_121 : jCW 121 := jcw_of (i := 898) jge_121 rfl ((jtk_4 (j := 98) (by decide)).trans (show tables_1_4[98]? = some (.code jm_121.1 jm_121.2.1 jm_121.2.2.1 jm_121.2.2.2.1) from rfl))
set_option maxRecDepth 20000 in
theorem jge_122 : jget 122 = jm_122 := rfl
set_option maxRecDepth 20000 in
theorem jcw_122 : jCW 122 := jcw_of (i := 1033) jge_122 rfl ((jtk_4 (j := 233) (by decide)).trans (show tables_1_4[233]? = some (.code jm_122.1 jm_122.2.1 jm_122.2.2.1 jm_122.2.2.2.1) from rfl))
set_option maxRecDepth 20000 in
theorem jge_123 : jget 123 = jm_123 := rfl
set_option maxRecDepth 20000 in
theorem jcw_123 : jCW 123 := jcw_of (i := 1037) jge_123 rfl ((jtk_4 (j := 237) (by decide)).trans (show tables_1_4[237]? = some (.code jm_123.1 jm_123.2.1 jm_123.2.2.1 jm_123.2.2.2.1) from rfl))
set_option maxRecDepth 20000 in
theorem jge_124 : jget 124 = jm_124 := rfl
set_option maxRecDepth 20000 in
theorem jcw_124 : jCW 124 := jcw_of (i := 1041) jge_124 rfl ((jtk_5 (j := 1) (by decide)).trans (show tables_1_5[1]? = some (.code jm_124.1 jm_124.2.1 jm_124.2.2.1 jm_124.2.2.2.1) from rfl))
set_option maxRecDepth 20000 in
theorem jge_125 : jget 125 = jm_125 := rfl
set_option maxRecDepth 20000 in
theorem jcw_125 : jCW 125 := jcw_of (i := 1045) jge_125 rfl ((jtk_5 (j := 5) (by decide)).trans (show tables_1_5[5]? = some (.code jm_125.1 jm_125.2.1 jm_125.2.2.1 jm_125.2.2.2.1) from rfl))
set_option maxRecDepth 20000 in
theorem jge_126 : jget 126 = jm_126 := rfl
set_option maxRecDepth 20000 in
theorem jcw_126 : jCW 126 := jcw_of (i := 1049) jge_126 rfl ((jtk_5 (j := 9) (by decide)).trans (show tables_1_5[9]? = some (.code jm_126.1 jm_126.2.1 jm_126.2.2.1 jm_126.2.2.2.1) from rfl))
set_option maxRecDepth 20000 in
theorem jge_127 : jget 127 = jm_127 := rfl
set_option maxRecDepth 20000 in
theorem jcw_127 : jCW 127 := jcw_of (i := 1053) jge_127 rfl ((jtk_5 (j := 13) (by decide)).trans (show tables_1_5[13]? = some (.code jm_127.1 jm_127.2.1 jm_127.2.2.1 jm_127.2.2.2.1) from rfl))
set_option maxRecDepth 20000 in
theorem jge_128 : jget 128 = jm_128 := rfl
set_option maxRecDepth 20000 in
theorem jcw_128 : jCW 128 := jcw_of (i := 1057) jge_128 rfl ((jtk_5 (j := 17) (by decide)).trans (show tables_1_5[17]? = some (.code jm_128.1 jm_128.2.1 jm_128.2.2.1 jm_128.2.2.2.1) from rfl))
set_option maxRecDepth 20000 in
theorem jge_129 : jget 129 = jm_129 := rfl
set_option maxRecDepth 20000 in
theorem jcw_129 : jCW 129 := jcw_of (i := 1061) jge_129 rfl ((jtk_5 (j := 21) (by decide)).trans (show tables_1_5[21]? = some (.code jm_129.1 jm_129.2.1 jm_129.2.2.1 jm_129.2.2.2.1) from rfl))
set_option maxRecDepth 20000 in
theorem jge_130 : jget 130 = jm_130 := rfl
set_option maxRecDepth 20000 in
theorem jcw_130 : jCW 130 := jcw_of (i := 1065) jge_130 rfl ((jtk_5 (j := 25) (by decide)).trans (show tables_1_5[25]? = some (.code jm_130.1 jm_130.2.1 jm_130.2.2.1 jm_130.2.2.2.1) from rfl))
set_option maxRecDepth 20000 in
theorem jge_131 : jget 131 = jm_131 := rfl
set_option maxRecDepth 20000 in
theorem jcw_131 : jCW 131 := jcw_of (i := 1069) jge_131 rfl ((jtk_5 (j := 29) (by decide)).trans (show tables_1_5[29]? = some (.code jm_131.1 jm_131.2.1 jm_131.2.2.1 jm_131.2.2.2.1) from rfl))
set_option maxRecDepth 20000 in
theorem jge_132 : jget 132 = jm_132 := rfl
set_option maxRecDepth 20000 in
theorem jcw_132 : jCW 132 := jcw_of (i := 1073) jge_132 rfl ((jtk_5 (j := 33) (by decide)).trans (show tables_1_5[33]? = some (.code jm_132.1 jm_132.2.1 jm_132.2.2.1 jm_132.2.2.2.1) from rfl))
set_option maxRecDepth 20000 in
theorem jge_133 : jget 133 = jm_133 := rfl
set_option maxRecDepth 20000 in
theorem jcw_133 : jCW 133 := jcw_of (i := 1076) jge_133 rfl ((jtk_5 (j := 36) (by decide)).trans (show tables_1_5[36]? = some (.code jm_133.1 jm_133.2.1 jm_133.2.2.1 jm_133.2.2.2.1) from rfl))
set_option maxRecDepth 20000 in
theorem jge_134 : jget 134 = jm_134 := rfl
set_option maxRecDepth 20000 in
theorem jcw_134 : jCW 134 := jcw_of (i := 1080) jge_134 rfl ((jtk_5 (j := 40) (by decide)).trans (show tables_1_5[40]? = some (.code jm_134.1 jm_134.2.1 jm_134.2.2.1 jm_134.2.2.2.1) from rfl))
set_option maxRecDepth 20000 in
theorem jge_135 : jget 135 = jm_135 := rfl
set_option maxRecDepth 20000 in
theorem jcw_135 : jCW 135 := jcw_of (i := 1084) jge_135 rfl ((jtk_5 (j := 44) (by decide)).trans (show tables_1_5[44]? = some (.code jm_135.1 jm_135.2.1 jm_135.2.2.1 jm_135.2.2.2.1) from rfl))
set_option maxRecDepth 20000 in
theorem jge_136 : jget 136 = jm_136 := rfl
set_option maxRecDepth 20000 in
theorem jcw_136 : jCW 136 := jcw_of (i := 1088) jge_136 rfl ((jtk_5 (j := 48) (by decide)).trans (show tables_1_5[48]? = some (.code jm_136.1 jm_136.2.1 jm_136.2.2.1 jm_136.2.2.2.1) from rfl))
set_option maxRecDepth 20000 in
theorem jge_137 : jget 137 = jm_137 := rfl
set_option maxRecDepth 20000 in
theorem jcw_137 : jCW 137 := jcw_of (i := 1091) jge_137 rfl ((jtk_5 (j := 51) (by decide)).trans (show tables_1_5[51]? = some (.code jm_137.1 jm_137.2.1 jm_137.2.2.1 jm_137.2.2.2.1) from rfl))
set_option maxRecDepth 20000 in
theorem jge_138 : jget 138 = jm_138 := rfl
set_option maxRecDepth 20000 in
theorem jcw_138 : jCW 138 := jcw_of (i := 1095) jge_138 rfl ((jtk_5 (j := 55) (by decide)).trans (show tables_1_5[55]? = some (.code jm_138.1 jm_138.2.1 jm_138.2.2.1 jm_138.2.2.2.1) from rfl))
set_option maxRecDepth 20000 in
theorem jge_139 : jget 139 = jm_139 := rfl
set_option maxRecDepth 20000 in
theorem jcw_139 : jCW 139 := jcw_of (i := 1099) jge_139 rfl ((jtk_5 (j := 59) (by decide)).trans (show tables_1_5[59]? = some (.code jm_139.1 jm_139.2.1 jm_139.2.2.1 jm_139.2.2.2.1) from rfl))
set_option maxRecDepth 20000 in
theorem jge_140 : jget 140 = jm_140 := rfl
set_option maxRecDepth 20000 in
theorem jcw_140 : jCW 140 := jcw_of (i := 1103) jge_140 rfl ((jtk_5 (j := 63) (by decide)).trans (show tables_1_5[63]? = some (.code jm_140.1 jm_140.2.1 jm_140.2.2.1 jm_140.2.2.2.1) from rfl))
set_option maxRecDepth 20000 in
theorem jge_141 : jget 141 = jm_141 := rfl
set_option maxRecDepth 20000 in
theorem jcw_141 : jCW 141 := jcw_of (i := 1106) jge_141 rfl ((jtk_5 (j := 66) (by decide)).trans (show tables_1_5[66]? = some (.code jm_141.1 jm_141.2.1 jm_141.2.2.1 jm_141.2.2.2.1) from rfl))
set_option maxRecDepth 20000 in
theorem jge_142 : jget 142 = jm_142 := rfl
set_option maxRecDepth 20000 in
theorem jcw_142 : jCW 142 := jcw_of (i := 1110) jge_142 rfl ((jtk_5 (j := 70) (by decide)).trans (show tables_1_5[70]? = some (.code jm_142.1 jm_142.2.1 jm_142.2.2.1 jm_142.2.2.2.1) from rfl))
set_option maxRecDepth 20000 in
theorem jge_143 : jget 143 = jm_143 := rfl
set_option maxRecDepth 20000 in
theorem jcw_143 : jCW 143 := jcw_of (i := 1113) jge_143 rfl ((jtk_5 (j := 73) (by decide)).trans (show tables_1_5[73]? = some (.code jm_143.1 jm_143.2.1 jm_143.2.2.1 jm_143.2.2.2.1) from rfl))
set_option maxRecDepth 20000 in
theorem jge_144 : jget 144 = jm_144 := rfl
set_option maxRecDepth 20000 in
theorem jcw_144 : jCW 144 := jcw_of (i := 1117) jge_144 rfl ((jtk_5 (j := 77) (by decide)).trans (show tables_1_5[77]? = some (.code jm_144.1 jm_144.2.1 jm_144.2.2.1 jm_144.2.2.2.1) from rfl))
set_option maxRecDepth 20000 in
theorem jge_145 : jget 145 = jm_145 := rfl
set_option maxRecDepth 20000 in
theorem jcw_145 : jCW 145 := jcw_of (i := 1121) jge_145 rfl ((jtk_5 (j := 81) (by decide)).trans (show tables_1_5[81]? = some (.code jm_145.1 jm_145.2.1 jm_145.2.2.1 jm_145.2.2.2.1) from rfl))
set_option maxRecDepth 20000 in
theorem jge_146 : jget 146 = jm_146 := rfl
set_option maxRecDepth 20000 in
theorem jcw_146 : jCW 146 := jcw_of (i := 1125) jge_146 rfl ((jtk_5 (j := 85) (by decide)).trans (show tables_1_5[85]? = some (.code jm_146.1 jm_146.2.1 jm_146.2.2.1 jm_146.2.2.2.1) from rfl))
set_option maxRecDepth 20000 in
theorem jge_147 : jget 147 = jm_147 := rfl
set_option maxRecDepth 20000 in
theorem jcw_147 : jCW 147 := jcw_of (i := 1128) jge_147 rfl ((jtk_5 (j := 88) (by decide)).trans (show tables_1_5[88]? = some (.code jm_147.1 jm_147.2.1 jm_147.2.2.1 jm_147.2.2.2.1) from rfl))
set_option maxRecDepth 20000 in
theorem jge_148 : jget 148 = jm_148 := rfl
set_option maxRecDepth 20000 in
theorem jcw_148 : jCW 148 := jcw_of (i := 1132) jge_148 rfl ((jtk_5 (j := 92) (by decide)).trans (show tables_1_5[92]? = some (.code jm_148.1 jm_148.2.1 jm_148.2.2.1 jm_148.2.2.2.1) from rfl))
set_option maxRecDepth 20000 in
theorem jge_149 : jget 149 = jm_149 := rfl
set_option maxRecDepth 20000 in
theorem jcw_149 : jCW 149 := jcw_of (i := 1136) jge_149 rfl ((jtk_5 (j := 96) (by decide)).trans (show tables_1_5[96]? = some (.code jm_149.1 jm_149.2.1 jm_149.2.2.1 jm_149.2.2.2.1) from rfl))
set_option maxRecDepth 20000 in
theorem jge_150 : jget 150 = jm_150 := rfl
set_option maxRecDepth 20000 in
theorem jcw_150 : jCW 150 := jcw_of (i := 1140) jge_150 rfl ((jtk_5 (j := 100) (by decide)).trans (show tables_1_5[100]? = some (.code jm_150.1 jm_150.2.1 jm_150.2.2.1 jm_150.2.2.2.1) from rfl))
set_option maxRecDepth 20000 in
theorem jge_151 : jget 151 = jm_151 := rfl
set_option maxRecDepth 20000 in
theorem jcw_151 : jCW 151 := jcw_of (i := 1145) jge_151 rfl ((jtk_5 (j := 105) (by decide)).trans (show tables_1_5[105]? = some (.code jm_151.1 jm_151.2.1 jm_151.2.2.1 jm_151.2.2.2.1) from rfl))
set_option maxRecDepth 20000 in
theorem jge_152 : jget 152 = jm_152 := rfl
set_option maxRecDepth 20000 in
theorem jcw_152 : jCW 152 := jcw_of (i := 1149) jge_152 rfl ((jtk_5 (j := 109) (by decide)).trans (show tables_1_5[109]? = some (.code jm_152.1 jm_152.2.1 jm_152.2.2.1 jm_152.2.2.2.1) from rfl))
set_option maxRecDepth 20000 in
theorem jge_153 : jget 153 = jm_153 := rfl
set_option maxRecDepth 20000 in
theorem jcw_153 : jCW 153 := jcw_of (i := 1153) jge_153 rfl ((jtk_5 (j := 113) (by decide)).trans (show tables_1_5[113]? = some (.code jm_153.1 jm_153.2.1 jm_153.2.2.1 jm_153.2.2.2.1) from rfl))
set_option maxRecDepth 20000 in
theorem jge_154 : jget 154 = jm_154 := rfl
set_option maxRecDepth 20000 in
theorem jcw_154 : jCW 154 := jcw_of (i := 1157) jge_154 rfl ((jtk_5 (j := 117) (by decide)).trans (show tables_1_5[117]? = some (.code jm_154.1 jm_154.2.1 jm_154.2.2.1 jm_154.2.2.2.1) from rfl))
set_option maxRecDepth 20000 in
theorem jge_155 : jget 155 = jm_155 := rfl
set_option maxRecDepth 20000 in
theorem jcw_155 : jCW 155 := jcw_of (i := 1161) jge_155 rfl ((jtk_5 (j := 121) (by decide)).trans (show tables_1_5[121]? = some (.code jm_155.1 jm_155.2.1 jm_155.2.2.1 jm_155.2.2.2.1) from rfl))
set_option maxRecDepth 20000 in
theorem jge_156 : jget 156 = jm_156 := rfl
set_option maxRecDepth 20000 in
theorem jcw_156 : jCW 156 := jcw_of (i := 1164) jge_156 rfl ((jtk_5 (j := 124) (by decide)).trans (show tables_1_5[124]? = some (.code jm_156.1 jm_156.2.1 jm_156.2.2.1 jm_156.2.2.2.1) from rfl))
set_option maxRecDepth 20000 in
theorem jge_157 : jget 157 = jm_157 := rfl
set_option maxRecDepth 20000 in
theorem jcw_157 : jCW 157 := jcw_of (i := 1168) jge_157 rfl ((jtk_5 (j := 128) (by decide)).trans (show tables_1_5[128]? = some (.code jm_157.1 jm_157.2.1 jm_157.2.2.1 jm_157.2.2.2.1) from rfl))
set_option maxRecDepth 20000 in
theorem jge_158 : jget 158 = jm_158 := rfl
set_option maxRecDepth 20000 in
theorem jcw_158 : jCW 158 := jcw_of (i := 1172) jge_158 rfl ((jtk_5 (j := 132) (by decide)).trans (show tables_1_5[132]? = some (.code jm_158.1 jm_158.2.1 jm_158.2.2.1 jm_158.2.2.2.1) from rfl))
set_option maxRecDepth 20000 in
theorem jge_159 : jget 159 = jm_159 := rfl
set_option maxRecDepth 20000 in
theorem jcw_159 : jCW 159 := jcw_of (i := 1176) jge_159 rfl ((jtk_5 (j := 136) (by decide)).trans (show tables_1_5[136]? = some (.code jm_159.1 jm_159.2.1 jm_159.2.2.1 jm_159.2.2.2.1) from rfl))
set_option maxRecDepth 20000 in
theorem jge_160 : jget 160 = jm_160 := rfl
set_option maxRecDepth 20000 in
theorem jcw_160 : jCW 160 := jcw_of (i := 1180) jge_160 rfl ((jtk_5 (j := 140) (by decide)).trans (show tables_1_5[140]? = some (.code jm_160.1 jm_160.2.1 jm_160.2.2.1 jm_160.2.2.2.1) from rfl))
set_option maxRecDepth 20000 in
theorem jge_161 : jget 161 = jm_161 := rfl
set_option maxRecDepth 20000 in
theorem jcw_161 : jCW 161 := jcw_of (i := 1184) jge_161 rfl ((jtk_5 (j := 144) (by decide)).trans (show tables_1_5[144]? = some (.code jm_161.1 jm_161.2.1 jm_161.2.2.1 jm_161.2.2.2.1) from rfl))
set_option maxRecDepth 20000 in
theorem jge_162 : jget 162 = jm_162 := rfl
set_option maxRecDepth 20000 in
theorem jcw_162 : jCW 162 := jcw_of (i := 1188) jge_162 rfl ((jtk_5 (j := 148) (by decide)).trans (show tables_1_5[148]? = some (.code jm_162.1 jm_162.2.1 jm_162.2.2.1 jm_162.2.2.2.1) from rfl))
set_option maxRecDepth 20000 in
theorem jge_163 : jget 163 = jm_163 := rfl
set_option maxRecDepth 20000 in
theorem jcw_163 : jCW 163 := jcw_of (i := 1192) jge_163 rfl ((jtk_5 (j := 152) (by decide)).trans (show tables_1_5[152]? = some (.code jm_163.1 jm_163.2.1 jm_163.2.2.1 jm_163.2.2.2.1) from rfl))
set_option maxRecDepth 20000 in
theorem jge_164 : jget 164 = jm_164 := rfl
set_option maxRecDepth 20000 in
theorem jcw_164 : jCW 164 := jcw_of (i := 1196) jge_164 rfl ((jtk_5 (j := 156) (by decide)).trans (show tables_1_5[156]? = some (.code jm_164.1 jm_164.2.1 jm_164.2.2.1 jm_164.2.2.2.1) from rfl))
set_option maxRecDepth 20000 in
theorem jge_165 : jget 165 = jm_165 := rfl
set_option maxRecDepth 20000 in
theorem jcw_165 : jCW 165 := jcw_of (i := 1200) jge_165 rfl ((jtk_5 (j := 160) (by decide)).trans (show tables_1_5[160]? = some (.code jm_165.1 jm_165.2.1 jm_165.2.2.1 jm_165.2.2.2.1) from rfl))
set_option maxRecDepth 20000 in
theorem jge_166 : jget 166 = jm_166 := rfl
set_option maxRecDepth 20000 in
theorem jcw_166 : jCW 166 := jcw_of (i := 1204) jge_166 rfl ((jtk_5 (j := 164) (by decide)).trans (show tables_1_5[164]? = some (.code jm_166.1 jm_166.2.1 jm_166.2.2.1 jm_166.2.2.2.1) from rfl))
set_option maxRecDepth 20000 in
theorem jge_167 : jget 167 = jm_167 := rfl
set_option maxRecDepth 20000 in
theorem jcw_167 : jCW 167 := jcw_of (i := 1207) jge_167 rfl ((jtk_5 (j := 167) (by decide)).trans (show tables_1_5[167]? = some (.code jm_167.1 jm_167.2.1 jm_167.2.2.1 jm_167.2.2.2.1) from rfl))
set_option maxRecDepth 20000 in
theorem jge_168 : jget 168 = jm_168 := rfl
set_option maxRecDepth 20000 in
theorem jcw_168 : jCW 168 := jcw_of (i := 1211) jge_168 rfl ((jtk_5 (j := 171) (by decide)).trans (show tables_1_5[171]? = some (.code jm_168.1 jm_168.2.1 jm_168.2.2.1 jm_168.2.2.2.1) from rfl))
set_option maxRecDepth 20000 in
theorem jge_169 : jget 169 = jm_169 := rfl
set_option maxRecDepth 20000 in
theorem jcw_169 : jCW 169 := jcw_of (i := 1215) jge_169 rfl ((jtk_5 (j := 175) (by decide)).trans (show tables_1_5[175]? = some (.code jm_169.1 jm_169.2.1 jm_169.2.2.1 jm_169.2.2.2.1) from rfl))
set_option maxRecDepth 20000 in
theorem jge_170 : jget 170 = jm_170 := rfl
set_option maxRecDepth 20000 in
theorem jcw_170 : jCW 170 := jcw_of (i := 1219) jge_170 rfl ((jtk_5 (j := 179) (by decide)).trans (show tables_1_5[179]? = some (.code jm_170.1 jm_170.2.1 jm_170.2.2.1 jm_170.2.2.2.1) from rfl))
set_option maxRecDepth 20000 in
theorem jge_171 : jget 171 = jm_171 := rfl
set_option maxRecDepth 20000 in
theorem jcw_171 : jCW 171 := jcw_of (i := 1223) jge_171 rfl ((jtk_5 (j := 183) (by decide)).trans (show tables_1_5[183]? = some (.code jm_171.1 jm_171.2.1 jm_171.2.2.1 jm_171.2.2.2.1) from rfl))
set_option maxRecDepth 20000 in
theorem jge_172 : jget 172 = jm_172 := rfl
set_option maxRecDepth 20000 in
theorem jcw_172 : jCW 172 := jcw_of (i := 1227) jge_172 rfl ((jtk_5 (j := 187) (by decide)).trans (show tables_1_5[187]? = some (.code jm_172.1 jm_172.2.1 jm_172.2.2.1 jm_172.2.2.2.1) from rfl))
set_option maxRecDepth 20000 in
theorem jge_173 : jget 173 = jm_173 := rfl
set_option maxRecDepth 20000 in
theorem jcw_173 : jCW 173 := jcw_of (i := 1231) jge_173 rfl ((jtk_5 (j := 191) (by decide)).trans (show tables_1_5[191]? = some (.code jm_173.1 jm_173.2.1 jm_173.2.2.1 jm_173.2.2.2.1) from rfl))
set_option maxRecDepth 20000 in
theorem jge_174 : jget 174 = jm_174 := rfl
set_option maxRecDepth 20000 in
theorem jcw_174 : jCW 174 := jcw_of (i := 1235) jge_174 rfl ((jtk_5 (j := 195) (by decide)).trans (show tables_1_5[195]? = some (.code jm_174.1 jm_174.2.1 jm_174.2.2.1 jm_174.2.2.2.1) from rfl))
set_option maxRecDepth 20000 in
theorem jge_175 : jget 175 = jm_175 := rfl
set_option maxRecDepth 20000 in
theorem jcw_175 : jCW 175 := jcw_of (i := 1239) jge_175 rfl ((jtk_5 (j := 199) (by decide)).trans (show tables_1_5[199]? = some (.code jm_175.1 jm_175.2.1 jm_175.2.2.1 jm_175.2.2.2.1) from rfl))
set_option maxRecDepth 20000 in
theorem jge_176 : jget 176 = jm_176 := rfl
set_option maxRecDepth 20000 in
theorem jcw_176 : jCW 176 := jcw_of (i := 1243) jge_176 rfl ((jtk_5 (j := 203) (by decide)).trans (show tables_1_5[203]? = some (.code jm_176.1 jm_176.2.1 jm_176.2.2.1 jm_176.2.2.2.1) from rfl))
set_option maxRecDepth 20000 in
theorem jge_177 : jget 177 = jm_177 := rfl
set_option maxRecDepth 20000 in
theorem jcw_177 : jCW 177 := jcw_of (i := 1247) jge_177 rfl ((jtk_5 (j := 207) (by decide)).trans (show tables_1_5[207]? = some (.code jm_177.1 jm_177.2.1 jm_177.2.2.1 jm_177.2.2.2.1) from rfl))
set_option maxRecDepth 20000 in
theorem jge_178 : jget 178 = jm_178 := rfl
set_option maxRecDepth 20000 in
theorem jcw_178 : jCW 178 := jcw_of (i := 1251) jge_178 rfl ((jtk_5 (j := 211) (by decide)).trans (show tables_1_5[211]? = some (.code jm_178.1 jm_178.2.1 jm_178.2.2.1 jm_178.2.2.2.1) from rfl))
set_option maxRecDepth 20000 in
theorem jge_179 : jget 179 = jm_179 := rfl
set_option maxRecDepth 20000 in
theorem jcw_179 : jCW 179 := jcw_of (i := 1255) jge_179 rfl ((jtk_5 (j := 215) (by decide)).trans (show tables_1_5[215]? = some (.code jm_179.1 jm_179.2.1 jm_179.2.2.1 jm_179.2.2.2.1) from rfl))
set_option maxRecDepth 20000 in
theorem jge_180 : jget 180 = jm_180 := rfl
set_option maxRecDepth 20000 in
theorem jcw_180 : jCW 180 := jcw_of (i := 1259) jge_180 rfl ((jtk_5 (j := 219) (by decide)).trans (show tables_1_5[219]? = some (.code jm_180.1 jm_180.2.1 jm_180.2.2.1 jm_180.2.2.2.1) from rfl))
set_option maxRecDepth 20000 in
theorem jge_181 : jget 181 = jm_181 := rfl
set_option maxRecDepth 20000 in
theorem jcw_181 : jCW 181 := jcw_of (i := 1263) jge_181 rfl ((jtk_5 (j := 223) (by decide)).trans (show tables_1_5[223]? = some (.code jm_181.1 jm_181.2.1 jm_181.2.2.1 jm_181.2.2.2.1) from rfl))
set_option maxRecDepth 20000 in
theorem jge_182 : jget 182 = jm_182 := rfl
set_option maxRecDepth 20000 in
theorem jcw_182 : jCW 182 := jcw_of (i := 1267) jge_182 rfl ((jtk_5 (j := 227) (by decide)).trans (show tables_1_5[227]? = some (.code jm_182.1 jm_182.2.1 jm_182.2.2.1 jm_182.2.2.2.1) from rfl))
set_option maxRecDepth 20000 in
theorem jge_183 : jget 183 = jm_183 := rfl
set_option maxRecDepth 20000 in
theorem jcw_183 : jCW 183 := jcw_of (i := 1270) jge_183 rfl ((jtk_5 (j := 230) (by decide)).trans (show tables_1_5[230]? = some (.code jm_183.1 jm_183.2.1 jm_183.2.2.1 jm_183.2.2.2.1) from rfl))
set_option maxRecDepth 20000 in
theorem jge_184 : jget 184 = jm_184 := rfl
set_option maxRecDepth 20000 in
theorem jcw_184 : jCW 184 := jcw_of (i := 1274) jge_184 rfl ((jtk_5 (j := 234) (by decide)).trans (show tables_1_5[234]? = some (.code jm_184.1 jm_184.2.1 jm_184.2.2.1 jm_184.2.2.2.1) from rfl))
set_option maxRecDepth 20000 in
theorem jge_185 : jget 185 = jm_185 := rfl
set_option maxRecDepth 20000 in
theorem jcw_185 : jCW 185 := jcw_of (i := 1278) jge_185 rfl ((jtk_5 (j := 238) (by decide)).trans (show tables_1_5[238]? = some (.code jm_185.1 jm_185.2.1 jm_185.2.2.1 jm_185.2.2.2.1) from rfl))
set_option maxRecDepth 20000 in
theorem jge_186 : jget 186 = jm_186 := rfl
set_option maxRecDepth 20000 in
theorem jcw_186 : jCW 186 := jcw_of (i := 1282) jge_186 rfl ((jtk_6 (j := 2) (by decide)).trans (show tables_1_6[2]? = some (.code jm_186.1 jm_186.2.1 jm_186.2.2.1 jm_186.2.2.2.1) from rfl))
set_option maxRecDepth 20000 in
theorem jge_187 : jget 187 = jm_187 := rfl
set_option maxRecDepth 20000 in
theorem jcw_187 : jCW 187 := jcw_of (i := 1286) jge_187 rfl ((jtk_6 (j := 6) (by decide)).trans (show tables_1_6[6]? = some (.code jm_187.1 jm_187.2.1 jm_187.2.2.1 jm_187.2.2.2.1) from rfl))
set_option maxRecDepth 20000 in
theorem jge_188 : jget 188 = jm_188 := rfl
set_option maxRecDepth 20000 in
theorem jcw_188 : jCW 188 := jcw_of (i := 1290) jge_188 rfl ((jtk_6 (j := 10) (by decide)).trans (show tables_1_6[10]? = some (.code jm_188.1 jm_188.2.1 jm_188.2.2.1 jm_188.2.2.2.1) from rfl))
set_option maxRecDepth 20000 in
theorem jge_189 : jget 189 = jm_189 := rfl
set_option maxRecDepth 20000 in
theorem jcw_189 : jCW 189 := jcw_of (i := 1294) jge_189 rfl ((jtk_6 (j := 14) (by decide)).trans (show tables_1_6[14]? = some (.code jm_189.1 jm_189.2.1 jm_189.2.2.1 jm_189.2.2.2.1) from rfl))
set_option maxRecDepth 20000 in
theorem jge_190 : jget 190 = jm_190 := rfl
set_option maxRecDepth 20000 in
theorem jcw_190 : jCW 190 := jcw_of (i := 1298) jge_190 rfl ((jtk_6 (j := 18) (by decide)).trans (show tables_1_6[18]? = some (.code jm_190.1 jm_190.2.1 jm_190.2.2.1 jm_190.2.2.2.1) from rfl))
set_option maxRecDepth 20000 in
theorem jge_191 : jget 191 = jm_191 := rfl
set_option maxRecDepth 20000 in
theorem jcw_191 : jCW 191 := jcw_of (i := 1302) jge_191 rfl ((jtk_6 (j := 22) (by decide)).trans (show tables_1_6[22]? = some (.code jm_191.1 jm_191.2.1 jm_191.2.2.1 jm_191.2.2.2.1) from rfl))
set_option maxRecDepth 20000 in
theorem jge_192 : jget 192 = jm_192 := rfl
set_option maxRecDepth 20000 in
theorem jcw_192 : jCW 192 := jcw_of (i := 1306) jge_192 rfl ((jtk_6 (j := 26) (by decide)).trans (show tables_1_6[26]? = some (.code jm_192.1 jm_192.2.1 jm_192.2.2.1 jm_192.2.2.2.1) from rfl))
set_option maxRecDepth 20000 in
theorem jge_193 : jget 193 = jm_193 := rfl
set_option maxRecDepth 20000 in
theorem jcw_193 : jCW 193 := jcw_of (i := 1310) jge_193 rfl ((jtk_6 (j := 30) (by decide)).trans (show tables_1_6[30]? = some (.code jm_193.1 jm_193.2.1 jm_193.2.2.1 jm_193.2.2.2.1) from rfl))
set_option maxRecDepth 20000 in
theorem jge_194 : jget 194 = jm_194 := rfl
set_option maxRecDepth 20000 in
theorem jcw_194 : jCW 194 := jcw_of (i := 1314) jge_194 rfl ((jtk_6 (j := 34) (by decide)).trans (show tables_1_6[34]? = some (.code jm_194.1 jm_194.2.1 jm_194.2.2.1 jm_194.2.2.2.1) from rfl))
set_option maxRecDepth 20000 in
theorem jge_195 : jget 195 = jm_195 := rfl
set_option maxRecDepth 20000 in
theorem jcw_195 : jCW 195 := jcw_of (i := 1318) jge_195 rfl ((jtk_6 (j := 38) (by decide)).trans (show tables_1_6[38]? = some (.code jm_195.1 jm_195.2.1 jm_195.2.2.1 jm_195.2.2.2.1) from rfl))
set_option maxRecDepth 20000 in
theorem jge_196 : jget 196 = jm_196 := rfl
set_option maxRecDepth 20000 in
theorem jcw_196 : jCW 196 := jcw_of (i := 1322) jge_196 rfl ((jtk_6 (j := 42) (by decide)).trans (show tables_1_6[42]? = some (.code jm_196.1 jm_196.2.1 jm_196.2.2.1 jm_196.2.2.2.1) from rfl))
set_option maxRecDepth 20000 in
theorem jge_197 : jget 197 = jm_197 := rfl
set_option maxRecDepth 20000 in
theorem jcw_197 : jCW 197 := jcw_of (i := 1326) jge_197 rfl ((jtk_6 (j := 46) (by decide)).trans (show tables_1_6[46]? = some (.code jm_197.1 jm_197.2.1 jm_197.2.2.1 jm_197.2.2.2.1) from rfl))
set_option maxRecDepth 20000 in
theorem jge_198 : jget 198 = jm_198 := rfl
set_option maxRecDepth 20000 in
theorem jcw_198 : jCW 198 := jcw_of (i := 470) jge_198 rfl ((jtk_2 (j := 150) (by decide)).trans (show tables_1_2[150]? = some (.code jm_198.1 jm_198.2.1 jm_198.2.2.1 jm_198.2.2.2.1) from rfl))
set_option maxRecDepth 20000 in
theorem jge_199 : jget 199 = jm_199 := rfl
set_option maxRecDepth 20000 in
theorem jcw_199 : jCW 199 := jcw_of (i := 474) jge_199 rfl ((jtk_2 (j := 154) (by decide)).trans (show tables_1_2[154]? = some (.code jm_199.1 jm_199.2.1 jm_199.2.2.1 jm_199.2.2.2.1) from rfl))
set_option maxRecDepth 20000 in
theorem jge_200 : jget 200 = jm_200 := rfl
set_option maxRecDepth 20000 in
theorem jcw_200 : jCW 200 := jcw_of (i := 479) jge_200 rfl ((jtk_2 (j := 159) (by decide)).trans (show tables_1_2[159]? = some (.code jm_200.1 jm_200.2.1 jm_200.2.2.1 jm_200.2.2.2.1) from rfl))
set_option maxRecDepth 20000 in
theorem jge_201 : jget 201 = jm_201 := rfl
set_option maxRecDepth 20000 in
theorem jcw_201 : jCW 201 := jcw_of (i := 482) jge_201 rfl ((jtk_2 (j := 162) (by decide)).trans (show tables_1_2[162]? = some (.code jm_201.1 jm_201.2.1 jm_201.2.2.1 jm_201.2.2.2.1) from rfl))
set_option maxRecDepth 20000 in
theorem jge_202 : jget 202 = jm_202 := rfl
set_option maxRecDepth 20000 in
theorem jcw_202 : jCW 202 := jcw_of (i := 487) jge_202 rfl ((jtk_2 (j := 167) (by decide)).trans (show tables_1_2[167]? = some (.code jm_202.1 jm_202.2.1 jm_202.2.2.1 jm_202.2.2.2.1) from rfl))
set_option maxRecDepth 20000 in
theorem jge_203 : jget 203 = jm_203 := rfl
set_option maxRecDepth 20000 in
theorem jcw_203 : jCW 203 := jcw_of (i := 763) jge_203 rfl ((jtk_3 (j := 203) (by decide)).trans (show tables_1_3[203]? = some (.code jm_203.1 jm_203.2.1 jm_203.2.2.1 jm_203.2.2.2.1) from rfl))
set_option maxRecDepth 20000 in
theorem jge_204 : jget 204 = jm_204 := rfl
set_option maxRecDepth 20000 in
theorem jcw_204 : jCW 204 := jcw_of (i := 767) jge_204 rfl ((jtk_3 (j := 207) (by decide)).trans (show tables_1_3[207]? = some (.code jm_204.1 jm_204.2.1 jm_204.2.2.1 jm_204.2.2.2.1) from rfl))
theorem jqg_0 : (List.range' 0 20).all (fun a => jQg jwdf a) = true := by decide +kernel
theorem jqw_0 : ∀ M, 0 ≤ M → M < 20 → (jkdl.getD M 0 = 0 ∨ jCW M) := (jq2 (b := 10) (jq2 (b := 5) (jq2 (b := 2) (jq2 (b := 1) (jq1 (P := fun M => jkdl.getD M 0 = 0 ∨ jCW M) (Or.inl (by decide))) (jq1 (P := fun M => jkdl.getD M 0 = 0 ∨ jCW M) (Or.inr jcw_1))) (jq2 (b := 3) (jq1 (P := fun M => jkdl.getD M 0 = 0 ∨ jCW M) (Or.inr jcw_2)) (jq2 (b := 4) (jq1 (P := fun M => jkdl.getD M 0 = 0 ∨ jCW M) (Or.inr jcw_3)) (jq1 (P := fun M => jkdl.getD M 0 = 0 ∨ jCW M) (Or.inr jcw_4))))) (jq2 (b := 7) (jq2 (b := 6) (jq1 (P := fun M => jkdl.getD M 0 = 0 ∨ jCW M) (Or.inr jcw_5)) (jq1 (P := fun M => jkdl.getD M 0 = 0 ∨ jCW M) (Or.inr jcw_6))) (jq2 (b := 8) (jq1 (P := fun M => jkdl.getD M 0 = 0 ∨ jCW M) (Or.inr jcw_7)) (jq2 (b := 9) (jq1 (P := fun M => jkdl.getD M 0 = 0 ∨ jCW M) (Or.inr jcw_8)) (jq1 (P := fun M => jkdl.getD M 0 = 0 ∨ jCW M) (Or.inr jcw_9)))))) (jq2 (b := 15) (jq2 (b := 12) (jq2 (b := 11) (jq1 (P := fun M => jkdl.getD M 0 = 0 ∨ jCW M) (Or.inr jcw_10)) (jq1 (P := fun M => jkdl.getD M 0 = 0 ∨ jCW M) (Or.inr jcw_11))) (jq2 (b := 13) (jq1 (P := fun M => jkdl.getD M 0 = 0 ∨ jCW M) (Or.inr jcw_12)) (jq2 (b := 14) (jq1 (P := fun M => jkdl.getD M 0 = 0 ∨ jCW M) (Or.inr jcw_13)) (jq1 (P := fun M => jkdl.getD M 0 = 0 ∨ jCW M) (Or.inr jcw_14))))) (jq2 (b := 17) (jq2 (b := 16) (jq1 (P := fun M => jkdl.getD M 0 = 0 ∨ jCW M) (Or.inr jcw_15)) (jq1 (P := fun M => jkdl.getD M 0 = 0 ∨ jCW M) (Or.inr jcw_16))) (jq2 (b := 18) (jq1 (P := fun M => jkdl.getD M 0 = 0 ∨ jCW M) (Or.inr jcw_17)) (jq2 (b := 19) (jq1 (P := fun M => jkdl.getD M 0 = 0 ∨ jCW M) (Or.inr jcw_18)) (jq1 (P := fun M => jkdl.getD M 0 = 0 ∨ jCW M) (Or.inr jcw_19)))))))
theorem jqh_0 : ∀ M, 0 ≤ M → M < 20 → jQ M := fun M h1 h2 => (jqw_0 M h1 h2).elim (fun e => jQ0 e) (fun c => jQ_of c (by rw [← jwdf_eq]; exact List.all_eq_true.mp jqg_0 M (List.mem_range'_1.mpr ⟨h1, h2⟩)))
theorem jqg_1 : (List.range' 20 20).all (fun a => jQg jwdf a) = true := by decide +kernel
theorem jqw_1 : ∀ M, 20 ≤ M → M < 40 → (jkdl.getD M 0 = 0 ∨ jCW M) := (jq2 (b := 30) (jq2 (b := 25) (jq2 (b := 22) (jq2 (b := 21) (jq1 (P := fun M => jkdl.getD M 0 = 0 ∨ jCW M) (Or.inr jcw_20)) (jq1 (P := fun M => jkdl.getD M 0 = 0 ∨ jCW M) (Or.inr jcw_21))) (jq2 (b := 23) (jq1 (P := fun M => jkdl.getD M 0 = 0 ∨ jCW M) (Or.inr jcw_22)) (jq2 (b := 24) (jq1 (P := fun M => jkdl.getD M 0 = 0 ∨ jCW M) (Or.inr jcw_23)) (jq1 (P := fun M => jkdl.getD M 0 = 0 ∨ jCW M) (Or.inr jcw_24))))) (jq2 (b := 27) (jq2 (b := 26) (jq1 (P := fun M => jkdl.getD M 0 = 0 ∨ jCW M) (Or.inr jcw_25)) (jq1 (P := fun M => jkdl.getD M 0 = 0 ∨ jCW M) (Or.inr jcw_26))) (jq2 (b := 28) (jq1 (P := fun M => jkdl.getD M 0 = 0 ∨ jCW M) (Or.inr jcw_27)) (jq2 (b := 29) (jq1 (P := fun M => jkdl.getD M 0 = 0 ∨ jCW M) (Or.inr jcw_28)) (jq1 (P := fun M => jkdl.getD M 0 = 0 ∨ jCW M) (Or.inr jcw_29)))))) (jq2 (b := 35) (jq2 (b := 32) (jq2 (b := 31) (jq1 (P := fun M => jkdl.getD M 0 = 0 ∨ jCW M) (Or.inr jcw_30)) (jq1 (P := fun M => jkdl.getD M 0 = 0 ∨ jCW M) (Or.inr jcw_31))) (jq2 (b := 33) (jq1 (P := fun M => jkdl.getD M 0 = 0 ∨ jCW M) (Or.inr jcw_32)) (jq2 (b := 34) (jq1 (P := fun M => jkdl.getD M 0 = 0 ∨ jCW M) (Or.inr jcw_33)) (jq1 (P := fun M => jkdl.getD M 0 = 0 ∨ jCW M) (Or.inr jcw_34))))) (jq2 (b := 37) (jq2 (b := 36) (jq1 (P := fun M => jkdl.getD M 0 = 0 ∨ jCW M) (Or.inr jcw_35)) (jq1 (P := fun M => jkdl.getD M 0 = 0 ∨ jCW M) (Or.inr jcw_36))) (jq2 (b := 38) (jq1 (P := fun M => jkdl.getD M 0 = 0 ∨ jCW M) (Or.inr jcw_37)) (jq2 (b := 39) (jq1 (P := fun M => jkdl.getD M 0 = 0 ∨ jCW M) (Or.inr jcw_38)) (jq1 (P := fun M => jkdl.getD M 0 = 0 ∨ jCW M) (Or.inr jcw_39)))))))
theorem jqh_1 : ∀ M, 20 ≤ M → M < 40 → jQ M := fun M h1 h2 => (jqw_1 M h1 h2).elim (fun e => jQ0 e) (fun c => jQ_of c (by rw [← jwdf_eq]; exact List.all_eq_true.mp jqg_1 M (List.mem_range'_1.mpr ⟨h1, h2⟩)))
theorem jqg_2 : (List.range' 40 20).all (fun a => jQg jwdf a) = true := by decide +kernel
theorem jqw_2 : ∀ M, 40 ≤ M → M < 60 → (jkdl.getD M 0 = 0 ∨ jCW M) := (jq2 (b := 50) (jq2 (b := 45) (jq2 (b := 42) (jq2 (b := 41) (jq1 (P := fun M => jkdl.getD M 0 = 0 ∨ jCW M) (Or.inr jcw_40)) (jq1 (P := fun M => jkdl.getD M 0 = 0 ∨ jCW M) (Or.inr jcw_41))) (jq2 (b := 43) (jq1 (P := fun M => jkdl.getD M 0 = 0 ∨ jCW M) (Or.inr jcw_42)) (jq2 (b := 44) (jq1 (P := fun M => jkdl.getD M 0 = 0 ∨ jCW M) (Or.inr jcw_43)) (jq1 (P := fun M => jkdl.getD M 0 = 0 ∨ jCW M) (Or.inr jcw_44))))) (jq2 (b := 47) (jq2 (b := 46) (jq1 (P := fun M => jkdl.getD M 0 = 0 ∨ jCW M) (Or.inr jcw_45)) (jq1 (P := fun M => jkdl.getD M 0 = 0 ∨ jCW M) (Or.inr jcw_46))) (jq2 (b := 48) (jq1 (P := fun M => jkdl.getD M 0 = 0 ∨ jCW M) (Or.inr jcw_47)) (jq2 (b := 49) (jq1 (P := fun M => jkdl.getD M 0 = 0 ∨ jCW M) (Or.inr jcw_48)) (jq1 (P := fun M => jkdl.getD M 0 = 0 ∨ jCW M) (Or.inr jcw_49)))))) (jq2 (b := 55) (jq2 (b := 52) (jq2 (b := 51) (jq1 (P := fun M => jkdl.getD M 0 = 0 ∨ jCW M) (Or.inr jcw_50)) (jq1 (P := fun M => jkdl.getD M 0 = 0 ∨ jCW M) (Or.inr jcw_51))) (jq2 (b := 53) (jq1 (P := fun M => jkdl.getD M 0 = 0 ∨ jCW M) (Or.inr jcw_52)) (jq2 (b := 54) (jq1 (P := fun M => jkdl.getD M 0 = 0 ∨ jCW M) (Or.inr jcw_53)) (jq1 (P := fun M => jkdl.getD M 0 = 0 ∨ jCW M) (Or.inr jcw_54))))) (jq2 (b := 57) (jq2 (b := 56) (jq1 (P := fun M => jkdl.getD M 0 = 0 ∨ jCW M) (Or.inr jcw_55)) (jq1 (P := fun M => jkdl.getD M 0 = 0 ∨ jCW M) (Or.inr jcw_56))) (jq2 (b := 58) (jq1 (P := fun M => jkdl.getD M 0 = 0 ∨ jCW M) (Or.inr jcw_57)) (jq2 (b := 59) (jq1 (P := fun M => jkdl.getD M 0 = 0 ∨ jCW M) (Or.inr jcw_58)) (jq1 (P := fun M => jkdl.getD M 0 = 0 ∨ jCW M) (Or.inr jcw_59)))))))
theorem jqh_2 : ∀ M, 40 ≤ M → M < 60 → jQ M := fun M h1 h2 => (jqw_2 M h1 h2).elim (fun e => jQ0 e) (fun c => jQ_of c (by rw [← jwdf_eq]; exact List.all_eq_true.mp jqg_2 M (List.mem_range'_1.mpr ⟨h1, h2⟩)))
theorem jqg_3 : (List.range' 60 20).all (fun a => jQg jwdf a) = true := by decide +kernel
theorem jqw_3 : ∀ M, 60 ≤ M → M < 80 → (jkdl.getD M 0 = 0 ∨ jCW M) := (jq2 (b := 70) (jq2 (b := 65) (jq2 (b := 62) (jq2 (b := 61) (jq1 (P := fun M => jkdl.getD M 0 = 0 ∨ jCW M) (Or.inr jcw_60)) (jq1 (P := fun M => jkdl.getD M 0 = 0 ∨ jCW M) (Or.inr jcw_61))) (jq2 (b := 63) (jq1 (P := fun M => jkdl.getD M 0 = 0 ∨ jCW M) (Or.inr jcw_62)) (jq2 (b := 64) (jq1 (P := fun M => jkdl.getD M 0 = 0 ∨ jCW M) (Or.inr jcw_63)) (jq1 (P := fun M => jkdl.getD M 0 = 0 ∨ jCW M) (Or.inr jcw_64))))) (jq2 (b := 67) (jq2 (b := 66) (jq1 (P := fun M => jkdl.getD M 0 = 0 ∨ jCW M) (Or.inr jcw_65)) (jq1 (P := fun M => jkdl.getD M 0 = 0 ∨ jCW M) (Or.inr jcw_66))) (jq2 (b := 68) (jq1 (P := fun M => jkdl.getD M 0 = 0 ∨ jCW M) (Or.inr jcw_67)) (jq2 (b := 69) (jq1 (P := fun M => jkdl.getD M 0 = 0 ∨ jCW M) (Or.inr jcw_68)) (jq1 (P := fun M => jkdl.getD M 0 = 0 ∨ jCW M) (Or.inr jcw_69)))))) (jq2 (b := 75) (jq2 (b := 72) (jq2 (b := 71) (jq1 (P := fun M => jkdl.getD M 0 = 0 ∨ jCW M) (Or.inr jcw_70)) (jq1 (P := fun M => jkdl.getD M 0 = 0 ∨ jCW M) (Or.inr jcw_71))) (jq2 (b := 73) (jq1 (P := fun M => jkdl.getD M 0 = 0 ∨ jCW M) (Or.inr jcw_72)) (jq2 (b := 74) (jq1 (P := fun M => jkdl.getD M 0 = 0 ∨ jCW M) (Or.inr jcw_73)) (jq1 (P := fun M => jkdl.getD M 0 = 0 ∨ jCW M) (Or.inr jcw_74))))) (jq2 (b := 77) (jq2 (b := 76) (jq1 (P := fun M => jkdl.getD M 0 = 0 ∨ jCW M) (Or.inr jcw_75)) (jq1 (P := fun M => jkdl.getD M 0 = 0 ∨ jCW M) (Or.inr jcw_76))) (jq2 (b := 78) (jq1 (P := fun M => jkdl.getD M 0 = 0 ∨ jCW M) (Or.inr jcw_77)) (jq2 (b := 79) (jq1 (P := fun M => jkdl.getD M 0 = 0 ∨ jCW M) (Or.inr jcw_78)) (jq1 (P := fun M => jkdl.getD M 0 = 0 ∨ jCW M) (Or.inr jcw_79)))))))
theorem jqh_3 : ∀ M, 60 ≤ M → M < 80 → jQ M := fun M h1 h2 => (jqw_3 M h1 h2).elim (fun e => jQ0 e) (fun c => jQ_of c (by rw [← jwdf_eq]; exact List.all_eq_true.mp jqg_3 M (List.mem_range'_1.mpr ⟨h1, h2⟩)))
theorem jqg_4 : (List.range' 80 20).all (fun a => jQg jwdf a) = true := by decide +kernel
theorem jqw_4 : ∀ M, 80 ≤ M → M < 100 → (jkdl.getD M 0 = 0 ∨ jCW M) := (jq2 (b := 90) (jq2 (b := 85) (jq2 (b := 82) (jq2 (b := 81) (jq1 (P := fun M => jkdl.getD M 0 = 0 ∨ jCW M) (Or.inr jcw_80)) (jq1 (P := fun M => jkdl.getD M 0 = 0 ∨ jCW M) (Or.inr jcw_81))) (jq2 (b := 83) (jq1 (P := fun M => jkdl.getD M 0 = 0 ∨ jCW M) (Or.inr jcw_82)) (jq2 (b := 84) (jq1 (P := fun M => jkdl.getD M 0 = 0 ∨ jCW M) (Or.inr jcw_83)) (jq1 (P := fun M => jkdl.getD M 0 = 0 ∨ jCW M) (Or.inr jcw_84))))) (jq2 (b := 87) (jq2 (b := 86) (jq1 (P := fun M => jkdl.getD M 0 = 0 ∨ jCW M) (Or.inr jcw_85)) (jq1 (P := fun M => jkdl.getD M 0 = 0 ∨ jCW M) (Or.inr jcw_86))) (jq2 (b := 88) (jq1 (P := fun M => jkdl.getD M 0 = 0 ∨ jCW M) (Or.inr jcw_87)) (jq2 (b := 89) (jq1 (P := fun M => jkdl.getD M 0 = 0 ∨ jCW M) (Or.inr jcw_88)) (jq1 (P := fun M => jkdl.getD M 0 = 0 ∨ jCW M) (Or.inr jcw_89)))))) (jq2 (b := 95) (jq2 (b := 92) (jq2 (b := 91) (jq1 (P := fun M => jkdl.getD M 0 = 0 ∨ jCW M) (Or.inr jcw_90)) (jq1 (P := fun M => jkdl.getD M 0 = 0 ∨ jCW M) (Or.inr jcw_91))) (jq2 (b := 93) (jq1 (P := fun M => jkdl.getD M 0 = 0 ∨ jCW M) (Or.inr jcw_92)) (jq2 (b := 94) (jq1 (P := fun M => jkdl.getD M 0 = 0 ∨ jCW M) (Or.inr jcw_93)) (jq1 (P := fun M => jkdl.getD M 0 = 0 ∨ jCW M) (Or.inr jcw_94))))) (jq2 (b := 97) (jq2 (b := 96) (jq1 (P := fun M => jkdl.getD M 0 = 0 ∨ jCW M) (Or.inr jcw_95)) (jq1 (P := fun M => jkdl.getD M 0 = 0 ∨ jCW M) (Or.inr jcw_96))) (jq2 (b := 98) (jq1 (P := fun M => jkdl.getD M 0 = 0 ∨ jCW M) (Or.inr jcw_97)) (jq2 (b := 99) (jq1 (P := fun M => jkdl.getD M 0 = 0 ∨ jCW M) (Or.inr jcw_98)) (jq1 (P := fun M => jkdl.getD M 0 = 0 ∨ jCW M) (Or.inr jcw_99)))))))
theorem jqh_4 : ∀ M, 80 ≤ M → M < 100 → jQ M := fun M h1 h2 => (jqw_4 M h1 h2).elim (fun e => jQ0 e) (fun c => jQ_of c (by rw [← jwdf_eq]; exact List.all_eq_true.mp jqg_4 M (List.mem_range'_1.mpr ⟨h1, h2⟩)))
theorem jqg_5 : (List.range' 100 20).all (fun a => jQg jwdf a) = true := by decide +kernel
theorem jqw_5 : ∀ M, 100 ≤ M → M < 120 → (jkdl.getD M 0 = 0 ∨ jCW M) := (jq2 (b := 110) (jq2 (b := 105) (jq2 (b := 102) (jq2 (b := 101) (jq1 (P := fun M => jkdl.getD M 0 = 0 ∨ jCW M) (Or.inr jcw_100)) (jq1 (P := fun M => jkdl.getD M 0 = 0 ∨ jCW M) (Or.inr jcw_101))) (jq2 (b := 103) (jq1 (P := fun M => jkdl.getD M 0 = 0 ∨ jCW M) (Or.inr jcw_102)) (jq2 (b := 104) (jq1 (P := fun M => jkdl.getD M 0 = 0 ∨ jCW M) (Or.inr jcw_103)) (jq1 (P := fun M => jkdl.getD M 0 = 0 ∨ jCW M) (Or.inr jcw_104))))) (jq2 (b := 107) (jq2 (b := 106) (jq1 (P := fun M => jkdl.getD M 0 = 0 ∨ jCW M) (Or.inr jcw_105)) (jq1 (P := fun M => jkdl.getD M 0 = 0 ∨ jCW M) (Or.inr jcw_106))) (jq2 (b := 108) (jq1 (P := fun M => jkdl.getD M 0 = 0 ∨ jCW M) (Or.inr jcw_107)) (jq2 (b := 109) (jq1 (P := fun M => jkdl.getD M 0 = 0 ∨ jCW M) (Or.inr jcw_108)) (jq1 (P := fun M => jkdl.getD M 0 = 0 ∨ jCW M) (Or.inr jcw_109)))))) (jq2 (b := 115) (jq2 (b := 112) (jq2 (b := 111) (jq1 (P := fun M => jkdl.getD M 0 = 0 ∨ jCW M) (Or.inr jcw_110)) (jq1 (P := fun M => jkdl.getD M 0 = 0 ∨ jCW M) (Or.inr jcw_111))) (jq2 (b := 113) (jq1 (P := fun M => jkdl.getD M 0 = 0 ∨ jCW M) (Or.inr jcw_112)) (jq2 (b := 114) (jq1 (P := fun M => jkdl.getD M 0 = 0 ∨ jCW M) (Or.inr jcw_113)) (jq1 (P := fun M => jkdl.getD M 0 = 0 ∨ jCW M) (Or.inr jcw_114))))) (jq2 (b := 117) (jq2 (b := 116) (jq1 (P := fun M => jkdl.getD M 0 = 0 ∨ jCW M) (Or.inr jcw_115)) (jq1 (P := fun M => jkdl.getD M 0 = 0 ∨ jCW M) (Or.inr jcw_116))) (jq2 (b := 118) (jq1 (P := fun M => jkdl.getD M 0 = 0 ∨ jCW M) (Or.inr jcw_117)) (jq2 (b := 119) (jq1 (P := fun M => jkdl.getD M 0 = 0 ∨ jCW M) (Or.inr jcw_118)) (jq1 (P := fun M => jkdl.getD M 0 = 0 ∨ jCW M) (Or.inr jcw_119)))))))
theorem jqh_5 : ∀ M, 100 ≤ M → M < 120 → jQ M := fun M h1 h2 => (jqw_5 M h1 h2).elim (fun e => jQ0 e) (fun c => jQ_of c (by rw [← jwdf_eq]; exact List.all_eq_true.mp jqg_5 M (List.mem_range'_1.mpr ⟨h1, h2⟩)))
theorem jqg_6 : (List.range' 120 20).all (fun a => jQg jwdf a) = true := by decide +kernel
theorem jqw_6 : ∀ M, 120 ≤ M → M < 140 → (jkdl.getD M 0 = 0 ∨ jCW M) := (jq2 (b := 130) (jq2 (b := 125) (jq2 (b := 122) (jq2 (b := 121) (jq1 (P := fun M => jkdl.getD M 0 = 0 ∨ jCW M) (Or.inr jcw_120)) (jq1 (P := fun M => jkdl.getD M 0 = 0 ∨ jCW M) (Or.inr jcw_121))) (jq2 (b := 123) (jq1 (P := fun M => jkdl.getD M 0 = 0 ∨ jCW M) (Or.inr jcw_122)) (jq2 (b := 124) (jq1 (P := fun M => jkdl.getD M 0 = 0 ∨ jCW M) (Or.inr jcw_123)) (jq1 (P := fun M => jkdl.getD M 0 = 0 ∨ jCW M) (Or.inr jcw_124))))) (jq2 (b := 127) (jq2 (b := 126) (jq1 (P := fun M => jkdl.getD M 0 = 0 ∨ jCW M) (Or.inr jcw_125)) (jq1 (P := fun M => jkdl.getD M 0 = 0 ∨ jCW M) (Or.inr jcw_126))) (jq2 (b := 128) (jq1 (P := fun M => jkdl.getD M 0 = 0 ∨ jCW M) (Or.inr jcw_127)) (jq2 (b := 129) (jq1 (P := fun M => jkdl.getD M 0 = 0 ∨ jCW M) (Or.inr jcw_128)) (jq1 (P := fun M => jkdl.getD M 0 = 0 ∨ jCW M) (Or.inr jcw_129)))))) (jq2 (b := 135) (jq2 (b := 132) (jq2 (b := 131) (jq1 (P := fun M => jkdl.getD M 0 = 0 ∨ jCW M) (Or.inr jcw_130)) (jq1 (P := fun M => jkdl.getD M 0 = 0 ∨ jCW M) (Or.inr jcw_131))) (jq2 (b := 133) (jq1 (P := fun M => jkdl.getD M 0 = 0 ∨ jCW M) (Or.inr jcw_132)) (jq2 (b := 134) (jq1 (P := fun M => jkdl.getD M 0 = 0 ∨ jCW M) (Or.inr jcw_133)) (jq1 (P := fun M => jkdl.getD M 0 = 0 ∨ jCW M) (Or.inr jcw_134))))) (jq2 (b := 137) (jq2 (b := 136) (jq1 (P := fun M => jkdl.getD M 0 = 0 ∨ jCW M) (Or.inr jcw_135)) (jq1 (P := fun M => jkdl.getD M 0 = 0 ∨ jCW M) (Or.inr jcw_136))) (jq2 (b := 138) (jq1 (P := fun M => jkdl.getD M 0 = 0 ∨ jCW M) (Or.inr jcw_137)) (jq2 (b := 139) (jq1 (P := fun M => jkdl.getD M 0 = 0 ∨ jCW M) (Or.inr jcw_138)) (jq1 (P := fun M => jkdl.getD M 0 = 0 ∨ jCW M) (Or.inr jcw_139)))))))
theorem jqh_6 : ∀ M, 120 ≤ M → M < 140 → jQ M := fun M h1 h2 => (jqw_6 M h1 h2).elim (fun e => jQ0 e) (fun c => jQ_of c (by rw [← jwdf_eq]; exact List.all_eq_true.mp jqg_6 M (List.mem_range'_1.mpr ⟨h1, h2⟩)))
theorem jqg_7 : (List.range' 140 20).all (fun a => jQg jwdf a) = true := by decide +kernel
theorem jqw_7 : ∀ M, 140 ≤ M → M < 160 → (jkdl.getD M 0 = 0 ∨ jCW M) := (jq2 (b := 150) (jq2 (b := 145) (jq2 (b := 142) (jq2 (b := 141) (jq1 (P := fun M => jkdl.getD M 0 = 0 ∨ jCW M) (Or.inr jcw_140)) (jq1 (P := fun M => jkdl.getD M 0 = 0 ∨ jCW M) (Or.inr jcw_141))) (jq2 (b := 143) (jq1 (P := fun M => jkdl.getD M 0 = 0 ∨ jCW M) (Or.inr jcw_142)) (jq2 (b := 144) (jq1 (P := fun M => jkdl.getD M 0 = 0 ∨ jCW M) (Or.inr jcw_143)) (jq1 (P := fun M => jkdl.getD M 0 = 0 ∨ jCW M) (Or.inr jcw_144))))) (jq2 (b := 147) (jq2 (b := 146) (jq1 (P := fun M => jkdl.getD M 0 = 0 ∨ jCW M) (Or.inr jcw_145)) (jq1 (P := fun M => jkdl.getD M 0 = 0 ∨ jCW M) (Or.inr jcw_146))) (jq2 (b := 148) (jq1 (P := fun M => jkdl.getD M 0 = 0 ∨ jCW M) (Or.inr jcw_147)) (jq2 (b := 149) (jq1 (P := fun M => jkdl.getD M 0 = 0 ∨ jCW M) (Or.inr jcw_148)) (jq1 (P := fun M => jkdl.getD M 0 = 0 ∨ jCW M) (Or.inr jcw_149)))))) (jq2 (b := 155) (jq2 (b := 152) (jq2 (b := 151) (jq1 (P := fun M => jkdl.getD M 0 = 0 ∨ jCW M) (Or.inr jcw_150)) (jq1 (P := fun M => jkdl.getD M 0 = 0 ∨ jCW M) (Or.inr jcw_151))) (jq2 (b := 153) (jq1 (P := fun M => jkdl.getD M 0 = 0 ∨ jCW M) (Or.inr jcw_152)) (jq2 (b := 154) (jq1 (P := fun M => jkdl.getD M 0 = 0 ∨ jCW M) (Or.inr jcw_153)) (jq1 (P := fun M => jkdl.getD M 0 = 0 ∨ jCW M) (Or.inr jcw_154))))) (jq2 (b := 157) (jq2 (b := 156) (jq1 (P := fun M => jkdl.getD M 0 = 0 ∨ jCW M) (Or.inr jcw_155)) (jq1 (P := fun M => jkdl.getD M 0 = 0 ∨ jCW M) (Or.inr jcw_156))) (jq2 (b := 158) (jq1 (P := fun M => jkdl.getD M 0 = 0 ∨ jCW M) (Or.inr jcw_157)) (jq2 (b := 159) (jq1 (P := fun M => jkdl.getD M 0 = 0 ∨ jCW M) (Or.inr jcw_158)) (jq1 (P := fun M => jkdl.getD M 0 = 0 ∨ jCW M) (Or.inr jcw_159)))))))
theorem jqh_7 : ∀ M, 140 ≤ M → M < 160 → jQ M := fun M h1 h2 => (jqw_7 M h1 h2).elim (fun e => jQ0 e) (fun c => jQ_of c (by rw [← jwdf_eq]; exact List.all_eq_true.mp jqg_7 M (List.mem_range'_1.mpr ⟨h1, h2⟩)))
theorem jqg_8 : (List.range' 160 20).all (fun a => jQg jwdf a) = true := by decide +kernel
theorem jqw_8 : ∀ M, 160 ≤ M → M < 180 → (jkdl.getD M 0 = 0 ∨ jCW M) := (jq2 (b := 170) (jq2 (b := 165) (jq2 (b := 162) (jq2 (b := 161) (jq1 (P := fun M => jkdl.getD M 0 = 0 ∨ jCW M) (Or.inr jcw_160)) (jq1 (P := fun M => jkdl.getD M 0 = 0 ∨ jCW M) (Or.inr jcw_161))) (jq2 (b := 163) (jq1 (P := fun M => jkdl.getD M 0 = 0 ∨ jCW M) (Or.inr jcw_162)) (jq2 (b := 164) (jq1 (P := fun M => jkdl.getD M 0 = 0 ∨ jCW M) (Or.inr jcw_163)) (jq1 (P := fun M => jkdl.getD M 0 = 0 ∨ jCW M) (Or.inr jcw_164))))) (jq2 (b := 167) (jq2 (b := 166) (jq1 (P := fun M => jkdl.getD M 0 = 0 ∨ jCW M) (Or.inr jcw_165)) (jq1 (P := fun M => jkdl.getD M 0 = 0 ∨ jCW M) (Or.inr jcw_166))) (jq2 (b := 168) (jq1 (P := fun M => jkdl.getD M 0 = 0 ∨ jCW M) (Or.inr jcw_167)) (jq2 (b := 169) (jq1 (P := fun M => jkdl.getD M 0 = 0 ∨ jCW M) (Or.inr jcw_168)) (jq1 (P := fun M => jkdl.getD M 0 = 0 ∨ jCW M) (Or.inr jcw_169)))))) (jq2 (b := 175) (jq2 (b := 172) (jq2 (b := 171) (jq1 (P := fun M => jkdl.getD M 0 = 0 ∨ jCW M) (Or.inr jcw_170)) (jq1 (P := fun M => jkdl.getD M 0 = 0 ∨ jCW M) (Or.inr jcw_171))) (jq2 (b := 173) (jq1 (P := fun M => jkdl.getD M 0 = 0 ∨ jCW M) (Or.inr jcw_172)) (jq2 (b := 174) (jq1 (P := fun M => jkdl.getD M 0 = 0 ∨ jCW M) (Or.inr jcw_173)) (jq1 (P := fun M => jkdl.getD M 0 = 0 ∨ jCW M) (Or.inr jcw_174))))) (jq2 (b := 177) (jq2 (b := 176) (jq1 (P := fun M => jkdl.getD M 0 = 0 ∨ jCW M) (Or.inr jcw_175)) (jq1 (P := fun M => jkdl.getD M 0 = 0 ∨ jCW M) (Or.inr jcw_176))) (jq2 (b := 178) (jq1 (P := fun M => jkdl.getD M 0 = 0 ∨ jCW M) (Or.inr jcw_177)) (jq2 (b := 179) (jq1 (P := fun M => jkdl.getD M 0 = 0 ∨ jCW M) (Or.inr jcw_178)) (jq1 (P := fun M => jkdl.getD M 0 = 0 ∨ jCW M) (Or.inr jcw_179)))))))
theorem jqh_8 : ∀ M, 160 ≤ M → M < 180 → jQ M := fun M h1 h2 => (jqw_8 M h1 h2).elim (fun e => jQ0 e) (fun c => jQ_of c (by rw [← jwdf_eq]; exact List.all_eq_true.mp jqg_8 M (List.mem_range'_1.mpr ⟨h1, h2⟩)))
theorem jqg_9 : (List.range' 180 20).all (fun a => jQg jwdf a) = true := by decide +kernel
theorem jqw_9 : ∀ M, 180 ≤ M → M < 200 → (jkdl.getD M 0 = 0 ∨ jCW M) := (jq2 (b := 190) (jq2 (b := 185) (jq2 (b := 182) (jq2 (b := 181) (jq1 (P := fun M => jkdl.getD M 0 = 0 ∨ jCW M) (Or.inr jcw_180)) (jq1 (P := fun M => jkdl.getD M 0 = 0 ∨ jCW M) (Or.inr jcw_181))) (jq2 (b := 183) (jq1 (P := fun M => jkdl.getD M 0 = 0 ∨ jCW M) (Or.inr jcw_182)) (jq2 (b := 184) (jq1 (P := fun M => jkdl.getD M 0 = 0 ∨ jCW M) (Or.inr jcw_183)) (jq1 (P := fun M => jkdl.getD M 0 = 0 ∨ jCW M) (Or.inr jcw_184))))) (jq2 (b := 187) (jq2 (b := 186) (jq1 (P := fun M => jkdl.getD M 0 = 0 ∨ jCW M) (Or.inr jcw_185)) (jq1 (P := fun M => jkdl.getD M 0 = 0 ∨ jCW M) (Or.inr jcw_186))) (jq2 (b := 188) (jq1 (P := fun M => jkdl.getD M 0 = 0 ∨ jCW M) (Or.inr jcw_187)) (jq2 (b := 189) (jq1 (P := fun M => jkdl.getD M 0 = 0 ∨ jCW M) (Or.inr jcw_188)) (jq1 (P := fun M => jkdl.getD M 0 = 0 ∨ jCW M) (Or.inr jcw_189)))))) (jq2 (b := 195) (jq2 (b := 192) (jq2 (b := 191) (jq1 (P := fun M => jkdl.getD M 0 = 0 ∨ jCW M) (Or.inr jcw_190)) (jq1 (P := fun M => jkdl.getD M 0 = 0 ∨ jCW M) (Or.inr jcw_191))) (jq2 (b := 193) (jq1 (P := fun M => jkdl.getD M 0 = 0 ∨ jCW M) (Or.inr jcw_192)) (jq2 (b := 194) (jq1 (P := fun M => jkdl.getD M 0 = 0 ∨ jCW M) (Or.inr jcw_193)) (jq1 (P := fun M => jkdl.getD M 0 = 0 ∨ jCW M) (Or.inr jcw_194))))) (jq2 (b := 197) (jq2 (b := 196) (jq1 (P := fun M => jkdl.getD M 0 = 0 ∨ jCW M) (Or.inr jcw_195)) (jq1 (P := fun M => jkdl.getD M 0 = 0 ∨ jCW M) (Or.inr jcw_196))) (jq2 (b := 198) (jq1 (P := fun M => jkdl.getD M 0 = 0 ∨ jCW M) (Or.inr jcw_197)) (jq2 (b := 199) (jq1 (P := fun M => jkdl.getD M 0 = 0 ∨ jCW M) (Or.inr jcw_198)) (jq1 (P := fun M => jkdl.getD M 0 = 0 ∨ jCW M) (Or.inr jcw_199)))))))
theorem jqh_9 : ∀ M, 180 ≤ M → M < 200 → jQ M := fun M h1 h2 => (jqw_9 M h1 h2).elim (fun e => jQ0 e) (fun c => jQ_of c (by rw [← jwdf_eq]; exact List.all_eq_true.mp jqg_9 M (List.mem_range'_1.mpr ⟨h1, h2⟩)))
theorem jqg_10 : (List.range' 200 5).all (fun a => jQg jwdf a) = true := by decide +kernel
theorem jqw_10 : ∀ M, 200 ≤ M → M < 205 → (jkdl.getD M 0 = 0 ∨ jCW M) := (jq2 (b := 202) (jq2 (b := 201) (jq1 (P := fun M => jkdl.getD M 0 = 0 ∨ jCW M) (Or.inr jcw_200)) (jq1 (P := fun M => jkdl.getD M 0 = 0 ∨ jCW M) (Or.inr jcw_201))) (jq2 (b := 203) (jq1 (P := fun M => jkdl.getD M 0 = 0 ∨ jCW M) (Or.inr jcw_202)) (jq2 (b := 204) (jq1 (P := fun M => jkdl.getD M 0 = 0 ∨ jCW M) (Or.inr jcw_203)) (jq1 (P := fun M => jkdl.getD M 0 = 0 ∨ jCW M) (Or.inr jcw_204)))))
theorem jqh_10 : ∀ M, 200 ≤ M → M < 205 → jQ M := fun M h1 h2 => (jqw_10 M h1 h2).elim (fun e => jQ0 e) (fun c => jQ_of c (by rw [← jwdf_eq]; exact List.all_eq_true.mp jqg_10 M (List.mem_range'_1.mpr ⟨h1, h2⟩)))
theorem jQ_lt : ∀ M, 0 ≤ M → M < 205 → jQ M := (jq2 (b := 100) (jq2 (b := 40) (jq2 (b := 20) jqh_0 jqh_1) (jq2 (b := 60) jqh_2 (jq2 (b := 80) jqh_3 jqh_4))) (jq2 (b := 160) (jq2 (b := 120) jqh_5 (jq2 (b := 140) jqh_6 jqh_7)) (jq2 (b := 180) jqh_8 (jq2 (b := 200) jqh_9 jqh_10))))
theorem jQ_all (M : Nat) : jQ M := (Nat.lt_or_ge M 205).elim (fun h => jQ_lt M (Nat.zero_le _) h) (fun h => jQ0 (by rw [List.getD_eq_getElem?_getD, List.getElem?_eq_none (show jkdl.length ≤ M from h)]; rfl))
theorem jc3g_of {M pc op a b : Nat} {k : Int} {n : Nat} (h : jc3g jwd M pc op a b k n = true) : jchk3 M pc op a b k n = true := by
  obtain ⟨qS, qV, qI, qT⟩ := jQ_all a
  by_cases h38 : op = 38
  · subst h38
    have h : (jdc M pc (.invokestatic b) 3 n && jwd k.toNat (.methodLink (jown M) b (jget a).1) && jkS a) = true := h
    show (jdc M pc (.invokestatic b) 3 n && jwd k.toNat (.methodLink (jown M) b (jget a).1) && jmS a) = true
    rw [Bool.and_eq_true] at h ⊢
    exact ⟨h.1, qS h.2⟩
  by_cases h39 : op = 39
  · subst h39
    have h : (jdc M pc (.invokevirtual b) 3 n && jwd k.toNat (.methodLink (jown M) b (jget a).1) && jkV a) = true := h
    show (jdc M pc (.invokevirtual b) 3 n && jwd k.toNat (.methodLink (jown M) b (jget a).1) && jmV a) = true
    rw [Bool.and_eq_true] at h ⊢
    exact ⟨h.1, qV h.2⟩
  by_cases h40 : op = 40
  · subst h40
    have h : (jdc M pc (.invokespecial b) 3 n && jwd k.toNat (.methodLink (jown M) b (jget a).1) && jkI a) = true := h
    show (jdc M pc (.invokespecial b) 3 n && jwd k.toNat (.methodLink (jown M) b (jget a).1) && jmI a) = true
    rw [Bool.and_eq_true] at h ⊢
    exact ⟨h.1, qI h.2⟩
  by_cases h41 : op = 41
  · subst h41
    have h : (jdc M pc (.invokestatic b) 3 n && jwd k.toNat (.methodLinkNest (jown M) b (jget a).1 "RuleMill") && jkS a) = true := h
    show (jdc M pc (.invokestatic b) 3 n && jwd k.toNat (.methodLinkNest (jown M) b (jget a).1 "RuleMill") && jmS a) = true
    rw [Bool.and_eq_true] at h ⊢
    exact ⟨h.1, qS h.2⟩
  by_cases h42 : op = 42
  · subst h42
    have h : (jdc M pc (.invokevirtual b) 3 n && jwd k.toNat (.methodLinkNest (jown M) b (jget a).1 "RuleMill") && jkV a) = true := h
    show (jdc M pc (.invokevirtual b) 3 n && jwd k.toNat (.methodLinkNest (jown M) b (jget a).1 "RuleMill") && jmV a) = true
    rw [Bool.and_eq_true] at h ⊢
    exact ⟨h.1, qV h.2⟩
  by_cases h43 : op = 43
  · subst h43
    have h : (jdc M pc (.invokespecial b) 3 n && jwd k.toNat (.methodLinkNest (jown M) b (jget a).1 "RuleMill") && jkI a) = true := h
    show (jdc M pc (.invokespecial b) 3 n && jwd k.toNat (.methodLinkNest (jown M) b (jget a).1 "RuleMill") && jmI a) = true
    rw [Bool.and_eq_true] at h ⊢
    exact ⟨h.1, qI h.2⟩
  unfold jc3g at h
  unfold jchk3
  rw [if_neg h38, if_neg h39, if_neg h40, if_neg h41, if_neg h42, if_neg h43] at h ⊢
  exact h
theorem jc4g_of {M pc op a b : Nat} {k : Int} {n : Nat} (h : jc4g jwd M pc op a b k n = true) : jchk4 M pc op a b k n = true := by
  obtain ⟨qS, qV, qI, qT⟩ := jQ_all a
  by_cases h54 : op = 54
  · subst h54
    have h : (jdc M pc (.invokevirtual b) 3 n && jwd k.toNat (.methodLink (jown M) b (jget a).1) && jkT a) = true := h
    show (jdc M pc (.invokevirtual b) 3 n && jwd k.toNat (.methodLink (jown M) b (jget a).1) && jmT a) = true
    rw [Bool.and_eq_true] at h ⊢
    exact ⟨h.1, qT h.2⟩
  have e : jc4g jwd M pc op a b k n = jchk4 M pc op a b k n := by
    unfold jc4g jchk4
    rw [if_neg h54, if_neg h54]
  rw [← e]
  exact h
theorem jcg_of {M pc : Nat} {e : jE} (h : jcg jwd M pc e = true) : jchk M pc e = true := by
  unfold jcg at h
  unfold jchk
  split at h
  · rename_i h25
    rw [if_pos h25]
    exact h
  · rename_i h25
    rw [if_neg h25]
    split at h
    · rename_i h38
      rw [if_pos h38]
      exact h
    · rename_i h38
      rw [if_neg h38]
      split at h
      · rename_i h52
        rw [if_pos h52]
        exact jc3g_of h
      · rename_i h52
        rw [if_neg h52]
        exact jc4g_of h
theorem jcR_of {M i j : Nat} (h : jcRg jwdf M i j = true) : jcR M i j = true := by
  rw [jwdf_eq] at h
  unfold jcRg at h
  unfold jcR
  rw [List.all_eq_true] at h ⊢
  exact fun q hq => jcg_of (h q hq)
def jgrp (l : List (Nat × Nat × Nat)) : Bool := l.all (fun q => jcRg jwdf q.1 q.2.1 q.2.2)
theorem jgrp_of {l : List (Nat × Nat × Nat)} (h : jgrp l = true) {M i j : Nat} (hm : (M, i, j) ∈ l) : jcR M i j = true := jcR_of (List.all_eq_true.mp h (M, i, j) hm)
