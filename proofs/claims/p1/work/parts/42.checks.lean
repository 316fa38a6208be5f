/-! the checks, by evaluation -/
theorem ev_pl0 : ev_poolB vwCl ev_ov (ev_CN 0) ev_pt0 = true := by decide +kernel
theorem ev_lk0 : ev_linksB 0 = true := by decide +kernel
theorem ev_pl1 : ev_poolB vwCl ev_ov (ev_CN 1) ev_pt1 = true := by decide +kernel
theorem ev_lk1 : ev_linksB 1 = true := by decide +kernel
theorem ev_pl2 : ev_poolB vwCl ev_ov (ev_CN 2) ev_pt2 = true := by decide +kernel
theorem ev_lk2 : ev_linksB 2 = true := by decide +kernel
theorem ev_pl3 : ev_poolB vwCl ev_ov (ev_CN 3) ev_pt3 = true := by decide +kernel
theorem ev_lk3 : ev_linksB 3 = true := by decide +kernel
theorem ev_pl4 : ev_poolB vwCl ev_ov (ev_CN 4) ev_pt4 = true := by decide +kernel
theorem ev_lk4 : ev_linksB 4 = true := by decide +kernel
theorem ev_pl5 : ev_poolB vwCl ev_ov (ev_CN 5) ev_pt5 = true := by decide +kernel
theorem ev_lk5 : ev_linksB 5 = true := by decide +kernel
theorem ev_pl6 : ev_poolB vwCl ev_ov (ev_CN 6) ev_pt6 = true := by decide +kernel
theorem ev_lk6 : ev_linksB 6 = true := by decide +kernel
theorem ev_pl7 : ev_poolB vwCl ev_ov (ev_CN 7) ev_pt7 = true := by decide +kernel
theorem ev_lk7 : ev_linksB 7 = true := by decide +kernel
theorem ev_pl8 : ev_poolB vwCl ev_ov (ev_CN 8) ev_pt8 = true := by decide +kernel
theorem ev_lk8 : ev_linksB 8 = true := by decide +kernel
theorem ev_pl9 : ev_poolB vwCl ev_ov (ev_CN 9) ev_pt9 = true := by decide +kernel
theorem ev_lk9 : ev_linksB 9 = true := by decide +kernel
theorem ev_pl10 : ev_poolB vwCl ev_ov (ev_CN 10) ev_pt10 = true := by decide +kernel
theorem ev_lk10 : ev_linksB 10 = true := by decide +kernel
theorem ev_pl11 : ev_poolB vwCl ev_ov (ev_CN 11) ev_pt11 = true := by decide +kernel
theorem ev_lk11 : ev_linksB 11 = true := by decide +kernel
theorem ev_pl12 : ev_poolB vwCl ev_ov (ev_CN 12) ev_pt12 = true := by decide +kernel
theorem ev_lk12 : ev_linksB 12 = true := by decide +kernel
theorem ev_pl13 : ev_poolB vwCl ev_ov (ev_CN 13) ev_pt13 = true := by decide +kernel
theorem ev_lk13 : ev_linksB 13 = true := by decide +kernel
theorem ev_pl14 : ev_poolB vwCl ev_ov (ev_CN 14) ev_pt14 = true := by decide +kernel
theorem ev_lk14 : ev_linksB 14 = true := by decide +kernel
theorem ev_pl15 : ev_poolB vwCl ev_ov (ev_CN 15) ev_pt15 = true := by decide +kernel
theorem ev_lk15 : ev_linksB 15 = true := by decide +kernel
theorem ev_pl16 : ev_poolB vwCl ev_ov (ev_CN 16) ev_pt16 = true := by decide +kernel
theorem ev_lk16 : ev_linksB 16 = true := by decide +kernel
theorem ev_mc0 : ev_rc0.all ev_mB = true := by decide +kernel
theorem ev_mc1 : ev_rc1.all ev_mB = true := by decide +kernel
theorem ev_mc2 : ev_rc2.all ev_mB = true := by decide +kernel
theorem ev_mc3 : ev_rc3.all ev_mB = true := by decide +kernel
theorem ev_mc4 : ev_rc4.all ev_mB = true := by decide +kernel
theorem ev_mc5 : ev_rc5.all ev_mB = true := by decide +kernel
theorem ev_mc6 : ev_rc6.all ev_mB = true := by decide +kernel
theorem ev_mc7 : ev_rc7.all ev_mB = true := by decide +kernel
theorem ev_mc8 : ev_rc8.all ev_mB = true := by decide +kernel
theorem ev_mc9 : ev_rc9.all ev_mB = true := by decide +kernel
theorem ev_mc10 : ev_rc10.all ev_mB = true := by decide +kernel
theorem ev_mc11 : ev_rc11.all ev_mB = true := by decide +kernel
theorem ev_mc12 : ev_rc12.all ev_mB = true := by decide +kernel
theorem ev_mc13 : ev_rc13.all ev_mB = true := by decide +kernel
theorem ev_mc14 : ev_rc14.all ev_mB = true := by decide +kernel
theorem ev_mc15 : ev_rc15.all ev_mB = true := by decide +kernel
theorem ev_mc16 : ev_rc16.all ev_mB = true := by decide +kernel
theorem ev_mc17 : ev_rc17.all ev_mB = true := by decide +kernel
theorem ev_mc18 : ev_rc18.all ev_mB = true := by decide +kernel
theorem ev_mc19 : ev_rc19.all ev_mB = true := by decide +kernel
theorem ev_uw0 : ev_uB RX0 TX0 0 [2181, 2183, 2185, 2187, 2189, 2191, 2193, 2195, 2197, 2199, 2201, 2203, 2205, 2207, 2209] = true := by decide +kernel
theorem ev_uw1 : ev_uB RX1 TX1 0 [1085, 1087, 1089, 1091, 1093, 1095, 1097, 1099, 1101, 1103, 1105, 1107, 1109] = true := by decide +kernel
theorem ev_uw2 : ev_uB RX2 TX2 0 [1215, 1217, 1219, 1221, 1223, 1225, 1227, 1229, 1231, 1233] = true := by decide +kernel
theorem ev_uw3 : ev_uB RX3 TX3 0 [2232, 2234, 2236, 2238, 3000, 3002, 3004, 3006, 3008, 3010, 3012, 3014] = true := by decide +kernel
theorem ev_uw4 : ev_uB RX4 TX4 0 [1130, 1132, 1134, 1136, 1138, 1140, 1142, 1144, 1146] = true := by decide +kernel
theorem ev_uw5 : ev_uB RX5 TX5 0 [2105, 2107, 2109, 2111, 2113, 2115, 2117, 2119, 2121, 2123, 2125, 2127, 2129, 2131, 2133, 2135, 2137, 2139, 2141, 2143, 2145] = true := by decide +kernel
theorem ev_uw6 : ev_uB RX6 TX6 0 [2019, 2021, 2023, 2025, 2027, 2029] = true := by decide +kernel
theorem ev_uw7 : ev_uB RX7 TX7 0 [1166, 1168, 1170, 1172, 1174, 1176, 1178, 1180, 1182, 1184, 1186, 1188, 1190, 1192, 1194] = true := by decide +kernel
theorem ev_uw8 : ev_uB RX8 TX8 0 [3040, 3042, 3044, 3046, 3048, 3050, 3052, 3054, 3056, 3058, 3060, 3062, 3064, 3066, 3068] = true := by decide +kernel
theorem ev_uw9 : ev_uB RX9 TX9 0 [3145, 3147, 3149, 3151] = true := by decide +kernel
theorem ev_uw10 : ev_uB RX10 TX10 0 [1050, 1052] = true := by decide +kernel
theorem ev_uw11 : ev_uB RX11 TX11 0 [3094, 3096, 3098, 3100, 3102, 3104, 3106, 3108, 3110, 3112, 3114, 3116, 3118, 3120, 3122, 3124] = true := by decide +kernel
theorem ev_uw12 : ev_uB RX12 TX12 0 [3173, 3175, 3177, 3179, 3181, 3183, 3185, 3187, 3189, 3191, 3193, 3195, 3197, 3199, 3201, 3203, 3205, 3207, 3209] = true := by decide +kernel
theorem ev_uw13 : ev_uB RX13 TX13 0 [9059, 9061, 9063, 9065, 9067, 9069, 9071, 9073, 9075, 9077, 9079, 9081, 9083, 9085, 9087, 9089, 9091, 9093, 9095, 9097, 9099, 9101, 9103, 9105, 9107, 9109, 9111, 9113, 9115, 9117, 9119, 9121, 9123, 9125, 9127, 9129, 9131, 9133, 9135, 9137, 9139, 9141, 9143, 9145, 9147, 9149, 9151, 9153, 9155, 9157, 9159, 9161, 9163, 9165, 9167, 9169, 9171, 9173, 9175, 9177, 9179, 9181, 9183, 9185, 9187, 9189, 9191, 9193, 9195, 9197, 9199, 9201, 9203, 9205, 9207, 9209, 9211, 9213, 9215, 9217, 9219, 9221, 9223, 9225, 9227, 9229, 9231, 9233, 9235, 9237, 9239, 10001, 10003, 10005, 10007, 10009, 10011, 10013, 10015, 10017, 10019, 10021, 10023, 10025, 10027, 10029, 10031, 10033, 10035, 10037, 10039, 10041, 10043, 10045, 10047, 10049, 10051, 10053, 10055, 10057, 10059, 10061, 10063, 10065, 10067, 10069, 10071, 10073, 10075, 10077, 10079, 10081, 10083, 10085, 10087, 10089, 10091, 10093, 10095, 10097, 10099, 10101, 10103, 10105, 10107] = true := by decide +kernel
