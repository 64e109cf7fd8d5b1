/-! SOUNDNESS OF THE PURE MACHINE, part 6: every table, checked; every call -/
def xchk1 (y : xMi) (tb : xTb) : Bool := tb.all (fun row => row.all (fun q => xck y.1.cls y.2.2.2.1 y.2.1 y.2.2.1 q.1 q.2))
def xchk2 (y : xMi) (mt : xMt) (pl : List Nat) : Bool := (decide (mt.2.1 = y.2.2.1) && (decide (mt.2.2 = y.2.2.2.2.2) && (plainName y.1.cls && (xinq (xnd 0 pl 0) (Cond.code y.1 y.2.1 y.2.2.1 y.2.2.2.1) && (decide (y.1.cls ≠ "java/lang/invoke/MethodHandle" ∧ y.1.cls ≠ "java/lang/invoke/VarHandle") && (decide ((parseMethodDescriptor y.1.desc).map (fun d => d.parameters.length) = some (y.2.2.2.2.2 - (if y.2.2.2.2.1 then 0 else 1))) && (xinq (xnd 0 pl 1) (Cond.initialized y.1.cls) &&
  ((if y.2.2.2.2.1 then xinq (xnd 0 pl 2) (Cond.static y.1) else xinq (xnd 0 pl 2) (Cond.instanceMethod y.1) && xinq (xnd 0 pl 3) (Cond.selects y.1.cls y.1 y.1)) && decide (y.2.2.1 ≤ 40)))))))))
def xchk (y : xMi) (mt : xMt) (pl : List Nat) : Bool := xchk1 y mt.1 && xchk2 y mt pl
theorem xchk_mk {y : xMi} {mt : xMt} {pl : List Nat} (h1 : xchk1 y mt.1 = true) (h2 : xchk2 y mt pl = true) : xchk y mt pl = true := by
  rw [xchk, h1, h2]
  rfl
theorem xchk1_split {y : xMi} {tb : xTb} (k : Nat) (h1 : xchk1 y (tb.take k) = true) (h2 : xchk1 y (tb.drop k) = true) : xchk1 y tb = true := by
  unfold xchk1 at *
  rw [← List.take_append_drop k tb, List.all_append, h1, h2]
  rfl
def xpl : List (List Nat) := [[4053, 11, 4051, 4052], [4066, 11, 4064, 4065], [4056, 11, 4055], [4073, 11, 4072], [4070, 11, 4069, 7031], [4079, 11, 4078, 7032], [4083, 11, 4082, 7033], [3196, 10, 3194, 3195], [3208, 10, 3206, 3207], [3222, 10, 3220, 3221], [3212, 10, 3211, 7026], [3226, 10, 3225, 7027], [3203, 10, 3202], [1214, 4, 1212, 1213], [1218, 4, 1216, 1217], [2110, 4, 2108, 2109], [2143, 7, 2141, 2142], [3162, 7, 3160, 3161], [2147, 7, 2146, 7007], [2166, 7, 2165, 7008], [2176, 7, 2174, 2175], [3127, 6, 3125, 3126], [3057, 6, 3055, 3056], [3069, 6, 3067, 3068], [3112, 6, 3110, 3111], [3108, 6, 3107], [3131, 6, 3129, 3130], [3140, 6, 3139], [3134, 6, 3133], [3152, 6, 3150, 3151], [3116, 6, 3114, 3115], [1167, 3, 1165, 1166], [1189, 3, 1187, 1188], [1198, 3, 1196, 1197], [1202, 3, 1200, 1201], [2008, 3, 2006, 2007], [1148, 3, 1146, 1147], [1185, 3, 1183, 1184], [1226, 3, 1224, 1225], [2027, 3, 2026], [2024, 3, 2023], [2031, 3, 2029, 2030], [2043, 3, 2041, 2042], [2020, 3, 2018, 2019], [2039, 3, 2037, 2038], [4103, 3, 4101, 4102], [2069, 8, 2067, 2068], [2091, 8, 2090, 7006], [2074, 8, 2073, 7003], [2077, 8, 2076], [2085, 8, 2084, 7005], [2081, 8, 2080, 7004], [2100, 8, 2098, 2099], [1100, 5, 1098, 1099], [1092, 5, 1090, 1091], [2000, 5, 1238, 1239], [1096, 5, 1094, 1095], [2186, 5, 2184, 2185], [3200, 5, 3198, 3199], [3171, 5, 3169, 3170], [4011, 12, 4009, 4010], [1179, 12, 1177, 1178], [1175, 12, 1173, 1174], [4021, 12, 4019, 4020], [1163, 12, 1161, 1162], [1171, 12, 1169, 1170], [2210, 9, 2208, 2209], [2218, 9, 2216, 2217], [2222, 9, 2221, 7010], [3046, 9, 3045, 7013], [2226, 9, 2225, 7011], [2229, 9, 2228], [3049, 9, 3048], [3053, 9, 3052, 7014], [2233, 9, 2232, 7012], [3061, 9, 3060, 7015], [3065, 9, 3064, 7016], [3077, 9, 3076, 7018], [3081, 9, 3080, 7019], [3085, 9, 3084, 7020], [3093, 9, 3092, 7022], [3097, 9, 3096, 7023], [3101, 9, 3100, 7024], [3105, 9, 3104, 7025], [3073, 9, 3072, 7017], [3089, 9, 3088, 7021], [4099, 2, 4097, 4098], [1235, 2, 1233, 1234], [1231, 2, 1229, 1230], [2122, 2, 2120, 2121], [2157, 2, 2155, 2156], [2153, 2, 2151, 2152], [2162, 2, 2160, 2161], [3148, 2, 3146, 3147], [1141, 1, 1139, 1140], [1155, 1, 1153, 1154], [1193, 1, 1191, 1192], [1206, 1, 1204, 1205], [1210, 1, 1209, 7001], [1222, 1, 1220, 1221], [2004, 1, 2002, 2003], [2012, 1, 2010, 2011], [2016, 1, 2015, 7002], [2051, 1, 2049, 2050], [2055, 1, 2053, 2054], [2059, 1, 2057, 2058], [2065, 1, 2063, 2064], [2106, 1, 2104, 2105], [2114, 1, 2112, 2113], [2118, 1, 2116, 2117], [2127, 1, 2125, 2126], [2131, 1, 2129, 2130], [2135, 1, 2133, 2134], [2139, 1, 2137, 2138], [2182, 1, 2180, 2181], [2194, 1, 2192, 2193], [2198, 1, 2197, 7009], [2202, 1, 2200, 2201], [2206, 1, 2204, 2205], [2214, 1, 2212, 2213], [3123, 1, 3121, 3122], [3144, 1, 3142, 3143], [3158, 1, 3156, 3157], [3167, 1, 3165, 3166], [3176, 1, 3174, 3175], [3180, 1, 3178, 3179], [3184, 1, 3182, 3183], [3188, 1, 3186, 3187], [3192, 1, 3190, 3191], [3218, 1, 3216, 3217], [3230, 1, 3228, 3229], [3234, 1, 3232, 3233], [3239, 1, 3237, 3238], [4003, 1, 4001, 4002], [4007, 1, 4005, 4006], [4016, 1, 4014, 4015], [4025, 1, 4023, 4024], [4029, 1, 4027, 4028], [4033, 1, 4031, 4032], [4041, 1, 4040, 7029], [4037, 1, 4036, 7028], [4049, 1, 4048, 7030], [4045, 1, 4043, 4044], [4062, 1, 4060, 4061], [4087, 1, 4085, 4086], [4091, 1, 4089, 4090], [4095, 1, 4093, 4094], [4111, 1, 4109, 4110], [1144, 1, 1143], [1159, 1, 1158, 7000], [2190, 1, 2189], [5034, 13, 5033], [5135, 13, 5134, 7046], [5061, 13, 5060, 7036], [5045, 13, 5044, 7034], [5053, 13, 5052, 7035], [5096, 13, 5095], [5031, 13, 5029, 5030], [5038, 13, 5036, 5037], [5049, 13, 5047, 5048], [5057, 13, 5055, 5056], [5065, 13, 5063, 5064], [5089, 13, 5087, 5088], [5069, 13, 5068, 7037], [5073, 13, 5072, 7038], [5110, 13, 5109], [5107, 13, 5106], [5114, 13, 5113, 7044], [5104, 13, 5103, 7043], [5118, 13, 5117, 7045], [5081, 13, 5080, 7040], [5085, 13, 5084, 7041], [5077, 13, 5076, 7039], [5100, 13, 5099, 7042], [5093, 13, 5091, 5092], [5123, 13, 5121, 5122], [5127, 13, 5125, 5126], [5131, 13, 5129, 5130], [5147, 13, 5146, 7048], [5143, 13, 5142, 7047], [5151, 13, 5150, 7049], [5139, 13, 5137, 5138], [5159, 13, 5158, 7050], [5155, 13, 5153, 5154], [5167, 13, 5166, 7051], [5163, 13, 5161, 5162], [5175, 13, 5174, 7052], [5171, 13, 5169, 5170], [5179, 13, 5177, 5178], [5187, 13, 5186, 7053], [5183, 13, 5181, 5182], [5191, 13, 5189, 5190], [5211, 13, 5210, 7057], [5215, 13, 5214, 7058], [5207, 13, 5206, 7056], [5203, 13, 5202, 7055], [5199, 13, 5198, 7054], [5220, 13, 5219, 7059], [5195, 13, 5193, 5194], [5234, 13, 5233], [5231, 13, 5230], [5228, 13, 5227, 7060], [5224, 13, 5222, 5223], [6002, 13, 6001, 7061], [5238, 13, 5236, 5237], [6006, 13, 6004, 6005], [6010, 13, 6008, 6009], [6023, 13, 6022, 7063], [6019, 13, 6018, 7062], [6031, 13, 6030, 7065], [6027, 13, 6026, 7064], [6055, 13, 6054, 7070], [6037, 13, 6036, 7066], [6063, 13, 6062, 7072], [6042, 13, 6041, 7067], [6046, 13, 6045, 7068], [6059, 13, 6058, 7071], [6050, 13, 6049, 7069], [6015, 13, 6013, 6014], [6077, 13, 6076, 7074], [6073, 13, 6072, 7073], [6069, 13, 6067, 6068], [6089, 13, 6088, 7076], [6085, 13, 6084, 7075], [6081, 13, 6079, 6080], [6093, 13, 6091, 6092], [6097, 13, 6095, 6096], [6101, 13, 6099, 6100], [6105, 13, 6103, 6104], [6109, 13, 6107, 6108], [6113, 13, 6111, 6112], [6125, 13, 6124, 7078], [6121, 13, 6120, 7077], [6133, 13, 6132, 7079], [6117, 13, 6115, 6116], [6129, 13, 6127, 6128], [6137, 13, 6135, 6136], [6141, 13, 6139, 6140], [6145, 13, 6143, 6144], [6149, 13, 6147, 6148], [5041, 13, 5040], [6153, 13, 6151, 6152], [6157, 13, 6155, 6156], [6165, 13, 6164, 7080], [6161, 13, 6159, 6160], [6169, 13, 6167, 6168], [6173, 13, 6171, 6172], [6181, 13, 6180, 7081], [6184, 13, 6183], [6177, 13, 6175, 6176], [6207, 13, 6206, 7085], [6199, 13, 6198], [6192, 13, 6191, 7082], [6196, 13, 6195, 7083], [6203, 13, 6202, 7084], [6188, 13, 6186, 6187], [6211, 13, 6209, 6210], [6215, 13, 6213, 6214], [6219, 13, 6217, 6218], [6223, 13, 6221, 6222], [2238, 16, 2236, 2237], [3008, 16, 3006, 3007], [3002, 16, 3000, 3001], [3012, 16, 3010, 3011], [3018, 16, 3017], [3015, 17, 3014], [1151, 14, 1150], [3023, 18, 3022]]
theorem xk_0 : xchk (yX0_isUnder, cX0_isUnder, 5, some .boolean, false, 3) (tb_X0_isUnder, 5, 3) [4053, 11, 4051, 4052] = true := by decide +kernel
theorem xk_1 : xchk (yX0_answer, cX0_answer, 7, some .int, false, 6) (tb_X0_answer, 7, 6) [4066, 11, 4064, 4065] = true := by decide +kernel
theorem xk_2 : xchk (yX0_above, cX0_above, 1, some .int, true, 1) (tb_X0_above, 1, 1) [4056, 11, 4055] = true := by decide +kernel
theorem xk_3 : xchk (yX0_body, cX0_body, 2, some .int, true, 2) (tb_X0_body, 2, 2) [4073, 11, 4072] = true := by decide +kernel
theorem xk_4 : xchk (yX0_asked, cX0_asked, 7, some .int, false, 5) (tb_X0_asked, 7, 5) [4070, 11, 4069, 7031] = true := by decide +kernel
theorem xk_5_0 : xchk1 (yX0_run, cX0_run, 4, some .int, false, 4) ((tb_X0_run.drop 0).take 2) = true := by decide +kernel
theorem xk_5_2 : xchk1 (yX0_run, cX0_run, 4, some .int, false, 4) ((tb_X0_run.drop 2).take 2) = true := by decide +kernel
theorem xk_5_4 : xchk1 (yX0_run, cX0_run, 4, some .int, false, 4) ((tb_X0_run.drop 4).take 2) = true := by decide +kernel
theorem xk_5_6 : xchk1 (yX0_run, cX0_run, 4, some .int, false, 4) ((tb_X0_run.drop 6).take 2) = true := by decide +kernel
theorem xk_5_8 : xchk1 (yX0_run, cX0_run, 4, some .int, false, 4) ((tb_X0_run.drop 8).take 2) = true := by decide +kernel
theorem xk_5_10 : xchk1 (yX0_run, cX0_run, 4, some .int, false, 4) ((tb_X0_run.drop 10).take 2) = true := by decide +kernel
theorem xk_5_12 : xchk1 (yX0_run, cX0_run, 4, some .int, false, 4) ((tb_X0_run.drop 12).take 2) = true := by decide +kernel
theorem xk_5_14 : xchk1 (yX0_run, cX0_run, 4, some .int, false, 4) ((tb_X0_run.drop 14).take 2) = true := by decide +kernel
theorem xk_5_16 : xchk1 (yX0_run, cX0_run, 4, some .int, false, 4) ((tb_X0_run.drop 16).take 2) = true := by decide +kernel
theorem xk_5_18 : xchk1 (yX0_run, cX0_run, 4, some .int, false, 4) ((tb_X0_run.drop 18).take 2) = true := by decide +kernel
theorem xk_5_20 : xchk1 (yX0_run, cX0_run, 4, some .int, false, 4) ((tb_X0_run.drop 20).take 2) = true := by decide +kernel
theorem xk_5_22 : xchk1 (yX0_run, cX0_run, 4, some .int, false, 4) ((tb_X0_run.drop 22).take 2) = true := by decide +kernel
theorem xk_5_24 : xchk1 (yX0_run, cX0_run, 4, some .int, false, 4) ((tb_X0_run.drop 24).take 2) = true := by decide +kernel
theorem xk_5_26 : xchk1 (yX0_run, cX0_run, 4, some .int, false, 4) ((tb_X0_run.drop 26).take 2) = true := by decide +kernel
theorem xk_5_28 : xchk1 (yX0_run, cX0_run, 4, some .int, false, 4) ((tb_X0_run.drop 28).take 2) = true := by decide +kernel
theorem xk_5_30 : xchk1 (yX0_run, cX0_run, 4, some .int, false, 4) ((tb_X0_run.drop 30).take 2) = true := by decide +kernel
theorem xk_5_32 : xchk1 (yX0_run, cX0_run, 4, some .int, false, 4) ((tb_X0_run.drop 32).take 2) = true := by decide +kernel
theorem xk_5 : xchk (yX0_run, cX0_run, 4, some .int, false, 4) (tb_X0_run, 4, 4) [4079, 11, 4078, 7032] = true := xchk_mk (xchk1_split 2 xk_5_0 (xchk1_split 2 xk_5_2 (by rw [List.drop_drop]; exact (xchk1_split 2 xk_5_4 (by rw [List.drop_drop]; exact (xchk1_split 2 xk_5_6 (by rw [List.drop_drop]; exact (xchk1_split 2 xk_5_8 (by rw [List.drop_drop]; exact (xchk1_split 2 xk_5_10 (by rw [List.drop_drop]; exact (xchk1_split 2 xk_5_12 (by rw [List.drop_drop]; exact (xchk1_split 2 xk_5_14 (by rw [List.drop_drop]; exact (xchk1_split 2 xk_5_16 (by rw [List.drop_drop]; exact (xchk1_split 2 xk_5_18 (by rw [List.drop_drop]; exact (xchk1_split 2 xk_5_20 (by rw [List.drop_drop]; exact (xchk1_split 2 xk_5_22 (by rw [List.drop_drop]; exact (xchk1_split 2 xk_5_24 (by rw [List.drop_drop]; exact (xchk1_split 2 xk_5_26 (by rw [List.drop_drop]; exact (xchk1_split 2 xk_5_28 (by rw [List.drop_drop]; exact (xchk1_split 2 xk_5_30 (by rw [List.drop_drop]; exact (by have e := xk_5_32; rwa [List.take_of_length_le (by decide +kernel)] at e)))))))))))))))))))))))))))))))) (by decide +kernel)
theorem xk_6 : xchk (yX0_quotient, cX0_quotient, 3, some .int, false, 3) (tb_X0_quotient, 3, 3) [4083, 11, 4082, 7033] = true := by decide +kernel
theorem xk_7 : xchk (yX1_asItStands, cX1_asItStands, 5, some .int, false, 2) (tb_X1_asItStands, 5, 2) [3196, 10, 3194, 3195] = true := by decide +kernel
theorem xk_8 : xchk (yX1_greatest, cX1_greatest, 2, some .int, false, 2) (tb_X1_greatest, 2, 2) [3208, 10, 3206, 3207] = true := by decide +kernel
theorem xk_9 : xchk (yX1_inOrder, cX1_inOrder, 6, some .int, false, 3) (tb_X1_inOrder, 6, 3) [3222, 10, 3220, 3221] = true := by decide +kernel
theorem xk_10_0 : xchk1 (yX1_weigh, cX1_weigh, 7, none, false, 2) ((tb_X1_weigh.drop 0).take 3) = true := by decide +kernel
theorem xk_10_3 : xchk1 (yX1_weigh, cX1_weigh, 7, none, false, 2) ((tb_X1_weigh.drop 3).take 3) = true := by decide +kernel
theorem xk_10_6 : xchk1 (yX1_weigh, cX1_weigh, 7, none, false, 2) ((tb_X1_weigh.drop 6).take 3) = true := by decide +kernel
theorem xk_10 : xchk (yX1_weigh, cX1_weigh, 7, none, false, 2) (tb_X1_weigh, 7, 2) [3212, 10, 3211, 7026] = true := xchk_mk (xchk1_split 3 xk_10_0 (xchk1_split 3 xk_10_3 (by rw [List.drop_drop]; exact (by have e := xk_10_6; rwa [List.take_of_length_le (by decide +kernel)] at e)))) (by decide +kernel)
theorem xk_11 : xchk (yX1_firstBest, cX1_firstBest, 5, some .int, false, 3) (tb_X1_firstBest, 5, 3) [3226, 10, 3225, 7027] = true := by decide +kernel
theorem xk_12 : xchk (yX1_counting, cX1_counting, 3, some .int, true, 3) (tb_X1_counting, 3, 3) [3203, 10, 3202] = true := by decide +kernel
theorem xk_13 : xchk (yX2_told, cX2_told, 2, some .int, false, 2) (tb_X2_told, 2, 2) [1214, 4, 1212, 1213] = true := by decide +kernel
theorem xk_14 : xchk (yX2_become, cX2_become, 3, none, false, 3) (tb_X2_become, 3, 3) [1218, 4, 1216, 1217] = true := by decide +kernel
theorem xk_15 : xchk (yX2_become_, cX2_become_, 2, none, false, 2) (tb_X2_become_, 2, 2) [2110, 4, 2108, 2109] = true := by decide +kernel
theorem xk_16 : xchk (yX3_byPlan, cX3_byPlan, 6, none, false, 4) (tb_X3_byPlan, 6, 4) [2143, 7, 2141, 2142] = true := by decide +kernel
theorem xk_17 : xchk (yX3_byHands, cX3_byHands, 4, none, false, 2) (tb_X3_byHands, 4, 2) [3162, 7, 3160, 3161] = true := by decide +kernel
theorem xk_18 : xchk (yX3_begin, cX3_begin, 2, none, false, 2) (tb_X3_begin, 2, 2) [2147, 7, 2146, 7007] = true := by decide +kernel
theorem xk_19 : xchk (yX3_go, cX3_go, 5, none, false, 4) (tb_X3_go, 5, 4) [2166, 7, 2165, 7008] = true := by decide +kernel
theorem xk_20 : xchk (yX3_told, cX3_told, 5, some .int, false, 3) (tb_X3_told, 5, 3) [2176, 7, 2174, 2175] = true := by decide +kernel
theorem xk_21 : xchk (yX4_has, cX4_has, 2, some .boolean, false, 2) (tb_X4_has, 2, 2) [3127, 6, 3125, 3126] = true := by decide +kernel
theorem xk_22 : xchk (yX4_begin, cX4_begin, 1, none, false, 1) (tb_X4_begin, 1, 1) [3057, 6, 3055, 3056] = true := by decide +kernel
theorem xk_23 : xchk (yX4_open, cX4_open, 2, none, false, 2) (tb_X4_open, 2, 2) [3069, 6, 3067, 3068] = true := by decide +kernel
theorem xk_24 : xchk (yX4_add, cX4_add, 3, none, false, 2) (tb_X4_add, 3, 2) [3112, 6, 3110, 3111] = true := by decide +kernel
theorem xk_25 : xchk (yX4_coded, cX4_coded, 3, some .int, true, 3) (tb_X4_coded, 3, 3) [3108, 6, 3107] = true := by decide +kernel
theorem xk_26_0 : xchk1 (yX4_holds, cX4_holds, 10, some .boolean, false, 4) ((tb_X4_holds.drop 0).take 3) = true := by decide +kernel
theorem xk_26_3 : xchk1 (yX4_holds, cX4_holds, 10, some .boolean, false, 4) ((tb_X4_holds.drop 3).take 3) = true := by decide +kernel
theorem xk_26_6 : xchk1 (yX4_holds, cX4_holds, 10, some .boolean, false, 4) ((tb_X4_holds.drop 6).take 3) = true := by decide +kernel
theorem xk_26_9 : xchk1 (yX4_holds, cX4_holds, 10, some .boolean, false, 4) ((tb_X4_holds.drop 9).take 3) = true := by decide +kernel
theorem xk_26_12 : xchk1 (yX4_holds, cX4_holds, 10, some .boolean, false, 4) ((tb_X4_holds.drop 12).take 3) = true := by decide +kernel
theorem xk_26 : xchk (yX4_holds, cX4_holds, 10, some .boolean, false, 4) (tb_X4_holds, 10, 4) [3131, 6, 3129, 3130] = true := xchk_mk (xchk1_split 3 xk_26_0 (xchk1_split 3 xk_26_3 (by rw [List.drop_drop]; exact (xchk1_split 3 xk_26_6 (by rw [List.drop_drop]; exact (xchk1_split 3 xk_26_9 (by rw [List.drop_drop]; exact (by have e := xk_26_12; rwa [List.take_of_length_le (by decide +kernel)] at e)))))))) (by decide +kernel)
theorem xk_27 : xchk (yX4_compared, cX4_compared, 3, some .int, true, 3) (tb_X4_compared, 3, 3) [3140, 6, 3139] = true := by decide +kernel
theorem xk_28 : xchk (yX4_value, cX4_value, 3, some .int, true, 3) (tb_X4_value, 3, 3) [3134, 6, 3133] = true := by decide +kernel
theorem xk_29 : xchk (yX4_chosen, cX4_chosen, 6, some .int, false, 4) (tb_X4_chosen, 6, 4) [3152, 6, 3150, 3151] = true := by decide +kernel
theorem xk_30 : xchk (yX4_become, cX4_become, 2, none, false, 2) (tb_X4_become, 2, 2) [3116, 6, 3114, 3115] = true := by decide +kernel
theorem xk_31 : xchk (yX5_cells, cX5_cells, 1, some .int, false, 1) (tb_X5_cells, 1, 1) [1167, 3, 1165, 1166] = true := by decide +kernel
theorem xk_32 : xchk (yX5_has, cX5_has, 2, some .boolean, false, 2) (tb_X5_has, 2, 2) [1189, 3, 1187, 1188] = true := by decide +kernel
theorem xk_33 : xchk (yX5_groundOf, cX5_groundOf, 2, some .int, false, 2) (tb_X5_groundOf, 2, 2) [1198, 3, 1196, 1197] = true := by decide +kernel
theorem xk_34 : xchk (yX5_housesOf, cX5_housesOf, 2, some .int, false, 2) (tb_X5_housesOf, 2, 2) [1202, 3, 1200, 1201] = true := by decide +kernel
theorem xk_35 : xchk (yX5_tableOf, cX5_tableOf, 2, some .int, false, 2) (tb_X5_tableOf, 2, 2) [2008, 3, 2006, 2007] = true := by decide +kernel
theorem xk_36 : xchk (yX5_flatten, cX5_flatten, 3, none, false, 3) (tb_X5_flatten, 3, 3) [1148, 3, 1146, 1147] = true := by decide +kernel
theorem xk_37 : xchk (yX5_lie, cX5_lie, 4, none, false, 4) (tb_X5_lie, 4, 4) [1185, 3, 1183, 1184] = true := by decide +kernel
theorem xk_38 : xchk (yX5_isDown, cX5_isDown, 2, some .boolean, false, 2) (tb_X5_isDown, 2, 2) [1226, 3, 1224, 1225] = true := by decide +kernel
theorem xk_39 : xchk (yX5_headingBehind, cX5_headingBehind, 2, some .int, true, 2) (tb_X5_headingBehind, 2, 2) [2027, 3, 2026] = true := by decide +kernel
theorem xk_40 : xchk (yX5_speedBehind, cX5_speedBehind, 2, some .int, true, 2) (tb_X5_speedBehind, 2, 2) [2024, 3, 2023] = true := by decide +kernel
theorem xk_41_0 : xchk1 (yX5_ahead, cX5_ahead, 8, some .int, false, 4) ((tb_X5_ahead.drop 0).take 3) = true := by decide +kernel
theorem xk_41_3 : xchk1 (yX5_ahead, cX5_ahead, 8, some .int, false, 4) ((tb_X5_ahead.drop 3).take 3) = true := by decide +kernel
theorem xk_41_6 : xchk1 (yX5_ahead, cX5_ahead, 8, some .int, false, 4) ((tb_X5_ahead.drop 6).take 3) = true := by decide +kernel
theorem xk_41 : xchk (yX5_ahead, cX5_ahead, 8, some .int, false, 4) (tb_X5_ahead, 8, 4) [2031, 3, 2029, 2030] = true := xchk_mk (xchk1_split 3 xk_41_0 (xchk1_split 3 xk_41_3 (by rw [List.drop_drop]; exact (by have e := xk_41_6; rwa [List.take_of_length_le (by decide +kernel)] at e)))) (by decide +kernel)
theorem xk_42 : xchk (yX5_loss, cX5_loss, 5, some .int, false, 4) (tb_X5_loss, 5, 4) [2043, 3, 2041, 2042] = true := by decide +kernel
theorem xk_43 : xchk (yX5_mayBe, cX5_mayBe, 4, some .boolean, false, 3) (tb_X5_mayBe, 4, 3) [2020, 3, 2018, 2019] = true := by decide +kernel
theorem xk_44 : xchk (yX5_move, cX5_move, 3, none, false, 3) (tb_X5_move, 3, 3) [2039, 3, 2037, 2038] = true := by decide +kernel
theorem xk_45 : xchk (yX5_become, cX5_become, 2, none, false, 2) (tb_X5_become, 2, 2) [4103, 3, 4101, 4102] = true := by decide +kernel
theorem xk_46_0 : xchk1 (yX6_search, cX6_search, 8, none, false, 4) ((tb_X6_search.drop 0).take 3) = true := by decide +kernel
theorem xk_46_3 : xchk1 (yX6_search, cX6_search, 8, none, false, 4) ((tb_X6_search.drop 3).take 3) = true := by decide +kernel
theorem xk_46_6 : xchk1 (yX6_search, cX6_search, 8, none, false, 4) ((tb_X6_search.drop 6).take 3) = true := by decide +kernel
theorem xk_46_9 : xchk1 (yX6_search, cX6_search, 8, none, false, 4) ((tb_X6_search.drop 9).take 3) = true := by decide +kernel
theorem xk_46 : xchk (yX6_search, cX6_search, 8, none, false, 4) (tb_X6_search, 8, 4) [2069, 8, 2067, 2068] = true := xchk_mk (xchk1_split 3 xk_46_0 (xchk1_split 3 xk_46_3 (by rw [List.drop_drop]; exact (xchk1_split 3 xk_46_6 (by rw [List.drop_drop]; exact (by have e := xk_46_9; rwa [List.take_of_length_le (by decide +kernel)] at e)))))) (by decide +kernel)
theorem xk_47_0 : xchk1 (yX6_spread, cX6_spread, 12, none, false, 4) ((tb_X6_spread.drop 0).take 3) = true := by decide +kernel
theorem xk_47_3 : xchk1 (yX6_spread, cX6_spread, 12, none, false, 4) ((tb_X6_spread.drop 3).take 3) = true := by decide +kernel
theorem xk_47_6 : xchk1 (yX6_spread, cX6_spread, 12, none, false, 4) ((tb_X6_spread.drop 6).take 3) = true := by decide +kernel
theorem xk_47 : xchk (yX6_spread, cX6_spread, 12, none, false, 4) (tb_X6_spread, 12, 4) [2091, 8, 2090, 7006] = true := xchk_mk (xchk1_split 3 xk_47_0 (xchk1_split 3 xk_47_3 (by rw [List.drop_drop]; exact (by have e := xk_47_6; rwa [List.take_of_length_le (by decide +kernel)] at e)))) (by decide +kernel)
theorem xk_48 : xchk (yX6_offer, cX6_offer, 6, none, false, 5) (tb_X6_offer, 6, 5) [2074, 8, 2073, 7003] = true := by decide +kernel
theorem xk_49 : xchk (yX6_placeOf, cX6_placeOf, 3, some .int, true, 3) (tb_X6_placeOf, 3, 3) [2077, 8, 2076] = true := by decide +kernel
theorem xk_50 : xchk (yX6_chain, cX6_chain, 4, none, false, 3) (tb_X6_chain, 4, 3) [2085, 8, 2084, 7005] = true := by decide +kernel
theorem xk_51 : xchk (yX6_unchain, cX6_unchain, 5, none, false, 3) (tb_X6_unchain, 5, 3) [2081, 8, 2080, 7004] = true := by decide +kernel
theorem xk_52 : xchk (yX6_greatest, cX6_greatest, 8, some .int, false, 3) (tb_X6_greatest, 8, 3) [2100, 8, 2098, 2099] = true := by decide +kernel
theorem xk_53 : xchk (yX7_has, cX7_has, 2, some .boolean, false, 2) (tb_X7_has, 2, 2) [1100, 5, 1098, 1099] = true := by decide +kernel
theorem xk_54 : xchk (yX7_opened, cX7_opened, 1, some .int, false, 1) (tb_X7_opened, 1, 1) [1092, 5, 1090, 1091] = true := by decide +kernel
theorem xk_55 : xchk (yX7_number, cX7_number, 3, some .int, false, 3) (tb_X7_number, 3, 3) [2000, 5, 1238, 1239] = true := by decide +kernel
theorem xk_56 : xchk (yX7_become, cX7_become, 4, none, false, 4) (tb_X7_become, 4, 4) [1096, 5, 1094, 1095] = true := by decide +kernel
theorem xk_57 : xchk (yX7_sum, cX7_sum, 4, some .int, false, 2) (tb_X7_sum, 4, 2) [2186, 5, 2184, 2185] = true := by decide +kernel
theorem xk_58 : xchk (yX7_sumOfSet, cX7_sumOfSet, 5, some .int, false, 3) (tb_X7_sumOfSet, 5, 3) [3200, 5, 3198, 3199] = true := by decide +kernel
theorem xk_59 : xchk (yX7_become_, cX7_become_, 2, none, false, 2) (tb_X7_become_, 2, 2) [3171, 5, 3169, 3170] = true := by decide +kernel
theorem xk_60 : xchk (yX8_renew, cX8_renew, 3, none, false, 3) (tb_X8_renew, 3, 3) [4011, 12, 4009, 4010] = true := by decide +kernel
theorem xk_61 : xchk (yX8_has, cX8_has, 2, some .boolean, false, 2) (tb_X8_has, 2, 2) [1179, 12, 1177, 1178] = true := by decide +kernel
theorem xk_62 : xchk (yX8_number, cX8_number, 2, some .int, false, 2) (tb_X8_number, 2, 2) [1175, 12, 1173, 1174] = true := by decide +kernel
theorem xk_63 : xchk (yX8_take, cX8_take, 3, none, false, 3) (tb_X8_take, 3, 3) [4021, 12, 4019, 4020] = true := by decide +kernel
theorem xk_64 : xchk (yX8_refusal, cX8_refusal, 2, some .int, false, 2) (tb_X8_refusal, 2, 2) [1163, 12, 1161, 1162] = true := by decide +kernel
theorem xk_65 : xchk (yX8_isAllWithin, cX8_isAllWithin, 4, some .boolean, false, 3) (tb_X8_isAllWithin, 4, 3) [1171, 12, 1169, 1170] = true := by decide +kernel
theorem xk_66 : xchk (yX9_isAdded, cX9_isAdded, 5, some .boolean, false, 3) (tb_X9_isAdded, 5, 3) [2210, 9, 2208, 2209] = true := by decide +kernel
theorem xk_67 : xchk (yX9_fault, cX9_fault, 3, some .int, false, 1) (tb_X9_fault, 3, 1) [2218, 9, 2216, 2217] = true := by decide +kernel
theorem xk_68_0 : xchk1 (yX9_split, cX9_split, 6, none, false, 1) ((tb_X9_split.drop 0).take 3) = true := by decide +kernel
theorem xk_68_3 : xchk1 (yX9_split, cX9_split, 6, none, false, 1) ((tb_X9_split.drop 3).take 3) = true := by decide +kernel
theorem xk_68_6 : xchk1 (yX9_split, cX9_split, 6, none, false, 1) ((tb_X9_split.drop 6).take 3) = true := by decide +kernel
theorem xk_68_9 : xchk1 (yX9_split, cX9_split, 6, none, false, 1) ((tb_X9_split.drop 9).take 3) = true := by decide +kernel
theorem xk_68 : xchk (yX9_split, cX9_split, 6, none, false, 1) (tb_X9_split, 6, 1) [2222, 9, 2221, 7010] = true := xchk_mk (xchk1_split 3 xk_68_0 (xchk1_split 3 xk_68_3 (by rw [List.drop_drop]; exact (xchk1_split 3 xk_68_6 (by rw [List.drop_drop]; exact (by have e := xk_68_9; rwa [List.take_of_length_le (by decide +kernel)] at e)))))) (by decide +kernel)
theorem xk_69 : xchk (yX9_add, cX9_add, 4, none, false, 4) (tb_X9_add, 4, 4) [3046, 9, 3045, 7013] = true := by decide +kernel
theorem xk_70 : xchk (yX9_at, cX9_at, 2, some .int, false, 2) (tb_X9_at, 2, 2) [2226, 9, 2225, 7011] = true := by decide +kernel
theorem xk_71 : xchk (yX9_isLetter, cX9_isLetter, 1, some .boolean, true, 1) (tb_X9_isLetter, 1, 1) [2229, 9, 2228] = true := by decide +kernel
theorem xk_72 : xchk (yX9_isDigit, cX9_isDigit, 1, some .boolean, true, 1) (tb_X9_isDigit, 1, 1) [3049, 9, 3048] = true := by decide +kernel
theorem xk_73 : xchk (yX9_digits, cX9_digits, 5, some .int, false, 3) (tb_X9_digits, 5, 3) [3053, 9, 3052, 7014] = true := by decide +kernel
theorem xk_74 : xchk (yX9_word, cX9_word, 8, some .int, false, 3) (tb_X9_word, 8, 3) [2233, 9, 2232, 7012] = true := by decide +kernel
theorem xk_75 : xchk (yX9_look, cX9_look, 2, none, false, 2) (tb_X9_look, 2, 2) [3061, 9, 3060, 7015] = true := by decide +kernel
theorem xk_76 : xchk (yX9_isLine, cX9_isLine, 1, some .boolean, false, 1) (tb_X9_isLine, 1, 1) [3065, 9, 3064, 7016] = true := by decide +kernel
theorem xk_77 : xchk (yX9_isCond, cX9_isCond, 3, some .boolean, false, 2) (tb_X9_isCond, 3, 2) [3077, 9, 3076, 7018] = true := by decide +kernel
theorem xk_78 : xchk (yX9_isAll, cX9_isAll, 3, some .boolean, false, 2) (tb_X9_isAll, 3, 2) [3081, 9, 3080, 7019] = true := by decide +kernel
theorem xk_79 : xchk (yX9_isOne, cX9_isOne, 4, some .boolean, false, 2) (tb_X9_isOne, 4, 2) [3085, 9, 3084, 7020] = true := by decide +kernel
theorem xk_80 : xchk (yX9_isInBrackets, cX9_isInBrackets, 2, some .boolean, false, 2) (tb_X9_isInBrackets, 2, 2) [3093, 9, 3092, 7022] = true := by decide +kernel
theorem xk_81_0 : xchk1 (yX9_isComparison, cX9_isComparison, 3, some .boolean, false, 1) ((tb_X9_isComparison.drop 0).take 3) = true := by decide +kernel
theorem xk_81_3 : xchk1 (yX9_isComparison, cX9_isComparison, 3, some .boolean, false, 1) ((tb_X9_isComparison.drop 3).take 3) = true := by decide +kernel
theorem xk_81_6 : xchk1 (yX9_isComparison, cX9_isComparison, 3, some .boolean, false, 1) ((tb_X9_isComparison.drop 6).take 3) = true := by decide +kernel
theorem xk_81 : xchk (yX9_isComparison, cX9_isComparison, 3, some .boolean, false, 1) (tb_X9_isComparison, 3, 1) [3097, 9, 3096, 7023] = true := xchk_mk (xchk1_split 3 xk_81_0 (xchk1_split 3 xk_81_3 (by rw [List.drop_drop]; exact (by have e := xk_81_6; rwa [List.take_of_length_le (by decide +kernel)] at e)))) (by decide +kernel)
theorem xk_82 : xchk (yX9_isValue, cX9_isValue, 1, some .boolean, false, 1) (tb_X9_isValue, 1, 1) [3101, 9, 3100, 7024] = true := by decide +kernel
theorem xk_83 : xchk (yX9_value, cX9_value, 1, some .int, false, 1) (tb_X9_value, 1, 1) [3105, 9, 3104, 7025] = true := by decide +kernel
theorem xk_84 : xchk (yX9_isWord, cX9_isWord, 2, some .boolean, false, 2) (tb_X9_isWord, 2, 2) [3073, 9, 3072, 7017] = true := by decide +kernel
theorem xk_85 : xchk (yX9_isByte, cX9_isByte, 2, some .boolean, false, 2) (tb_X9_isByte, 2, 2) [3089, 9, 3088, 7021] = true := by decide +kernel
theorem xk_86 : xchk (yX10_become, cX10_become, 2, none, false, 2) (tb_X10_become, 2, 2) [4099, 2, 4097, 4098] = true := by decide +kernel
theorem xk_87 : xchk (yX10_isGood, cX10_isGood, 4, some .boolean, false, 4) (tb_X10_isGood, 4, 4) [1235, 2, 1233, 1234] = true := by decide +kernel
theorem xk_88 : xchk (yX10_endFor, cX10_endFor, 3, some .int, false, 2) (tb_X10_endFor, 3, 2) [1231, 2, 1229, 1230] = true := by decide +kernel
theorem xk_89 : xchk (yX10_costsDown, cX10_costsDown, 4, some .int, false, 3) (tb_X10_costsDown, 4, 3) [2122, 2, 2120, 2121] = true := by decide +kernel
theorem xk_90 : xchk (yX10_orStraight, cX10_orStraight, 3, some .int, false, 3) (tb_X10_orStraight, 3, 3) [2157, 2, 2155, 2156] = true := by decide +kernel
theorem xk_91 : xchk (yX10_planned, cX10_planned, 3, some .int, false, 3) (tb_X10_planned, 3, 3) [2153, 2, 2151, 2152] = true := by decide +kernel
theorem xk_92 : xchk (yX10_given, cX10_given, 5, some .int, false, 3) (tb_X10_given, 5, 3) [2162, 2, 2160, 2161] = true := by decide +kernel
theorem xk_93 : xchk (yX10_actByHands, cX10_actByHands, 4, some .int, false, 2) (tb_X10_actByHands, 4, 2) [3148, 2, 3146, 3147] = true := by decide +kernel
theorem xk_94 : xchk (yX11_land, cX11_land, 3, some .int, false, 3) (tb_X11_land, 3, 3) [1141, 1, 1139, 1140] = true := by decide +kernel
theorem xk_95 : xchk (yX11_lay, cX11_lay, 7, some .int, false, 3) (tb_X11_lay, 7, 3) [1155, 1, 1153, 1154] = true := by decide +kernel
theorem xk_96 : xchk (yX11_cellOf, cX11_cellOf, 3, some .int, false, 3) (tb_X11_cellOf, 3, 3) [1193, 1, 1191, 1192] = true := by decide +kernel
theorem xk_97 : xchk (yX11_craft, cX11_craft, 4, some .int, false, 3) (tb_X11_craft, 4, 3) [1206, 1, 1204, 1205] = true := by decide +kernel
theorem xk_98 : xchk (yX11_mostOfCraft, cX11_mostOfCraft, 2, some .int, false, 2) (tb_X11_mostOfCraft, 2, 2) [1210, 1, 1209, 7001] = true := by decide +kernel
theorem xk_99 : xchk (yX11_craftOf, cX11_craftOf, 3, some .int, false, 2) (tb_X11_craftOf, 3, 2) [1222, 1, 1220, 1221] = true := by decide +kernel
theorem xk_100 : xchk (yX11_table, cX11_table, 6, some .int, false, 3) (tb_X11_table, 6, 3) [2004, 1, 2002, 2003] = true := by decide +kernel
theorem xk_101 : xchk (yX11_fly, cX11_fly, 2, some .int, false, 2) (tb_X11_fly, 2, 2) [2012, 1, 2010, 2011] = true := by decide +kernel
theorem xk_102 : xchk (yX11_isFlownNow, cX11_isFlownNow, 2, some .boolean, false, 2) (tb_X11_isFlownNow, 2, 2) [2016, 1, 2015, 7002] = true := by decide +kernel
theorem xk_103 : xchk (yX11_acts, cX11_acts, 3, some .int, false, 1) (tb_X11_acts, 3, 1) [2051, 1, 2049, 2050] = true := by decide +kernel
theorem xk_104_0 : xchk1 (yX11_end, cX11_end, 7, some .int, false, 6) ((tb_X11_end.drop 0).take 3) = true := by decide +kernel
theorem xk_104_3 : xchk1 (yX11_end, cX11_end, 7, some .int, false, 6) ((tb_X11_end.drop 3).take 3) = true := by decide +kernel
theorem xk_104_6 : xchk1 (yX11_end, cX11_end, 7, some .int, false, 6) ((tb_X11_end.drop 6).take 3) = true := by decide +kernel
theorem xk_104_9 : xchk1 (yX11_end, cX11_end, 7, some .int, false, 6) ((tb_X11_end.drop 9).take 3) = true := by decide +kernel
theorem xk_104 : xchk (yX11_end, cX11_end, 7, some .int, false, 6) (tb_X11_end, 7, 6) [2055, 1, 2053, 2054] = true := xchk_mk (xchk1_split 3 xk_104_0 (xchk1_split 3 xk_104_3 (by rw [List.drop_drop]; exact (xchk1_split 3 xk_104_6 (by rw [List.drop_drop]; exact (by have e := xk_104_9; rwa [List.take_of_length_le (by decide +kernel)] at e)))))) (by decide +kernel)
theorem xk_105 : xchk (yX11_endOf, cX11_endOf, 3, some .int, false, 3) (tb_X11_endOf, 3, 3) [2059, 1, 2057, 2058] = true := by decide +kernel
theorem xk_106 : xchk (yX11_spare, cX11_spare, 3, some .int, false, 2) (tb_X11_spare, 3, 2) [2065, 1, 2063, 2064] = true := by decide +kernel
theorem xk_107_0 : xchk1 (yX11_late, cX11_late, 4, some .int, false, 2) ((tb_X11_late.drop 0).take 3) = true := by decide +kernel
theorem xk_107_3 : xchk1 (yX11_late, cX11_late, 4, some .int, false, 2) ((tb_X11_late.drop 3).take 3) = true := by decide +kernel
theorem xk_107_6 : xchk1 (yX11_late, cX11_late, 4, some .int, false, 2) ((tb_X11_late.drop 6).take 3) = true := by decide +kernel
theorem xk_107 : xchk (yX11_late, cX11_late, 4, some .int, false, 2) (tb_X11_late, 4, 2) [2106, 1, 2104, 2105] = true := xchk_mk (xchk1_split 3 xk_107_0 (xchk1_split 3 xk_107_3 (by rw [List.drop_drop]; exact (by have e := xk_107_6; rwa [List.take_of_length_le (by decide +kernel)] at e)))) (by decide +kernel)
theorem xk_108 : xchk (yX11_can, cX11_can, 3, some .int, false, 1) (tb_X11_can, 3, 1) [2114, 1, 2112, 2113] = true := by decide +kernel
theorem xk_109 : xchk (yX11_bestEnd, cX11_bestEnd, 5, some .int, false, 1) (tb_X11_bestEnd, 5, 1) [2118, 1, 2116, 2117] = true := by decide +kernel
theorem xk_110_0 : xchk1 (yX11_plan, cX11_plan, 6, some .int, false, 2) ((tb_X11_plan.drop 0).take 3) = true := by decide +kernel
theorem xk_110_3 : xchk1 (yX11_plan, cX11_plan, 6, some .int, false, 2) ((tb_X11_plan.drop 3).take 3) = true := by decide +kernel
theorem xk_110_6 : xchk1 (yX11_plan, cX11_plan, 6, some .int, false, 2) ((tb_X11_plan.drop 6).take 3) = true := by decide +kernel
theorem xk_110 : xchk (yX11_plan, cX11_plan, 6, some .int, false, 2) (tb_X11_plan, 6, 2) [2127, 1, 2125, 2126] = true := xchk_mk (xchk1_split 3 xk_110_0 (xchk1_split 3 xk_110_3 (by rw [List.drop_drop]; exact (by have e := xk_110_6; rwa [List.take_of_length_le (by decide +kernel)] at e)))) (by decide +kernel)
theorem xk_111 : xchk (yX11_planOf, cX11_planOf, 4, some .int, false, 3) (tb_X11_planOf, 4, 3) [2131, 1, 2129, 2130] = true := by decide +kernel
theorem xk_112_0 : xchk1 (yX11_scene, cX11_scene, 6, some .int, false, 5) ((tb_X11_scene.drop 0).take 3) = true := by decide +kernel
theorem xk_112_3 : xchk1 (yX11_scene, cX11_scene, 6, some .int, false, 5) ((tb_X11_scene.drop 3).take 3) = true := by decide +kernel
theorem xk_112_6 : xchk1 (yX11_scene, cX11_scene, 6, some .int, false, 5) ((tb_X11_scene.drop 6).take 3) = true := by decide +kernel
theorem xk_112 : xchk (yX11_scene, cX11_scene, 6, some .int, false, 5) (tb_X11_scene, 6, 5) [2135, 1, 2133, 2134] = true := xchk_mk (xchk1_split 3 xk_112_0 (xchk1_split 3 xk_112_3 (by rw [List.drop_drop]; exact (by have e := xk_112_6; rwa [List.take_of_length_le (by decide +kernel)] at e)))) (by decide +kernel)
theorem xk_113 : xchk (yX11_flown, cX11_flown, 4, some .int, false, 4) (tb_X11_flown, 4, 4) [2139, 1, 2137, 2138] = true := by decide +kernel
theorem xk_114_0 : xchk1 (yX11_odds, cX11_odds, 6, some .int, false, 4) ((tb_X11_odds.drop 0).take 3) = true := by decide +kernel
theorem xk_114_3 : xchk1 (yX11_odds, cX11_odds, 6, some .int, false, 4) ((tb_X11_odds.drop 3).take 3) = true := by decide +kernel
theorem xk_114_6 : xchk1 (yX11_odds, cX11_odds, 6, some .int, false, 4) ((tb_X11_odds.drop 6).take 3) = true := by decide +kernel
theorem xk_114_9 : xchk1 (yX11_odds, cX11_odds, 6, some .int, false, 4) ((tb_X11_odds.drop 9).take 3) = true := by decide +kernel
theorem xk_114 : xchk (yX11_odds, cX11_odds, 6, some .int, false, 4) (tb_X11_odds, 6, 4) [2182, 1, 2180, 2181] = true := xchk_mk (xchk1_split 3 xk_114_0 (xchk1_split 3 xk_114_3 (by rw [List.drop_drop]; exact (xchk1_split 3 xk_114_6 (by rw [List.drop_drop]; exact (by have e := xk_114_9; rwa [List.take_of_length_le (by decide +kernel)] at e)))))) (by decide +kernel)
theorem xk_115 : xchk (yX11_mean, cX11_mean, 3, some .int, false, 3) (tb_X11_mean, 3, 3) [2194, 1, 2192, 2193] = true := by decide +kernel
theorem xk_116 : xchk (yX11_costsInAll, cX11_costsInAll, 4, some .int, false, 2) (tb_X11_costsInAll, 4, 2) [2198, 1, 2197, 7009] = true := by decide +kernel
theorem xk_117 : xchk (yX11_bestPlan, cX11_bestPlan, 5, some .int, false, 1) (tb_X11_bestPlan, 5, 1) [2202, 1, 2200, 2201] = true := by decide +kernel
theorem xk_118 : xchk (yX11_feed, cX11_feed, 4, some .int, false, 3) (tb_X11_feed, 4, 3) [2206, 1, 2204, 2205] = true := by decide +kernel
theorem xk_119 : xchk (yX11_read, cX11_read, 2, some .int, false, 1) (tb_X11_read, 2, 1) [2214, 1, 2212, 2213] = true := by decide +kernel
theorem xk_120 : xchk (yX11_line, cX11_line, 3, some .int, false, 3) (tb_X11_line, 3, 3) [3123, 1, 3121, 3122] = true := by decide +kernel
theorem xk_121 : xchk (yX11_hand, cX11_hand, 1, some .int, false, 1) (tb_X11_hand, 1, 1) [3144, 1, 3142, 3143] = true := by decide +kernel
theorem xk_122 : xchk (yX11_ruled, cX11_ruled, 2, some .int, false, 2) (tb_X11_ruled, 2, 2) [3158, 1, 3156, 3157] = true := by decide +kernel
theorem xk_123 : xchk (yX11_prove, cX11_prove, 2, some .int, false, 2) (tb_X11_prove, 2, 2) [3167, 1, 3165, 3166] = true := by decide +kernel
theorem xk_124 : xchk (yX11_row, cX11_row, 3, some .int, false, 3) (tb_X11_row, 3, 3) [3176, 1, 3174, 3175] = true := by decide +kernel
theorem xk_125 : xchk (yX11_alterRow, cX11_alterRow, 5, some .int, false, 4) (tb_X11_alterRow, 5, 4) [3180, 1, 3178, 3179] = true := by decide +kernel
theorem xk_126_0 : xchk1 (yX11_judge, cX11_judge, 3, some .int, false, 1) ((tb_X11_judge.drop 0).take 3) = true := by decide +kernel
theorem xk_126_3 : xchk1 (yX11_judge, cX11_judge, 3, some .int, false, 1) ((tb_X11_judge.drop 3).take 3) = true := by decide +kernel
theorem xk_126_6 : xchk1 (yX11_judge, cX11_judge, 3, some .int, false, 1) ((tb_X11_judge.drop 6).take 3) = true := by decide +kernel
theorem xk_126 : xchk (yX11_judge, cX11_judge, 3, some .int, false, 1) (tb_X11_judge, 3, 1) [3184, 1, 3182, 3183] = true := xchk_mk (xchk1_split 3 xk_126_0 (xchk1_split 3 xk_126_3 (by rw [List.drop_drop]; exact (by have e := xk_126_6; rwa [List.take_of_length_le (by decide +kernel)] at e)))) (by decide +kernel)
theorem xk_127 : xchk (yX11_step, cX11_step, 5, some .int, false, 4) (tb_X11_step, 5, 4) [3188, 1, 3186, 3187] = true := by decide +kernel
theorem xk_128 : xchk (yX11_worth, cX11_worth, 2, some .int, false, 2) (tb_X11_worth, 2, 2) [3192, 1, 3190, 3191] = true := by decide +kernel
theorem xk_129 : xchk (yX11_order, cX11_order, 2, some .int, false, 2) (tb_X11_order, 2, 2) [3218, 1, 3216, 3217] = true := by decide +kernel
theorem xk_130 : xchk (yX11_job, cX11_job, 3, some .int, false, 2) (tb_X11_job, 3, 2) [3230, 1, 3228, 3229] = true := by decide +kernel
theorem xk_131 : xchk (yX11_shared, cX11_shared, 8, some .int, false, 2) (tb_X11_shared, 8, 2) [3234, 1, 3232, 3233] = true := by decide +kernel
theorem xk_132 : xchk (yX11_trial, cX11_trial, 5, some .int, false, 4) (tb_X11_trial, 5, 4) [3239, 1, 3237, 3238] = true := by decide +kernel
theorem xk_133_0 : xchk1 (yX11_fair, cX11_fair, 9, some .int, false, 5) ((tb_X11_fair.drop 0).take 3) = true := by decide +kernel
theorem xk_133_3 : xchk1 (yX11_fair, cX11_fair, 9, some .int, false, 5) ((tb_X11_fair.drop 3).take 3) = true := by decide +kernel
theorem xk_133_6 : xchk1 (yX11_fair, cX11_fair, 9, some .int, false, 5) ((tb_X11_fair.drop 6).take 3) = true := by decide +kernel
theorem xk_133_9 : xchk1 (yX11_fair, cX11_fair, 9, some .int, false, 5) ((tb_X11_fair.drop 9).take 3) = true := by decide +kernel
theorem xk_133 : xchk (yX11_fair, cX11_fair, 9, some .int, false, 5) (tb_X11_fair, 9, 5) [4003, 1, 4001, 4002] = true := xchk_mk (xchk1_split 3 xk_133_0 (xchk1_split 3 xk_133_3 (by rw [List.drop_drop]; exact (xchk1_split 3 xk_133_6 (by rw [List.drop_drop]; exact (by have e := xk_133_9; rwa [List.take_of_length_le (by decide +kernel)] at e)))))) (by decide +kernel)
theorem xk_134 : xchk (yX11_sheet, cX11_sheet, 4, some .int, false, 4) (tb_X11_sheet, 4, 4) [4007, 1, 4005, 4006] = true := by decide +kernel
theorem xk_135 : xchk (yX11_put, cX11_put, 5, some .int, false, 4) (tb_X11_put, 5, 4) [4016, 1, 4014, 4015] = true := by decide +kernel
theorem xk_136 : xchk (yX11_item, cX11_item, 6, some .int, false, 4) (tb_X11_item, 6, 4) [4025, 1, 4023, 4024] = true := by decide +kernel
theorem xk_137 : xchk (yX11_flies, cX11_flies, 8, some .int, false, 4) (tb_X11_flies, 8, 4) [4029, 1, 4027, 4028] = true := by decide +kernel
theorem xk_138_0 : xchk1 (yX11_shelf, cX11_shelf, 4, some .int, false, 4) ((tb_X11_shelf.drop 0).take 3) = true := by decide +kernel
theorem xk_138_3 : xchk1 (yX11_shelf, cX11_shelf, 4, some .int, false, 4) ((tb_X11_shelf.drop 3).take 3) = true := by decide +kernel
theorem xk_138_6 : xchk1 (yX11_shelf, cX11_shelf, 4, some .int, false, 4) ((tb_X11_shelf.drop 6).take 3) = true := by decide +kernel
theorem xk_138 : xchk (yX11_shelf, cX11_shelf, 4, some .int, false, 4) (tb_X11_shelf, 4, 4) [4033, 1, 4031, 4032] = true := xchk_mk (xchk1_split 3 xk_138_0 (xchk1_split 3 xk_138_3 (by rw [List.drop_drop]; exact (by have e := xk_138_6; rwa [List.take_of_length_le (by decide +kernel)] at e)))) (by decide +kernel)
theorem xk_139 : xchk (yX11_heldRow, cX11_heldRow, 3, some .int, false, 3) (tb_X11_heldRow, 3, 3) [4041, 1, 4040, 7029] = true := by decide +kernel
theorem xk_140 : xchk (yX11_held, cX11_held, 5, some .int, false, 5) (tb_X11_held, 5, 5) [4037, 1, 4036, 7028] = true := by decide +kernel
theorem xk_141 : xchk (yX11_formOn, cX11_formOn, 3, some .int, false, 2) (tb_X11_formOn, 3, 2) [4049, 1, 4048, 7030] = true := by decide +kernel
theorem xk_142 : xchk (yX11_taken, cX11_taken, 5, some .int, false, 3) (tb_X11_taken, 5, 3) [4045, 1, 4043, 4044] = true := by decide +kernel
theorem xk_143 : xchk (yX11_ask, cX11_ask, 7, some .int, false, 4) (tb_X11_ask, 7, 4) [4062, 1, 4060, 4061] = true := by decide +kernel
theorem xk_144 : xchk (yX11_trace, cX11_trace, 2, some .int, false, 2) (tb_X11_trace, 2, 2) [4087, 1, 4085, 4086] = true := by decide +kernel
theorem xk_145 : xchk (yX11_many, cX11_many, 2, some .int, false, 2) (tb_X11_many, 2, 2) [4091, 1, 4089, 4090] = true := by decide +kernel
theorem xk_146 : xchk (yX11_keep, cX11_keep, 1, some .int, false, 1) (tb_X11_keep, 1, 1) [4095, 1, 4093, 4094] = true := by decide +kernel
theorem xk_147 : xchk (yX11_again, cX11_again, 1, some .int, false, 1) (tb_X11_again, 1, 1) [4111, 1, 4109, 4110] = true := by decide +kernel
theorem xk_148 : xchk (yX11_isWithin, cX11_isWithin, 3, some .boolean, true, 3) (tb_X11_isWithin, 3, 3) [1144, 1, 1143] = true := by decide +kernel
theorem xk_149 : xchk (yX11_isSheet, cX11_isSheet, 2, some .boolean, false, 2) (tb_X11_isSheet, 2, 2) [1159, 1, 1158, 7000] = true := by decide +kernel
theorem xk_150 : xchk (yX11_ofFraction, cX11_ofFraction, 7, some .int, true, 3) (tb_X11_ofFraction, 7, 3) [2190, 1, 2189] = true := by decide +kernel
theorem xk_151 : xchk (yX12_within, cX12_within, 3, some .boolean, true, 3) (tb_X12_within, 3, 3) [5034, 13, 5033] = true := by decide +kernel
theorem xk_152 : xchk (yX12_is, cX12_is, 3, some .boolean, false, 3) (tb_X12_is, 3, 3) [5135, 13, 5134, 7046] = true := by decide +kernel
theorem xk_153 : xchk (yX12_become, cX12_become, 4, some .int, false, 3) (tb_X12_become, 4, 3) [5061, 13, 5060, 7036] = true := by decide +kernel
theorem xk_154 : xchk (yX12_cells, cX12_cells, 1, some .int, false, 1) (tb_X12_cells, 1, 1) [5045, 13, 5044, 7034] = true := by decide +kernel
theorem xk_155 : xchk (yX12_isCell, cX12_isCell, 2, some .boolean, false, 2) (tb_X12_isCell, 2, 2) [5053, 13, 5052, 7035] = true := by decide +kernel
theorem xk_156 : xchk (yX12_isAct, cX12_isAct, 1, some .boolean, true, 1) (tb_X12_isAct, 1, 1) [5096, 13, 5095] = true := by decide +kernel
theorem xk_157 : xchk (yX12_land, cX12_land, 4, some .int, false, 3) (tb_X12_land, 4, 3) [5031, 13, 5029, 5030] = true := by decide +kernel
theorem xk_158_0 : xchk1 (yX12_lay, cX12_lay, 5, some .int, false, 3) ((tb_X12_lay.drop 0).take 3) = true := by decide +kernel
theorem xk_158_3 : xchk1 (yX12_lay, cX12_lay, 5, some .int, false, 3) ((tb_X12_lay.drop 3).take 3) = true := by decide +kernel
theorem xk_158_6 : xchk1 (yX12_lay, cX12_lay, 5, some .int, false, 3) ((tb_X12_lay.drop 6).take 3) = true := by decide +kernel
theorem xk_158_9 : xchk1 (yX12_lay, cX12_lay, 5, some .int, false, 3) ((tb_X12_lay.drop 9).take 3) = true := by decide +kernel
theorem xk_158 : xchk (yX12_lay, cX12_lay, 5, some .int, false, 3) (tb_X12_lay, 5, 3) [5038, 13, 5036, 5037] = true := xchk_mk (xchk1_split 3 xk_158_0 (xchk1_split 3 xk_158_3 (by rw [List.drop_drop]; exact (xchk1_split 3 xk_158_6 (by rw [List.drop_drop]; exact (by have e := xk_158_9; rwa [List.take_of_length_le (by decide +kernel)] at e)))))) (by decide +kernel)
theorem xk_159 : xchk (yX12_cellOf, cX12_cellOf, 3, some .int, false, 3) (tb_X12_cellOf, 3, 3) [5049, 13, 5047, 5048] = true := by decide +kernel
theorem xk_160 : xchk (yX12_craft, cX12_craft, 4, some .int, false, 3) (tb_X12_craft, 4, 3) [5057, 13, 5055, 5056] = true := by decide +kernel
theorem xk_161 : xchk (yX12_craftOf, cX12_craftOf, 2, some .int, false, 2) (tb_X12_craftOf, 2, 2) [5065, 13, 5063, 5064] = true := by decide +kernel
theorem xk_162 : xchk (yX12_table, cX12_table, 4, some .int, false, 3) (tb_X12_table, 4, 3) [5089, 13, 5087, 5088] = true := by decide +kernel
theorem xk_163 : xchk (yX12_begin, cX12_begin, 1, none, false, 1) (tb_X12_begin, 1, 1) [5069, 13, 5068, 7037] = true := by decide +kernel
theorem xk_164 : xchk (yX12_isDown, cX12_isDown, 1, some .boolean, false, 1) (tb_X12_isDown, 1, 1) [5073, 13, 5072, 7038] = true := by decide +kernel
theorem xk_165 : xchk (yX12_turned, cX12_turned, 2, some .int, true, 2) (tb_X12_turned, 2, 2) [5110, 13, 5109] = true := by decide +kernel
theorem xk_166 : xchk (yX12_changed, cX12_changed, 2, some .int, true, 2) (tb_X12_changed, 2, 2) [5107, 13, 5106] = true := by decide +kernel
theorem xk_167_0 : xchk1 (yX12_ahead, cX12_ahead, 6, some .int, false, 4) ((tb_X12_ahead.drop 0).take 3) = true := by decide +kernel
theorem xk_167_3 : xchk1 (yX12_ahead, cX12_ahead, 6, some .int, false, 4) ((tb_X12_ahead.drop 3).take 3) = true := by decide +kernel
theorem xk_167_6 : xchk1 (yX12_ahead, cX12_ahead, 6, some .int, false, 4) ((tb_X12_ahead.drop 6).take 3) = true := by decide +kernel
theorem xk_167 : xchk (yX12_ahead, cX12_ahead, 6, some .int, false, 4) (tb_X12_ahead, 6, 4) [5114, 13, 5113, 7044] = true := xchk_mk (xchk1_split 3 xk_167_0 (xchk1_split 3 xk_167_3 (by rw [List.drop_drop]; exact (by have e := xk_167_6; rwa [List.take_of_length_le (by decide +kernel)] at e)))) (by decide +kernel)
theorem xk_168 : xchk (yX12_mayBe, cX12_mayBe, 3, some .boolean, false, 2) (tb_X12_mayBe, 3, 2) [5104, 13, 5103, 7043] = true := by decide +kernel
theorem xk_169_0 : xchk1 (yX12_act, cX12_act, 4, none, false, 2) ((tb_X12_act.drop 0).take 3) = true := by decide +kernel
theorem xk_169_3 : xchk1 (yX12_act, cX12_act, 4, none, false, 2) ((tb_X12_act.drop 3).take 3) = true := by decide +kernel
theorem xk_169_6 : xchk1 (yX12_act, cX12_act, 4, none, false, 2) ((tb_X12_act.drop 6).take 3) = true := by decide +kernel
theorem xk_169 : xchk (yX12_act, cX12_act, 4, none, false, 2) (tb_X12_act, 4, 2) [5118, 13, 5117, 7045] = true := xchk_mk (xchk1_split 3 xk_169_0 (xchk1_split 3 xk_169_3 (by rw [List.drop_drop]; exact (by have e := xk_169_6; rwa [List.take_of_length_le (by decide +kernel)] at e)))) (by decide +kernel)
theorem xk_170 : xchk (yX12_end, cX12_end, 3, some .int, false, 3) (tb_X12_end, 3, 3) [5081, 13, 5080, 7040] = true := by decide +kernel
theorem xk_171 : xchk (yX12_isGood, cX12_isGood, 3, some .boolean, false, 3) (tb_X12_isGood, 3, 3) [5085, 13, 5084, 7041] = true := by decide +kernel
theorem xk_172 : xchk (yX12_comesTo, cX12_comesTo, 2, some .int, false, 1) (tb_X12_comesTo, 2, 1) [5077, 13, 5076, 7039] = true := by decide +kernel
theorem xk_173 : xchk (yX12_isFlown, cX12_isFlown, 2, some .boolean, false, 2) (tb_X12_isFlown, 2, 2) [5100, 13, 5099, 7042] = true := by decide +kernel
theorem xk_174 : xchk (yX12_fly, cX12_fly, 2, some .int, false, 2) (tb_X12_fly, 2, 2) [5093, 13, 5091, 5092] = true := by decide +kernel
theorem xk_175 : xchk (yX12_acts, cX12_acts, 3, some .int, false, 1) (tb_X12_acts, 3, 1) [5123, 13, 5121, 5122] = true := by decide +kernel
theorem xk_176_0 : xchk1 (yX12_end_, cX12_end_, 8, some .int, false, 6) ((tb_X12_end_.drop 0).take 3) = true := by decide +kernel
theorem xk_176_3 : xchk1 (yX12_end_, cX12_end_, 8, some .int, false, 6) ((tb_X12_end_.drop 3).take 3) = true := by decide +kernel
theorem xk_176_6 : xchk1 (yX12_end_, cX12_end_, 8, some .int, false, 6) ((tb_X12_end_.drop 6).take 3) = true := by decide +kernel
theorem xk_176_9 : xchk1 (yX12_end_, cX12_end_, 8, some .int, false, 6) ((tb_X12_end_.drop 9).take 3) = true := by decide +kernel
theorem xk_176 : xchk (yX12_end_, cX12_end_, 8, some .int, false, 6) (tb_X12_end_, 8, 6) [5127, 13, 5125, 5126] = true := xchk_mk (xchk1_split 3 xk_176_0 (xchk1_split 3 xk_176_3 (by rw [List.drop_drop]; exact (xchk1_split 3 xk_176_6 (by rw [List.drop_drop]; exact (by have e := xk_176_9; rwa [List.take_of_length_le (by decide +kernel)] at e)))))) (by decide +kernel)
theorem xk_177 : xchk (yX12_endOf, cX12_endOf, 3, some .int, false, 3) (tb_X12_endOf, 3, 3) [5131, 13, 5129, 5130] = true := by decide +kernel
theorem xk_178 : xchk (yX12_comes, cX12_comes, 3, none, false, 3) (tb_X12_comes, 3, 3) [5147, 13, 5146, 7048] = true := by decide +kernel
theorem xk_179_0 : xchk1 (yX12_reach, cX12_reach, 5, none, false, 1) ((tb_X12_reach.drop 0).take 3) = true := by decide +kernel
theorem xk_179_3 : xchk1 (yX12_reach, cX12_reach, 5, none, false, 1) ((tb_X12_reach.drop 3).take 3) = true := by decide +kernel
theorem xk_179_6 : xchk1 (yX12_reach, cX12_reach, 5, none, false, 1) ((tb_X12_reach.drop 6).take 3) = true := by decide +kernel
theorem xk_179_9 : xchk1 (yX12_reach, cX12_reach, 5, none, false, 1) ((tb_X12_reach.drop 9).take 3) = true := by decide +kernel
theorem xk_179_12 : xchk1 (yX12_reach, cX12_reach, 5, none, false, 1) ((tb_X12_reach.drop 12).take 3) = true := by decide +kernel
theorem xk_179 : xchk (yX12_reach, cX12_reach, 5, none, false, 1) (tb_X12_reach, 5, 1) [5143, 13, 5142, 7047] = true := xchk_mk (xchk1_split 3 xk_179_0 (xchk1_split 3 xk_179_3 (by rw [List.drop_drop]; exact (xchk1_split 3 xk_179_6 (by rw [List.drop_drop]; exact (xchk1_split 3 xk_179_9 (by rw [List.drop_drop]; exact (by have e := xk_179_12; rwa [List.take_of_length_le (by decide +kernel)] at e)))))))) (by decide +kernel)
theorem xk_180 : xchk (yX12_heightAt, cX12_heightAt, 4, some .int, false, 2) (tb_X12_heightAt, 4, 2) [5151, 13, 5150, 7049] = true := by decide +kernel
theorem xk_181 : xchk (yX12_spare, cX12_spare, 3, some .int, false, 2) (tb_X12_spare, 3, 2) [5139, 13, 5137, 5138] = true := by decide +kernel
theorem xk_182 : xchk (yX12_canBehind, cX12_canBehind, 4, some .boolean, false, 3) (tb_X12_canBehind, 4, 3) [5159, 13, 5158, 7050] = true := by decide +kernel
theorem xk_183 : xchk (yX12_late, cX12_late, 5, some .int, false, 2) (tb_X12_late, 5, 2) [5155, 13, 5153, 5154] = true := by decide +kernel
theorem xk_184 : xchk (yX12_canBe, cX12_canBe, 3, some .int, false, 1) (tb_X12_canBe, 3, 1) [5167, 13, 5166, 7051] = true := by decide +kernel
theorem xk_185 : xchk (yX12_can, cX12_can, 1, some .int, false, 1) (tb_X12_can, 1, 1) [5163, 13, 5161, 5162] = true := by decide +kernel
theorem xk_186 : xchk (yX12_costAt, cX12_costAt, 2, some .int, false, 2) (tb_X12_costAt, 2, 2) [5175, 13, 5174, 7052] = true := by decide +kernel
theorem xk_187 : xchk (yX12_bestEnd, cX12_bestEnd, 4, some .int, false, 1) (tb_X12_bestEnd, 4, 1) [5171, 13, 5169, 5170] = true := by decide +kernel
theorem xk_188_0 : xchk1 (yX12_plan, cX12_plan, 5, some .int, false, 2) ((tb_X12_plan.drop 0).take 3) = true := by decide +kernel
theorem xk_188_3 : xchk1 (yX12_plan, cX12_plan, 5, some .int, false, 2) ((tb_X12_plan.drop 3).take 3) = true := by decide +kernel
theorem xk_188_6 : xchk1 (yX12_plan, cX12_plan, 5, some .int, false, 2) ((tb_X12_plan.drop 6).take 3) = true := by decide +kernel
theorem xk_188_9 : xchk1 (yX12_plan, cX12_plan, 5, some .int, false, 2) ((tb_X12_plan.drop 9).take 3) = true := by decide +kernel
theorem xk_188_12 : xchk1 (yX12_plan, cX12_plan, 5, some .int, false, 2) ((tb_X12_plan.drop 12).take 3) = true := by decide +kernel
theorem xk_188 : xchk (yX12_plan, cX12_plan, 5, some .int, false, 2) (tb_X12_plan, 5, 2) [5179, 13, 5177, 5178] = true := xchk_mk (xchk1_split 3 xk_188_0 (xchk1_split 3 xk_188_3 (by rw [List.drop_drop]; exact (xchk1_split 3 xk_188_6 (by rw [List.drop_drop]; exact (xchk1_split 3 xk_188_9 (by rw [List.drop_drop]; exact (by have e := xk_188_12; rwa [List.take_of_length_le (by decide +kernel)] at e)))))))) (by decide +kernel)
theorem xk_189 : xchk (yX12_planned, cX12_planned, 2, some .int, false, 2) (tb_X12_planned, 2, 2) [5187, 13, 5186, 7053] = true := by decide +kernel
theorem xk_190 : xchk (yX12_planOf, cX12_planOf, 3, some .int, false, 3) (tb_X12_planOf, 3, 3) [5183, 13, 5181, 5182] = true := by decide +kernel
theorem xk_191_0 : xchk1 (yX12_scene, cX12_scene, 7, some .int, false, 5) ((tb_X12_scene.drop 0).take 3) = true := by decide +kernel
theorem xk_191_3 : xchk1 (yX12_scene, cX12_scene, 7, some .int, false, 5) ((tb_X12_scene.drop 3).take 3) = true := by decide +kernel
theorem xk_191_6 : xchk1 (yX12_scene, cX12_scene, 7, some .int, false, 5) ((tb_X12_scene.drop 6).take 3) = true := by decide +kernel
theorem xk_191 : xchk (yX12_scene, cX12_scene, 7, some .int, false, 5) (tb_X12_scene, 7, 5) [5191, 13, 5189, 5190] = true := xchk_mk (xchk1_split 3 xk_191_0 (xchk1_split 3 xk_191_3 (by rw [List.drop_drop]; exact (by have e := xk_191_6; rwa [List.take_of_length_le (by decide +kernel)] at e)))) (by decide +kernel)
theorem xk_192 : xchk (yX12_scene_, cX12_scene_, 3, some .int, false, 3) (tb_X12_scene_, 3, 3) [5211, 13, 5210, 7057] = true := by decide +kernel
theorem xk_193 : xchk (yX12_goOn, cX12_goOn, 3, none, false, 3) (tb_X12_goOn, 3, 3) [5215, 13, 5214, 7058] = true := by decide +kernel
theorem xk_194 : xchk (yX12_flownFor, cX12_flownFor, 2, some .int, false, 2) (tb_X12_flownFor, 2, 2) [5207, 13, 5206, 7056] = true := by decide +kernel
theorem xk_195 : xchk (yX12_plannedAt, cX12_plannedAt, 2, some .int, false, 2) (tb_X12_plannedAt, 2, 2) [5203, 13, 5202, 7055] = true := by decide +kernel
theorem xk_196_0 : xchk1 (yX12_flyPlan, cX12_flyPlan, 5, none, false, 3) ((tb_X12_flyPlan.drop 0).take 3) = true := by decide +kernel
theorem xk_196_3 : xchk1 (yX12_flyPlan, cX12_flyPlan, 5, none, false, 3) ((tb_X12_flyPlan.drop 3).take 3) = true := by decide +kernel
theorem xk_196_6 : xchk1 (yX12_flyPlan, cX12_flyPlan, 5, none, false, 3) ((tb_X12_flyPlan.drop 6).take 3) = true := by decide +kernel
theorem xk_196 : xchk (yX12_flyPlan, cX12_flyPlan, 5, none, false, 3) (tb_X12_flyPlan, 5, 3) [5199, 13, 5198, 7054] = true := xchk_mk (xchk1_split 3 xk_196_0 (xchk1_split 3 xk_196_3 (by rw [List.drop_drop]; exact (by have e := xk_196_6; rwa [List.take_of_length_le (by decide +kernel)] at e)))) (by decide +kernel)
theorem xk_197 : xchk (yX12_told, cX12_told, 3, some .int, false, 2) (tb_X12_told, 3, 2) [5220, 13, 5219, 7059] = true := by decide +kernel
theorem xk_198 : xchk (yX12_flown, cX12_flown, 4, some .int, false, 4) (tb_X12_flown, 4, 4) [5195, 13, 5193, 5194] = true := by decide +kernel
theorem xk_199 : xchk (yX12_divisor, cX12_divisor, 5, some .int, true, 2) (tb_X12_divisor, 5, 2) [5234, 13, 5233] = true := by decide +kernel
theorem xk_200 : xchk (yX12_part, cX12_part, 4, some .int, true, 3) (tb_X12_part, 4, 3) [5231, 13, 5230] = true := by decide +kernel
theorem xk_201 : xchk (yX12_weights, cX12_weights, 3, some .int, false, 1) (tb_X12_weights, 3, 1) [5228, 13, 5227, 7060] = true := by decide +kernel
theorem xk_202 : xchk (yX12_odds, cX12_odds, 6, some .int, false, 4) (tb_X12_odds, 6, 4) [5224, 13, 5222, 5223] = true := by decide +kernel
theorem xk_203 : xchk (yX12_costOf, cX12_costOf, 4, some .int, false, 2) (tb_X12_costOf, 4, 2) [6002, 13, 6001, 7061] = true := by decide +kernel
theorem xk_204 : xchk (yX12_mean, cX12_mean, 3, some .int, false, 3) (tb_X12_mean, 3, 3) [5238, 13, 5236, 5237] = true := by decide +kernel
theorem xk_205 : xchk (yX12_bestPlan, cX12_bestPlan, 5, some .int, false, 1) (tb_X12_bestPlan, 5, 1) [6006, 13, 6004, 6005] = true := by decide +kernel
theorem xk_206 : xchk (yX12_feed, cX12_feed, 5, some .int, false, 3) (tb_X12_feed, 5, 3) [6010, 13, 6008, 6009] = true := by decide +kernel
theorem xk_207 : xchk (yX12_isIn, cX12_isIn, 4, some .boolean, false, 4) (tb_X12_isIn, 4, 4) [6023, 13, 6022, 7063] = true := by decide +kernel
theorem xk_208_0 : xchk1 (yX12_next, cX12_next, 1, none, false, 1) ((tb_X12_next.drop 0).take 3) = true := by decide +kernel
theorem xk_208_3 : xchk1 (yX12_next, cX12_next, 1, none, false, 1) ((tb_X12_next.drop 3).take 3) = true := by decide +kernel
theorem xk_208_6 : xchk1 (yX12_next, cX12_next, 1, none, false, 1) ((tb_X12_next.drop 6).take 3) = true := by decide +kernel
theorem xk_208_9 : xchk1 (yX12_next, cX12_next, 1, none, false, 1) ((tb_X12_next.drop 9).take 3) = true := by decide +kernel
theorem xk_208 : xchk (yX12_next, cX12_next, 1, none, false, 1) (tb_X12_next, 1, 1) [6019, 13, 6018, 7062] = true := xchk_mk (xchk1_split 3 xk_208_0 (xchk1_split 3 xk_208_3 (by rw [List.drop_drop]; exact (xchk1_split 3 xk_208_6 (by rw [List.drop_drop]; exact (by have e := xk_208_9; rwa [List.take_of_length_le (by decide +kernel)] at e)))))) (by decide +kernel)
theorem xk_209 : xchk (yX12_isName, cX12_isName, 4, some .boolean, false, 2) (tb_X12_isName, 4, 2) [6031, 13, 6030, 7065] = true := by decide +kernel
theorem xk_210 : xchk (yX12_nameOf, cX12_nameOf, 4, some .int, false, 2) (tb_X12_nameOf, 4, 2) [6027, 13, 6026, 7064] = true := by decide +kernel
theorem xk_211 : xchk (yX12_isSign, cX12_isSign, 2, some .boolean, false, 2) (tb_X12_isSign, 2, 2) [6055, 13, 6054, 7070] = true := by decide +kernel
theorem xk_212 : xchk (yX12_need, cX12_need, 2, none, false, 2) (tb_X12_need, 2, 2) [6037, 13, 6036, 7066] = true := by decide +kernel
theorem xk_213 : xchk (yX12_codes, cX12_codes, 2, none, false, 2) (tb_X12_codes, 2, 2) [6063, 13, 6062, 7072] = true := by decide +kernel
theorem xk_214 : xchk (yX12_either, cX12_either, 1, none, false, 1) (tb_X12_either, 1, 1) [6042, 13, 6041, 7067] = true := by decide +kernel
theorem xk_215 : xchk (yX12_all, cX12_all, 1, none, false, 1) (tb_X12_all, 1, 1) [6046, 13, 6045, 7068] = true := by decide +kernel
theorem xk_216_0 : xchk1 (yX12_value, cX12_value, 5, some .int, false, 1) ((tb_X12_value.drop 0).take 3) = true := by decide +kernel
theorem xk_216_3 : xchk1 (yX12_value, cX12_value, 5, some .int, false, 1) ((tb_X12_value.drop 3).take 3) = true := by decide +kernel
theorem xk_216_6 : xchk1 (yX12_value, cX12_value, 5, some .int, false, 1) ((tb_X12_value.drop 6).take 3) = true := by decide +kernel
theorem xk_216 : xchk (yX12_value, cX12_value, 5, some .int, false, 1) (tb_X12_value, 5, 1) [6059, 13, 6058, 7071] = true := xchk_mk (xchk1_split 3 xk_216_0 (xchk1_split 3 xk_216_3 (by rw [List.drop_drop]; exact (by have e := xk_216_6; rwa [List.take_of_length_le (by decide +kernel)] at e)))) (by decide +kernel)
theorem xk_217_0 : xchk1 (yX12_one, cX12_one, 5, none, false, 1) ((tb_X12_one.drop 0).take 3) = true := by decide +kernel
theorem xk_217_3 : xchk1 (yX12_one, cX12_one, 5, none, false, 1) ((tb_X12_one.drop 3).take 3) = true := by decide +kernel
theorem xk_217_6 : xchk1 (yX12_one, cX12_one, 5, none, false, 1) ((tb_X12_one.drop 6).take 3) = true := by decide +kernel
theorem xk_217_9 : xchk1 (yX12_one, cX12_one, 5, none, false, 1) ((tb_X12_one.drop 9).take 3) = true := by decide +kernel
theorem xk_217_12 : xchk1 (yX12_one, cX12_one, 5, none, false, 1) ((tb_X12_one.drop 12).take 3) = true := by decide +kernel
theorem xk_217 : xchk (yX12_one, cX12_one, 5, none, false, 1) (tb_X12_one, 5, 1) [6050, 13, 6049, 7069] = true := xchk_mk (xchk1_split 3 xk_217_0 (xchk1_split 3 xk_217_3 (by rw [List.drop_drop]; exact (xchk1_split 3 xk_217_6 (by rw [List.drop_drop]; exact (xchk1_split 3 xk_217_9 (by rw [List.drop_drop]; exact (by have e := xk_217_12; rwa [List.take_of_length_le (by decide +kernel)] at e)))))))) (by decide +kernel)
theorem xk_218_0 : xchk1 (yX12_read, cX12_read, 3, some .int, false, 1) ((tb_X12_read.drop 0).take 3) = true := by decide +kernel
theorem xk_218_3 : xchk1 (yX12_read, cX12_read, 3, some .int, false, 1) ((tb_X12_read.drop 3).take 3) = true := by decide +kernel
theorem xk_218_6 : xchk1 (yX12_read, cX12_read, 3, some .int, false, 1) ((tb_X12_read.drop 6).take 3) = true := by decide +kernel
theorem xk_218_9 : xchk1 (yX12_read, cX12_read, 3, some .int, false, 1) ((tb_X12_read.drop 9).take 3) = true := by decide +kernel
theorem xk_218_12 : xchk1 (yX12_read, cX12_read, 3, some .int, false, 1) ((tb_X12_read.drop 12).take 3) = true := by decide +kernel
theorem xk_218_15 : xchk1 (yX12_read, cX12_read, 3, some .int, false, 1) ((tb_X12_read.drop 15).take 3) = true := by decide +kernel
theorem xk_218 : xchk (yX12_read, cX12_read, 3, some .int, false, 1) (tb_X12_read, 3, 1) [6015, 13, 6013, 6014] = true := xchk_mk (xchk1_split 3 xk_218_0 (xchk1_split 3 xk_218_3 (by rw [List.drop_drop]; exact (xchk1_split 3 xk_218_6 (by rw [List.drop_drop]; exact (xchk1_split 3 xk_218_9 (by rw [List.drop_drop]; exact (xchk1_split 3 xk_218_12 (by rw [List.drop_drop]; exact (by have e := xk_218_15; rwa [List.take_of_length_le (by decide +kernel)] at e)))))))))) (by decide +kernel)
theorem xk_219 : xchk (yX12_valueOf, cX12_valueOf, 2, some .int, false, 2) (tb_X12_valueOf, 2, 2) [6077, 13, 6076, 7074] = true := by decide +kernel
theorem xk_220_0 : xchk1 (yX12_holds, cX12_holds, 8, some .boolean, false, 2) ((tb_X12_holds.drop 0).take 3) = true := by decide +kernel
theorem xk_220_3 : xchk1 (yX12_holds, cX12_holds, 8, some .boolean, false, 2) ((tb_X12_holds.drop 3).take 3) = true := by decide +kernel
theorem xk_220_6 : xchk1 (yX12_holds, cX12_holds, 8, some .boolean, false, 2) ((tb_X12_holds.drop 6).take 3) = true := by decide +kernel
theorem xk_220_9 : xchk1 (yX12_holds, cX12_holds, 8, some .boolean, false, 2) ((tb_X12_holds.drop 9).take 3) = true := by decide +kernel
theorem xk_220_12 : xchk1 (yX12_holds, cX12_holds, 8, some .boolean, false, 2) ((tb_X12_holds.drop 12).take 3) = true := by decide +kernel
theorem xk_220_15 : xchk1 (yX12_holds, cX12_holds, 8, some .boolean, false, 2) ((tb_X12_holds.drop 15).take 3) = true := by decide +kernel
theorem xk_220 : xchk (yX12_holds, cX12_holds, 8, some .boolean, false, 2) (tb_X12_holds, 8, 2) [6073, 13, 6072, 7073] = true := xchk_mk (xchk1_split 3 xk_220_0 (xchk1_split 3 xk_220_3 (by rw [List.drop_drop]; exact (xchk1_split 3 xk_220_6 (by rw [List.drop_drop]; exact (xchk1_split 3 xk_220_9 (by rw [List.drop_drop]; exact (xchk1_split 3 xk_220_12 (by rw [List.drop_drop]; exact (by have e := xk_220_15; rwa [List.take_of_length_le (by decide +kernel)] at e)))))))))) (by decide +kernel)
theorem xk_221 : xchk (yX12_line, cX12_line, 3, some .int, false, 3) (tb_X12_line, 3, 3) [6069, 13, 6067, 6068] = true := by decide +kernel
theorem xk_222 : xchk (yX12_firstOf, cX12_firstOf, 4, some .int, false, 2) (tb_X12_firstOf, 4, 2) [6089, 13, 6088, 7076] = true := by decide +kernel
theorem xk_223 : xchk (yX12_handed, cX12_handed, 1, some .int, false, 1) (tb_X12_handed, 1, 1) [6085, 13, 6084, 7075] = true := by decide +kernel
theorem xk_224 : xchk (yX12_hand, cX12_hand, 2, some .int, false, 1) (tb_X12_hand, 2, 1) [6081, 13, 6079, 6080] = true := by decide +kernel
theorem xk_225 : xchk (yX12_ruled, cX12_ruled, 3, some .int, false, 2) (tb_X12_ruled, 3, 2) [6093, 13, 6091, 6092] = true := by decide +kernel
theorem xk_226 : xchk (yX12_prove, cX12_prove, 3, some .int, false, 2) (tb_X12_prove, 3, 2) [6097, 13, 6095, 6096] = true := by decide +kernel
theorem xk_227 : xchk (yX12_row, cX12_row, 3, some .int, false, 3) (tb_X12_row, 3, 3) [6101, 13, 6099, 6100] = true := by decide +kernel
theorem xk_228 : xchk (yX12_alterRow, cX12_alterRow, 5, some .int, false, 4) (tb_X12_alterRow, 5, 4) [6105, 13, 6103, 6104] = true := by decide +kernel
theorem xk_229_0 : xchk1 (yX12_judge, cX12_judge, 2, some .int, false, 1) ((tb_X12_judge.drop 0).take 3) = true := by decide +kernel
theorem xk_229_3 : xchk1 (yX12_judge, cX12_judge, 2, some .int, false, 1) ((tb_X12_judge.drop 3).take 3) = true := by decide +kernel
theorem xk_229_6 : xchk1 (yX12_judge, cX12_judge, 2, some .int, false, 1) ((tb_X12_judge.drop 6).take 3) = true := by decide +kernel
theorem xk_229 : xchk (yX12_judge, cX12_judge, 2, some .int, false, 1) (tb_X12_judge, 2, 1) [6109, 13, 6107, 6108] = true := xchk_mk (xchk1_split 3 xk_229_0 (xchk1_split 3 xk_229_3 (by rw [List.drop_drop]; exact (by have e := xk_229_6; rwa [List.take_of_length_le (by decide +kernel)] at e)))) (by decide +kernel)
theorem xk_230_0 : xchk1 (yX12_step, cX12_step, 5, some .int, false, 4) ((tb_X12_step.drop 0).take 3) = true := by decide +kernel
theorem xk_230_3 : xchk1 (yX12_step, cX12_step, 5, some .int, false, 4) ((tb_X12_step.drop 3).take 3) = true := by decide +kernel
theorem xk_230_6 : xchk1 (yX12_step, cX12_step, 5, some .int, false, 4) ((tb_X12_step.drop 6).take 3) = true := by decide +kernel
theorem xk_230 : xchk (yX12_step, cX12_step, 5, some .int, false, 4) (tb_X12_step, 5, 4) [6113, 13, 6111, 6112] = true := xchk_mk (xchk1_split 3 xk_230_0 (xchk1_split 3 xk_230_3 (by rw [List.drop_drop]; exact (by have e := xk_230_6; rwa [List.take_of_length_le (by decide +kernel)] at e)))) (by decide +kernel)
theorem xk_231_0 : xchk1 (yX12_counts, cX12_counts, 5, some .int, false, 3) ((tb_X12_counts.drop 0).take 3) = true := by decide +kernel
theorem xk_231_3 : xchk1 (yX12_counts, cX12_counts, 5, some .int, false, 3) ((tb_X12_counts.drop 3).take 3) = true := by decide +kernel
theorem xk_231 : xchk (yX12_counts, cX12_counts, 5, some .int, false, 3) (tb_X12_counts, 5, 3) [6125, 13, 6124, 7078] = true := xchk_mk (xchk1_split 3 xk_231_0 (by have e := xk_231_3; rwa [List.take_of_length_le (by decide +kernel)] at e)) (by decide +kernel)
theorem xk_232 : xchk (yX12_findOrder, cX12_findOrder, 4, none, false, 1) (tb_X12_findOrder, 4, 1) [6121, 13, 6120, 7077] = true := by decide +kernel
theorem xk_233 : xchk (yX12_follows, cX12_follows, 3, some .int, false, 2) (tb_X12_follows, 3, 2) [6133, 13, 6132, 7079] = true := by decide +kernel
theorem xk_234 : xchk (yX12_worth, cX12_worth, 4, some .int, false, 2) (tb_X12_worth, 4, 2) [6117, 13, 6115, 6116] = true := by decide +kernel
theorem xk_235 : xchk (yX12_order, cX12_order, 4, some .int, false, 2) (tb_X12_order, 4, 2) [6129, 13, 6127, 6128] = true := by decide +kernel
theorem xk_236 : xchk (yX12_job, cX12_job, 3, some .int, false, 2) (tb_X12_job, 3, 2) [6137, 13, 6135, 6136] = true := by decide +kernel
theorem xk_237_0 : xchk1 (yX12_shared, cX12_shared, 8, some .int, false, 2) ((tb_X12_shared.drop 0).take 3) = true := by decide +kernel
theorem xk_237_3 : xchk1 (yX12_shared, cX12_shared, 8, some .int, false, 2) ((tb_X12_shared.drop 3).take 3) = true := by decide +kernel
theorem xk_237_6 : xchk1 (yX12_shared, cX12_shared, 8, some .int, false, 2) ((tb_X12_shared.drop 6).take 3) = true := by decide +kernel
theorem xk_237_9 : xchk1 (yX12_shared, cX12_shared, 8, some .int, false, 2) ((tb_X12_shared.drop 9).take 3) = true := by decide +kernel
theorem xk_237 : xchk (yX12_shared, cX12_shared, 8, some .int, false, 2) (tb_X12_shared, 8, 2) [6141, 13, 6139, 6140] = true := xchk_mk (xchk1_split 3 xk_237_0 (xchk1_split 3 xk_237_3 (by rw [List.drop_drop]; exact (xchk1_split 3 xk_237_6 (by rw [List.drop_drop]; exact (by have e := xk_237_9; rwa [List.take_of_length_le (by decide +kernel)] at e)))))) (by decide +kernel)
theorem xk_238_0 : xchk1 (yX12_trial, cX12_trial, 5, some .int, false, 4) ((tb_X12_trial.drop 0).take 3) = true := by decide +kernel
theorem xk_238_3 : xchk1 (yX12_trial, cX12_trial, 5, some .int, false, 4) ((tb_X12_trial.drop 3).take 3) = true := by decide +kernel
theorem xk_238_6 : xchk1 (yX12_trial, cX12_trial, 5, some .int, false, 4) ((tb_X12_trial.drop 6).take 3) = true := by decide +kernel
theorem xk_238 : xchk (yX12_trial, cX12_trial, 5, some .int, false, 4) (tb_X12_trial, 5, 4) [6145, 13, 6143, 6144] = true := xchk_mk (xchk1_split 3 xk_238_0 (xchk1_split 3 xk_238_3 (by rw [List.drop_drop]; exact (by have e := xk_238_6; rwa [List.take_of_length_le (by decide +kernel)] at e)))) (by decide +kernel)
theorem xk_239_0 : xchk1 (yX12_fair, cX12_fair, 8, some .int, false, 5) ((tb_X12_fair.drop 0).take 3) = true := by decide +kernel
theorem xk_239_3 : xchk1 (yX12_fair, cX12_fair, 8, some .int, false, 5) ((tb_X12_fair.drop 3).take 3) = true := by decide +kernel
theorem xk_239_6 : xchk1 (yX12_fair, cX12_fair, 8, some .int, false, 5) ((tb_X12_fair.drop 6).take 3) = true := by decide +kernel
theorem xk_239_9 : xchk1 (yX12_fair, cX12_fair, 8, some .int, false, 5) ((tb_X12_fair.drop 9).take 3) = true := by decide +kernel
theorem xk_239 : xchk (yX12_fair, cX12_fair, 8, some .int, false, 5) (tb_X12_fair, 8, 5) [6149, 13, 6147, 6148] = true := xchk_mk (xchk1_split 3 xk_239_0 (xchk1_split 3 xk_239_3 (by rw [List.drop_drop]; exact (xchk1_split 3 xk_239_6 (by rw [List.drop_drop]; exact (by have e := xk_239_9; rwa [List.take_of_length_le (by decide +kernel)] at e)))))) (by decide +kernel)
theorem xk_240 : xchk (yX12_isFour, cX12_isFour, 1, some .boolean, true, 1) (tb_X12_isFour, 1, 1) [5041, 13, 5040] = true := by decide +kernel
theorem xk_241 : xchk (yX12_sheet, cX12_sheet, 5, some .int, false, 4) (tb_X12_sheet, 5, 4) [6153, 13, 6151, 6152] = true := by decide +kernel
theorem xk_242_0 : xchk1 (yX12_put, cX12_put, 4, some .int, false, 4) ((tb_X12_put.drop 0).take 3) = true := by decide +kernel
theorem xk_242_3 : xchk1 (yX12_put, cX12_put, 4, some .int, false, 4) ((tb_X12_put.drop 3).take 3) = true := by decide +kernel
theorem xk_242_6 : xchk1 (yX12_put, cX12_put, 4, some .int, false, 4) ((tb_X12_put.drop 6).take 3) = true := by decide +kernel
theorem xk_242 : xchk (yX12_put, cX12_put, 4, some .int, false, 4) (tb_X12_put, 4, 4) [6157, 13, 6155, 6156] = true := xchk_mk (xchk1_split 3 xk_242_0 (xchk1_split 3 xk_242_3 (by rw [List.drop_drop]; exact (by have e := xk_242_6; rwa [List.take_of_length_le (by decide +kernel)] at e)))) (by decide +kernel)
theorem xk_243 : xchk (yX12_notOf, cX12_notOf, 3, some .int, false, 3) (tb_X12_notOf, 3, 3) [6165, 13, 6164, 7080] = true := by decide +kernel
theorem xk_244 : xchk (yX12_item, cX12_item, 5, some .int, false, 4) (tb_X12_item, 5, 4) [6161, 13, 6159, 6160] = true := by decide +kernel
theorem xk_245_0 : xchk1 (yX12_flies, cX12_flies, 8, some .int, false, 4) ((tb_X12_flies.drop 0).take 3) = true := by decide +kernel
theorem xk_245_3 : xchk1 (yX12_flies, cX12_flies, 8, some .int, false, 4) ((tb_X12_flies.drop 3).take 3) = true := by decide +kernel
theorem xk_245_6 : xchk1 (yX12_flies, cX12_flies, 8, some .int, false, 4) ((tb_X12_flies.drop 6).take 3) = true := by decide +kernel
theorem xk_245 : xchk (yX12_flies, cX12_flies, 8, some .int, false, 4) (tb_X12_flies, 8, 4) [6169, 13, 6167, 6168] = true := xchk_mk (xchk1_split 3 xk_245_0 (xchk1_split 3 xk_245_3 (by rw [List.drop_drop]; exact (by have e := xk_245_6; rwa [List.take_of_length_le (by decide +kernel)] at e)))) (by decide +kernel)
theorem xk_246_0 : xchk1 (yX12_shelf, cX12_shelf, 6, some .int, false, 4) ((tb_X12_shelf.drop 0).take 3) = true := by decide +kernel
theorem xk_246_3 : xchk1 (yX12_shelf, cX12_shelf, 6, some .int, false, 4) ((tb_X12_shelf.drop 3).take 3) = true := by decide +kernel
theorem xk_246_6 : xchk1 (yX12_shelf, cX12_shelf, 6, some .int, false, 4) ((tb_X12_shelf.drop 6).take 3) = true := by decide +kernel
theorem xk_246_9 : xchk1 (yX12_shelf, cX12_shelf, 6, some .int, false, 4) ((tb_X12_shelf.drop 9).take 3) = true := by decide +kernel
theorem xk_246 : xchk (yX12_shelf, cX12_shelf, 6, some .int, false, 4) (tb_X12_shelf, 6, 4) [6173, 13, 6171, 6172] = true := xchk_mk (xchk1_split 3 xk_246_0 (xchk1_split 3 xk_246_3 (by rw [List.drop_drop]; exact (xchk1_split 3 xk_246_6 (by rw [List.drop_drop]; exact (by have e := xk_246_9; rwa [List.take_of_length_le (by decide +kernel)] at e)))))) (by decide +kernel)
theorem xk_247 : xchk (yX12_formOn, cX12_formOn, 3, some .int, false, 2) (tb_X12_formOn, 3, 2) [6181, 13, 6180, 7081] = true := by decide +kernel
theorem xk_248 : xchk (yX12_above, cX12_above, 1, some .int, true, 1) (tb_X12_above, 1, 1) [6184, 13, 6183] = true := by decide +kernel
theorem xk_249_0 : xchk1 (yX12_taken, cX12_taken, 4, some .int, false, 3) ((tb_X12_taken.drop 0).take 3) = true := by decide +kernel
theorem xk_249_3 : xchk1 (yX12_taken, cX12_taken, 4, some .int, false, 3) ((tb_X12_taken.drop 3).take 3) = true := by decide +kernel
theorem xk_249_6 : xchk1 (yX12_taken, cX12_taken, 4, some .int, false, 3) ((tb_X12_taken.drop 6).take 3) = true := by decide +kernel
theorem xk_249 : xchk (yX12_taken, cX12_taken, 4, some .int, false, 3) (tb_X12_taken, 4, 3) [6177, 13, 6175, 6176] = true := xchk_mk (xchk1_split 3 xk_249_0 (xchk1_split 3 xk_249_3 (by rw [List.drop_drop]; exact (by have e := xk_249_6; rwa [List.take_of_length_le (by decide +kernel)] at e)))) (by decide +kernel)
theorem xk_250 : xchk (yX12_began, cX12_began, 2, none, false, 2) (tb_X12_began, 2, 2) [6207, 13, 6206, 7085] = true := by decide +kernel
theorem xk_251 : xchk (yX12_hasOwn, cX12_hasOwn, 2, some .boolean, true, 2) (tb_X12_hasOwn, 2, 2) [6199, 13, 6198] = true := by decide +kernel
theorem xk_252 : xchk (yX12_answer, cX12_answer, 3, some .int, false, 3) (tb_X12_answer, 3, 3) [6192, 13, 6191, 7082] = true := by decide +kernel
theorem xk_253 : xchk (yX12_bodyFrom, cX12_bodyFrom, 5, some .int, false, 4) (tb_X12_bodyFrom, 5, 4) [6196, 13, 6195, 7083] = true := by decide +kernel
theorem xk_254_0 : xchk1 (yX12_body, cX12_body, 7, some .int, false, 4) ((tb_X12_body.drop 0).take 3) = true := by decide +kernel
theorem xk_254_3 : xchk1 (yX12_body, cX12_body, 7, some .int, false, 4) ((tb_X12_body.drop 3).take 3) = true := by decide +kernel
theorem xk_254_6 : xchk1 (yX12_body, cX12_body, 7, some .int, false, 4) ((tb_X12_body.drop 6).take 3) = true := by decide +kernel
theorem xk_254_9 : xchk1 (yX12_body, cX12_body, 7, some .int, false, 4) ((tb_X12_body.drop 9).take 3) = true := by decide +kernel
theorem xk_254_12 : xchk1 (yX12_body, cX12_body, 7, some .int, false, 4) ((tb_X12_body.drop 12).take 3) = true := by decide +kernel
theorem xk_254_15 : xchk1 (yX12_body, cX12_body, 7, some .int, false, 4) ((tb_X12_body.drop 15).take 3) = true := by decide +kernel
theorem xk_254_18 : xchk1 (yX12_body, cX12_body, 7, some .int, false, 4) ((tb_X12_body.drop 18).take 3) = true := by decide +kernel
theorem xk_254_21 : xchk1 (yX12_body, cX12_body, 7, some .int, false, 4) ((tb_X12_body.drop 21).take 3) = true := by decide +kernel
theorem xk_254_24 : xchk1 (yX12_body, cX12_body, 7, some .int, false, 4) ((tb_X12_body.drop 24).take 3) = true := by decide +kernel
theorem xk_254_27 : xchk1 (yX12_body, cX12_body, 7, some .int, false, 4) ((tb_X12_body.drop 27).take 3) = true := by decide +kernel
theorem xk_254 : xchk (yX12_body, cX12_body, 7, some .int, false, 4) (tb_X12_body, 7, 4) [6203, 13, 6202, 7084] = true := xchk_mk (xchk1_split 3 xk_254_0 (xchk1_split 3 xk_254_3 (by rw [List.drop_drop]; exact (xchk1_split 3 xk_254_6 (by rw [List.drop_drop]; exact (xchk1_split 3 xk_254_9 (by rw [List.drop_drop]; exact (xchk1_split 3 xk_254_12 (by rw [List.drop_drop]; exact (xchk1_split 3 xk_254_15 (by rw [List.drop_drop]; exact (xchk1_split 3 xk_254_18 (by rw [List.drop_drop]; exact (xchk1_split 3 xk_254_21 (by rw [List.drop_drop]; exact (xchk1_split 3 xk_254_24 (by rw [List.drop_drop]; exact (by have e := xk_254_27; rwa [List.take_of_length_le (by decide +kernel)] at e)))))))))))))))))) (by decide +kernel)
theorem xk_255 : xchk (yX12_ask, cX12_ask, 6, some .int, false, 4) (tb_X12_ask, 6, 4) [6188, 13, 6186, 6187] = true := by decide +kernel
theorem xk_256 : xchk (yX12_trace, cX12_trace, 2, some .int, false, 2) (tb_X12_trace, 2, 2) [6211, 13, 6209, 6210] = true := by decide +kernel
theorem xk_257 : xchk (yX12_many, cX12_many, 2, some .int, false, 2) (tb_X12_many, 2, 2) [6215, 13, 6213, 6214] = true := by decide +kernel
theorem xk_258 : xchk (yX12_keep, cX12_keep, 2, some .int, false, 1) (tb_X12_keep, 2, 1) [6219, 13, 6217, 6218] = true := by decide +kernel
theorem xk_259 : xchk (yX12_again, cX12_again, 2, some .int, false, 1) (tb_X12_again, 2, 1) [6223, 13, 6221, 6222] = true := by decide +kernel
theorem xk_260 : xchk (yJ0_length_8abf5, cJ0_length_8abf5, 1, some .int, false, 1) (tb_J0_length_8abf5, 1, 1) [2238, 16, 2236, 2237] = true := by decide +kernel
theorem xk_261 : xchk (yJ0_charAt_5068e, cJ0_charAt_5068e, 2, some .char, false, 2) (tb_J0_charAt_5068e, 2, 2) [3008, 16, 3006, 3007] = true := by decide +kernel
theorem xk_262 : xchk (yJ0_coder_7d493, cJ0_coder_7d493, 1, some .byte, false, 1) (tb_J0_coder_7d493, 1, 1) [3002, 16, 3000, 3001] = true := by decide +kernel
theorem xk_263 : xchk (yJ0_isLatin1_aae02, cJ0_isLatin1_aae02, 1, some .boolean, false, 1) (tb_J0_isLatin1_aae02, 1, 1) [3012, 16, 3010, 3011] = true := by decide +kernel
theorem xk_264 : xchk (yJ0_checkIndex_df160, cJ0_checkIndex_df160, 2, none, true, 2) (tb_J0_checkIndex_df160, 2, 2) [3018, 16, 3017] = true := by decide +kernel
theorem xk_265 : xchk (yJ1_charAt_3b067, cJ1_charAt_3b067, 2, some .char, true, 2) (tb_J1_charAt_3b067, 2, 2) [3015, 17, 3014] = true := by decide +kernel
theorem xk_266 : xchk (yJ7_fill_53178, cJ7_fill_53178, 4, none, true, 2) (tb_J7_fill_53178, 4, 2) [1151, 14, 1150] = true := by decide +kernel
theorem xk_267 : xchk (yJ3_checkIndex_8e157, cJ3_checkIndex_8e157, 3, some .int, true, 3) (tb_J3_checkIndex_8e157, 3, 3) [3023, 18, 3022] = true := by decide +kernel
theorem xk_len : xmi.length = 268 ∧ ptX.length = 268 := by decide +kernel
