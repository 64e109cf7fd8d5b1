/-! SOUNDNESS OF THE PURE MACHINE, part 6: every table, checked; every call -/
def xchk1 (y : xMi) (tb : xTb) : Bool := tb.all (fun row => row.all (fun q => xck y.1.cls y.2.2.2.1 y.2.1 y.2.2.1 q.1 q.2))
def xchk2 (y : xMi) (mt : xMt) (pl : List Nat) : Bool := (decide (mt.2.1 = y.2.2.1) && (decide (mt.2.2 = y.2.2.2.2.2) && (plainName y.1.cls && (xinq (xnd 0 pl 0) (Cond.code y.1 y.2.1 y.2.2.1 y.2.2.2.1) && (decide (y.1.cls ≠ "java/lang/invoke/MethodHandle" ∧ y.1.cls ≠ "java/lang/invoke/VarHandle") && (decide ((parseMethodDescriptor y.1.desc).map (fun d => d.parameters.length) = some (y.2.2.2.2.2 - (if y.2.2.2.2.1 then 0 else 1))) && (xinq (xnd 0 pl 1) (Cond.initialized y.1.cls) &&
  ((if y.2.2.2.2.1 then xinq (xnd 0 pl 2) (Cond.static y.1) else xinq (xnd 0 pl 2) (Cond.instanceMethod y.1) && xinq (xnd 0 pl 3) (Cond.selects y.1.cls y.1 y.1)) && decide (y.2.2.1 ≤ 40)))))))))
def xchk (y : xMi) (mt : xMt) (pl : List Nat) : Bool := xchk1 y mt.1 && xchk2 y mt pl
theorem xchk_mk {y : xMi} {mt : xMt} {pl : List Nat} (h1 : xchk1 y mt.1 = true) (h2 : xchk2 y mt pl = true) : xchk y mt pl = true := by
  rw [xchk, h1, h2]
  rfl
theorem xchk1_split {y : xMi} {tb : xTb} (k : Nat) (h1 : xchk1 y (tb.take k) = true) (h2 : xchk1 y (tb.drop k) = true) : xchk1 y tb = true := by
  unfold xchk1 at *
  rw [← List.take_append_drop k tb, List.all_append, h1, h2]
  rfl
def xpl : List (List Nat) := [[4066, 12, 4064, 4065], [4079, 12, 4077, 4078], [4069, 12, 4068], [4086, 12, 4085], [4083, 12, 4082, 7031], [4092, 12, 4091, 7032], [4096, 12, 4095, 7033], [3209, 11, 3207, 3208], [3221, 11, 3219, 3220], [3235, 11, 3233, 3234], [3225, 11, 3224, 7026], [3239, 11, 3238, 7027], [3216, 11, 3215], [1220, 4, 1218, 1219], [1224, 4, 1222, 1223], [2120, 4, 2118, 2119], [2153, 8, 2151, 2152], [3175, 8, 3173, 3174], [2157, 8, 2156, 7007], [2176, 8, 2175, 7008], [2186, 8, 2184, 2185], [3138, 7, 3136, 3137], [3068, 7, 3066, 3067], [3080, 7, 3078, 3079], [3123, 7, 3121, 3122], [3119, 7, 3118], [3142, 7, 3140, 3141], [3153, 7, 3152], [3148, 7, 3147], [3165, 7, 3163, 3164], [3127, 7, 3125, 3126], [1173, 3, 1171, 1172], [1195, 3, 1193, 1194], [1204, 3, 1202, 1203], [1208, 3, 1206, 1207], [2014, 3, 2012, 2013], [1154, 3, 1152, 1153], [1191, 3, 1189, 1190], [1232, 3, 1230, 1231], [2033, 3, 2032], [2030, 3, 2029], [2037, 3, 2035, 2036], [2049, 3, 2047, 2048], [2026, 3, 2024, 2025], [2045, 3, 2043, 2044], [4116, 3, 4114, 4115], [2073, 9, 2071, 2072], [2101, 9, 2100, 7006], [2078, 9, 2077, 7003], [2081, 9, 2080], [2084, 9, 2083], [2087, 9, 2086], [2095, 9, 2094, 7005], [2091, 9, 2090, 7004], [2110, 9, 2108, 2109], [1106, 5, 1104, 1105], [1098, 5, 1096, 1097], [2006, 5, 2004, 2005], [1102, 5, 1100, 1101], [2196, 5, 2194, 2195], [3213, 5, 3211, 3212], [3184, 5, 3182, 3183], [4024, 13, 4022, 4023], [1185, 13, 1183, 1184], [1181, 13, 1179, 1180], [4034, 13, 4032, 4033], [1169, 13, 1167, 1168], [1177, 13, 1175, 1176], [2220, 10, 2218, 2219], [2228, 10, 2226, 2227], [2232, 10, 2231, 7010], [3056, 10, 3055, 7013], [2236, 10, 2235, 7011], [2239, 10, 2238], [3059, 10, 3058], [3063, 10, 3062, 7014], [3003, 10, 3002, 7012], [3072, 10, 3071, 7015], [3076, 10, 3075, 7016], [3088, 10, 3087, 7018], [3092, 10, 3091, 7019], [3096, 10, 3095, 7020], [3104, 10, 3103, 7022], [3108, 10, 3107, 7023], [3112, 10, 3111, 7024], [3116, 10, 3115, 7025], [3084, 10, 3083, 7017], [3100, 10, 3099, 7021], [4112, 2, 4110, 4111], [2001, 2, 1239, 2000], [1237, 2, 1235, 1236], [2132, 2, 2130, 2131], [2167, 2, 2165, 2166], [2163, 2, 2161, 2162], [2172, 2, 2170, 2171], [3161, 2, 3159, 3160], [1147, 1, 1145, 1146], [1161, 1, 1159, 1160], [1199, 1, 1197, 1198], [1212, 1, 1210, 1211], [1216, 1, 1215, 7001], [1228, 1, 1226, 1227], [2010, 1, 2008, 2009], [2018, 1, 2016, 2017], [2022, 1, 2021, 7002], [2055, 1, 2053, 2054], [2059, 1, 2057, 2058], [2063, 1, 2061, 2062], [2069, 1, 2067, 2068], [2116, 1, 2114, 2115], [2124, 1, 2122, 2123], [2128, 1, 2126, 2127], [2137, 1, 2135, 2136], [2141, 1, 2139, 2140], [2145, 1, 2143, 2144], [2149, 1, 2147, 2148], [2192, 1, 2190, 2191], [2204, 1, 2202, 2203], [2208, 1, 2207, 7009], [2212, 1, 2210, 2211], [2216, 1, 2214, 2215], [2224, 1, 2222, 2223], [3134, 1, 3132, 3133], [3157, 1, 3155, 3156], [3171, 1, 3169, 3170], [3180, 1, 3178, 3179], [3189, 1, 3187, 3188], [3193, 1, 3191, 3192], [3197, 1, 3195, 3196], [3201, 1, 3199, 3200], [3205, 1, 3203, 3204], [3231, 1, 3229, 3230], [4003, 1, 4001, 4002], [4007, 1, 4005, 4006], [4012, 1, 4010, 4011], [4016, 1, 4014, 4015], [4020, 1, 4018, 4019], [4029, 1, 4027, 4028], [4038, 1, 4036, 4037], [4042, 1, 4040, 4041], [4046, 1, 4044, 4045], [4054, 1, 4053, 7029], [4050, 1, 4049, 7028], [4062, 1, 4061, 7030], [4058, 1, 4056, 4057], [4075, 1, 4073, 4074], [4100, 1, 4098, 4099], [4104, 1, 4102, 4103], [4108, 1, 4106, 4107], [4124, 1, 4122, 4123], [1150, 1, 1149], [1165, 1, 1164, 7000], [2200, 1, 2199], [5047, 14, 5046], [5148, 14, 5147, 7046], [5074, 14, 5073, 7036], [5058, 14, 5057, 7034], [5066, 14, 5065, 7035], [5109, 14, 5108], [5044, 14, 5042, 5043], [5051, 14, 5049, 5050], [5062, 14, 5060, 5061], [5070, 14, 5068, 5069], [5078, 14, 5076, 5077], [5102, 14, 5100, 5101], [5082, 14, 5081, 7037], [5086, 14, 5085, 7038], [5123, 14, 5122], [5120, 14, 5119], [5127, 14, 5126, 7044], [5117, 14, 5116, 7043], [5131, 14, 5130, 7045], [5094, 14, 5093, 7040], [5098, 14, 5097, 7041], [5090, 14, 5089, 7039], [5113, 14, 5112, 7042], [5106, 14, 5104, 5105], [5136, 14, 5134, 5135], [5140, 14, 5138, 5139], [5144, 14, 5142, 5143], [5160, 14, 5159, 7048], [5156, 14, 5155, 7047], [5164, 14, 5163, 7049], [5152, 14, 5150, 5151], [5172, 14, 5171, 7050], [5168, 14, 5166, 5167], [5180, 14, 5179, 7051], [5176, 14, 5174, 5175], [5188, 14, 5187, 7052], [5184, 14, 5182, 5183], [5192, 14, 5190, 5191], [5200, 14, 5199, 7053], [5196, 14, 5194, 5195], [5204, 14, 5202, 5203], [5224, 14, 5223, 7057], [5228, 14, 5227, 7058], [5220, 14, 5219, 7056], [5216, 14, 5215, 7055], [5212, 14, 5211, 7054], [5233, 14, 5232, 7059], [5208, 14, 5206, 5207], [6007, 14, 6006], [6004, 14, 6003], [6001, 14, 6000, 7060], [5237, 14, 5235, 5236], [6015, 14, 6014, 7061], [6011, 14, 6009, 6010], [6019, 14, 6017, 6018], [6023, 14, 6021, 6022], [6036, 14, 6035, 7063], [6032, 14, 6031, 7062], [6044, 14, 6043, 7065], [6040, 14, 6039, 7064], [6068, 14, 6067, 7070], [6050, 14, 6049, 7066], [6076, 14, 6075, 7072], [6055, 14, 6054, 7067], [6059, 14, 6058, 7068], [6072, 14, 6071, 7071], [6063, 14, 6062, 7069], [6028, 14, 6026, 6027], [6090, 14, 6089, 7074], [6086, 14, 6085, 7073], [6082, 14, 6080, 6081], [6102, 14, 6101, 7076], [6098, 14, 6097, 7075], [6094, 14, 6092, 6093], [6106, 14, 6104, 6105], [6110, 14, 6108, 6109], [6114, 14, 6112, 6113], [6118, 14, 6116, 6117], [6122, 14, 6120, 6121], [6126, 14, 6124, 6125], [6138, 14, 6137, 7078], [6134, 14, 6133, 7077], [6146, 14, 6145, 7079], [6130, 14, 6128, 6129], [6142, 14, 6140, 6141], [6150, 14, 6148, 6149], [6154, 14, 6152, 6153], [6158, 14, 6156, 6157], [6162, 14, 6160, 6161], [5054, 14, 5053], [6166, 14, 6164, 6165], [6170, 14, 6168, 6169], [6178, 14, 6177, 7080], [6174, 14, 6172, 6173], [6182, 14, 6180, 6181], [6186, 14, 6184, 6185], [6194, 14, 6193, 7081], [6197, 14, 6196], [6190, 14, 6188, 6189], [6220, 14, 6219, 7085], [6212, 14, 6211], [6205, 14, 6204, 7082], [6209, 14, 6208, 7083], [6216, 14, 6215, 7084], [6201, 14, 6199, 6200], [6224, 14, 6222, 6223], [6228, 14, 6226, 6227], [6232, 14, 6230, 6231], [6236, 14, 6234, 6235], [3008, 16, 3006, 3007], [3018, 16, 3016, 3017], [3012, 16, 3010, 3011], [3022, 16, 3020, 3021], [3028, 16, 3027], [3025, 17, 3024], [1157, 15, 1156], [3033, 18, 3032]]
theorem xk_0 : xchk (yX0_isUnder, cX0_isUnder, 5, some .boolean, false, 3) (tb_X0_isUnder, 5, 3) [4066, 12, 4064, 4065] = true := by decide +kernel
theorem xk_1 : xchk (yX0_answer, cX0_answer, 7, some .int, false, 6) (tb_X0_answer, 7, 6) [4079, 12, 4077, 4078] = true := by decide +kernel
theorem xk_2 : xchk (yX0_above, cX0_above, 1, some .int, true, 1) (tb_X0_above, 1, 1) [4069, 12, 4068] = true := by decide +kernel
theorem xk_3 : xchk (yX0_body, cX0_body, 2, some .int, true, 2) (tb_X0_body, 2, 2) [4086, 12, 4085] = true := by decide +kernel
theorem xk_4 : xchk (yX0_asked, cX0_asked, 7, some .int, false, 5) (tb_X0_asked, 7, 5) [4083, 12, 4082, 7031] = true := by decide +kernel
theorem xk_5_0 : xchk1 (yX0_run, cX0_run, 4, some .int, false, 4) ((tb_X0_run.drop 0).take 2) = true := by decide +kernel
theorem xk_5_2 : xchk1 (yX0_run, cX0_run, 4, some .int, false, 4) ((tb_X0_run.drop 2).take 2) = true := by decide +kernel
theorem xk_5_4 : xchk1 (yX0_run, cX0_run, 4, some .int, false, 4) ((tb_X0_run.drop 4).take 2) = true := by decide +kernel
theorem xk_5_6 : xchk1 (yX0_run, cX0_run, 4, some .int, false, 4) ((tb_X0_run.drop 6).take 2) = true := by decide +kernel
theorem xk_5_8 : xchk1 (yX0_run, cX0_run, 4, some .int, false, 4) ((tb_X0_run.drop 8).take 2) = true := by decide +kernel
theorem xk_5_10 : xchk1 (yX0_run, cX0_run, 4, some .int, false, 4) ((tb_X0_run.drop 10).take 2) = true := by decide +kernel
theorem xk_5_12 : xchk1 (yX0_run, cX0_run, 4, some .int, false, 4) ((tb_X0_run.drop 12).take 2) = true := by decide +kernel
theorem xk_5_14 : xchk1 (yX0_run, cX0_run, 4, some .int, false, 4) ((tb_X0_run.drop 14).take 2) = true := by decide +kernel
theorem xk_5_16 : xchk1 (yX0_run, cX0_run, 4, some .int, false, 4) ((tb_X0_run.drop 16).take 2) = true := by decide +kernel
theorem xk_5_18 : xchk1 (yX0_run, cX0_run, 4, some .int, false, 4) ((tb_X0_run.drop 18).take 2) = true := by decide +kernel
theorem xk_5_20 : xchk1 (yX0_run, cX0_run, 4, some .int, false, 4) ((tb_X0_run.drop 20).take 2) = true := by decide +kernel
theorem xk_5_22 : xchk1 (yX0_run, cX0_run, 4, some .int, false, 4) ((tb_X0_run.drop 22).take 2) = true := by decide +kernel
theorem xk_5_24 : xchk1 (yX0_run, cX0_run, 4, some .int, false, 4) ((tb_X0_run.drop 24).take 2) = true := by decide +kernel
theorem xk_5_26 : xchk1 (yX0_run, cX0_run, 4, some .int, false, 4) ((tb_X0_run.drop 26).take 2) = true := by decide +kernel
theorem xk_5_28 : xchk1 (yX0_run, cX0_run, 4, some .int, false, 4) ((tb_X0_run.drop 28).take 2) = true := by decide +kernel
theorem xk_5_30 : xchk1 (yX0_run, cX0_run, 4, some .int, false, 4) ((tb_X0_run.drop 30).take 2) = true := by decide +kernel
theorem xk_5_32 : xchk1 (yX0_run, cX0_run, 4, some .int, false, 4) ((tb_X0_run.drop 32).take 2) = true := by decide +kernel
theorem xk_5 : xchk (yX0_run, cX0_run, 4, some .int, false, 4) (tb_X0_run, 4, 4) [4092, 12, 4091, 7032] = true := xchk_mk (xchk1_split 2 xk_5_0 (xchk1_split 2 xk_5_2 (by rw [List.drop_drop]; exact (xchk1_split 2 xk_5_4 (by rw [List.drop_drop]; exact (xchk1_split 2 xk_5_6 (by rw [List.drop_drop]; exact (xchk1_split 2 xk_5_8 (by rw [List.drop_drop]; exact (xchk1_split 2 xk_5_10 (by rw [List.drop_drop]; exact (xchk1_split 2 xk_5_12 (by rw [List.drop_drop]; exact (xchk1_split 2 xk_5_14 (by rw [List.drop_drop]; exact (xchk1_split 2 xk_5_16 (by rw [List.drop_drop]; exact (xchk1_split 2 xk_5_18 (by rw [List.drop_drop]; exact (xchk1_split 2 xk_5_20 (by rw [List.drop_drop]; exact (xchk1_split 2 xk_5_22 (by rw [List.drop_drop]; exact (xchk1_split 2 xk_5_24 (by rw [List.drop_drop]; exact (xchk1_split 2 xk_5_26 (by rw [List.drop_drop]; exact (xchk1_split 2 xk_5_28 (by rw [List.drop_drop]; exact (xchk1_split 2 xk_5_30 (by rw [List.drop_drop]; exact (by have e := xk_5_32; rwa [List.take_of_length_le (by decide +kernel)] at e)))))))))))))))))))))))))))))))) (by decide +kernel)
theorem xk_6 : xchk (yX0_quotient, cX0_quotient, 3, some .int, false, 3) (tb_X0_quotient, 3, 3) [4096, 12, 4095, 7033] = true := by decide +kernel
theorem xk_7 : xchk (yX1_asItStands, cX1_asItStands, 5, some .int, false, 2) (tb_X1_asItStands, 5, 2) [3209, 11, 3207, 3208] = true := by decide +kernel
theorem xk_8 : xchk (yX1_greatest, cX1_greatest, 2, some .int, false, 2) (tb_X1_greatest, 2, 2) [3221, 11, 3219, 3220] = true := by decide +kernel
theorem xk_9 : xchk (yX1_inOrder, cX1_inOrder, 6, some .int, false, 3) (tb_X1_inOrder, 6, 3) [3235, 11, 3233, 3234] = true := by decide +kernel
theorem xk_10_0 : xchk1 (yX1_weigh, cX1_weigh, 7, none, false, 2) ((tb_X1_weigh.drop 0).take 3) = true := by decide +kernel
theorem xk_10_3 : xchk1 (yX1_weigh, cX1_weigh, 7, none, false, 2) ((tb_X1_weigh.drop 3).take 3) = true := by decide +kernel
theorem xk_10_6 : xchk1 (yX1_weigh, cX1_weigh, 7, none, false, 2) ((tb_X1_weigh.drop 6).take 3) = true := by decide +kernel
theorem xk_10 : xchk (yX1_weigh, cX1_weigh, 7, none, false, 2) (tb_X1_weigh, 7, 2) [3225, 11, 3224, 7026] = true := xchk_mk (xchk1_split 3 xk_10_0 (xchk1_split 3 xk_10_3 (by rw [List.drop_drop]; exact (by have e := xk_10_6; rwa [List.take_of_length_le (by decide +kernel)] at e)))) (by decide +kernel)
theorem xk_11 : xchk (yX1_firstBest, cX1_firstBest, 5, some .int, false, 3) (tb_X1_firstBest, 5, 3) [3239, 11, 3238, 7027] = true := by decide +kernel
theorem xk_12 : xchk (yX1_counting, cX1_counting, 3, some .int, true, 3) (tb_X1_counting, 3, 3) [3216, 11, 3215] = true := by decide +kernel
theorem xk_13 : xchk (yX2_told, cX2_told, 2, some .int, false, 2) (tb_X2_told, 2, 2) [1220, 4, 1218, 1219] = true := by decide +kernel
theorem xk_14 : xchk (yX2_become, cX2_become, 3, none, false, 3) (tb_X2_become, 3, 3) [1224, 4, 1222, 1223] = true := by decide +kernel
theorem xk_15 : xchk (yX2_become_, cX2_become_, 2, none, false, 2) (tb_X2_become_, 2, 2) [2120, 4, 2118, 2119] = true := by decide +kernel
theorem xk_16 : xchk (yX3_byPlan, cX3_byPlan, 6, none, false, 4) (tb_X3_byPlan, 6, 4) [2153, 8, 2151, 2152] = true := by decide +kernel
theorem xk_17 : xchk (yX3_byHands, cX3_byHands, 4, none, false, 2) (tb_X3_byHands, 4, 2) [3175, 8, 3173, 3174] = true := by decide +kernel
theorem xk_18 : xchk (yX3_begin, cX3_begin, 2, none, false, 2) (tb_X3_begin, 2, 2) [2157, 8, 2156, 7007] = true := by decide +kernel
theorem xk_19 : xchk (yX3_go, cX3_go, 5, none, false, 4) (tb_X3_go, 5, 4) [2176, 8, 2175, 7008] = true := by decide +kernel
theorem xk_20 : xchk (yX3_told, cX3_told, 5, some .int, false, 3) (tb_X3_told, 5, 3) [2186, 8, 2184, 2185] = true := by decide +kernel
theorem xk_21 : xchk (yX4_has, cX4_has, 2, some .boolean, false, 2) (tb_X4_has, 2, 2) [3138, 7, 3136, 3137] = true := by decide +kernel
theorem xk_22 : xchk (yX4_begin, cX4_begin, 1, none, false, 1) (tb_X4_begin, 1, 1) [3068, 7, 3066, 3067] = true := by decide +kernel
theorem xk_23 : xchk (yX4_open, cX4_open, 2, none, false, 2) (tb_X4_open, 2, 2) [3080, 7, 3078, 3079] = true := by decide +kernel
theorem xk_24 : xchk (yX4_add, cX4_add, 3, none, false, 2) (tb_X4_add, 3, 2) [3123, 7, 3121, 3122] = true := by decide +kernel
theorem xk_25 : xchk (yX4_coded, cX4_coded, 3, some .int, true, 3) (tb_X4_coded, 3, 3) [3119, 7, 3118] = true := by decide +kernel
theorem xk_26_0 : xchk1 (yX4_holds, cX4_holds, 11, some .boolean, false, 4) ((tb_X4_holds.drop 0).take 3) = true := by decide +kernel
theorem xk_26_3 : xchk1 (yX4_holds, cX4_holds, 11, some .boolean, false, 4) ((tb_X4_holds.drop 3).take 3) = true := by decide +kernel
theorem xk_26_6 : xchk1 (yX4_holds, cX4_holds, 11, some .boolean, false, 4) ((tb_X4_holds.drop 6).take 3) = true := by decide +kernel
theorem xk_26_9 : xchk1 (yX4_holds, cX4_holds, 11, some .boolean, false, 4) ((tb_X4_holds.drop 9).take 3) = true := by decide +kernel
theorem xk_26_12 : xchk1 (yX4_holds, cX4_holds, 11, some .boolean, false, 4) ((tb_X4_holds.drop 12).take 3) = true := by decide +kernel
theorem xk_26 : xchk (yX4_holds, cX4_holds, 11, some .boolean, false, 4) (tb_X4_holds, 11, 4) [3142, 7, 3140, 3141] = true := xchk_mk (xchk1_split 3 xk_26_0 (xchk1_split 3 xk_26_3 (by rw [List.drop_drop]; exact (xchk1_split 3 xk_26_6 (by rw [List.drop_drop]; exact (xchk1_split 3 xk_26_9 (by rw [List.drop_drop]; exact (by have e := xk_26_12; rwa [List.take_of_length_le (by decide +kernel)] at e)))))))) (by decide +kernel)
theorem xk_27 : xchk (yX4_compared, cX4_compared, 3, some .int, true, 3) (tb_X4_compared, 3, 3) [3153, 7, 3152] = true := by decide +kernel
theorem xk_28 : xchk (yX4_value, cX4_value, 3, some .int, true, 3) (tb_X4_value, 3, 3) [3148, 7, 3147] = true := by decide +kernel
theorem xk_29 : xchk (yX4_chosen, cX4_chosen, 6, some .int, false, 4) (tb_X4_chosen, 6, 4) [3165, 7, 3163, 3164] = true := by decide +kernel
theorem xk_30 : xchk (yX4_become, cX4_become, 2, none, false, 2) (tb_X4_become, 2, 2) [3127, 7, 3125, 3126] = true := by decide +kernel
theorem xk_31 : xchk (yX5_cells, cX5_cells, 1, some .int, false, 1) (tb_X5_cells, 1, 1) [1173, 3, 1171, 1172] = true := by decide +kernel
theorem xk_32 : xchk (yX5_has, cX5_has, 2, some .boolean, false, 2) (tb_X5_has, 2, 2) [1195, 3, 1193, 1194] = true := by decide +kernel
theorem xk_33 : xchk (yX5_groundOf, cX5_groundOf, 2, some .int, false, 2) (tb_X5_groundOf, 2, 2) [1204, 3, 1202, 1203] = true := by decide +kernel
theorem xk_34 : xchk (yX5_housesOf, cX5_housesOf, 2, some .int, false, 2) (tb_X5_housesOf, 2, 2) [1208, 3, 1206, 1207] = true := by decide +kernel
theorem xk_35 : xchk (yX5_tableOf, cX5_tableOf, 2, some .int, false, 2) (tb_X5_tableOf, 2, 2) [2014, 3, 2012, 2013] = true := by decide +kernel
theorem xk_36 : xchk (yX5_flatten, cX5_flatten, 3, none, false, 3) (tb_X5_flatten, 3, 3) [1154, 3, 1152, 1153] = true := by decide +kernel
theorem xk_37 : xchk (yX5_lie, cX5_lie, 4, none, false, 4) (tb_X5_lie, 4, 4) [1191, 3, 1189, 1190] = true := by decide +kernel
theorem xk_38 : xchk (yX5_isDown, cX5_isDown, 2, some .boolean, false, 2) (tb_X5_isDown, 2, 2) [1232, 3, 1230, 1231] = true := by decide +kernel
theorem xk_39 : xchk (yX5_headingBehind, cX5_headingBehind, 2, some .int, true, 2) (tb_X5_headingBehind, 2, 2) [2033, 3, 2032] = true := by decide +kernel
theorem xk_40 : xchk (yX5_speedBehind, cX5_speedBehind, 2, some .int, true, 2) (tb_X5_speedBehind, 2, 2) [2030, 3, 2029] = true := by decide +kernel
theorem xk_41_0 : xchk1 (yX5_ahead, cX5_ahead, 8, some .int, false, 4) ((tb_X5_ahead.drop 0).take 3) = true := by decide +kernel
theorem xk_41_3 : xchk1 (yX5_ahead, cX5_ahead, 8, some .int, false, 4) ((tb_X5_ahead.drop 3).take 3) = true := by decide +kernel
theorem xk_41_6 : xchk1 (yX5_ahead, cX5_ahead, 8, some .int, false, 4) ((tb_X5_ahead.drop 6).take 3) = true := by decide +kernel
theorem xk_41 : xchk (yX5_ahead, cX5_ahead, 8, some .int, false, 4) (tb_X5_ahead, 8, 4) [2037, 3, 2035, 2036] = true := xchk_mk (xchk1_split 3 xk_41_0 (xchk1_split 3 xk_41_3 (by rw [List.drop_drop]; exact (by have e := xk_41_6; rwa [List.take_of_length_le (by decide +kernel)] at e)))) (by decide +kernel)
theorem xk_42 : xchk (yX5_loss, cX5_loss, 5, some .int, false, 4) (tb_X5_loss, 5, 4) [2049, 3, 2047, 2048] = true := by decide +kernel
theorem xk_43 : xchk (yX5_mayBe, cX5_mayBe, 4, some .boolean, false, 3) (tb_X5_mayBe, 4, 3) [2026, 3, 2024, 2025] = true := by decide +kernel
theorem xk_44 : xchk (yX5_move, cX5_move, 3, none, false, 3) (tb_X5_move, 3, 3) [2045, 3, 2043, 2044] = true := by decide +kernel
theorem xk_45 : xchk (yX5_become, cX5_become, 2, none, false, 2) (tb_X5_become, 2, 2) [4116, 3, 4114, 4115] = true := by decide +kernel
theorem xk_46_0 : xchk1 (yX6_search, cX6_search, 8, none, false, 4) ((tb_X6_search.drop 0).take 3) = true := by decide +kernel
theorem xk_46_3 : xchk1 (yX6_search, cX6_search, 8, none, false, 4) ((tb_X6_search.drop 3).take 3) = true := by decide +kernel
theorem xk_46_6 : xchk1 (yX6_search, cX6_search, 8, none, false, 4) ((tb_X6_search.drop 6).take 3) = true := by decide +kernel
theorem xk_46_9 : xchk1 (yX6_search, cX6_search, 8, none, false, 4) ((tb_X6_search.drop 9).take 3) = true := by decide +kernel
theorem xk_46 : xchk (yX6_search, cX6_search, 8, none, false, 4) (tb_X6_search, 8, 4) [2073, 9, 2071, 2072] = true := xchk_mk (xchk1_split 3 xk_46_0 (xchk1_split 3 xk_46_3 (by rw [List.drop_drop]; exact (xchk1_split 3 xk_46_6 (by rw [List.drop_drop]; exact (by have e := xk_46_9; rwa [List.take_of_length_le (by decide +kernel)] at e)))))) (by decide +kernel)
theorem xk_47_0 : xchk1 (yX6_spread, cX6_spread, 12, none, false, 4) ((tb_X6_spread.drop 0).take 3) = true := by decide +kernel
theorem xk_47_3 : xchk1 (yX6_spread, cX6_spread, 12, none, false, 4) ((tb_X6_spread.drop 3).take 3) = true := by decide +kernel
theorem xk_47_6 : xchk1 (yX6_spread, cX6_spread, 12, none, false, 4) ((tb_X6_spread.drop 6).take 3) = true := by decide +kernel
theorem xk_47 : xchk (yX6_spread, cX6_spread, 12, none, false, 4) (tb_X6_spread, 12, 4) [2101, 9, 2100, 7006] = true := xchk_mk (xchk1_split 3 xk_47_0 (xchk1_split 3 xk_47_3 (by rw [List.drop_drop]; exact (by have e := xk_47_6; rwa [List.take_of_length_le (by decide +kernel)] at e)))) (by decide +kernel)
theorem xk_48 : xchk (yX6_offer, cX6_offer, 6, none, false, 5) (tb_X6_offer, 6, 5) [2078, 9, 2077, 7003] = true := by decide +kernel
theorem xk_49 : xchk (yX6_placeOf, cX6_placeOf, 3, some .int, true, 3) (tb_X6_placeOf, 3, 3) [2081, 9, 2080] = true := by decide +kernel
theorem xk_50 : xchk (yX6_isPlace, cX6_isPlace, 1, some .boolean, true, 1) (tb_X6_isPlace, 1, 1) [2084, 9, 2083] = true := by decide +kernel
theorem xk_51 : xchk (yX6_isHeight, cX6_isHeight, 1, some .boolean, true, 1) (tb_X6_isHeight, 1, 1) [2087, 9, 2086] = true := by decide +kernel
theorem xk_52 : xchk (yX6_chain, cX6_chain, 4, none, false, 3) (tb_X6_chain, 4, 3) [2095, 9, 2094, 7005] = true := by decide +kernel
theorem xk_53 : xchk (yX6_unchain, cX6_unchain, 5, none, false, 3) (tb_X6_unchain, 5, 3) [2091, 9, 2090, 7004] = true := by decide +kernel
theorem xk_54 : xchk (yX6_greatest, cX6_greatest, 8, some .int, false, 3) (tb_X6_greatest, 8, 3) [2110, 9, 2108, 2109] = true := by decide +kernel
theorem xk_55 : xchk (yX7_has, cX7_has, 2, some .boolean, false, 2) (tb_X7_has, 2, 2) [1106, 5, 1104, 1105] = true := by decide +kernel
theorem xk_56 : xchk (yX7_opened, cX7_opened, 1, some .int, false, 1) (tb_X7_opened, 1, 1) [1098, 5, 1096, 1097] = true := by decide +kernel
theorem xk_57 : xchk (yX7_number, cX7_number, 3, some .int, false, 3) (tb_X7_number, 3, 3) [2006, 5, 2004, 2005] = true := by decide +kernel
theorem xk_58 : xchk (yX7_become, cX7_become, 4, none, false, 4) (tb_X7_become, 4, 4) [1102, 5, 1100, 1101] = true := by decide +kernel
theorem xk_59 : xchk (yX7_sum, cX7_sum, 4, some .int, false, 2) (tb_X7_sum, 4, 2) [2196, 5, 2194, 2195] = true := by decide +kernel
theorem xk_60 : xchk (yX7_sumOfSet, cX7_sumOfSet, 5, some .int, false, 3) (tb_X7_sumOfSet, 5, 3) [3213, 5, 3211, 3212] = true := by decide +kernel
theorem xk_61 : xchk (yX7_become_, cX7_become_, 2, none, false, 2) (tb_X7_become_, 2, 2) [3184, 5, 3182, 3183] = true := by decide +kernel
theorem xk_62 : xchk (yX8_renew, cX8_renew, 3, none, false, 3) (tb_X8_renew, 3, 3) [4024, 13, 4022, 4023] = true := by decide +kernel
theorem xk_63 : xchk (yX8_has, cX8_has, 2, some .boolean, false, 2) (tb_X8_has, 2, 2) [1185, 13, 1183, 1184] = true := by decide +kernel
theorem xk_64 : xchk (yX8_number, cX8_number, 2, some .int, false, 2) (tb_X8_number, 2, 2) [1181, 13, 1179, 1180] = true := by decide +kernel
theorem xk_65 : xchk (yX8_take, cX8_take, 3, none, false, 3) (tb_X8_take, 3, 3) [4034, 13, 4032, 4033] = true := by decide +kernel
theorem xk_66 : xchk (yX8_refusal, cX8_refusal, 2, some .int, false, 2) (tb_X8_refusal, 2, 2) [1169, 13, 1167, 1168] = true := by decide +kernel
theorem xk_67 : xchk (yX8_isAllWithin, cX8_isAllWithin, 4, some .boolean, false, 3) (tb_X8_isAllWithin, 4, 3) [1177, 13, 1175, 1176] = true := by decide +kernel
theorem xk_68 : xchk (yX9_isAdded, cX9_isAdded, 5, some .boolean, false, 3) (tb_X9_isAdded, 5, 3) [2220, 10, 2218, 2219] = true := by decide +kernel
theorem xk_69 : xchk (yX9_fault, cX9_fault, 3, some .int, false, 1) (tb_X9_fault, 3, 1) [2228, 10, 2226, 2227] = true := by decide +kernel
theorem xk_70_0 : xchk1 (yX9_split, cX9_split, 6, none, false, 1) ((tb_X9_split.drop 0).take 3) = true := by decide +kernel
theorem xk_70_3 : xchk1 (yX9_split, cX9_split, 6, none, false, 1) ((tb_X9_split.drop 3).take 3) = true := by decide +kernel
theorem xk_70_6 : xchk1 (yX9_split, cX9_split, 6, none, false, 1) ((tb_X9_split.drop 6).take 3) = true := by decide +kernel
theorem xk_70_9 : xchk1 (yX9_split, cX9_split, 6, none, false, 1) ((tb_X9_split.drop 9).take 3) = true := by decide +kernel
theorem xk_70 : xchk (yX9_split, cX9_split, 6, none, false, 1) (tb_X9_split, 6, 1) [2232, 10, 2231, 7010] = true := xchk_mk (xchk1_split 3 xk_70_0 (xchk1_split 3 xk_70_3 (by rw [List.drop_drop]; exact (xchk1_split 3 xk_70_6 (by rw [List.drop_drop]; exact (by have e := xk_70_9; rwa [List.take_of_length_le (by decide +kernel)] at e)))))) (by decide +kernel)
theorem xk_71 : xchk (yX9_add, cX9_add, 4, none, false, 4) (tb_X9_add, 4, 4) [3056, 10, 3055, 7013] = true := by decide +kernel
theorem xk_72 : xchk (yX9_at, cX9_at, 2, some .int, false, 2) (tb_X9_at, 2, 2) [2236, 10, 2235, 7011] = true := by decide +kernel
theorem xk_73 : xchk (yX9_isLetter, cX9_isLetter, 1, some .boolean, true, 1) (tb_X9_isLetter, 1, 1) [2239, 10, 2238] = true := by decide +kernel
theorem xk_74 : xchk (yX9_isDigit, cX9_isDigit, 1, some .boolean, true, 1) (tb_X9_isDigit, 1, 1) [3059, 10, 3058] = true := by decide +kernel
theorem xk_75 : xchk (yX9_digits, cX9_digits, 5, some .int, false, 3) (tb_X9_digits, 5, 3) [3063, 10, 3062, 7014] = true := by decide +kernel
theorem xk_76 : xchk (yX9_word, cX9_word, 8, some .int, false, 3) (tb_X9_word, 8, 3) [3003, 10, 3002, 7012] = true := by decide +kernel
theorem xk_77 : xchk (yX9_look, cX9_look, 2, none, false, 2) (tb_X9_look, 2, 2) [3072, 10, 3071, 7015] = true := by decide +kernel
theorem xk_78 : xchk (yX9_isLine, cX9_isLine, 1, some .boolean, false, 1) (tb_X9_isLine, 1, 1) [3076, 10, 3075, 7016] = true := by decide +kernel
theorem xk_79 : xchk (yX9_isCond, cX9_isCond, 3, some .boolean, false, 2) (tb_X9_isCond, 3, 2) [3088, 10, 3087, 7018] = true := by decide +kernel
theorem xk_80 : xchk (yX9_isAll, cX9_isAll, 3, some .boolean, false, 2) (tb_X9_isAll, 3, 2) [3092, 10, 3091, 7019] = true := by decide +kernel
theorem xk_81 : xchk (yX9_isOne, cX9_isOne, 4, some .boolean, false, 2) (tb_X9_isOne, 4, 2) [3096, 10, 3095, 7020] = true := by decide +kernel
theorem xk_82 : xchk (yX9_isInBrackets, cX9_isInBrackets, 2, some .boolean, false, 2) (tb_X9_isInBrackets, 2, 2) [3104, 10, 3103, 7022] = true := by decide +kernel
theorem xk_83_0 : xchk1 (yX9_isComparison, cX9_isComparison, 3, some .boolean, false, 1) ((tb_X9_isComparison.drop 0).take 3) = true := by decide +kernel
theorem xk_83_3 : xchk1 (yX9_isComparison, cX9_isComparison, 3, some .boolean, false, 1) ((tb_X9_isComparison.drop 3).take 3) = true := by decide +kernel
theorem xk_83_6 : xchk1 (yX9_isComparison, cX9_isComparison, 3, some .boolean, false, 1) ((tb_X9_isComparison.drop 6).take 3) = true := by decide +kernel
theorem xk_83 : xchk (yX9_isComparison, cX9_isComparison, 3, some .boolean, false, 1) (tb_X9_isComparison, 3, 1) [3108, 10, 3107, 7023] = true := xchk_mk (xchk1_split 3 xk_83_0 (xchk1_split 3 xk_83_3 (by rw [List.drop_drop]; exact (by have e := xk_83_6; rwa [List.take_of_length_le (by decide +kernel)] at e)))) (by decide +kernel)
theorem xk_84 : xchk (yX9_isValue, cX9_isValue, 1, some .boolean, false, 1) (tb_X9_isValue, 1, 1) [3112, 10, 3111, 7024] = true := by decide +kernel
theorem xk_85 : xchk (yX9_value, cX9_value, 1, some .int, false, 1) (tb_X9_value, 1, 1) [3116, 10, 3115, 7025] = true := by decide +kernel
theorem xk_86 : xchk (yX9_isWord, cX9_isWord, 2, some .boolean, false, 2) (tb_X9_isWord, 2, 2) [3084, 10, 3083, 7017] = true := by decide +kernel
theorem xk_87 : xchk (yX9_isByte, cX9_isByte, 2, some .boolean, false, 2) (tb_X9_isByte, 2, 2) [3100, 10, 3099, 7021] = true := by decide +kernel
theorem xk_88 : xchk (yX10_become, cX10_become, 2, none, false, 2) (tb_X10_become, 2, 2) [4112, 2, 4110, 4111] = true := by decide +kernel
theorem xk_89 : xchk (yX10_isGood, cX10_isGood, 4, some .boolean, false, 4) (tb_X10_isGood, 4, 4) [2001, 2, 1239, 2000] = true := by decide +kernel
theorem xk_90 : xchk (yX10_endFor, cX10_endFor, 3, some .int, false, 2) (tb_X10_endFor, 3, 2) [1237, 2, 1235, 1236] = true := by decide +kernel
theorem xk_91 : xchk (yX10_costsDown, cX10_costsDown, 4, some .int, false, 3) (tb_X10_costsDown, 4, 3) [2132, 2, 2130, 2131] = true := by decide +kernel
theorem xk_92 : xchk (yX10_orStraight, cX10_orStraight, 3, some .int, false, 3) (tb_X10_orStraight, 3, 3) [2167, 2, 2165, 2166] = true := by decide +kernel
theorem xk_93 : xchk (yX10_planned, cX10_planned, 3, some .int, false, 3) (tb_X10_planned, 3, 3) [2163, 2, 2161, 2162] = true := by decide +kernel
theorem xk_94 : xchk (yX10_given, cX10_given, 5, some .int, false, 3) (tb_X10_given, 5, 3) [2172, 2, 2170, 2171] = true := by decide +kernel
theorem xk_95 : xchk (yX10_actByHands, cX10_actByHands, 4, some .int, false, 2) (tb_X10_actByHands, 4, 2) [3161, 2, 3159, 3160] = true := by decide +kernel
theorem xk_96 : xchk (yX11_land, cX11_land, 3, some .int, false, 3) (tb_X11_land, 3, 3) [1147, 1, 1145, 1146] = true := by decide +kernel
theorem xk_97 : xchk (yX11_lay, cX11_lay, 7, some .int, false, 3) (tb_X11_lay, 7, 3) [1161, 1, 1159, 1160] = true := by decide +kernel
theorem xk_98 : xchk (yX11_cellOf, cX11_cellOf, 3, some .int, false, 3) (tb_X11_cellOf, 3, 3) [1199, 1, 1197, 1198] = true := by decide +kernel
theorem xk_99 : xchk (yX11_craft, cX11_craft, 4, some .int, false, 3) (tb_X11_craft, 4, 3) [1212, 1, 1210, 1211] = true := by decide +kernel
theorem xk_100 : xchk (yX11_mostOfCraft, cX11_mostOfCraft, 2, some .int, false, 2) (tb_X11_mostOfCraft, 2, 2) [1216, 1, 1215, 7001] = true := by decide +kernel
theorem xk_101 : xchk (yX11_craftOf, cX11_craftOf, 3, some .int, false, 2) (tb_X11_craftOf, 3, 2) [1228, 1, 1226, 1227] = true := by decide +kernel
theorem xk_102 : xchk (yX11_table, cX11_table, 6, some .int, false, 3) (tb_X11_table, 6, 3) [2010, 1, 2008, 2009] = true := by decide +kernel
theorem xk_103 : xchk (yX11_fly, cX11_fly, 2, some .int, false, 2) (tb_X11_fly, 2, 2) [2018, 1, 2016, 2017] = true := by decide +kernel
theorem xk_104 : xchk (yX11_isFlownNow, cX11_isFlownNow, 2, some .boolean, false, 2) (tb_X11_isFlownNow, 2, 2) [2022, 1, 2021, 7002] = true := by decide +kernel
theorem xk_105 : xchk (yX11_acts, cX11_acts, 3, some .int, false, 1) (tb_X11_acts, 3, 1) [2055, 1, 2053, 2054] = true := by decide +kernel
theorem xk_106_0 : xchk1 (yX11_end, cX11_end, 7, some .int, false, 6) ((tb_X11_end.drop 0).take 3) = true := by decide +kernel
theorem xk_106_3 : xchk1 (yX11_end, cX11_end, 7, some .int, false, 6) ((tb_X11_end.drop 3).take 3) = true := by decide +kernel
theorem xk_106_6 : xchk1 (yX11_end, cX11_end, 7, some .int, false, 6) ((tb_X11_end.drop 6).take 3) = true := by decide +kernel
theorem xk_106_9 : xchk1 (yX11_end, cX11_end, 7, some .int, false, 6) ((tb_X11_end.drop 9).take 3) = true := by decide +kernel
theorem xk_106 : xchk (yX11_end, cX11_end, 7, some .int, false, 6) (tb_X11_end, 7, 6) [2059, 1, 2057, 2058] = true := xchk_mk (xchk1_split 3 xk_106_0 (xchk1_split 3 xk_106_3 (by rw [List.drop_drop]; exact (xchk1_split 3 xk_106_6 (by rw [List.drop_drop]; exact (by have e := xk_106_9; rwa [List.take_of_length_le (by decide +kernel)] at e)))))) (by decide +kernel)
theorem xk_107 : xchk (yX11_endOf, cX11_endOf, 3, some .int, false, 3) (tb_X11_endOf, 3, 3) [2063, 1, 2061, 2062] = true := by decide +kernel
theorem xk_108 : xchk (yX11_spare, cX11_spare, 3, some .int, false, 2) (tb_X11_spare, 3, 2) [2069, 1, 2067, 2068] = true := by decide +kernel
theorem xk_109_0 : xchk1 (yX11_late, cX11_late, 4, some .int, false, 2) ((tb_X11_late.drop 0).take 3) = true := by decide +kernel
theorem xk_109_3 : xchk1 (yX11_late, cX11_late, 4, some .int, false, 2) ((tb_X11_late.drop 3).take 3) = true := by decide +kernel
theorem xk_109_6 : xchk1 (yX11_late, cX11_late, 4, some .int, false, 2) ((tb_X11_late.drop 6).take 3) = true := by decide +kernel
theorem xk_109 : xchk (yX11_late, cX11_late, 4, some .int, false, 2) (tb_X11_late, 4, 2) [2116, 1, 2114, 2115] = true := xchk_mk (xchk1_split 3 xk_109_0 (xchk1_split 3 xk_109_3 (by rw [List.drop_drop]; exact (by have e := xk_109_6; rwa [List.take_of_length_le (by decide +kernel)] at e)))) (by decide +kernel)
theorem xk_110 : xchk (yX11_can, cX11_can, 3, some .int, false, 1) (tb_X11_can, 3, 1) [2124, 1, 2122, 2123] = true := by decide +kernel
theorem xk_111 : xchk (yX11_bestEnd, cX11_bestEnd, 5, some .int, false, 1) (tb_X11_bestEnd, 5, 1) [2128, 1, 2126, 2127] = true := by decide +kernel
theorem xk_112_0 : xchk1 (yX11_plan, cX11_plan, 6, some .int, false, 2) ((tb_X11_plan.drop 0).take 3) = true := by decide +kernel
theorem xk_112_3 : xchk1 (yX11_plan, cX11_plan, 6, some .int, false, 2) ((tb_X11_plan.drop 3).take 3) = true := by decide +kernel
theorem xk_112_6 : xchk1 (yX11_plan, cX11_plan, 6, some .int, false, 2) ((tb_X11_plan.drop 6).take 3) = true := by decide +kernel
theorem xk_112 : xchk (yX11_plan, cX11_plan, 6, some .int, false, 2) (tb_X11_plan, 6, 2) [2137, 1, 2135, 2136] = true := xchk_mk (xchk1_split 3 xk_112_0 (xchk1_split 3 xk_112_3 (by rw [List.drop_drop]; exact (by have e := xk_112_6; rwa [List.take_of_length_le (by decide +kernel)] at e)))) (by decide +kernel)
theorem xk_113 : xchk (yX11_planOf, cX11_planOf, 4, some .int, false, 3) (tb_X11_planOf, 4, 3) [2141, 1, 2139, 2140] = true := by decide +kernel
theorem xk_114_0 : xchk1 (yX11_scene, cX11_scene, 6, some .int, false, 5) ((tb_X11_scene.drop 0).take 3) = true := by decide +kernel
theorem xk_114_3 : xchk1 (yX11_scene, cX11_scene, 6, some .int, false, 5) ((tb_X11_scene.drop 3).take 3) = true := by decide +kernel
theorem xk_114_6 : xchk1 (yX11_scene, cX11_scene, 6, some .int, false, 5) ((tb_X11_scene.drop 6).take 3) = true := by decide +kernel
theorem xk_114 : xchk (yX11_scene, cX11_scene, 6, some .int, false, 5) (tb_X11_scene, 6, 5) [2145, 1, 2143, 2144] = true := xchk_mk (xchk1_split 3 xk_114_0 (xchk1_split 3 xk_114_3 (by rw [List.drop_drop]; exact (by have e := xk_114_6; rwa [List.take_of_length_le (by decide +kernel)] at e)))) (by decide +kernel)
theorem xk_115 : xchk (yX11_flown, cX11_flown, 4, some .int, false, 4) (tb_X11_flown, 4, 4) [2149, 1, 2147, 2148] = true := by decide +kernel
theorem xk_116_0 : xchk1 (yX11_odds, cX11_odds, 6, some .int, false, 4) ((tb_X11_odds.drop 0).take 3) = true := by decide +kernel
theorem xk_116_3 : xchk1 (yX11_odds, cX11_odds, 6, some .int, false, 4) ((tb_X11_odds.drop 3).take 3) = true := by decide +kernel
theorem xk_116_6 : xchk1 (yX11_odds, cX11_odds, 6, some .int, false, 4) ((tb_X11_odds.drop 6).take 3) = true := by decide +kernel
theorem xk_116_9 : xchk1 (yX11_odds, cX11_odds, 6, some .int, false, 4) ((tb_X11_odds.drop 9).take 3) = true := by decide +kernel
theorem xk_116 : xchk (yX11_odds, cX11_odds, 6, some .int, false, 4) (tb_X11_odds, 6, 4) [2192, 1, 2190, 2191] = true := xchk_mk (xchk1_split 3 xk_116_0 (xchk1_split 3 xk_116_3 (by rw [List.drop_drop]; exact (xchk1_split 3 xk_116_6 (by rw [List.drop_drop]; exact (by have e := xk_116_9; rwa [List.take_of_length_le (by decide +kernel)] at e)))))) (by decide +kernel)
theorem xk_117 : xchk (yX11_mean, cX11_mean, 3, some .int, false, 3) (tb_X11_mean, 3, 3) [2204, 1, 2202, 2203] = true := by decide +kernel
theorem xk_118 : xchk (yX11_costsInAll, cX11_costsInAll, 4, some .int, false, 2) (tb_X11_costsInAll, 4, 2) [2208, 1, 2207, 7009] = true := by decide +kernel
theorem xk_119 : xchk (yX11_bestPlan, cX11_bestPlan, 5, some .int, false, 1) (tb_X11_bestPlan, 5, 1) [2212, 1, 2210, 2211] = true := by decide +kernel
theorem xk_120 : xchk (yX11_feed, cX11_feed, 4, some .int, false, 3) (tb_X11_feed, 4, 3) [2216, 1, 2214, 2215] = true := by decide +kernel
theorem xk_121 : xchk (yX11_read, cX11_read, 2, some .int, false, 1) (tb_X11_read, 2, 1) [2224, 1, 2222, 2223] = true := by decide +kernel
theorem xk_122 : xchk (yX11_line, cX11_line, 3, some .int, false, 3) (tb_X11_line, 3, 3) [3134, 1, 3132, 3133] = true := by decide +kernel
theorem xk_123 : xchk (yX11_hand, cX11_hand, 1, some .int, false, 1) (tb_X11_hand, 1, 1) [3157, 1, 3155, 3156] = true := by decide +kernel
theorem xk_124 : xchk (yX11_ruled, cX11_ruled, 2, some .int, false, 2) (tb_X11_ruled, 2, 2) [3171, 1, 3169, 3170] = true := by decide +kernel
theorem xk_125 : xchk (yX11_prove, cX11_prove, 2, some .int, false, 2) (tb_X11_prove, 2, 2) [3180, 1, 3178, 3179] = true := by decide +kernel
theorem xk_126 : xchk (yX11_row, cX11_row, 3, some .int, false, 3) (tb_X11_row, 3, 3) [3189, 1, 3187, 3188] = true := by decide +kernel
theorem xk_127 : xchk (yX11_alterRow, cX11_alterRow, 5, some .int, false, 4) (tb_X11_alterRow, 5, 4) [3193, 1, 3191, 3192] = true := by decide +kernel
theorem xk_128_0 : xchk1 (yX11_judge, cX11_judge, 3, some .int, false, 1) ((tb_X11_judge.drop 0).take 3) = true := by decide +kernel
theorem xk_128_3 : xchk1 (yX11_judge, cX11_judge, 3, some .int, false, 1) ((tb_X11_judge.drop 3).take 3) = true := by decide +kernel
theorem xk_128_6 : xchk1 (yX11_judge, cX11_judge, 3, some .int, false, 1) ((tb_X11_judge.drop 6).take 3) = true := by decide +kernel
theorem xk_128 : xchk (yX11_judge, cX11_judge, 3, some .int, false, 1) (tb_X11_judge, 3, 1) [3197, 1, 3195, 3196] = true := xchk_mk (xchk1_split 3 xk_128_0 (xchk1_split 3 xk_128_3 (by rw [List.drop_drop]; exact (by have e := xk_128_6; rwa [List.take_of_length_le (by decide +kernel)] at e)))) (by decide +kernel)
theorem xk_129 : xchk (yX11_step, cX11_step, 5, some .int, false, 4) (tb_X11_step, 5, 4) [3201, 1, 3199, 3200] = true := by decide +kernel
theorem xk_130 : xchk (yX11_worth, cX11_worth, 2, some .int, false, 2) (tb_X11_worth, 2, 2) [3205, 1, 3203, 3204] = true := by decide +kernel
theorem xk_131 : xchk (yX11_order, cX11_order, 2, some .int, false, 2) (tb_X11_order, 2, 2) [3231, 1, 3229, 3230] = true := by decide +kernel
theorem xk_132 : xchk (yX11_job, cX11_job, 3, some .int, false, 2) (tb_X11_job, 3, 2) [4003, 1, 4001, 4002] = true := by decide +kernel
theorem xk_133 : xchk (yX11_shared, cX11_shared, 8, some .int, false, 2) (tb_X11_shared, 8, 2) [4007, 1, 4005, 4006] = true := by decide +kernel
theorem xk_134 : xchk (yX11_trial, cX11_trial, 5, some .int, false, 4) (tb_X11_trial, 5, 4) [4012, 1, 4010, 4011] = true := by decide +kernel
theorem xk_135_0 : xchk1 (yX11_fair, cX11_fair, 9, some .int, false, 5) ((tb_X11_fair.drop 0).take 3) = true := by decide +kernel
theorem xk_135_3 : xchk1 (yX11_fair, cX11_fair, 9, some .int, false, 5) ((tb_X11_fair.drop 3).take 3) = true := by decide +kernel
theorem xk_135_6 : xchk1 (yX11_fair, cX11_fair, 9, some .int, false, 5) ((tb_X11_fair.drop 6).take 3) = true := by decide +kernel
theorem xk_135_9 : xchk1 (yX11_fair, cX11_fair, 9, some .int, false, 5) ((tb_X11_fair.drop 9).take 3) = true := by decide +kernel
theorem xk_135 : xchk (yX11_fair, cX11_fair, 9, some .int, false, 5) (tb_X11_fair, 9, 5) [4016, 1, 4014, 4015] = true := xchk_mk (xchk1_split 3 xk_135_0 (xchk1_split 3 xk_135_3 (by rw [List.drop_drop]; exact (xchk1_split 3 xk_135_6 (by rw [List.drop_drop]; exact (by have e := xk_135_9; rwa [List.take_of_length_le (by decide +kernel)] at e)))))) (by decide +kernel)
theorem xk_136 : xchk (yX11_sheet, cX11_sheet, 4, some .int, false, 4) (tb_X11_sheet, 4, 4) [4020, 1, 4018, 4019] = true := by decide +kernel
theorem xk_137 : xchk (yX11_put, cX11_put, 5, some .int, false, 4) (tb_X11_put, 5, 4) [4029, 1, 4027, 4028] = true := by decide +kernel
theorem xk_138 : xchk (yX11_item, cX11_item, 6, some .int, false, 4) (tb_X11_item, 6, 4) [4038, 1, 4036, 4037] = true := by decide +kernel
theorem xk_139 : xchk (yX11_flies, cX11_flies, 8, some .int, false, 4) (tb_X11_flies, 8, 4) [4042, 1, 4040, 4041] = true := by decide +kernel
theorem xk_140_0 : xchk1 (yX11_shelf, cX11_shelf, 4, some .int, false, 4) ((tb_X11_shelf.drop 0).take 3) = true := by decide +kernel
theorem xk_140_3 : xchk1 (yX11_shelf, cX11_shelf, 4, some .int, false, 4) ((tb_X11_shelf.drop 3).take 3) = true := by decide +kernel
theorem xk_140_6 : xchk1 (yX11_shelf, cX11_shelf, 4, some .int, false, 4) ((tb_X11_shelf.drop 6).take 3) = true := by decide +kernel
theorem xk_140 : xchk (yX11_shelf, cX11_shelf, 4, some .int, false, 4) (tb_X11_shelf, 4, 4) [4046, 1, 4044, 4045] = true := xchk_mk (xchk1_split 3 xk_140_0 (xchk1_split 3 xk_140_3 (by rw [List.drop_drop]; exact (by have e := xk_140_6; rwa [List.take_of_length_le (by decide +kernel)] at e)))) (by decide +kernel)
theorem xk_141 : xchk (yX11_heldRow, cX11_heldRow, 3, some .int, false, 3) (tb_X11_heldRow, 3, 3) [4054, 1, 4053, 7029] = true := by decide +kernel
theorem xk_142 : xchk (yX11_held, cX11_held, 5, some .int, false, 5) (tb_X11_held, 5, 5) [4050, 1, 4049, 7028] = true := by decide +kernel
theorem xk_143 : xchk (yX11_formOn, cX11_formOn, 3, some .int, false, 2) (tb_X11_formOn, 3, 2) [4062, 1, 4061, 7030] = true := by decide +kernel
theorem xk_144 : xchk (yX11_taken, cX11_taken, 5, some .int, false, 3) (tb_X11_taken, 5, 3) [4058, 1, 4056, 4057] = true := by decide +kernel
theorem xk_145 : xchk (yX11_ask, cX11_ask, 7, some .int, false, 4) (tb_X11_ask, 7, 4) [4075, 1, 4073, 4074] = true := by decide +kernel
theorem xk_146 : xchk (yX11_trace, cX11_trace, 2, some .int, false, 2) (tb_X11_trace, 2, 2) [4100, 1, 4098, 4099] = true := by decide +kernel
theorem xk_147 : xchk (yX11_many, cX11_many, 2, some .int, false, 2) (tb_X11_many, 2, 2) [4104, 1, 4102, 4103] = true := by decide +kernel
theorem xk_148 : xchk (yX11_keep, cX11_keep, 1, some .int, false, 1) (tb_X11_keep, 1, 1) [4108, 1, 4106, 4107] = true := by decide +kernel
theorem xk_149 : xchk (yX11_again, cX11_again, 1, some .int, false, 1) (tb_X11_again, 1, 1) [4124, 1, 4122, 4123] = true := by decide +kernel
theorem xk_150 : xchk (yX11_isWithin, cX11_isWithin, 3, some .boolean, true, 3) (tb_X11_isWithin, 3, 3) [1150, 1, 1149] = true := by decide +kernel
theorem xk_151 : xchk (yX11_isSheet, cX11_isSheet, 2, some .boolean, false, 2) (tb_X11_isSheet, 2, 2) [1165, 1, 1164, 7000] = true := by decide +kernel
theorem xk_152 : xchk (yX11_ofFraction, cX11_ofFraction, 7, some .int, true, 3) (tb_X11_ofFraction, 7, 3) [2200, 1, 2199] = true := by decide +kernel
theorem xk_153 : xchk (yX12_within, cX12_within, 3, some .boolean, true, 3) (tb_X12_within, 3, 3) [5047, 14, 5046] = true := by decide +kernel
theorem xk_154 : xchk (yX12_is, cX12_is, 3, some .boolean, false, 3) (tb_X12_is, 3, 3) [5148, 14, 5147, 7046] = true := by decide +kernel
theorem xk_155 : xchk (yX12_become, cX12_become, 4, some .int, false, 3) (tb_X12_become, 4, 3) [5074, 14, 5073, 7036] = true := by decide +kernel
theorem xk_156 : xchk (yX12_cells, cX12_cells, 1, some .int, false, 1) (tb_X12_cells, 1, 1) [5058, 14, 5057, 7034] = true := by decide +kernel
theorem xk_157 : xchk (yX12_isCell, cX12_isCell, 2, some .boolean, false, 2) (tb_X12_isCell, 2, 2) [5066, 14, 5065, 7035] = true := by decide +kernel
theorem xk_158 : xchk (yX12_isAct, cX12_isAct, 1, some .boolean, true, 1) (tb_X12_isAct, 1, 1) [5109, 14, 5108] = true := by decide +kernel
theorem xk_159 : xchk (yX12_land, cX12_land, 4, some .int, false, 3) (tb_X12_land, 4, 3) [5044, 14, 5042, 5043] = true := by decide +kernel
theorem xk_160_0 : xchk1 (yX12_lay, cX12_lay, 5, some .int, false, 3) ((tb_X12_lay.drop 0).take 3) = true := by decide +kernel
theorem xk_160_3 : xchk1 (yX12_lay, cX12_lay, 5, some .int, false, 3) ((tb_X12_lay.drop 3).take 3) = true := by decide +kernel
theorem xk_160_6 : xchk1 (yX12_lay, cX12_lay, 5, some .int, false, 3) ((tb_X12_lay.drop 6).take 3) = true := by decide +kernel
theorem xk_160_9 : xchk1 (yX12_lay, cX12_lay, 5, some .int, false, 3) ((tb_X12_lay.drop 9).take 3) = true := by decide +kernel
theorem xk_160 : xchk (yX12_lay, cX12_lay, 5, some .int, false, 3) (tb_X12_lay, 5, 3) [5051, 14, 5049, 5050] = true := xchk_mk (xchk1_split 3 xk_160_0 (xchk1_split 3 xk_160_3 (by rw [List.drop_drop]; exact (xchk1_split 3 xk_160_6 (by rw [List.drop_drop]; exact (by have e := xk_160_9; rwa [List.take_of_length_le (by decide +kernel)] at e)))))) (by decide +kernel)
theorem xk_161 : xchk (yX12_cellOf, cX12_cellOf, 3, some .int, false, 3) (tb_X12_cellOf, 3, 3) [5062, 14, 5060, 5061] = true := by decide +kernel
theorem xk_162 : xchk (yX12_craft, cX12_craft, 4, some .int, false, 3) (tb_X12_craft, 4, 3) [5070, 14, 5068, 5069] = true := by decide +kernel
theorem xk_163 : xchk (yX12_craftOf, cX12_craftOf, 2, some .int, false, 2) (tb_X12_craftOf, 2, 2) [5078, 14, 5076, 5077] = true := by decide +kernel
theorem xk_164 : xchk (yX12_table, cX12_table, 4, some .int, false, 3) (tb_X12_table, 4, 3) [5102, 14, 5100, 5101] = true := by decide +kernel
theorem xk_165 : xchk (yX12_begin, cX12_begin, 1, none, false, 1) (tb_X12_begin, 1, 1) [5082, 14, 5081, 7037] = true := by decide +kernel
theorem xk_166 : xchk (yX12_isDown, cX12_isDown, 1, some .boolean, false, 1) (tb_X12_isDown, 1, 1) [5086, 14, 5085, 7038] = true := by decide +kernel
theorem xk_167 : xchk (yX12_turned, cX12_turned, 2, some .int, true, 2) (tb_X12_turned, 2, 2) [5123, 14, 5122] = true := by decide +kernel
theorem xk_168 : xchk (yX12_changed, cX12_changed, 2, some .int, true, 2) (tb_X12_changed, 2, 2) [5120, 14, 5119] = true := by decide +kernel
theorem xk_169_0 : xchk1 (yX12_ahead, cX12_ahead, 6, some .int, false, 4) ((tb_X12_ahead.drop 0).take 3) = true := by decide +kernel
theorem xk_169_3 : xchk1 (yX12_ahead, cX12_ahead, 6, some .int, false, 4) ((tb_X12_ahead.drop 3).take 3) = true := by decide +kernel
theorem xk_169_6 : xchk1 (yX12_ahead, cX12_ahead, 6, some .int, false, 4) ((tb_X12_ahead.drop 6).take 3) = true := by decide +kernel
theorem xk_169 : xchk (yX12_ahead, cX12_ahead, 6, some .int, false, 4) (tb_X12_ahead, 6, 4) [5127, 14, 5126, 7044] = true := xchk_mk (xchk1_split 3 xk_169_0 (xchk1_split 3 xk_169_3 (by rw [List.drop_drop]; exact (by have e := xk_169_6; rwa [List.take_of_length_le (by decide +kernel)] at e)))) (by decide +kernel)
theorem xk_170 : xchk (yX12_mayBe, cX12_mayBe, 3, some .boolean, false, 2) (tb_X12_mayBe, 3, 2) [5117, 14, 5116, 7043] = true := by decide +kernel
theorem xk_171_0 : xchk1 (yX12_act, cX12_act, 4, none, false, 2) ((tb_X12_act.drop 0).take 3) = true := by decide +kernel
theorem xk_171_3 : xchk1 (yX12_act, cX12_act, 4, none, false, 2) ((tb_X12_act.drop 3).take 3) = true := by decide +kernel
theorem xk_171_6 : xchk1 (yX12_act, cX12_act, 4, none, false, 2) ((tb_X12_act.drop 6).take 3) = true := by decide +kernel
theorem xk_171 : xchk (yX12_act, cX12_act, 4, none, false, 2) (tb_X12_act, 4, 2) [5131, 14, 5130, 7045] = true := xchk_mk (xchk1_split 3 xk_171_0 (xchk1_split 3 xk_171_3 (by rw [List.drop_drop]; exact (by have e := xk_171_6; rwa [List.take_of_length_le (by decide +kernel)] at e)))) (by decide +kernel)
theorem xk_172 : xchk (yX12_end, cX12_end, 3, some .int, false, 3) (tb_X12_end, 3, 3) [5094, 14, 5093, 7040] = true := by decide +kernel
theorem xk_173 : xchk (yX12_isGood, cX12_isGood, 3, some .boolean, false, 3) (tb_X12_isGood, 3, 3) [5098, 14, 5097, 7041] = true := by decide +kernel
theorem xk_174 : xchk (yX12_comesTo, cX12_comesTo, 2, some .int, false, 1) (tb_X12_comesTo, 2, 1) [5090, 14, 5089, 7039] = true := by decide +kernel
theorem xk_175 : xchk (yX12_isFlown, cX12_isFlown, 2, some .boolean, false, 2) (tb_X12_isFlown, 2, 2) [5113, 14, 5112, 7042] = true := by decide +kernel
theorem xk_176 : xchk (yX12_fly, cX12_fly, 2, some .int, false, 2) (tb_X12_fly, 2, 2) [5106, 14, 5104, 5105] = true := by decide +kernel
theorem xk_177 : xchk (yX12_acts, cX12_acts, 3, some .int, false, 1) (tb_X12_acts, 3, 1) [5136, 14, 5134, 5135] = true := by decide +kernel
theorem xk_178_0 : xchk1 (yX12_end_, cX12_end_, 8, some .int, false, 6) ((tb_X12_end_.drop 0).take 3) = true := by decide +kernel
theorem xk_178_3 : xchk1 (yX12_end_, cX12_end_, 8, some .int, false, 6) ((tb_X12_end_.drop 3).take 3) = true := by decide +kernel
theorem xk_178_6 : xchk1 (yX12_end_, cX12_end_, 8, some .int, false, 6) ((tb_X12_end_.drop 6).take 3) = true := by decide +kernel
theorem xk_178_9 : xchk1 (yX12_end_, cX12_end_, 8, some .int, false, 6) ((tb_X12_end_.drop 9).take 3) = true := by decide +kernel
theorem xk_178 : xchk (yX12_end_, cX12_end_, 8, some .int, false, 6) (tb_X12_end_, 8, 6) [5140, 14, 5138, 5139] = true := xchk_mk (xchk1_split 3 xk_178_0 (xchk1_split 3 xk_178_3 (by rw [List.drop_drop]; exact (xchk1_split 3 xk_178_6 (by rw [List.drop_drop]; exact (by have e := xk_178_9; rwa [List.take_of_length_le (by decide +kernel)] at e)))))) (by decide +kernel)
theorem xk_179 : xchk (yX12_endOf, cX12_endOf, 3, some .int, false, 3) (tb_X12_endOf, 3, 3) [5144, 14, 5142, 5143] = true := by decide +kernel
theorem xk_180 : xchk (yX12_comes, cX12_comes, 3, none, false, 3) (tb_X12_comes, 3, 3) [5160, 14, 5159, 7048] = true := by decide +kernel
theorem xk_181_0 : xchk1 (yX12_reach, cX12_reach, 5, none, false, 1) ((tb_X12_reach.drop 0).take 3) = true := by decide +kernel
theorem xk_181_3 : xchk1 (yX12_reach, cX12_reach, 5, none, false, 1) ((tb_X12_reach.drop 3).take 3) = true := by decide +kernel
theorem xk_181_6 : xchk1 (yX12_reach, cX12_reach, 5, none, false, 1) ((tb_X12_reach.drop 6).take 3) = true := by decide +kernel
theorem xk_181_9 : xchk1 (yX12_reach, cX12_reach, 5, none, false, 1) ((tb_X12_reach.drop 9).take 3) = true := by decide +kernel
theorem xk_181_12 : xchk1 (yX12_reach, cX12_reach, 5, none, false, 1) ((tb_X12_reach.drop 12).take 3) = true := by decide +kernel
theorem xk_181 : xchk (yX12_reach, cX12_reach, 5, none, false, 1) (tb_X12_reach, 5, 1) [5156, 14, 5155, 7047] = true := xchk_mk (xchk1_split 3 xk_181_0 (xchk1_split 3 xk_181_3 (by rw [List.drop_drop]; exact (xchk1_split 3 xk_181_6 (by rw [List.drop_drop]; exact (xchk1_split 3 xk_181_9 (by rw [List.drop_drop]; exact (by have e := xk_181_12; rwa [List.take_of_length_le (by decide +kernel)] at e)))))))) (by decide +kernel)
theorem xk_182 : xchk (yX12_heightAt, cX12_heightAt, 4, some .int, false, 2) (tb_X12_heightAt, 4, 2) [5164, 14, 5163, 7049] = true := by decide +kernel
theorem xk_183 : xchk (yX12_spare, cX12_spare, 3, some .int, false, 2) (tb_X12_spare, 3, 2) [5152, 14, 5150, 5151] = true := by decide +kernel
theorem xk_184 : xchk (yX12_canBehind, cX12_canBehind, 4, some .boolean, false, 3) (tb_X12_canBehind, 4, 3) [5172, 14, 5171, 7050] = true := by decide +kernel
theorem xk_185 : xchk (yX12_late, cX12_late, 5, some .int, false, 2) (tb_X12_late, 5, 2) [5168, 14, 5166, 5167] = true := by decide +kernel
theorem xk_186 : xchk (yX12_canBe, cX12_canBe, 3, some .int, false, 1) (tb_X12_canBe, 3, 1) [5180, 14, 5179, 7051] = true := by decide +kernel
theorem xk_187 : xchk (yX12_can, cX12_can, 1, some .int, false, 1) (tb_X12_can, 1, 1) [5176, 14, 5174, 5175] = true := by decide +kernel
theorem xk_188 : xchk (yX12_costAt, cX12_costAt, 2, some .int, false, 2) (tb_X12_costAt, 2, 2) [5188, 14, 5187, 7052] = true := by decide +kernel
theorem xk_189 : xchk (yX12_bestEnd, cX12_bestEnd, 4, some .int, false, 1) (tb_X12_bestEnd, 4, 1) [5184, 14, 5182, 5183] = true := by decide +kernel
theorem xk_190_0 : xchk1 (yX12_plan, cX12_plan, 5, some .int, false, 2) ((tb_X12_plan.drop 0).take 3) = true := by decide +kernel
theorem xk_190_3 : xchk1 (yX12_plan, cX12_plan, 5, some .int, false, 2) ((tb_X12_plan.drop 3).take 3) = true := by decide +kernel
theorem xk_190_6 : xchk1 (yX12_plan, cX12_plan, 5, some .int, false, 2) ((tb_X12_plan.drop 6).take 3) = true := by decide +kernel
theorem xk_190_9 : xchk1 (yX12_plan, cX12_plan, 5, some .int, false, 2) ((tb_X12_plan.drop 9).take 3) = true := by decide +kernel
theorem xk_190_12 : xchk1 (yX12_plan, cX12_plan, 5, some .int, false, 2) ((tb_X12_plan.drop 12).take 3) = true := by decide +kernel
theorem xk_190 : xchk (yX12_plan, cX12_plan, 5, some .int, false, 2) (tb_X12_plan, 5, 2) [5192, 14, 5190, 5191] = true := xchk_mk (xchk1_split 3 xk_190_0 (xchk1_split 3 xk_190_3 (by rw [List.drop_drop]; exact (xchk1_split 3 xk_190_6 (by rw [List.drop_drop]; exact (xchk1_split 3 xk_190_9 (by rw [List.drop_drop]; exact (by have e := xk_190_12; rwa [List.take_of_length_le (by decide +kernel)] at e)))))))) (by decide +kernel)
theorem xk_191 : xchk (yX12_planned, cX12_planned, 2, some .int, false, 2) (tb_X12_planned, 2, 2) [5200, 14, 5199, 7053] = true := by decide +kernel
theorem xk_192 : xchk (yX12_planOf, cX12_planOf, 3, some .int, false, 3) (tb_X12_planOf, 3, 3) [5196, 14, 5194, 5195] = true := by decide +kernel
theorem xk_193_0 : xchk1 (yX12_scene, cX12_scene, 7, some .int, false, 5) ((tb_X12_scene.drop 0).take 3) = true := by decide +kernel
theorem xk_193_3 : xchk1 (yX12_scene, cX12_scene, 7, some .int, false, 5) ((tb_X12_scene.drop 3).take 3) = true := by decide +kernel
theorem xk_193_6 : xchk1 (yX12_scene, cX12_scene, 7, some .int, false, 5) ((tb_X12_scene.drop 6).take 3) = true := by decide +kernel
theorem xk_193 : xchk (yX12_scene, cX12_scene, 7, some .int, false, 5) (tb_X12_scene, 7, 5) [5204, 14, 5202, 5203] = true := xchk_mk (xchk1_split 3 xk_193_0 (xchk1_split 3 xk_193_3 (by rw [List.drop_drop]; exact (by have e := xk_193_6; rwa [List.take_of_length_le (by decide +kernel)] at e)))) (by decide +kernel)
theorem xk_194 : xchk (yX12_scene_, cX12_scene_, 3, some .int, false, 3) (tb_X12_scene_, 3, 3) [5224, 14, 5223, 7057] = true := by decide +kernel
theorem xk_195 : xchk (yX12_goOn, cX12_goOn, 3, none, false, 3) (tb_X12_goOn, 3, 3) [5228, 14, 5227, 7058] = true := by decide +kernel
theorem xk_196 : xchk (yX12_flownFor, cX12_flownFor, 2, some .int, false, 2) (tb_X12_flownFor, 2, 2) [5220, 14, 5219, 7056] = true := by decide +kernel
theorem xk_197 : xchk (yX12_plannedAt, cX12_plannedAt, 2, some .int, false, 2) (tb_X12_plannedAt, 2, 2) [5216, 14, 5215, 7055] = true := by decide +kernel
theorem xk_198_0 : xchk1 (yX12_flyPlan, cX12_flyPlan, 5, none, false, 3) ((tb_X12_flyPlan.drop 0).take 3) = true := by decide +kernel
theorem xk_198_3 : xchk1 (yX12_flyPlan, cX12_flyPlan, 5, none, false, 3) ((tb_X12_flyPlan.drop 3).take 3) = true := by decide +kernel
theorem xk_198_6 : xchk1 (yX12_flyPlan, cX12_flyPlan, 5, none, false, 3) ((tb_X12_flyPlan.drop 6).take 3) = true := by decide +kernel
theorem xk_198 : xchk (yX12_flyPlan, cX12_flyPlan, 5, none, false, 3) (tb_X12_flyPlan, 5, 3) [5212, 14, 5211, 7054] = true := xchk_mk (xchk1_split 3 xk_198_0 (xchk1_split 3 xk_198_3 (by rw [List.drop_drop]; exact (by have e := xk_198_6; rwa [List.take_of_length_le (by decide +kernel)] at e)))) (by decide +kernel)
theorem xk_199 : xchk (yX12_told, cX12_told, 3, some .int, false, 2) (tb_X12_told, 3, 2) [5233, 14, 5232, 7059] = true := by decide +kernel
theorem xk_200 : xchk (yX12_flown, cX12_flown, 4, some .int, false, 4) (tb_X12_flown, 4, 4) [5208, 14, 5206, 5207] = true := by decide +kernel
theorem xk_201 : xchk (yX12_divisor, cX12_divisor, 5, some .int, true, 2) (tb_X12_divisor, 5, 2) [6007, 14, 6006] = true := by decide +kernel
theorem xk_202 : xchk (yX12_part, cX12_part, 4, some .int, true, 3) (tb_X12_part, 4, 3) [6004, 14, 6003] = true := by decide +kernel
theorem xk_203 : xchk (yX12_weights, cX12_weights, 3, some .int, false, 1) (tb_X12_weights, 3, 1) [6001, 14, 6000, 7060] = true := by decide +kernel
theorem xk_204 : xchk (yX12_odds, cX12_odds, 6, some .int, false, 4) (tb_X12_odds, 6, 4) [5237, 14, 5235, 5236] = true := by decide +kernel
theorem xk_205 : xchk (yX12_costOf, cX12_costOf, 4, some .int, false, 2) (tb_X12_costOf, 4, 2) [6015, 14, 6014, 7061] = true := by decide +kernel
theorem xk_206 : xchk (yX12_mean, cX12_mean, 3, some .int, false, 3) (tb_X12_mean, 3, 3) [6011, 14, 6009, 6010] = true := by decide +kernel
theorem xk_207 : xchk (yX12_bestPlan, cX12_bestPlan, 5, some .int, false, 1) (tb_X12_bestPlan, 5, 1) [6019, 14, 6017, 6018] = true := by decide +kernel
theorem xk_208 : xchk (yX12_feed, cX12_feed, 5, some .int, false, 3) (tb_X12_feed, 5, 3) [6023, 14, 6021, 6022] = true := by decide +kernel
theorem xk_209 : xchk (yX12_isIn, cX12_isIn, 4, some .boolean, false, 4) (tb_X12_isIn, 4, 4) [6036, 14, 6035, 7063] = true := by decide +kernel
theorem xk_210_0 : xchk1 (yX12_next, cX12_next, 1, none, false, 1) ((tb_X12_next.drop 0).take 3) = true := by decide +kernel
theorem xk_210_3 : xchk1 (yX12_next, cX12_next, 1, none, false, 1) ((tb_X12_next.drop 3).take 3) = true := by decide +kernel
theorem xk_210_6 : xchk1 (yX12_next, cX12_next, 1, none, false, 1) ((tb_X12_next.drop 6).take 3) = true := by decide +kernel
theorem xk_210_9 : xchk1 (yX12_next, cX12_next, 1, none, false, 1) ((tb_X12_next.drop 9).take 3) = true := by decide +kernel
theorem xk_210 : xchk (yX12_next, cX12_next, 1, none, false, 1) (tb_X12_next, 1, 1) [6032, 14, 6031, 7062] = true := xchk_mk (xchk1_split 3 xk_210_0 (xchk1_split 3 xk_210_3 (by rw [List.drop_drop]; exact (xchk1_split 3 xk_210_6 (by rw [List.drop_drop]; exact (by have e := xk_210_9; rwa [List.take_of_length_le (by decide +kernel)] at e)))))) (by decide +kernel)
theorem xk_211 : xchk (yX12_isName, cX12_isName, 4, some .boolean, false, 2) (tb_X12_isName, 4, 2) [6044, 14, 6043, 7065] = true := by decide +kernel
theorem xk_212 : xchk (yX12_nameOf, cX12_nameOf, 4, some .int, false, 2) (tb_X12_nameOf, 4, 2) [6040, 14, 6039, 7064] = true := by decide +kernel
theorem xk_213 : xchk (yX12_isSign, cX12_isSign, 2, some .boolean, false, 2) (tb_X12_isSign, 2, 2) [6068, 14, 6067, 7070] = true := by decide +kernel
theorem xk_214 : xchk (yX12_need, cX12_need, 2, none, false, 2) (tb_X12_need, 2, 2) [6050, 14, 6049, 7066] = true := by decide +kernel
theorem xk_215 : xchk (yX12_codes, cX12_codes, 2, none, false, 2) (tb_X12_codes, 2, 2) [6076, 14, 6075, 7072] = true := by decide +kernel
theorem xk_216 : xchk (yX12_either, cX12_either, 1, none, false, 1) (tb_X12_either, 1, 1) [6055, 14, 6054, 7067] = true := by decide +kernel
theorem xk_217 : xchk (yX12_all, cX12_all, 1, none, false, 1) (tb_X12_all, 1, 1) [6059, 14, 6058, 7068] = true := by decide +kernel
theorem xk_218_0 : xchk1 (yX12_value, cX12_value, 5, some .int, false, 1) ((tb_X12_value.drop 0).take 3) = true := by decide +kernel
theorem xk_218_3 : xchk1 (yX12_value, cX12_value, 5, some .int, false, 1) ((tb_X12_value.drop 3).take 3) = true := by decide +kernel
theorem xk_218_6 : xchk1 (yX12_value, cX12_value, 5, some .int, false, 1) ((tb_X12_value.drop 6).take 3) = true := by decide +kernel
theorem xk_218 : xchk (yX12_value, cX12_value, 5, some .int, false, 1) (tb_X12_value, 5, 1) [6072, 14, 6071, 7071] = true := xchk_mk (xchk1_split 3 xk_218_0 (xchk1_split 3 xk_218_3 (by rw [List.drop_drop]; exact (by have e := xk_218_6; rwa [List.take_of_length_le (by decide +kernel)] at e)))) (by decide +kernel)
theorem xk_219_0 : xchk1 (yX12_one, cX12_one, 5, none, false, 1) ((tb_X12_one.drop 0).take 3) = true := by decide +kernel
theorem xk_219_3 : xchk1 (yX12_one, cX12_one, 5, none, false, 1) ((tb_X12_one.drop 3).take 3) = true := by decide +kernel
theorem xk_219_6 : xchk1 (yX12_one, cX12_one, 5, none, false, 1) ((tb_X12_one.drop 6).take 3) = true := by decide +kernel
theorem xk_219_9 : xchk1 (yX12_one, cX12_one, 5, none, false, 1) ((tb_X12_one.drop 9).take 3) = true := by decide +kernel
theorem xk_219_12 : xchk1 (yX12_one, cX12_one, 5, none, false, 1) ((tb_X12_one.drop 12).take 3) = true := by decide +kernel
theorem xk_219 : xchk (yX12_one, cX12_one, 5, none, false, 1) (tb_X12_one, 5, 1) [6063, 14, 6062, 7069] = true := xchk_mk (xchk1_split 3 xk_219_0 (xchk1_split 3 xk_219_3 (by rw [List.drop_drop]; exact (xchk1_split 3 xk_219_6 (by rw [List.drop_drop]; exact (xchk1_split 3 xk_219_9 (by rw [List.drop_drop]; exact (by have e := xk_219_12; rwa [List.take_of_length_le (by decide +kernel)] at e)))))))) (by decide +kernel)
theorem xk_220_0 : xchk1 (yX12_read, cX12_read, 3, some .int, false, 1) ((tb_X12_read.drop 0).take 3) = true := by decide +kernel
theorem xk_220_3 : xchk1 (yX12_read, cX12_read, 3, some .int, false, 1) ((tb_X12_read.drop 3).take 3) = true := by decide +kernel
theorem xk_220_6 : xchk1 (yX12_read, cX12_read, 3, some .int, false, 1) ((tb_X12_read.drop 6).take 3) = true := by decide +kernel
theorem xk_220_9 : xchk1 (yX12_read, cX12_read, 3, some .int, false, 1) ((tb_X12_read.drop 9).take 3) = true := by decide +kernel
theorem xk_220_12 : xchk1 (yX12_read, cX12_read, 3, some .int, false, 1) ((tb_X12_read.drop 12).take 3) = true := by decide +kernel
theorem xk_220_15 : xchk1 (yX12_read, cX12_read, 3, some .int, false, 1) ((tb_X12_read.drop 15).take 3) = true := by decide +kernel
theorem xk_220 : xchk (yX12_read, cX12_read, 3, some .int, false, 1) (tb_X12_read, 3, 1) [6028, 14, 6026, 6027] = true := xchk_mk (xchk1_split 3 xk_220_0 (xchk1_split 3 xk_220_3 (by rw [List.drop_drop]; exact (xchk1_split 3 xk_220_6 (by rw [List.drop_drop]; exact (xchk1_split 3 xk_220_9 (by rw [List.drop_drop]; exact (xchk1_split 3 xk_220_12 (by rw [List.drop_drop]; exact (by have e := xk_220_15; rwa [List.take_of_length_le (by decide +kernel)] at e)))))))))) (by decide +kernel)
theorem xk_221 : xchk (yX12_valueOf, cX12_valueOf, 2, some .int, false, 2) (tb_X12_valueOf, 2, 2) [6090, 14, 6089, 7074] = true := by decide +kernel
theorem xk_222_0 : xchk1 (yX12_holds, cX12_holds, 8, some .boolean, false, 2) ((tb_X12_holds.drop 0).take 3) = true := by decide +kernel
theorem xk_222_3 : xchk1 (yX12_holds, cX12_holds, 8, some .boolean, false, 2) ((tb_X12_holds.drop 3).take 3) = true := by decide +kernel
theorem xk_222_6 : xchk1 (yX12_holds, cX12_holds, 8, some .boolean, false, 2) ((tb_X12_holds.drop 6).take 3) = true := by decide +kernel
theorem xk_222_9 : xchk1 (yX12_holds, cX12_holds, 8, some .boolean, false, 2) ((tb_X12_holds.drop 9).take 3) = true := by decide +kernel
theorem xk_222_12 : xchk1 (yX12_holds, cX12_holds, 8, some .boolean, false, 2) ((tb_X12_holds.drop 12).take 3) = true := by decide +kernel
theorem xk_222_15 : xchk1 (yX12_holds, cX12_holds, 8, some .boolean, false, 2) ((tb_X12_holds.drop 15).take 3) = true := by decide +kernel
theorem xk_222 : xchk (yX12_holds, cX12_holds, 8, some .boolean, false, 2) (tb_X12_holds, 8, 2) [6086, 14, 6085, 7073] = true := xchk_mk (xchk1_split 3 xk_222_0 (xchk1_split 3 xk_222_3 (by rw [List.drop_drop]; exact (xchk1_split 3 xk_222_6 (by rw [List.drop_drop]; exact (xchk1_split 3 xk_222_9 (by rw [List.drop_drop]; exact (xchk1_split 3 xk_222_12 (by rw [List.drop_drop]; exact (by have e := xk_222_15; rwa [List.take_of_length_le (by decide +kernel)] at e)))))))))) (by decide +kernel)
theorem xk_223 : xchk (yX12_line, cX12_line, 3, some .int, false, 3) (tb_X12_line, 3, 3) [6082, 14, 6080, 6081] = true := by decide +kernel
theorem xk_224 : xchk (yX12_firstOf, cX12_firstOf, 4, some .int, false, 2) (tb_X12_firstOf, 4, 2) [6102, 14, 6101, 7076] = true := by decide +kernel
theorem xk_225 : xchk (yX12_handed, cX12_handed, 1, some .int, false, 1) (tb_X12_handed, 1, 1) [6098, 14, 6097, 7075] = true := by decide +kernel
theorem xk_226 : xchk (yX12_hand, cX12_hand, 2, some .int, false, 1) (tb_X12_hand, 2, 1) [6094, 14, 6092, 6093] = true := by decide +kernel
theorem xk_227 : xchk (yX12_ruled, cX12_ruled, 3, some .int, false, 2) (tb_X12_ruled, 3, 2) [6106, 14, 6104, 6105] = true := by decide +kernel
theorem xk_228 : xchk (yX12_prove, cX12_prove, 3, some .int, false, 2) (tb_X12_prove, 3, 2) [6110, 14, 6108, 6109] = true := by decide +kernel
theorem xk_229 : xchk (yX12_row, cX12_row, 3, some .int, false, 3) (tb_X12_row, 3, 3) [6114, 14, 6112, 6113] = true := by decide +kernel
theorem xk_230 : xchk (yX12_alterRow, cX12_alterRow, 5, some .int, false, 4) (tb_X12_alterRow, 5, 4) [6118, 14, 6116, 6117] = true := by decide +kernel
theorem xk_231_0 : xchk1 (yX12_judge, cX12_judge, 2, some .int, false, 1) ((tb_X12_judge.drop 0).take 3) = true := by decide +kernel
theorem xk_231_3 : xchk1 (yX12_judge, cX12_judge, 2, some .int, false, 1) ((tb_X12_judge.drop 3).take 3) = true := by decide +kernel
theorem xk_231_6 : xchk1 (yX12_judge, cX12_judge, 2, some .int, false, 1) ((tb_X12_judge.drop 6).take 3) = true := by decide +kernel
theorem xk_231 : xchk (yX12_judge, cX12_judge, 2, some .int, false, 1) (tb_X12_judge, 2, 1) [6122, 14, 6120, 6121] = true := xchk_mk (xchk1_split 3 xk_231_0 (xchk1_split 3 xk_231_3 (by rw [List.drop_drop]; exact (by have e := xk_231_6; rwa [List.take_of_length_le (by decide +kernel)] at e)))) (by decide +kernel)
theorem xk_232_0 : xchk1 (yX12_step, cX12_step, 5, some .int, false, 4) ((tb_X12_step.drop 0).take 3) = true := by decide +kernel
theorem xk_232_3 : xchk1 (yX12_step, cX12_step, 5, some .int, false, 4) ((tb_X12_step.drop 3).take 3) = true := by decide +kernel
theorem xk_232_6 : xchk1 (yX12_step, cX12_step, 5, some .int, false, 4) ((tb_X12_step.drop 6).take 3) = true := by decide +kernel
theorem xk_232 : xchk (yX12_step, cX12_step, 5, some .int, false, 4) (tb_X12_step, 5, 4) [6126, 14, 6124, 6125] = true := xchk_mk (xchk1_split 3 xk_232_0 (xchk1_split 3 xk_232_3 (by rw [List.drop_drop]; exact (by have e := xk_232_6; rwa [List.take_of_length_le (by decide +kernel)] at e)))) (by decide +kernel)
theorem xk_233_0 : xchk1 (yX12_counts, cX12_counts, 5, some .int, false, 3) ((tb_X12_counts.drop 0).take 3) = true := by decide +kernel
theorem xk_233_3 : xchk1 (yX12_counts, cX12_counts, 5, some .int, false, 3) ((tb_X12_counts.drop 3).take 3) = true := by decide +kernel
theorem xk_233 : xchk (yX12_counts, cX12_counts, 5, some .int, false, 3) (tb_X12_counts, 5, 3) [6138, 14, 6137, 7078] = true := xchk_mk (xchk1_split 3 xk_233_0 (by have e := xk_233_3; rwa [List.take_of_length_le (by decide +kernel)] at e)) (by decide +kernel)
theorem xk_234 : xchk (yX12_findOrder, cX12_findOrder, 4, none, false, 1) (tb_X12_findOrder, 4, 1) [6134, 14, 6133, 7077] = true := by decide +kernel
theorem xk_235 : xchk (yX12_follows, cX12_follows, 3, some .int, false, 2) (tb_X12_follows, 3, 2) [6146, 14, 6145, 7079] = true := by decide +kernel
theorem xk_236 : xchk (yX12_worth, cX12_worth, 4, some .int, false, 2) (tb_X12_worth, 4, 2) [6130, 14, 6128, 6129] = true := by decide +kernel
theorem xk_237 : xchk (yX12_order, cX12_order, 4, some .int, false, 2) (tb_X12_order, 4, 2) [6142, 14, 6140, 6141] = true := by decide +kernel
theorem xk_238 : xchk (yX12_job, cX12_job, 3, some .int, false, 2) (tb_X12_job, 3, 2) [6150, 14, 6148, 6149] = true := by decide +kernel
theorem xk_239_0 : xchk1 (yX12_shared, cX12_shared, 8, some .int, false, 2) ((tb_X12_shared.drop 0).take 3) = true := by decide +kernel
theorem xk_239_3 : xchk1 (yX12_shared, cX12_shared, 8, some .int, false, 2) ((tb_X12_shared.drop 3).take 3) = true := by decide +kernel
theorem xk_239_6 : xchk1 (yX12_shared, cX12_shared, 8, some .int, false, 2) ((tb_X12_shared.drop 6).take 3) = true := by decide +kernel
theorem xk_239_9 : xchk1 (yX12_shared, cX12_shared, 8, some .int, false, 2) ((tb_X12_shared.drop 9).take 3) = true := by decide +kernel
theorem xk_239 : xchk (yX12_shared, cX12_shared, 8, some .int, false, 2) (tb_X12_shared, 8, 2) [6154, 14, 6152, 6153] = true := xchk_mk (xchk1_split 3 xk_239_0 (xchk1_split 3 xk_239_3 (by rw [List.drop_drop]; exact (xchk1_split 3 xk_239_6 (by rw [List.drop_drop]; exact (by have e := xk_239_9; rwa [List.take_of_length_le (by decide +kernel)] at e)))))) (by decide +kernel)
theorem xk_240_0 : xchk1 (yX12_trial, cX12_trial, 5, some .int, false, 4) ((tb_X12_trial.drop 0).take 3) = true := by decide +kernel
theorem xk_240_3 : xchk1 (yX12_trial, cX12_trial, 5, some .int, false, 4) ((tb_X12_trial.drop 3).take 3) = true := by decide +kernel
theorem xk_240_6 : xchk1 (yX12_trial, cX12_trial, 5, some .int, false, 4) ((tb_X12_trial.drop 6).take 3) = true := by decide +kernel
theorem xk_240 : xchk (yX12_trial, cX12_trial, 5, some .int, false, 4) (tb_X12_trial, 5, 4) [6158, 14, 6156, 6157] = true := xchk_mk (xchk1_split 3 xk_240_0 (xchk1_split 3 xk_240_3 (by rw [List.drop_drop]; exact (by have e := xk_240_6; rwa [List.take_of_length_le (by decide +kernel)] at e)))) (by decide +kernel)
theorem xk_241_0 : xchk1 (yX12_fair, cX12_fair, 8, some .int, false, 5) ((tb_X12_fair.drop 0).take 3) = true := by decide +kernel
theorem xk_241_3 : xchk1 (yX12_fair, cX12_fair, 8, some .int, false, 5) ((tb_X12_fair.drop 3).take 3) = true := by decide +kernel
theorem xk_241_6 : xchk1 (yX12_fair, cX12_fair, 8, some .int, false, 5) ((tb_X12_fair.drop 6).take 3) = true := by decide +kernel
theorem xk_241_9 : xchk1 (yX12_fair, cX12_fair, 8, some .int, false, 5) ((tb_X12_fair.drop 9).take 3) = true := by decide +kernel
theorem xk_241 : xchk (yX12_fair, cX12_fair, 8, some .int, false, 5) (tb_X12_fair, 8, 5) [6162, 14, 6160, 6161] = true := xchk_mk (xchk1_split 3 xk_241_0 (xchk1_split 3 xk_241_3 (by rw [List.drop_drop]; exact (xchk1_split 3 xk_241_6 (by rw [List.drop_drop]; exact (by have e := xk_241_9; rwa [List.take_of_length_le (by decide +kernel)] at e)))))) (by decide +kernel)
theorem xk_242 : xchk (yX12_isFour, cX12_isFour, 1, some .boolean, true, 1) (tb_X12_isFour, 1, 1) [5054, 14, 5053] = true := by decide +kernel
theorem xk_243 : xchk (yX12_sheet, cX12_sheet, 5, some .int, false, 4) (tb_X12_sheet, 5, 4) [6166, 14, 6164, 6165] = true := by decide +kernel
theorem xk_244_0 : xchk1 (yX12_put, cX12_put, 4, some .int, false, 4) ((tb_X12_put.drop 0).take 3) = true := by decide +kernel
theorem xk_244_3 : xchk1 (yX12_put, cX12_put, 4, some .int, false, 4) ((tb_X12_put.drop 3).take 3) = true := by decide +kernel
theorem xk_244_6 : xchk1 (yX12_put, cX12_put, 4, some .int, false, 4) ((tb_X12_put.drop 6).take 3) = true := by decide +kernel
theorem xk_244 : xchk (yX12_put, cX12_put, 4, some .int, false, 4) (tb_X12_put, 4, 4) [6170, 14, 6168, 6169] = true := xchk_mk (xchk1_split 3 xk_244_0 (xchk1_split 3 xk_244_3 (by rw [List.drop_drop]; exact (by have e := xk_244_6; rwa [List.take_of_length_le (by decide +kernel)] at e)))) (by decide +kernel)
theorem xk_245 : xchk (yX12_notOf, cX12_notOf, 3, some .int, false, 3) (tb_X12_notOf, 3, 3) [6178, 14, 6177, 7080] = true := by decide +kernel
theorem xk_246 : xchk (yX12_item, cX12_item, 5, some .int, false, 4) (tb_X12_item, 5, 4) [6174, 14, 6172, 6173] = true := by decide +kernel
theorem xk_247_0 : xchk1 (yX12_flies, cX12_flies, 8, some .int, false, 4) ((tb_X12_flies.drop 0).take 3) = true := by decide +kernel
theorem xk_247_3 : xchk1 (yX12_flies, cX12_flies, 8, some .int, false, 4) ((tb_X12_flies.drop 3).take 3) = true := by decide +kernel
theorem xk_247_6 : xchk1 (yX12_flies, cX12_flies, 8, some .int, false, 4) ((tb_X12_flies.drop 6).take 3) = true := by decide +kernel
theorem xk_247 : xchk (yX12_flies, cX12_flies, 8, some .int, false, 4) (tb_X12_flies, 8, 4) [6182, 14, 6180, 6181] = true := xchk_mk (xchk1_split 3 xk_247_0 (xchk1_split 3 xk_247_3 (by rw [List.drop_drop]; exact (by have e := xk_247_6; rwa [List.take_of_length_le (by decide +kernel)] at e)))) (by decide +kernel)
theorem xk_248_0 : xchk1 (yX12_shelf, cX12_shelf, 6, some .int, false, 4) ((tb_X12_shelf.drop 0).take 3) = true := by decide +kernel
theorem xk_248_3 : xchk1 (yX12_shelf, cX12_shelf, 6, some .int, false, 4) ((tb_X12_shelf.drop 3).take 3) = true := by decide +kernel
theorem xk_248_6 : xchk1 (yX12_shelf, cX12_shelf, 6, some .int, false, 4) ((tb_X12_shelf.drop 6).take 3) = true := by decide +kernel
theorem xk_248_9 : xchk1 (yX12_shelf, cX12_shelf, 6, some .int, false, 4) ((tb_X12_shelf.drop 9).take 3) = true := by decide +kernel
theorem xk_248 : xchk (yX12_shelf, cX12_shelf, 6, some .int, false, 4) (tb_X12_shelf, 6, 4) [6186, 14, 6184, 6185] = true := xchk_mk (xchk1_split 3 xk_248_0 (xchk1_split 3 xk_248_3 (by rw [List.drop_drop]; exact (xchk1_split 3 xk_248_6 (by rw [List.drop_drop]; exact (by have e := xk_248_9; rwa [List.take_of_length_le (by decide +kernel)] at e)))))) (by decide +kernel)
theorem xk_249 : xchk (yX12_formOn, cX12_formOn, 3, some .int, false, 2) (tb_X12_formOn, 3, 2) [6194, 14, 6193, 7081] = true := by decide +kernel
theorem xk_250 : xchk (yX12_above, cX12_above, 1, some .int, true, 1) (tb_X12_above, 1, 1) [6197, 14, 6196] = true := by decide +kernel
theorem xk_251_0 : xchk1 (yX12_taken, cX12_taken, 4, some .int, false, 3) ((tb_X12_taken.drop 0).take 3) = true := by decide +kernel
theorem xk_251_3 : xchk1 (yX12_taken, cX12_taken, 4, some .int, false, 3) ((tb_X12_taken.drop 3).take 3) = true := by decide +kernel
theorem xk_251_6 : xchk1 (yX12_taken, cX12_taken, 4, some .int, false, 3) ((tb_X12_taken.drop 6).take 3) = true := by decide +kernel
theorem xk_251 : xchk (yX12_taken, cX12_taken, 4, some .int, false, 3) (tb_X12_taken, 4, 3) [6190, 14, 6188, 6189] = true := xchk_mk (xchk1_split 3 xk_251_0 (xchk1_split 3 xk_251_3 (by rw [List.drop_drop]; exact (by have e := xk_251_6; rwa [List.take_of_length_le (by decide +kernel)] at e)))) (by decide +kernel)
theorem xk_252 : xchk (yX12_began, cX12_began, 2, none, false, 2) (tb_X12_began, 2, 2) [6220, 14, 6219, 7085] = true := by decide +kernel
theorem xk_253 : xchk (yX12_hasOwn, cX12_hasOwn, 2, some .boolean, true, 2) (tb_X12_hasOwn, 2, 2) [6212, 14, 6211] = true := by decide +kernel
theorem xk_254 : xchk (yX12_answer, cX12_answer, 3, some .int, false, 3) (tb_X12_answer, 3, 3) [6205, 14, 6204, 7082] = true := by decide +kernel
theorem xk_255 : xchk (yX12_bodyFrom, cX12_bodyFrom, 5, some .int, false, 4) (tb_X12_bodyFrom, 5, 4) [6209, 14, 6208, 7083] = true := by decide +kernel
theorem xk_256_0 : xchk1 (yX12_body, cX12_body, 7, some .int, false, 4) ((tb_X12_body.drop 0).take 3) = true := by decide +kernel
theorem xk_256_3 : xchk1 (yX12_body, cX12_body, 7, some .int, false, 4) ((tb_X12_body.drop 3).take 3) = true := by decide +kernel
theorem xk_256_6 : xchk1 (yX12_body, cX12_body, 7, some .int, false, 4) ((tb_X12_body.drop 6).take 3) = true := by decide +kernel
theorem xk_256_9 : xchk1 (yX12_body, cX12_body, 7, some .int, false, 4) ((tb_X12_body.drop 9).take 3) = true := by decide +kernel
theorem xk_256_12 : xchk1 (yX12_body, cX12_body, 7, some .int, false, 4) ((tb_X12_body.drop 12).take 3) = true := by decide +kernel
theorem xk_256_15 : xchk1 (yX12_body, cX12_body, 7, some .int, false, 4) ((tb_X12_body.drop 15).take 3) = true := by decide +kernel
theorem xk_256_18 : xchk1 (yX12_body, cX12_body, 7, some .int, false, 4) ((tb_X12_body.drop 18).take 3) = true := by decide +kernel
theorem xk_256_21 : xchk1 (yX12_body, cX12_body, 7, some .int, false, 4) ((tb_X12_body.drop 21).take 3) = true := by decide +kernel
theorem xk_256_24 : xchk1 (yX12_body, cX12_body, 7, some .int, false, 4) ((tb_X12_body.drop 24).take 3) = true := by decide +kernel
theorem xk_256_27 : xchk1 (yX12_body, cX12_body, 7, some .int, false, 4) ((tb_X12_body.drop 27).take 3) = true := by decide +kernel
theorem xk_256 : xchk (yX12_body, cX12_body, 7, some .int, false, 4) (tb_X12_body, 7, 4) [6216, 14, 6215, 7084] = true := xchk_mk (xchk1_split 3 xk_256_0 (xchk1_split 3 xk_256_3 (by rw [List.drop_drop]; exact (xchk1_split 3 xk_256_6 (by rw [List.drop_drop]; exact (xchk1_split 3 xk_256_9 (by rw [List.drop_drop]; exact (xchk1_split 3 xk_256_12 (by rw [List.drop_drop]; exact (xchk1_split 3 xk_256_15 (by rw [List.drop_drop]; exact (xchk1_split 3 xk_256_18 (by rw [List.drop_drop]; exact (xchk1_split 3 xk_256_21 (by rw [List.drop_drop]; exact (xchk1_split 3 xk_256_24 (by rw [List.drop_drop]; exact (by have e := xk_256_27; rwa [List.take_of_length_le (by decide +kernel)] at e)))))))))))))))))) (by decide +kernel)
theorem xk_257 : xchk (yX12_ask, cX12_ask, 6, some .int, false, 4) (tb_X12_ask, 6, 4) [6201, 14, 6199, 6200] = true := by decide +kernel
theorem xk_258 : xchk (yX12_trace, cX12_trace, 2, some .int, false, 2) (tb_X12_trace, 2, 2) [6224, 14, 6222, 6223] = true := by decide +kernel
theorem xk_259 : xchk (yX12_many, cX12_many, 2, some .int, false, 2) (tb_X12_many, 2, 2) [6228, 14, 6226, 6227] = true := by decide +kernel
theorem xk_260 : xchk (yX12_keep, cX12_keep, 2, some .int, false, 1) (tb_X12_keep, 2, 1) [6232, 14, 6230, 6231] = true := by decide +kernel
theorem xk_261 : xchk (yX12_again, cX12_again, 2, some .int, false, 1) (tb_X12_again, 2, 1) [6236, 14, 6234, 6235] = true := by decide +kernel
theorem xk_262 : xchk (yJ0_length_8abf5, cJ0_length_8abf5, 1, some .int, false, 1) (tb_J0_length_8abf5, 1, 1) [3008, 16, 3006, 3007] = true := by decide +kernel
theorem xk_263 : xchk (yJ0_charAt_5068e, cJ0_charAt_5068e, 2, some .char, false, 2) (tb_J0_charAt_5068e, 2, 2) [3018, 16, 3016, 3017] = true := by decide +kernel
theorem xk_264 : xchk (yJ0_coder_7d493, cJ0_coder_7d493, 1, some .byte, false, 1) (tb_J0_coder_7d493, 1, 1) [3012, 16, 3010, 3011] = true := by decide +kernel
theorem xk_265 : xchk (yJ0_isLatin1_aae02, cJ0_isLatin1_aae02, 1, some .boolean, false, 1) (tb_J0_isLatin1_aae02, 1, 1) [3022, 16, 3020, 3021] = true := by decide +kernel
theorem xk_266 : xchk (yJ0_checkIndex_df160, cJ0_checkIndex_df160, 2, none, true, 2) (tb_J0_checkIndex_df160, 2, 2) [3028, 16, 3027] = true := by decide +kernel
theorem xk_267 : xchk (yJ1_charAt_3b067, cJ1_charAt_3b067, 2, some .char, true, 2) (tb_J1_charAt_3b067, 2, 2) [3025, 17, 3024] = true := by decide +kernel
theorem xk_268 : xchk (yJ7_fill_53178, cJ7_fill_53178, 4, none, true, 2) (tb_J7_fill_53178, 4, 2) [1157, 15, 1156] = true := by decide +kernel
theorem xk_269 : xchk (yJ3_checkIndex_8e157, cJ3_checkIndex_8e157, 3, some .int, true, 3) (tb_J3_checkIndex_8e157, 3, 3) [3033, 18, 3032] = true := by decide +kernel
theorem xk_len : xmi.length = 270 ∧ ptX.length = 270 := by decide +kernel
