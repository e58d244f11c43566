/-! the law: its cases -/
theorem in_L : Cond.initialized RL ∈ lwg := lwg_in 120 (by decide +kernel) (by decide +kernel)
theorem wq_25 : Cond.constantLong RL 25 4294967295 ∈ lwg := lwg_in 2089 (by decide +kernel) (by decide +kernel)
theorem cv_L_27 : CWv RL 27 RX8 yX8_feed cX8_feed 7 (some .int) 3 := ⟨lwg_in 579 (by decide +kernel) (by decide +kernel), lwg_in 580 (by decide +kernel) (by decide +kernel), lwg_in 581 (by decide +kernel) (by decide +kernel), in_X8, lwg_in 582 (by decide +kernel) (by decide +kernel), by decide +kernel⟩
theorem cv_L_31 : CWv RL 31 RX9 yX9_feed cX9_feed 7 (some .int) 3 := ⟨lwg_in 1385 (by decide +kernel) (by decide +kernel), lwg_in 1386 (by decide +kernel) (by decide +kernel), lwg_in 1387 (by decide +kernel) (by decide +kernel), in_X9, lwg_in 1388 (by decide +kernel) (by decide +kernel), by decide +kernel⟩
theorem ch_L_32 : CWh RL 32 RX8 yX8_station cX8_station 3 (some .int) [(9, 17, 20, 95)] 0 := ⟨lwg_in 587 (by decide +kernel) (by decide +kernel), lwg_in 588 (by decide +kernel) (by decide +kernel), lwg_in 589 (by decide +kernel) (by decide +kernel), in_X8, lwg_in 590 (by decide +kernel) (by decide +kernel), by decide +kernel⟩
theorem cv_L_36 : CWv RL 36 RX9 yX9_station cX9_station 2 (some .int) 0 := ⟨lwg_in 1734 (by decide +kernel) (by decide +kernel), lwg_in 1735 (by decide +kernel) (by decide +kernel), lwg_in 1736 (by decide +kernel) (by decide +kernel), in_X9, lwg_in 1737 (by decide +kernel) (by decide +kernel), by decide +kernel⟩
theorem cv_L_37 : CWv RL 37 RX8 yX8_named cX8_named 5 (some .int) 1 := ⟨lwg_in 1096 (by decide +kernel) (by decide +kernel), lwg_in 1097 (by decide +kernel) (by decide +kernel), lwg_in 1098 (by decide +kernel) (by decide +kernel), in_X8, lwg_in 1099 (by decide +kernel) (by decide +kernel), by decide +kernel⟩
theorem cv_L_41 : CWv RL 41 RX9 yX9_named cX9_named 2 (some .int) 1 := ⟨lwg_in 2041 (by decide +kernel) (by decide +kernel), lwg_in 2042 (by decide +kernel) (by decide +kernel), lwg_in 2043 (by decide +kernel) (by decide +kernel), in_X9, lwg_in 2044 (by decide +kernel) (by decide +kernel), by decide +kernel⟩
theorem cv_L_42 : CWv RL 42 RX8 yX8_demand cX8_demand 3 (some .int) 2 := ⟨lwg_in 1103 (by decide +kernel) (by decide +kernel), lwg_in 1104 (by decide +kernel) (by decide +kernel), lwg_in 1105 (by decide +kernel) (by decide +kernel), in_X8, lwg_in 1106 (by decide +kernel) (by decide +kernel), by decide +kernel⟩
theorem cv_L_45 : CWv RL 45 RX9 yX9_demand cX9_demand 4 (some .int) 2 := ⟨lwg_in 1924 (by decide +kernel) (by decide +kernel), lwg_in 1925 (by decide +kernel) (by decide +kernel), lwg_in 1926 (by decide +kernel) (by decide +kernel), in_X9, lwg_in 1927 (by decide +kernel) (by decide +kernel), by decide +kernel⟩
theorem cv_L_46 : CWv RL 46 RX8 yX8_ended cX8_ended 2 (some .int) 1 := ⟨lwg_in 1215 (by decide +kernel) (by decide +kernel), lwg_in 1216 (by decide +kernel) (by decide +kernel), lwg_in 1217 (by decide +kernel) (by decide +kernel), in_X8, lwg_in 1218 (by decide +kernel) (by decide +kernel), by decide +kernel⟩
theorem cv_L_49 : CWv RL 49 RX9 yX9_ended cX9_ended 2 (some .int) 1 := ⟨lwg_in 1993 (by decide +kernel) (by decide +kernel), lwg_in 1994 (by decide +kernel) (by decide +kernel), lwg_in 1995 (by decide +kernel) (by decide +kernel), in_X9, lwg_in 1996 (by decide +kernel) (by decide +kernel), by decide +kernel⟩
theorem cv_L_50 : CWv RL 50 RX8 yX8_plan cX8_plan 3 (some .boolean) 2 := ⟨lwg_in 1219 (by decide +kernel) (by decide +kernel), lwg_in 1220 (by decide +kernel) (by decide +kernel), lwg_in 1221 (by decide +kernel) (by decide +kernel), in_X8, lwg_in 1222 (by decide +kernel) (by decide +kernel), by decide +kernel⟩
theorem cv_L_54 : CWv RL 54 RX9 yX9_plan cX9_plan 5 (some .boolean) 2 := ⟨lwg_in 1997 (by decide +kernel) (by decide +kernel), lwg_in 1998 (by decide +kernel) (by decide +kernel), lwg_in 1999 (by decide +kernel) (by decide +kernel), in_X9, lwg_in 2000 (by decide +kernel) (by decide +kernel), by decide +kernel⟩
theorem cv_L_55 : CWv RL 55 RX8 yX8_clear cX8_clear 1 none 0 := ⟨lwg_in 1232 (by decide +kernel) (by decide +kernel), lwg_in 1233 (by decide +kernel) (by decide +kernel), lwg_in 1234 (by decide +kernel) (by decide +kernel), in_X8, lwg_in 1235 (by decide +kernel) (by decide +kernel), by decide +kernel⟩
theorem cv_L_58 : CWv RL 58 RX9 yX9_clear cX9_clear 1 none 0 := ⟨lwg_in 2005 (by decide +kernel) (by decide +kernel), lwg_in 2006 (by decide +kernel) (by decide +kernel), lwg_in 2007 (by decide +kernel) (by decide +kernel), in_X9, lwg_in 2008 (by decide +kernel) (by decide +kernel), by decide +kernel⟩
theorem cv_L_59 : CWv RL 59 RX8 yX8_heal cX8_heal 4 (some .int) 1 := ⟨lwg_in 1237 (by decide +kernel) (by decide +kernel), lwg_in 1238 (by decide +kernel) (by decide +kernel), lwg_in 1239 (by decide +kernel) (by decide +kernel), in_X8, lwg_in 1240 (by decide +kernel) (by decide +kernel), by decide +kernel⟩
theorem cv_L_62 : CWv RL 62 RX9 yX9_heal cX9_heal 6 (some .int) 1 := ⟨lwg_in 2009 (by decide +kernel) (by decide +kernel), lwg_in 2010 (by decide +kernel) (by decide +kernel), lwg_in 2011 (by decide +kernel) (by decide +kernel), in_X9, lwg_in 2012 (by decide +kernel) (by decide +kernel), by decide +kernel⟩
theorem cv_L_63 : CWv RL 63 RX8 yX8_close cX8_close 5 (some .int) 0 := ⟨lwg_in 1247 (by decide +kernel) (by decide +kernel), lwg_in 1248 (by decide +kernel) (by decide +kernel), lwg_in 1249 (by decide +kernel) (by decide +kernel), in_X8, lwg_in 1250 (by decide +kernel) (by decide +kernel), by decide +kernel⟩
theorem cv_L_66 : CWv RL 66 RX9 yX9_close cX9_close 4 (some .int) 0 := ⟨lwg_in 2017 (by decide +kernel) (by decide +kernel), lwg_in 2018 (by decide +kernel) (by decide +kernel), lwg_in 2019 (by decide +kernel) (by decide +kernel), in_X9, lwg_in 2020 (by decide +kernel) (by decide +kernel), by decide +kernel⟩
theorem cv_L_67 : CWv RL 67 RX8 yX8_beat cX8_beat 9 (some .int) 1 := ⟨lwg_in 1266 (by decide +kernel) (by decide +kernel), lwg_in 1267 (by decide +kernel) (by decide +kernel), lwg_in 1268 (by decide +kernel) (by decide +kernel), in_X8, lwg_in 1269 (by decide +kernel) (by decide +kernel), by decide +kernel⟩
theorem cv_L_70 : CWv RL 70 RX9 yX9_beat cX9_beat 6 (some .int) 1 := ⟨lwg_in 2025 (by decide +kernel) (by decide +kernel), lwg_in 2026 (by decide +kernel) (by decide +kernel), lwg_in 2027 (by decide +kernel) (by decide +kernel), in_X9, lwg_in 2028 (by decide +kernel) (by decide +kernel), by decide +kernel⟩
theorem cv_L_71 : CWv RL 71 RX8 yX8_foresee cX8_foresee 7 (some .int) 2 := ⟨lwg_in 1276 (by decide +kernel) (by decide +kernel), lwg_in 1277 (by decide +kernel) (by decide +kernel), lwg_in 1278 (by decide +kernel) (by decide +kernel), in_X8, lwg_in 1279 (by decide +kernel) (by decide +kernel), by decide +kernel⟩
theorem cv_L_74 : CWv RL 74 RX9 yX9_foresee cX9_foresee 8 (some .int) 2 := ⟨lwg_in 2029 (by decide +kernel) (by decide +kernel), lwg_in 2030 (by decide +kernel) (by decide +kernel), lwg_in 2031 (by decide +kernel) (by decide +kernel), in_X9, lwg_in 2032 (by decide +kernel) (by decide +kernel), by decide +kernel⟩
theorem cv_L_75 : CWv RL 75 RX8 yX8_foreseen cX8_foreseen 2 (some .int) 1 := ⟨lwg_in 1286 (by decide +kernel) (by decide +kernel), lwg_in 1287 (by decide +kernel) (by decide +kernel), lwg_in 1288 (by decide +kernel) (by decide +kernel), in_X8, lwg_in 1289 (by decide +kernel) (by decide +kernel), by decide +kernel⟩
theorem cv_L_78 : CWv RL 78 RX9 yX9_foreseen cX9_foreseen 2 (some .int) 1 := ⟨lwg_in 2037 (by decide +kernel) (by decide +kernel), lwg_in 2038 (by decide +kernel) (by decide +kernel), lwg_in 2039 (by decide +kernel) (by decide +kernel), in_X9, lwg_in 2040 (by decide +kernel) (by decide +kernel), by decide +kernel⟩
theorem cg_L_79 : CWg RL 79 yL_unit cL_unit 5 (some .int) [(0, 10, 13, 13)] 4 := ⟨lwg_in 1339 (by decide +kernel) (by decide +kernel), lwg_in 1340 (by decide +kernel) (by decide +kernel), in_L, lwg_in 1341 (by decide +kernel) (by decide +kernel), by decide +kernel⟩
theorem cv_L_84 : CWv RL 84 RX9 yX9_unit cX9_unit 4 (some .int) 2 := ⟨lwg_in 2045 (by decide +kernel) (by decide +kernel), lwg_in 2046 (by decide +kernel) (by decide +kernel), lwg_in 2047 (by decide +kernel) (by decide +kernel), in_X9, lwg_in 2048 (by decide +kernel) (by decide +kernel), by decide +kernel⟩
theorem cv_L_85 : CWv RL 85 RX9 yX9_thrown cX9_thrown 1 (some .int) 0 := ⟨lwg_in 1381 (by decide +kernel) (by decide +kernel), lwg_in 1382 (by decide +kernel) (by decide +kernel), lwg_in 1383 (by decide +kernel) (by decide +kernel), in_X9, lwg_in 1384 (by decide +kernel) (by decide +kernel), by decide +kernel⟩
theorem cg_L_88 : CWg RL 88 yL_read cL_read 5 (some .int) [(0, 10, 13, 13)] 4 := ⟨lwg_in 1364 (by decide +kernel) (by decide +kernel), lwg_in 1365 (by decide +kernel) (by decide +kernel), in_L, lwg_in 1366 (by decide +kernel) (by decide +kernel), by decide +kernel⟩
theorem cv_L_90 : CWv RL 90 RX9 yX9_read cX9_read 5 (some .int) 2 := ⟨lwg_in 2049 (by decide +kernel) (by decide +kernel), lwg_in 2050 (by decide +kernel) (by decide +kernel), lwg_in 2051 (by decide +kernel) (by decide +kernel), in_X9, lwg_in 2052 (by decide +kernel) (by decide +kernel), by decide +kernel⟩
theorem cv_L_91 : CWv RL 91 RX8 yX8_cause cX8_cause 3 (some .int) 2 := ⟨lwg_in 1290 (by decide +kernel) (by decide +kernel), lwg_in 1291 (by decide +kernel) (by decide +kernel), lwg_in 1292 (by decide +kernel) (by decide +kernel), in_X8, lwg_in 1293 (by decide +kernel) (by decide +kernel), by decide +kernel⟩
theorem cv_L_94 : CWv RL 94 RX9 yX9_cause cX9_cause 3 (some .int) 2 := ⟨lwg_in 2053 (by decide +kernel) (by decide +kernel), lwg_in 2054 (by decide +kernel) (by decide +kernel), lwg_in 2055 (by decide +kernel) (by decide +kernel), in_X9, lwg_in 2056 (by decide +kernel) (by decide +kernel), by decide +kernel⟩
theorem cv_L_95 : CWv RL 95 RX8 yX8_need cX8_need 3 (some .int) 2 := ⟨lwg_in 1294 (by decide +kernel) (by decide +kernel), lwg_in 1295 (by decide +kernel) (by decide +kernel), lwg_in 1296 (by decide +kernel) (by decide +kernel), in_X8, lwg_in 1297 (by decide +kernel) (by decide +kernel), by decide +kernel⟩
theorem cv_L_98 : CWv RL 98 RX9 yX9_need cX9_need 3 (some .int) 2 := ⟨lwg_in 2057 (by decide +kernel) (by decide +kernel), lwg_in 2058 (by decide +kernel) (by decide +kernel), lwg_in 2059 (by decide +kernel) (by decide +kernel), in_X9, lwg_in 2060 (by decide +kernel) (by decide +kernel), by decide +kernel⟩
theorem cv_L_99 : CWv RL 99 RX8 yX8_leans cX8_leans 3 (some .int) 2 := ⟨lwg_in 1298 (by decide +kernel) (by decide +kernel), lwg_in 1299 (by decide +kernel) (by decide +kernel), lwg_in 1300 (by decide +kernel) (by decide +kernel), in_X8, lwg_in 1301 (by decide +kernel) (by decide +kernel), by decide +kernel⟩
theorem cv_L_102 : CWv RL 102 RX9 yX9_leans cX9_leans 3 (some .int) 2 := ⟨lwg_in 2061 (by decide +kernel) (by decide +kernel), lwg_in 2062 (by decide +kernel) (by decide +kernel), lwg_in 2063 (by decide +kernel) (by decide +kernel), in_X9, lwg_in 2064 (by decide +kernel) (by decide +kernel), by decide +kernel⟩
theorem cv_L_103 : CWv RL 103 RX8 yX8_up cX8_up 3 (some .int) 2 := ⟨lwg_in 1302 (by decide +kernel) (by decide +kernel), lwg_in 1303 (by decide +kernel) (by decide +kernel), lwg_in 1304 (by decide +kernel) (by decide +kernel), in_X8, lwg_in 1305 (by decide +kernel) (by decide +kernel), by decide +kernel⟩
theorem cv_L_106 : CWv RL 106 RX9 yX9_up cX9_up 3 (some .int) 2 := ⟨lwg_in 2065 (by decide +kernel) (by decide +kernel), lwg_in 2066 (by decide +kernel) (by decide +kernel), lwg_in 2067 (by decide +kernel) (by decide +kernel), in_X9, lwg_in 2068 (by decide +kernel) (by decide +kernel), by decide +kernel⟩
theorem cv_L_107 : CWv RL 107 RX8 yX8_half cX8_half 3 (some .int) 2 := ⟨lwg_in 1306 (by decide +kernel) (by decide +kernel), lwg_in 1307 (by decide +kernel) (by decide +kernel), lwg_in 1308 (by decide +kernel) (by decide +kernel), in_X8, lwg_in 1309 (by decide +kernel) (by decide +kernel), by decide +kernel⟩
theorem cv_L_110 : CWv RL 110 RX9 yX9_half cX9_half 3 (some .int) 2 := ⟨lwg_in 2069 (by decide +kernel) (by decide +kernel), lwg_in 2070 (by decide +kernel) (by decide +kernel), lwg_in 2071 (by decide +kernel) (by decide +kernel), in_X9, lwg_in 2072 (by decide +kernel) (by decide +kernel), by decide +kernel⟩
theorem cv_L_111 : CWv RL 111 RX8 yX8_order cX8_order 3 (some .int) 2 := ⟨lwg_in 1315 (by decide +kernel) (by decide +kernel), lwg_in 1316 (by decide +kernel) (by decide +kernel), lwg_in 1317 (by decide +kernel) (by decide +kernel), in_X8, lwg_in 1318 (by decide +kernel) (by decide +kernel), by decide +kernel⟩
theorem cv_L_114 : CWv RL 114 RX9 yX9_order cX9_order 3 (some .int) 2 := ⟨lwg_in 2073 (by decide +kernel) (by decide +kernel), lwg_in 2074 (by decide +kernel) (by decide +kernel), lwg_in 2075 (by decide +kernel) (by decide +kernel), in_X9, lwg_in 2076 (by decide +kernel) (by decide +kernel), by decide +kernel⟩
theorem cv_L_115 : CWv RL 115 RX8 yX8_closed cX8_closed 3 (some .int) 2 := ⟨lwg_in 1323 (by decide +kernel) (by decide +kernel), lwg_in 1324 (by decide +kernel) (by decide +kernel), lwg_in 1325 (by decide +kernel) (by decide +kernel), in_X8, lwg_in 1326 (by decide +kernel) (by decide +kernel), by decide +kernel⟩
theorem cv_L_118 : CWv RL 118 RX9 yX9_closed cX9_closed 3 (some .int) 2 := ⟨lwg_in 2077 (by decide +kernel) (by decide +kernel), lwg_in 2078 (by decide +kernel) (by decide +kernel), lwg_in 2079 (by decide +kernel) (by decide +kernel), in_X9, lwg_in 2080 (by decide +kernel) (by decide +kernel), by decide +kernel⟩
theorem cg_L_119 : CWg RL 119 yL_device cL_device 5 (some .int) [(0, 10, 13, 13)] 4 := ⟨lwg_in 1372 (by decide +kernel) (by decide +kernel), lwg_in 1373 (by decide +kernel) (by decide +kernel), in_L, lwg_in 1374 (by decide +kernel) (by decide +kernel), by decide +kernel⟩
theorem cv_L_121 : CWv RL 121 RX9 yX9_device cX9_device 3 (some .int) 2 := ⟨lwg_in 2081 (by decide +kernel) (by decide +kernel), lwg_in 2082 (by decide +kernel) (by decide +kernel), lwg_in 2083 (by decide +kernel) (by decide +kernel), in_X9, lwg_in 2084 (by decide +kernel) (by decide +kernel), by decide +kernel⟩
theorem cv_L_122 : CWv RL 122 RX8 yX8_count cX8_count 2 (some .int) 1 := ⟨lwg_in 1331 (by decide +kernel) (by decide +kernel), lwg_in 1332 (by decide +kernel) (by decide +kernel), lwg_in 1333 (by decide +kernel) (by decide +kernel), in_X8, lwg_in 1334 (by decide +kernel) (by decide +kernel), by decide +kernel⟩
theorem cv_L_125 : CWv RL 125 RX9 yX9_count cX9_count 5 (some .int) 1 := ⟨lwg_in 2085 (by decide +kernel) (by decide +kernel), lwg_in 2086 (by decide +kernel) (by decide +kernel), lwg_in 2087 (by decide +kernel) (by decide +kernel), in_X9, lwg_in 2088 (by decide +kernel) (by decide +kernel), by decide +kernel⟩
/-- what the law's walk stands on -/
def CL (p : Program) (l : Launch) (s : State) (m : MethodId) (meth : Method) (c : Code) (x : Xc) (K0 : Ka) (b L : Nat) (xs : Nat → Int32) : Prop :=
  CC p s m #[Value.ref b] meth c x K0 RL code 7 ret ∧ l.stackTraces = false ∧ kz K0 = s.heap.size ∧ x.2.1 = kz K0 ∧ va_X b L xs s s.heap ∧ b < s.heap.size ∧ ¬ AC K0 b
def LIN (x4 : Int32) (L : Nat) : Prop := vp_in (x4 + 1) L ∧ vp_in (x4 + 2) L ∧ vp_in (x4 + 3) L ∧ vp_in (x4 + 4) L ∧ vp_in (x4 + 5) L ∧ vp_in (x4 + 6) L
theorem lwq_eq {x y : Int64} (h : x = y) : lg_cmp x y = 0 := by
  subst h
  simp [lg_cmp]
theorem lw_out {k : Int32} {q1 : Nat} {K : Ka} {z1 z2 : Int64} (h : (k != 0 || (kd K q1 == 23 && decide (0 < le K q1) && z1 == z2)) = true) (hk : k = 0) : (kd K q1 == 23) = true ∧ vp_in 0 (le K q1) ∧ lg_cmp z1 z2 = 0 := by
  subst hk
  simp only [bne_self_eq_false, Bool.false_or, Bool.and_eq_true, decide_eq_true_eq] at h
  obtain ⟨⟨h1, h2⟩, h3⟩ := h
  refine ⟨h1, fun z => ?_, lwq_eq (eq_of_beq h3)⟩
  rcases z with z | z
  · exact absurd z (by decide)
  · have e : (0 : Int32).toNatClampNeg = 0 := by decide
    omega
def fS_feed (N a1 : Nat) (v1 : Int32) (v2 : Int32) (v3 : Int32) (v4 : Int32) (v5 : Int32) (v6 : Int32) (K : Ka) (M : Cm) (S : Ms) : Option (Ka × Cm × Ms) := gd (kd K a1 == 9) ((fC_X8_feed N K a1 ((((v1 : Int32).toInt64) <<< ((32 : Int32).toInt64 &&& 63)) ||| (((v2 : Int32).toInt64) &&& 4294967295)) ((((v3 : Int32).toInt64) <<< ((32 : Int32).toInt64 &&& 63)) ||| (((v4 : Int32).toInt64) &&& 4294967295)) ((((v5 : Int32).toInt64) <<< ((32 : Int32).toInt64 &&& 63)) ||| (((v6 : Int32).toInt64) &&& 4294967295)) M).bind fun o1 => (fM_feed N ((((v1 : Int32).toInt64) <<< ((32 : Int32).toInt64 &&& 63)) ||| (((v2 : Int32).toInt64) &&& 4294967295)) ((((v3 : Int32).toInt64) <<< ((32 : Int32).toInt64 &&& 63)) ||| (((v4 : Int32).toInt64) &&& 4294967295)) ((((v5 : Int32).toInt64) <<< ((32 : Int32).toInt64 &&& 63)) ||| (((v6 : Int32).toInt64) &&& 4294967295)) S).bind fun q287 => gd (o1.1 == q287.1) (some (K, o1.2, q287.2)))
def fS_station (N a1 : Nat)  (K : Ka) (M : Cm) (S : Ms) : Option (Ka × Cm × Ms) := gd (kd K a1 == 9) ((fT_X8_station N a1 K M).bind fun o1 => (fM_station N  S).bind fun q300 => gd (o1.1 == q300.1) (some (o1.2.1, o1.2.2, q300.2)))
def fS_named (N a1 : Nat) (v1 : Int32) (K : Ka) (M : Cm) (S : Ms) : Option (Ka × Cm × Ms) := gd (kd K a1 == 9) ((fC_X8_named N K a1 v1 M).bind fun o1 => (fM_named N v1 S).bind fun q325 => gd (o1.1 == q325.1) (some (K, o1.2, q325.2)))
def fS_demand (N a1 : Nat) (v1 : Int32) (v2 : Int32) (K : Ka) (M : Cm) (S : Ms) : Option (Ka × Cm × Ms) := gd (kd K a1 == 9) ((fC_X8_demand N K a1 v1 v2 M).bind fun o1 => (fM_demand N v1 v2 S).bind fun q362 => gd (o1.1 == q362.1) (some (K, o1.2, q362.2)))
def fS_ended (N a1 : Nat) (v1 : Int32) (K : Ka) (M : Cm) (S : Ms) : Option (Ka × Cm × Ms) := gd (kd K a1 == 9) ((fC_X8_ended N K a1 v1 M).bind fun o1 => (fM_ended N v1 S).bind fun q387 => gd (o1.1 == q387.1) (some (K, o1.2, q387.2)))
def fS_plan (N a1 : Nat) (v1 : Int32) (v2 : Int32) (K : Ka) (M : Cm) (S : Ms) : Option (Ka × Cm × Ms) := gd (kd K a1 == 9) ((fC_X8_plan N K a1 v1 v2 M).bind fun o1 => (fM_plan N v1 v2 S).bind fun q424 => gd (o1.1 == q424.1) (some (K, o1.2, q424.2)))
def fS_clear (N a1 : Nat)  (K : Ka) (M : Cm) (S : Ms) : Option (Ka × Cm × Ms) := gd (kd K a1 == 9) ((fC_X8_clear N K a1  M).bind fun o1 => (fM_clear N  S).bind fun q437 => some (K, o1, q437))
def fS_heal (N a1 : Nat) (v1 : Int32) (K : Ka) (M : Cm) (S : Ms) : Option (Ka × Cm × Ms) := gd (kd K a1 == 9) ((fC_X8_heal N K a1 v1 M).bind fun o1 => (fM_heal N v1 S).bind fun q460 => gd (o1.1 == q460.1) (some (K, o1.2, q460.2)))
def fS_close (N a1 : Nat)  (K : Ka) (M : Cm) (S : Ms) : Option (Ka × Cm × Ms) := gd (kd K a1 == 9) ((fC_X8_close N K a1  M).bind fun o1 => (fM_close N  S).bind fun q473 => gd (o1.1 == q473.1) (some (K, o1.2, q473.2)))
def fS_beat (N a1 : Nat) (v1 : Int32) (K : Ka) (M : Cm) (S : Ms) : Option (Ka × Cm × Ms) := gd (kd K a1 == 9) ((fC_X8_beat N K a1 v1 M).bind fun o1 => (fM_beat N v1 S).bind fun q498 => gd (o1.1 == q498.1) (some (K, o1.2, q498.2)))
def fS_foresee (N a1 : Nat) (v1 : Int32) (v2 : Int32) (K : Ka) (M : Cm) (S : Ms) : Option (Ka × Cm × Ms) := gd (kd K a1 == 9) ((fC_X8_foresee N K a1 v1 v2 M).bind fun o1 => (fM_foresee N v1 v2 S).bind fun q535 => gd (o1.1 == q535.1) (some (K, o1.2, q535.2)))
def fS_foreseen (N a1 : Nat) (v1 : Int32) (K : Ka) (M : Cm) (S : Ms) : Option (Ka × Cm × Ms) := gd (kd K a1 == 9) ((fC_X8_foreseen N K a1 v1 M).bind fun o1 => (fM_foreseen N v1 S).bind fun q560 => gd (o1.1 == q560.1) (some (K, o1.2, q560.2)))
def fS_unit (N a1 : Nat) (a3 : Nat) (v1 : Int32) (v2 : Int32) (K : Ka) (M : Cm) (S : Ms) : Option (Ka × Cm × Ms) := (fL_unit N a1 v1 v2 a3 K M).bind fun o1 => (fM_unit N v1 v2 S).bind fun q600 => (fM_thrown N  q600.2).bind fun q606 => gd (q606.1 == o1.1) (gd (o1.1 != 0 || (kd o1.2.1 a3 == 23 && decide (0 < le o1.2.1 a3) && cL o1.2.2 a3 (0 : Int32).toNatClampNeg == (q600.1 : Int32).toInt64)) (some (o1.2.1, o1.2.2, q606.2)))
def fS_read (N a1 : Nat) (a3 : Nat) (v1 : Int32) (v2 : Int32) (K : Ka) (M : Cm) (S : Ms) : Option (Ka × Cm × Ms) := (fL_read N a1 v1 v2 a3 K M).bind fun o1 => (fM_read N v1 v2 S).bind fun q668 => (fM_thrown N  q668.2).bind fun q674 => gd (q674.1 == o1.1) (gd (o1.1 != 0 || (kd o1.2.1 a3 == 23 && decide (0 < le o1.2.1 a3) && cL o1.2.2 a3 (0 : Int32).toNatClampNeg == (q668.1 : Int32).toInt64)) (some (o1.2.1, o1.2.2, q674.2)))
def fS_cause (N a1 : Nat) (v1 : Int32) (v2 : Int32) (K : Ka) (M : Cm) (S : Ms) : Option (Ka × Cm × Ms) := gd (kd K a1 == 9) ((fC_X8_cause N K a1 v1 v2 M).bind fun o1 => (fM_cause N v1 v2 S).bind fun q733 => gd (o1.1 == q733.1) (some (K, o1.2, q733.2)))
def fS_need (N a1 : Nat) (v1 : Int32) (v2 : Int32) (K : Ka) (M : Cm) (S : Ms) : Option (Ka × Cm × Ms) := gd (kd K a1 == 9) ((fC_X8_need N K a1 v1 v2 M).bind fun o1 => (fM_need N v1 v2 S).bind fun q770 => gd (o1.1 == q770.1) (some (K, o1.2, q770.2)))
def fS_leans (N a1 : Nat) (v1 : Int32) (v2 : Int32) (K : Ka) (M : Cm) (S : Ms) : Option (Ka × Cm × Ms) := gd (kd K a1 == 9) ((fC_X8_leans N K a1 v1 v2 M).bind fun o1 => (fM_leans N v1 v2 S).bind fun q807 => gd (o1.1 == q807.1) (some (K, o1.2, q807.2)))
def fS_up (N a1 : Nat) (v1 : Int32) (v2 : Int32) (K : Ka) (M : Cm) (S : Ms) : Option (Ka × Cm × Ms) := gd (kd K a1 == 9) ((fC_X8_up N K a1 v1 v2 M).bind fun o1 => (fM_up N v1 v2 S).bind fun q844 => gd (o1.1 == q844.1) (some (K, o1.2, q844.2)))
def fS_half (N a1 : Nat) (v1 : Int32) (v2 : Int32) (K : Ka) (M : Cm) (S : Ms) : Option (Ka × Cm × Ms) := gd (kd K a1 == 9) ((fC_X8_half N K a1 v1 v2 M).bind fun o1 => (fM_half N v1 v2 S).bind fun q881 => gd (o1.1 == q881.1) (some (K, o1.2, q881.2)))
def fS_order (N a1 : Nat) (v1 : Int32) (v2 : Int32) (K : Ka) (M : Cm) (S : Ms) : Option (Ka × Cm × Ms) := gd (kd K a1 == 9) ((fC_X8_order N K a1 v1 v2 M).bind fun o1 => (fM_order N v1 v2 S).bind fun q918 => gd (o1.1 == q918.1) (some (K, o1.2, q918.2)))
def fS_closed (N a1 : Nat) (v1 : Int32) (v2 : Int32) (K : Ka) (M : Cm) (S : Ms) : Option (Ka × Cm × Ms) := gd (kd K a1 == 9) ((fC_X8_closed N K a1 v1 v2 M).bind fun o1 => (fM_closed N v1 v2 S).bind fun q955 => gd (o1.1 == q955.1) (some (K, o1.2, q955.2)))
def fS_device (N a1 : Nat) (a3 : Nat) (v1 : Int32) (v2 : Int32) (K : Ka) (M : Cm) (S : Ms) : Option (Ka × Cm × Ms) := (fL_device N a1 v1 v2 a3 K M).bind fun o1 => (fM_device N v1 v2 S).bind fun q995 => (fM_thrown N  q995.2).bind fun q1001 => gd (q1001.1 == o1.1) (gd (o1.1 != 0 || (kd o1.2.1 a3 == 23 && decide (0 < le o1.2.1 a3) && cL o1.2.2 a3 (0 : Int32).toNatClampNeg == (q995.1 : Int32).toInt64)) (some (o1.2.1, o1.2.2, q1001.2)))
def fS_count (N a1 : Nat) (v1 : Int32) (K : Ka) (M : Cm) (S : Ms) : Option (Ka × Cm × Ms) := gd (kd K a1 == 9) ((fC_X8_count N K a1 v1 M).bind fun o1 => (fM_count N v1 S).bind fun q1048 => gd (o1.1 == q1048.1) (some (K, o1.2, q1048.2)))
set_option maxRecDepth 100000 in
set_option maxHeartbeats 4000000 in
theorem wS_feed {p : Program} {l : Launch} {e : Env} {s : State} {m : MethodId} {below : List Frame} {meth : Method} {c : Code} {x : Xc} {g : Gm} {K0 : Ka} {b L : Nat} {xs : Nat → Int32} {N a1 a3 : Nat} {x4 : Int32} {o : Ka × Cm × Ms} {Q : State → Prop} (C : CL p l s m meth c x K0 b L xs) (hin : LIN x4 L) (hro : kz o.1 - kz K0 ≤ room_1.cells ∧ ku o.1 - ku K0 ≤ room_1.slots) (hk : ∀ (K : Ka) (M : Cm) (S : Ms) (H : Heap) (locs : List Loc) (ls : Array Slot), some (K, M, S) = some o → KLe K0 K → LWd x g K M S H → va_S (AC K0) s.heap H locs → lv_has ls 7 [(0, .ref b), (1, .ref a1), (2, .ref g.1), (3, .ref a3), (4, .int x4)] → W p l e room_1 s m #[Value.ref b] below meth c H locs (kz K - kz K0) (ku K - ku K0) Q (F0 m 1056 ls [])) (K : Ka) (M : Cm) (S : Ms) (H : Heap) (locs : List Loc) (ls : Array Slot) (hcs : kz K - kz K0 ≤ room_1.cells ∧ ku K - ku K0 ≤ room_1.slots) (hf : fS_feed N a1 (xs (x4 + 1 : Int32).toNatClampNeg) (xs (x4 + 2 : Int32).toNatClampNeg) (xs (x4 + 3 : Int32).toNatClampNeg) (xs (x4 + 4 : Int32).toNatClampNeg) (xs (x4 + 5 : Int32).toNatClampNeg) (xs (x4 + 6 : Int32).toNatClampNeg) K M S = some o) (hL : KLe K0 K) (hW : LWd x g K M S H) (hS : va_S (AC K0) s.heap H locs) (hl : lv_has ls 7 [(0, .ref b), (1, .ref a1), (2, .ref g.1), (3, .ref a3), (4, .int x4)]) : W p l e room_1 s m #[Value.ref b] below meth c H locs (kz K - kz K0) (ku K - ku K0) Q (F0 m 148 ls []) := by
  obtain ⟨CX, hlt, hz0, hlo, hX, hbl, hbA⟩ := C
  obtain ⟨hx, hb, hml, hown, hts, hE, hB, hr, hlk⟩ := id CX
  obtain ⟨hin1, hin2, hin3, hin4, hin5, hin6⟩ := hin
  unfold fS_feed at hf
  obtain ⟨hkx, hf⟩ := gd_some hf
  obtain ⟨o1, ho1, hf⟩ := bnd_some hf
  obtain ⟨q287, hq287, hf⟩ := bnd_some hf
  obtain ⟨heq, hf⟩ := gd_some hf
  refine lv_aload_n hx hb dL_law_148 rfl (lv_at hl 1 rfl) ?_
  refine lv_aload_n hx hb dL_law_149 rfl (lv_at hl 0 rfl) ?_
  refine lv_iload hx hb dL_law_150 (lv_at hl 4 rfl) ?_
  refine lv_iconst (v := 1) hx hb dL_law_152 (by decide) ?_
  refine lv_iadd hx hb dL_law_153 ?_
  refine va_sld hx hb hX hbl hbA hS hin1 dL_law_154 ?_
  refine lv_i2l (v := ((xs (x4 + 1 : Int32).toNatClampNeg) : Int32).toInt64) hx hb dL_law_155 rfl ?_
  refine lv_bipush (v := 32) hx hb dL_law_156 (by decide) ?_
  refine lv_lshl (v := (((xs (x4 + 1 : Int32).toNatClampNeg) : Int32).toInt64) <<< ((32 : Int32).toInt64 &&& 63)) hx hb dL_law_158 rfl ?_
  refine lv_aload_n hx hb dL_law_159 rfl (lv_at hl 0 rfl) ?_
  refine lv_iload hx hb dL_law_160 (lv_at hl 4 rfl) ?_
  refine lv_iconst (v := 2) hx hb dL_law_162 (by decide) ?_
  refine lv_iadd hx hb dL_law_163 ?_
  refine va_sld hx hb hX hbl hbA hS hin2 dL_law_164 ?_
  refine lv_i2l (v := ((xs (x4 + 2 : Int32).toNatClampNeg) : Int32).toInt64) hx hb dL_law_165 rfl ?_
  refine lv_ldc2 (v := 4294967295) hx hb hown (hts _ wq_25) dL_law_166 ?_
  refine lv_land hx hb dL_law_169 ?_
  refine lv_lor hx hb dL_law_170 ?_
  refine lv_aload_n hx hb dL_law_171 rfl (lv_at hl 0 rfl) ?_
  refine lv_iload hx hb dL_law_172 (lv_at hl 4 rfl) ?_
  refine lv_iconst (v := 3) hx hb dL_law_174 (by decide) ?_
  refine lv_iadd hx hb dL_law_175 ?_
  refine va_sld hx hb hX hbl hbA hS hin3 dL_law_176 ?_
  refine lv_i2l (v := ((xs (x4 + 3 : Int32).toNatClampNeg) : Int32).toInt64) hx hb dL_law_177 rfl ?_
  refine lv_bipush (v := 32) hx hb dL_law_178 (by decide) ?_
  refine lv_lshl (v := (((xs (x4 + 3 : Int32).toNatClampNeg) : Int32).toInt64) <<< ((32 : Int32).toInt64 &&& 63)) hx hb dL_law_180 rfl ?_
  refine lv_aload_n hx hb dL_law_181 rfl (lv_at hl 0 rfl) ?_
  refine lv_iload hx hb dL_law_182 (lv_at hl 4 rfl) ?_
  refine lv_iconst (v := 4) hx hb dL_law_184 (by decide) ?_
  refine lv_iadd hx hb dL_law_185 ?_
  refine va_sld hx hb hX hbl hbA hS hin4 dL_law_186 ?_
  refine lv_i2l (v := ((xs (x4 + 4 : Int32).toNatClampNeg) : Int32).toInt64) hx hb dL_law_187 rfl ?_
  refine lv_ldc2 (v := 4294967295) hx hb hown (hts _ wq_25) dL_law_188 ?_
  refine lv_land hx hb dL_law_191 ?_
  refine lv_lor hx hb dL_law_192 ?_
  refine lv_aload_n hx hb dL_law_193 rfl (lv_at hl 0 rfl) ?_
  refine lv_iload hx hb dL_law_194 (lv_at hl 4 rfl) ?_
  refine lv_iconst (v := 5) hx hb dL_law_196 (by decide) ?_
  refine lv_iadd hx hb dL_law_197 ?_
  refine va_sld hx hb hX hbl hbA hS hin5 dL_law_198 ?_
  refine lv_i2l (v := ((xs (x4 + 5 : Int32).toNatClampNeg) : Int32).toInt64) hx hb dL_law_199 rfl ?_
  refine lv_bipush (v := 32) hx hb dL_law_200 (by decide) ?_
  refine lv_lshl (v := (((xs (x4 + 5 : Int32).toNatClampNeg) : Int32).toInt64) <<< ((32 : Int32).toInt64 &&& 63)) hx hb dL_law_202 rfl ?_
  refine lv_aload_n hx hb dL_law_203 rfl (lv_at hl 0 rfl) ?_
  refine lv_iload hx hb dL_law_204 (lv_at hl 4 rfl) ?_
  refine lv_bipush (v := 6) hx hb dL_law_206 (by decide) ?_
  refine lv_iadd hx hb dL_law_208 ?_
  refine va_sld hx hb hX hbl hbA hS hin6 dL_law_209 ?_
  refine lv_i2l (v := ((xs (x4 + 6 : Int32).toNatClampNeg) : Int32).toInt64) hx hb dL_law_210 rfl ?_
  refine lv_ldc2 (v := 4294967295) hx hb hown (hts _ wq_25) dL_law_211 ?_
  refine lv_land hx hb dL_law_214 ?_
  refine lv_lor hx hb dL_law_215 ?_
  refine lc_I CX hL hW hS (As := [.long (((((xs (x4 + 1 : Int32).toNatClampNeg) : Int32).toInt64) <<< ((32 : Int32).toInt64 &&& 63)) ||| ((((xs (x4 + 2 : Int32).toNatClampNeg) : Int32).toInt64) &&& 4294967295)), .long (((((xs (x4 + 3 : Int32).toNatClampNeg) : Int32).toInt64) <<< ((32 : Int32).toInt64 &&& 63)) ||| ((((xs (x4 + 4 : Int32).toNatClampNeg) : Int32).toInt64) &&& 4294967295)), .long (((((xs (x4 + 5 : Int32).toNatClampNeg) : Int32).toInt64) <<< ((32 : Int32).toInt64 &&& 63)) ||| ((((xs (x4 + 6 : Int32).toNatClampNeg) : Int32).toInt64) &&& 4294967295))]) (rest := []) hkx (MC_X8_feed l x N K a1 (((((xs (x4 + 1 : Int32).toNatClampNeg) : Int32).toInt64) <<< ((32 : Int32).toInt64 &&& 63)) ||| ((((xs (x4 + 2 : Int32).toNatClampNeg) : Int32).toInt64) &&& 4294967295)) (((((xs (x4 + 3 : Int32).toNatClampNeg) : Int32).toInt64) <<< ((32 : Int32).toInt64 &&& 63)) ||| ((((xs (x4 + 4 : Int32).toNatClampNeg) : Int32).toInt64) &&& 4294967295)) (((((xs (x4 + 5 : Int32).toNatClampNeg) : Int32).toInt64) <<< ((32 : Int32).toInt64 &&& 63)) ||| ((((xs (x4 + 6 : Int32).toNatClampNeg) : Int32).toInt64) &&& 4294967295)) M o1 ho1) cv_L_27 ⟨by decide, by decide⟩ rfl rfl (Nat.le_of_ble_eq_true rfl) hl.1 dL_law_216 hcs (fun H locs hW hS => ?_)
  refine lv_aload_n hx hb dL_law_219 rfl (lv_at hl 2 rfl) ?_
  refine lv_aload_n hx hb dL_law_220 rfl (lv_at hl 0 rfl) ?_
  refine lv_iload hx hb dL_law_221 (lv_at hl 4 rfl) ?_
  refine lv_iconst (v := 1) hx hb dL_law_223 (by decide) ?_
  refine lv_iadd hx hb dL_law_224 ?_
  refine va_sld hx hb hX hbl hbA hS hin1 dL_law_225 ?_
  refine lv_i2l (v := ((xs (x4 + 1 : Int32).toNatClampNeg) : Int32).toInt64) hx hb dL_law_226 rfl ?_
  refine lv_bipush (v := 32) hx hb dL_law_227 (by decide) ?_
  refine lv_lshl (v := (((xs (x4 + 1 : Int32).toNatClampNeg) : Int32).toInt64) <<< ((32 : Int32).toInt64 &&& 63)) hx hb dL_law_229 rfl ?_
  refine lv_aload_n hx hb dL_law_230 rfl (lv_at hl 0 rfl) ?_
  refine lv_iload hx hb dL_law_231 (lv_at hl 4 rfl) ?_
  refine lv_iconst (v := 2) hx hb dL_law_233 (by decide) ?_
  refine lv_iadd hx hb dL_law_234 ?_
  refine va_sld hx hb hX hbl hbA hS hin2 dL_law_235 ?_
  refine lv_i2l (v := ((xs (x4 + 2 : Int32).toNatClampNeg) : Int32).toInt64) hx hb dL_law_236 rfl ?_
  refine lv_ldc2 (v := 4294967295) hx hb hown (hts _ wq_25) dL_law_237 ?_
  refine lv_land hx hb dL_law_240 ?_
  refine lv_lor hx hb dL_law_241 ?_
  refine lv_aload_n hx hb dL_law_242 rfl (lv_at hl 0 rfl) ?_
  refine lv_iload hx hb dL_law_243 (lv_at hl 4 rfl) ?_
  refine lv_iconst (v := 3) hx hb dL_law_245 (by decide) ?_
  refine lv_iadd hx hb dL_law_246 ?_
  refine va_sld hx hb hX hbl hbA hS hin3 dL_law_247 ?_
  refine lv_i2l (v := ((xs (x4 + 3 : Int32).toNatClampNeg) : Int32).toInt64) hx hb dL_law_248 rfl ?_
  refine lv_bipush (v := 32) hx hb dL_law_249 (by decide) ?_
  refine lv_lshl (v := (((xs (x4 + 3 : Int32).toNatClampNeg) : Int32).toInt64) <<< ((32 : Int32).toInt64 &&& 63)) hx hb dL_law_251 rfl ?_
  refine lv_aload_n hx hb dL_law_252 rfl (lv_at hl 0 rfl) ?_
  refine lv_iload hx hb dL_law_253 (lv_at hl 4 rfl) ?_
  refine lv_iconst (v := 4) hx hb dL_law_255 (by decide) ?_
  refine lv_iadd hx hb dL_law_256 ?_
  refine va_sld hx hb hX hbl hbA hS hin4 dL_law_257 ?_
  refine lv_i2l (v := ((xs (x4 + 4 : Int32).toNatClampNeg) : Int32).toInt64) hx hb dL_law_258 rfl ?_
  refine lv_ldc2 (v := 4294967295) hx hb hown (hts _ wq_25) dL_law_259 ?_
  refine lv_land hx hb dL_law_262 ?_
  refine lv_lor hx hb dL_law_263 ?_
  refine lv_aload_n hx hb dL_law_264 rfl (lv_at hl 0 rfl) ?_
  refine lv_iload hx hb dL_law_265 (lv_at hl 4 rfl) ?_
  refine lv_iconst (v := 5) hx hb dL_law_267 (by decide) ?_
  refine lv_iadd hx hb dL_law_268 ?_
  refine va_sld hx hb hX hbl hbA hS hin5 dL_law_269 ?_
  refine lv_i2l (v := ((xs (x4 + 5 : Int32).toNatClampNeg) : Int32).toInt64) hx hb dL_law_270 rfl ?_
  refine lv_bipush (v := 32) hx hb dL_law_271 (by decide) ?_
  refine lv_lshl (v := (((xs (x4 + 5 : Int32).toNatClampNeg) : Int32).toInt64) <<< ((32 : Int32).toInt64 &&& 63)) hx hb dL_law_273 rfl ?_
  refine lv_aload_n hx hb dL_law_274 rfl (lv_at hl 0 rfl) ?_
  refine lv_iload hx hb dL_law_275 (lv_at hl 4 rfl) ?_
  refine lv_bipush (v := 6) hx hb dL_law_277 (by decide) ?_
  refine lv_iadd hx hb dL_law_279 ?_
  refine va_sld hx hb hX hbl hbA hS hin6 dL_law_280 ?_
  refine lv_i2l (v := ((xs (x4 + 6 : Int32).toNatClampNeg) : Int32).toInt64) hx hb dL_law_281 rfl ?_
  refine lv_ldc2 (v := 4294967295) hx hb hown (hts _ wq_25) dL_law_282 ?_
  refine lv_land hx hb dL_law_285 ?_
  refine lv_lor hx hb dL_law_286 ?_
  refine lm_I CX hz0 hlo hL hW hS (As := [.long (((((xs (x4 + 1 : Int32).toNatClampNeg) : Int32).toInt64) <<< ((32 : Int32).toInt64 &&& 63)) ||| ((((xs (x4 + 2 : Int32).toNatClampNeg) : Int32).toInt64) &&& 4294967295)), .long (((((xs (x4 + 3 : Int32).toNatClampNeg) : Int32).toInt64) <<< ((32 : Int32).toInt64 &&& 63)) ||| ((((xs (x4 + 4 : Int32).toNatClampNeg) : Int32).toInt64) &&& 4294967295)), .long (((((xs (x4 + 5 : Int32).toNatClampNeg) : Int32).toInt64) <<< ((32 : Int32).toInt64 &&& 63)) ||| ((((xs (x4 + 6 : Int32).toNatClampNeg) : Int32).toInt64) &&& 4294967295))]) (rest := [.int o1.1]) (MM_feed l x.1 g N (((((xs (x4 + 1 : Int32).toNatClampNeg) : Int32).toInt64) <<< ((32 : Int32).toInt64 &&& 63)) ||| ((((xs (x4 + 2 : Int32).toNatClampNeg) : Int32).toInt64) &&& 4294967295)) (((((xs (x4 + 3 : Int32).toNatClampNeg) : Int32).toInt64) <<< ((32 : Int32).toInt64 &&& 63)) ||| ((((xs (x4 + 4 : Int32).toNatClampNeg) : Int32).toInt64) &&& 4294967295)) (((((xs (x4 + 5 : Int32).toNatClampNeg) : Int32).toInt64) <<< ((32 : Int32).toInt64 &&& 63)) ||| ((((xs (x4 + 6 : Int32).toNatClampNeg) : Int32).toInt64) &&& 4294967295)) S q287 hq287) cv_L_31 ⟨by decide, by decide⟩ rfl rfl (Nat.le_of_ble_eq_true rfl) hl.1 dL_law_287 hcs (fun H locs hW hS => ?_)
  refine lv_icmp_eq (tgt := 1056) hx hb dL_law_290 (by decide) (fun hc => ?_) (fun hc => absurd (eq_of_beq heq) hc)
  exact hk _ _ _ _ _ ls hf hL hW hS (lv_sub hl [0, 1, 2, 3, 4] rfl)
set_option maxRecDepth 100000 in
set_option maxHeartbeats 4000000 in
theorem wS_station {p : Program} {l : Launch} {e : Env} {s : State} {m : MethodId} {below : List Frame} {meth : Method} {c : Code} {x : Xc} {g : Gm} {K0 : Ka} {b L : Nat} {xs : Nat → Int32} {N a1 a3 : Nat} {x4 : Int32} {o : Ka × Cm × Ms} {Q : State → Prop} (C : CL p l s m meth c x K0 b L xs) (hin : LIN x4 L) (hro : kz o.1 - kz K0 ≤ room_1.cells ∧ ku o.1 - ku K0 ≤ room_1.slots) (hk : ∀ (K : Ka) (M : Cm) (S : Ms) (H : Heap) (locs : List Loc) (ls : Array Slot), some (K, M, S) = some o → KLe K0 K → LWd x g K M S H → va_S (AC K0) s.heap H locs → lv_has ls 7 [(0, .ref b), (1, .ref a1), (2, .ref g.1), (3, .ref a3), (4, .int x4)] → W p l e room_1 s m #[Value.ref b] below meth c H locs (kz K - kz K0) (ku K - ku K0) Q (F0 m 1056 ls [])) (K : Ka) (M : Cm) (S : Ms) (H : Heap) (locs : List Loc) (ls : Array Slot) (hcs : kz K - kz K0 ≤ room_1.cells ∧ ku K - ku K0 ≤ room_1.slots) (hf : fS_station N a1  K M S = some o) (hL : KLe K0 K) (hW : LWd x g K M S H) (hS : va_S (AC K0) s.heap H locs) (hl : lv_has ls 7 [(0, .ref b), (1, .ref a1), (2, .ref g.1), (3, .ref a3), (4, .int x4)]) : W p l e room_1 s m #[Value.ref b] below meth c H locs (kz K - kz K0) (ku K - ku K0) Q (F0 m 295 ls []) := by
  obtain ⟨CX, hlt, hz0, hlo, hX, hbl, hbA⟩ := C
  obtain ⟨hx, hb, hml, hown, hts, hE, hB, hr, hlk⟩ := id CX
  obtain ⟨hin1, hin2, hin3, hin4, hin5, hin6⟩ := hin
  unfold fS_station at hf
  obtain ⟨hkx, hf⟩ := gd_some hf
  obtain ⟨o1, ho1, hf⟩ := bnd_some hf
  have hq1 := mfT_X8_station ho1
  obtain ⟨q300, hq300, hf⟩ := bnd_some hf
  obtain ⟨heq, hf⟩ := gd_some hf
  have hcs1 : kz o1.2.1 - kz K0 ≤ room_1.cells ∧ ku o1.2.1 - ku K0 ≤ room_1.slots := by cases hf; exact hro
  refine lv_aload_n hx hb dL_law_295 rfl (lv_at hl 1 rfl) ?_
  refine lt_I CX hL hW hS (As := []) (rest := []) hkx (MT_X8_station l x hlt N a1 K M o1 ho1) ch_L_32 ⟨by decide, by decide⟩ rfl rfl (Nat.le_of_ble_eq_true rfl) hl.1 hq1 dL_law_296 hcs1 (fun H locs hW hS => ?_)
  refine lv_aload_n hx hb dL_law_299 rfl (lv_at hl 2 rfl) ?_
  refine lm_I CX hz0 hlo (hL.tr hq1) hW hS (As := []) (rest := [.int o1.1]) (MM_station l x.1 g N  S q300 hq300) cv_L_36 ⟨by decide, by decide⟩ rfl rfl (Nat.le_of_ble_eq_true rfl) hl.1 dL_law_300 hcs1 (fun H locs hW hS => ?_)
  refine lv_icmp_eq (tgt := 1056) hx hb dL_law_303 (by decide) (fun hc => ?_) (fun hc => absurd (eq_of_beq heq) hc)
  exact hk _ _ _ _ _ ls hf (hL.tr hq1) hW hS (lv_sub hl [0, 1, 2, 3, 4] rfl)
set_option maxRecDepth 100000 in
set_option maxHeartbeats 4000000 in
theorem wS_named {p : Program} {l : Launch} {e : Env} {s : State} {m : MethodId} {below : List Frame} {meth : Method} {c : Code} {x : Xc} {g : Gm} {K0 : Ka} {b L : Nat} {xs : Nat → Int32} {N a1 a3 : Nat} {x4 : Int32} {o : Ka × Cm × Ms} {Q : State → Prop} (C : CL p l s m meth c x K0 b L xs) (hin : LIN x4 L) (hro : kz o.1 - kz K0 ≤ room_1.cells ∧ ku o.1 - ku K0 ≤ room_1.slots) (hk : ∀ (K : Ka) (M : Cm) (S : Ms) (H : Heap) (locs : List Loc) (ls : Array Slot), some (K, M, S) = some o → KLe K0 K → LWd x g K M S H → va_S (AC K0) s.heap H locs → lv_has ls 7 [(0, .ref b), (1, .ref a1), (2, .ref g.1), (3, .ref a3), (4, .int x4)] → W p l e room_1 s m #[Value.ref b] below meth c H locs (kz K - kz K0) (ku K - ku K0) Q (F0 m 1056 ls [])) (K : Ka) (M : Cm) (S : Ms) (H : Heap) (locs : List Loc) (ls : Array Slot) (hcs : kz K - kz K0 ≤ room_1.cells ∧ ku K - ku K0 ≤ room_1.slots) (hf : fS_named N a1 (xs (x4 + 1 : Int32).toNatClampNeg) K M S = some o) (hL : KLe K0 K) (hW : LWd x g K M S H) (hS : va_S (AC K0) s.heap H locs) (hl : lv_has ls 7 [(0, .ref b), (1, .ref a1), (2, .ref g.1), (3, .ref a3), (4, .int x4)]) : W p l e room_1 s m #[Value.ref b] below meth c H locs (kz K - kz K0) (ku K - ku K0) Q (F0 m 308 ls []) := by
  obtain ⟨CX, hlt, hz0, hlo, hX, hbl, hbA⟩ := C
  obtain ⟨hx, hb, hml, hown, hts, hE, hB, hr, hlk⟩ := id CX
  obtain ⟨hin1, hin2, hin3, hin4, hin5, hin6⟩ := hin
  unfold fS_named at hf
  obtain ⟨hkx, hf⟩ := gd_some hf
  obtain ⟨o1, ho1, hf⟩ := bnd_some hf
  obtain ⟨q325, hq325, hf⟩ := bnd_some hf
  obtain ⟨heq, hf⟩ := gd_some hf
  refine lv_aload_n hx hb dL_law_308 rfl (lv_at hl 1 rfl) ?_
  refine lv_aload_n hx hb dL_law_309 rfl (lv_at hl 0 rfl) ?_
  refine lv_iload hx hb dL_law_310 (lv_at hl 4 rfl) ?_
  refine lv_iconst (v := 1) hx hb dL_law_312 (by decide) ?_
  refine lv_iadd hx hb dL_law_313 ?_
  refine va_sld hx hb hX hbl hbA hS hin1 dL_law_314 ?_
  refine lc_I CX hL hW hS (As := [.int (xs (x4 + 1 : Int32).toNatClampNeg)]) (rest := []) hkx (MC_X8_named l x N K a1 (xs (x4 + 1 : Int32).toNatClampNeg) M o1 ho1) cv_L_37 ⟨by decide, by decide⟩ rfl rfl (Nat.le_of_ble_eq_true rfl) hl.1 dL_law_315 hcs (fun H locs hW hS => ?_)
  refine lv_aload_n hx hb dL_law_318 rfl (lv_at hl 2 rfl) ?_
  refine lv_aload_n hx hb dL_law_319 rfl (lv_at hl 0 rfl) ?_
  refine lv_iload hx hb dL_law_320 (lv_at hl 4 rfl) ?_
  refine lv_iconst (v := 1) hx hb dL_law_322 (by decide) ?_
  refine lv_iadd hx hb dL_law_323 ?_
  refine va_sld hx hb hX hbl hbA hS hin1 dL_law_324 ?_
  refine lm_I CX hz0 hlo hL hW hS (As := [.int (xs (x4 + 1 : Int32).toNatClampNeg)]) (rest := [.int o1.1]) (MM_named l x.1 g N (xs (x4 + 1 : Int32).toNatClampNeg) S q325 hq325) cv_L_41 ⟨by decide, by decide⟩ rfl rfl (Nat.le_of_ble_eq_true rfl) hl.1 dL_law_325 hcs (fun H locs hW hS => ?_)
  refine lv_icmp_eq (tgt := 1056) hx hb dL_law_328 (by decide) (fun hc => ?_) (fun hc => absurd (eq_of_beq heq) hc)
  exact hk _ _ _ _ _ ls hf hL hW hS (lv_sub hl [0, 1, 2, 3, 4] rfl)
set_option maxRecDepth 100000 in
set_option maxHeartbeats 4000000 in
theorem wS_demand {p : Program} {l : Launch} {e : Env} {s : State} {m : MethodId} {below : List Frame} {meth : Method} {c : Code} {x : Xc} {g : Gm} {K0 : Ka} {b L : Nat} {xs : Nat → Int32} {N a1 a3 : Nat} {x4 : Int32} {o : Ka × Cm × Ms} {Q : State → Prop} (C : CL p l s m meth c x K0 b L xs) (hin : LIN x4 L) (hro : kz o.1 - kz K0 ≤ room_1.cells ∧ ku o.1 - ku K0 ≤ room_1.slots) (hk : ∀ (K : Ka) (M : Cm) (S : Ms) (H : Heap) (locs : List Loc) (ls : Array Slot), some (K, M, S) = some o → KLe K0 K → LWd x g K M S H → va_S (AC K0) s.heap H locs → lv_has ls 7 [(0, .ref b), (1, .ref a1), (2, .ref g.1), (3, .ref a3), (4, .int x4)] → W p l e room_1 s m #[Value.ref b] below meth c H locs (kz K - kz K0) (ku K - ku K0) Q (F0 m 1056 ls [])) (K : Ka) (M : Cm) (S : Ms) (H : Heap) (locs : List Loc) (ls : Array Slot) (hcs : kz K - kz K0 ≤ room_1.cells ∧ ku K - ku K0 ≤ room_1.slots) (hf : fS_demand N a1 (xs (x4 + 1 : Int32).toNatClampNeg) (xs (x4 + 2 : Int32).toNatClampNeg) K M S = some o) (hL : KLe K0 K) (hW : LWd x g K M S H) (hS : va_S (AC K0) s.heap H locs) (hl : lv_has ls 7 [(0, .ref b), (1, .ref a1), (2, .ref g.1), (3, .ref a3), (4, .int x4)]) : W p l e room_1 s m #[Value.ref b] below meth c H locs (kz K - kz K0) (ku K - ku K0) Q (F0 m 333 ls []) := by
  obtain ⟨CX, hlt, hz0, hlo, hX, hbl, hbA⟩ := C
  obtain ⟨hx, hb, hml, hown, hts, hE, hB, hr, hlk⟩ := id CX
  obtain ⟨hin1, hin2, hin3, hin4, hin5, hin6⟩ := hin
  unfold fS_demand at hf
  obtain ⟨hkx, hf⟩ := gd_some hf
  obtain ⟨o1, ho1, hf⟩ := bnd_some hf
  obtain ⟨q362, hq362, hf⟩ := bnd_some hf
  obtain ⟨heq, hf⟩ := gd_some hf
  refine lv_aload_n hx hb dL_law_333 rfl (lv_at hl 1 rfl) ?_
  refine lv_aload_n hx hb dL_law_334 rfl (lv_at hl 0 rfl) ?_
  refine lv_iload hx hb dL_law_335 (lv_at hl 4 rfl) ?_
  refine lv_iconst (v := 1) hx hb dL_law_337 (by decide) ?_
  refine lv_iadd hx hb dL_law_338 ?_
  refine va_sld hx hb hX hbl hbA hS hin1 dL_law_339 ?_
  refine lv_aload_n hx hb dL_law_340 rfl (lv_at hl 0 rfl) ?_
  refine lv_iload hx hb dL_law_341 (lv_at hl 4 rfl) ?_
  refine lv_iconst (v := 2) hx hb dL_law_343 (by decide) ?_
  refine lv_iadd hx hb dL_law_344 ?_
  refine va_sld hx hb hX hbl hbA hS hin2 dL_law_345 ?_
  refine lc_I CX hL hW hS (As := [.int (xs (x4 + 1 : Int32).toNatClampNeg), .int (xs (x4 + 2 : Int32).toNatClampNeg)]) (rest := []) hkx (MC_X8_demand l x N K a1 (xs (x4 + 1 : Int32).toNatClampNeg) (xs (x4 + 2 : Int32).toNatClampNeg) M o1 ho1) cv_L_42 ⟨by decide, by decide⟩ rfl rfl (Nat.le_of_ble_eq_true rfl) hl.1 dL_law_346 hcs (fun H locs hW hS => ?_)
  refine lv_aload_n hx hb dL_law_349 rfl (lv_at hl 2 rfl) ?_
  refine lv_aload_n hx hb dL_law_350 rfl (lv_at hl 0 rfl) ?_
  refine lv_iload hx hb dL_law_351 (lv_at hl 4 rfl) ?_
  refine lv_iconst (v := 1) hx hb dL_law_353 (by decide) ?_
  refine lv_iadd hx hb dL_law_354 ?_
  refine va_sld hx hb hX hbl hbA hS hin1 dL_law_355 ?_
  refine lv_aload_n hx hb dL_law_356 rfl (lv_at hl 0 rfl) ?_
  refine lv_iload hx hb dL_law_357 (lv_at hl 4 rfl) ?_
  refine lv_iconst (v := 2) hx hb dL_law_359 (by decide) ?_
  refine lv_iadd hx hb dL_law_360 ?_
  refine va_sld hx hb hX hbl hbA hS hin2 dL_law_361 ?_
  refine lm_I CX hz0 hlo hL hW hS (As := [.int (xs (x4 + 1 : Int32).toNatClampNeg), .int (xs (x4 + 2 : Int32).toNatClampNeg)]) (rest := [.int o1.1]) (MM_demand l x.1 g N (xs (x4 + 1 : Int32).toNatClampNeg) (xs (x4 + 2 : Int32).toNatClampNeg) S q362 hq362) cv_L_45 ⟨by decide, by decide⟩ rfl rfl (Nat.le_of_ble_eq_true rfl) hl.1 dL_law_362 hcs (fun H locs hW hS => ?_)
  refine lv_icmp_eq (tgt := 1056) hx hb dL_law_365 (by decide) (fun hc => ?_) (fun hc => absurd (eq_of_beq heq) hc)
  exact hk _ _ _ _ _ ls hf hL hW hS (lv_sub hl [0, 1, 2, 3, 4] rfl)
set_option maxRecDepth 100000 in
set_option maxHeartbeats 4000000 in
theorem wS_ended {p : Program} {l : Launch} {e : Env} {s : State} {m : MethodId} {below : List Frame} {meth : Method} {c : Code} {x : Xc} {g : Gm} {K0 : Ka} {b L : Nat} {xs : Nat → Int32} {N a1 a3 : Nat} {x4 : Int32} {o : Ka × Cm × Ms} {Q : State → Prop} (C : CL p l s m meth c x K0 b L xs) (hin : LIN x4 L) (hro : kz o.1 - kz K0 ≤ room_1.cells ∧ ku o.1 - ku K0 ≤ room_1.slots) (hk : ∀ (K : Ka) (M : Cm) (S : Ms) (H : Heap) (locs : List Loc) (ls : Array Slot), some (K, M, S) = some o → KLe K0 K → LWd x g K M S H → va_S (AC K0) s.heap H locs → lv_has ls 7 [(0, .ref b), (1, .ref a1), (2, .ref g.1), (3, .ref a3), (4, .int x4)] → W p l e room_1 s m #[Value.ref b] below meth c H locs (kz K - kz K0) (ku K - ku K0) Q (F0 m 1056 ls [])) (K : Ka) (M : Cm) (S : Ms) (H : Heap) (locs : List Loc) (ls : Array Slot) (hcs : kz K - kz K0 ≤ room_1.cells ∧ ku K - ku K0 ≤ room_1.slots) (hf : fS_ended N a1 (xs (x4 + 1 : Int32).toNatClampNeg) K M S = some o) (hL : KLe K0 K) (hW : LWd x g K M S H) (hS : va_S (AC K0) s.heap H locs) (hl : lv_has ls 7 [(0, .ref b), (1, .ref a1), (2, .ref g.1), (3, .ref a3), (4, .int x4)]) : W p l e room_1 s m #[Value.ref b] below meth c H locs (kz K - kz K0) (ku K - ku K0) Q (F0 m 370 ls []) := by
  obtain ⟨CX, hlt, hz0, hlo, hX, hbl, hbA⟩ := C
  obtain ⟨hx, hb, hml, hown, hts, hE, hB, hr, hlk⟩ := id CX
  obtain ⟨hin1, hin2, hin3, hin4, hin5, hin6⟩ := hin
  unfold fS_ended at hf
  obtain ⟨hkx, hf⟩ := gd_some hf
  obtain ⟨o1, ho1, hf⟩ := bnd_some hf
  obtain ⟨q387, hq387, hf⟩ := bnd_some hf
  obtain ⟨heq, hf⟩ := gd_some hf
  refine lv_aload_n hx hb dL_law_370 rfl (lv_at hl 1 rfl) ?_
  refine lv_aload_n hx hb dL_law_371 rfl (lv_at hl 0 rfl) ?_
  refine lv_iload hx hb dL_law_372 (lv_at hl 4 rfl) ?_
  refine lv_iconst (v := 1) hx hb dL_law_374 (by decide) ?_
  refine lv_iadd hx hb dL_law_375 ?_
  refine va_sld hx hb hX hbl hbA hS hin1 dL_law_376 ?_
  refine lc_I CX hL hW hS (As := [.int (xs (x4 + 1 : Int32).toNatClampNeg)]) (rest := []) hkx (MC_X8_ended l x N K a1 (xs (x4 + 1 : Int32).toNatClampNeg) M o1 ho1) cv_L_46 ⟨by decide, by decide⟩ rfl rfl (Nat.le_of_ble_eq_true rfl) hl.1 dL_law_377 hcs (fun H locs hW hS => ?_)
  refine lv_aload_n hx hb dL_law_380 rfl (lv_at hl 2 rfl) ?_
  refine lv_aload_n hx hb dL_law_381 rfl (lv_at hl 0 rfl) ?_
  refine lv_iload hx hb dL_law_382 (lv_at hl 4 rfl) ?_
  refine lv_iconst (v := 1) hx hb dL_law_384 (by decide) ?_
  refine lv_iadd hx hb dL_law_385 ?_
  refine va_sld hx hb hX hbl hbA hS hin1 dL_law_386 ?_
  refine lm_I CX hz0 hlo hL hW hS (As := [.int (xs (x4 + 1 : Int32).toNatClampNeg)]) (rest := [.int o1.1]) (MM_ended l x.1 g N (xs (x4 + 1 : Int32).toNatClampNeg) S q387 hq387) cv_L_49 ⟨by decide, by decide⟩ rfl rfl (Nat.le_of_ble_eq_true rfl) hl.1 dL_law_387 hcs (fun H locs hW hS => ?_)
  refine lv_icmp_eq (tgt := 1056) hx hb dL_law_390 (by decide) (fun hc => ?_) (fun hc => absurd (eq_of_beq heq) hc)
  exact hk _ _ _ _ _ ls hf hL hW hS (lv_sub hl [0, 1, 2, 3, 4] rfl)
set_option maxRecDepth 100000 in
set_option maxHeartbeats 4000000 in
theorem wS_plan {p : Program} {l : Launch} {e : Env} {s : State} {m : MethodId} {below : List Frame} {meth : Method} {c : Code} {x : Xc} {g : Gm} {K0 : Ka} {b L : Nat} {xs : Nat → Int32} {N a1 a3 : Nat} {x4 : Int32} {o : Ka × Cm × Ms} {Q : State → Prop} (C : CL p l s m meth c x K0 b L xs) (hin : LIN x4 L) (hro : kz o.1 - kz K0 ≤ room_1.cells ∧ ku o.1 - ku K0 ≤ room_1.slots) (hk : ∀ (K : Ka) (M : Cm) (S : Ms) (H : Heap) (locs : List Loc) (ls : Array Slot), some (K, M, S) = some o → KLe K0 K → LWd x g K M S H → va_S (AC K0) s.heap H locs → lv_has ls 7 [(0, .ref b), (1, .ref a1), (2, .ref g.1), (3, .ref a3), (4, .int x4)] → W p l e room_1 s m #[Value.ref b] below meth c H locs (kz K - kz K0) (ku K - ku K0) Q (F0 m 1056 ls [])) (K : Ka) (M : Cm) (S : Ms) (H : Heap) (locs : List Loc) (ls : Array Slot) (hcs : kz K - kz K0 ≤ room_1.cells ∧ ku K - ku K0 ≤ room_1.slots) (hf : fS_plan N a1 (xs (x4 + 1 : Int32).toNatClampNeg) (xs (x4 + 2 : Int32).toNatClampNeg) K M S = some o) (hL : KLe K0 K) (hW : LWd x g K M S H) (hS : va_S (AC K0) s.heap H locs) (hl : lv_has ls 7 [(0, .ref b), (1, .ref a1), (2, .ref g.1), (3, .ref a3), (4, .int x4)]) : W p l e room_1 s m #[Value.ref b] below meth c H locs (kz K - kz K0) (ku K - ku K0) Q (F0 m 395 ls []) := by
  obtain ⟨CX, hlt, hz0, hlo, hX, hbl, hbA⟩ := C
  obtain ⟨hx, hb, hml, hown, hts, hE, hB, hr, hlk⟩ := id CX
  obtain ⟨hin1, hin2, hin3, hin4, hin5, hin6⟩ := hin
  unfold fS_plan at hf
  obtain ⟨hkx, hf⟩ := gd_some hf
  obtain ⟨o1, ho1, hf⟩ := bnd_some hf
  obtain ⟨q424, hq424, hf⟩ := bnd_some hf
  obtain ⟨heq, hf⟩ := gd_some hf
  refine lv_aload_n hx hb dL_law_395 rfl (lv_at hl 1 rfl) ?_
  refine lv_aload_n hx hb dL_law_396 rfl (lv_at hl 0 rfl) ?_
  refine lv_iload hx hb dL_law_397 (lv_at hl 4 rfl) ?_
  refine lv_iconst (v := 1) hx hb dL_law_399 (by decide) ?_
  refine lv_iadd hx hb dL_law_400 ?_
  refine va_sld hx hb hX hbl hbA hS hin1 dL_law_401 ?_
  refine lv_aload_n hx hb dL_law_402 rfl (lv_at hl 0 rfl) ?_
  refine lv_iload hx hb dL_law_403 (lv_at hl 4 rfl) ?_
  refine lv_iconst (v := 2) hx hb dL_law_405 (by decide) ?_
  refine lv_iadd hx hb dL_law_406 ?_
  refine va_sld hx hb hX hbl hbA hS hin2 dL_law_407 ?_
  refine lc_I CX hL hW hS (As := [.int (xs (x4 + 1 : Int32).toNatClampNeg), .int (xs (x4 + 2 : Int32).toNatClampNeg)]) (rest := []) hkx (MC_X8_plan l x N K a1 (xs (x4 + 1 : Int32).toNatClampNeg) (xs (x4 + 2 : Int32).toNatClampNeg) M o1 ho1) cv_L_50 ⟨by decide, by decide⟩ rfl rfl (Nat.le_of_ble_eq_true rfl) hl.1 dL_law_408 hcs (fun H locs hW hS => ?_)
  refine lv_aload_n hx hb dL_law_411 rfl (lv_at hl 2 rfl) ?_
  refine lv_aload_n hx hb dL_law_412 rfl (lv_at hl 0 rfl) ?_
  refine lv_iload hx hb dL_law_413 (lv_at hl 4 rfl) ?_
  refine lv_iconst (v := 1) hx hb dL_law_415 (by decide) ?_
  refine lv_iadd hx hb dL_law_416 ?_
  refine va_sld hx hb hX hbl hbA hS hin1 dL_law_417 ?_
  refine lv_aload_n hx hb dL_law_418 rfl (lv_at hl 0 rfl) ?_
  refine lv_iload hx hb dL_law_419 (lv_at hl 4 rfl) ?_
  refine lv_iconst (v := 2) hx hb dL_law_421 (by decide) ?_
  refine lv_iadd hx hb dL_law_422 ?_
  refine va_sld hx hb hX hbl hbA hS hin2 dL_law_423 ?_
  refine lm_I CX hz0 hlo hL hW hS (As := [.int (xs (x4 + 1 : Int32).toNatClampNeg), .int (xs (x4 + 2 : Int32).toNatClampNeg)]) (rest := [.int o1.1]) (MM_plan l x.1 g N (xs (x4 + 1 : Int32).toNatClampNeg) (xs (x4 + 2 : Int32).toNatClampNeg) S q424 hq424) cv_L_54 ⟨by decide, by decide⟩ rfl rfl (Nat.le_of_ble_eq_true rfl) hl.1 dL_law_424 hcs (fun H locs hW hS => ?_)
  refine lv_icmp_eq (tgt := 1056) hx hb dL_law_427 (by decide) (fun hc => ?_) (fun hc => absurd (eq_of_beq heq) hc)
  exact hk _ _ _ _ _ ls hf hL hW hS (lv_sub hl [0, 1, 2, 3, 4] rfl)
set_option maxRecDepth 100000 in
set_option maxHeartbeats 4000000 in
theorem wS_clear {p : Program} {l : Launch} {e : Env} {s : State} {m : MethodId} {below : List Frame} {meth : Method} {c : Code} {x : Xc} {g : Gm} {K0 : Ka} {b L : Nat} {xs : Nat → Int32} {N a1 a3 : Nat} {x4 : Int32} {o : Ka × Cm × Ms} {Q : State → Prop} (C : CL p l s m meth c x K0 b L xs) (hin : LIN x4 L) (hro : kz o.1 - kz K0 ≤ room_1.cells ∧ ku o.1 - ku K0 ≤ room_1.slots) (hk : ∀ (K : Ka) (M : Cm) (S : Ms) (H : Heap) (locs : List Loc) (ls : Array Slot), some (K, M, S) = some o → KLe K0 K → LWd x g K M S H → va_S (AC K0) s.heap H locs → lv_has ls 7 [(0, .ref b), (1, .ref a1), (2, .ref g.1), (3, .ref a3), (4, .int x4)] → W p l e room_1 s m #[Value.ref b] below meth c H locs (kz K - kz K0) (ku K - ku K0) Q (F0 m 1056 ls [])) (K : Ka) (M : Cm) (S : Ms) (H : Heap) (locs : List Loc) (ls : Array Slot) (hcs : kz K - kz K0 ≤ room_1.cells ∧ ku K - ku K0 ≤ room_1.slots) (hf : fS_clear N a1  K M S = some o) (hL : KLe K0 K) (hW : LWd x g K M S H) (hS : va_S (AC K0) s.heap H locs) (hl : lv_has ls 7 [(0, .ref b), (1, .ref a1), (2, .ref g.1), (3, .ref a3), (4, .int x4)]) : W p l e room_1 s m #[Value.ref b] below meth c H locs (kz K - kz K0) (ku K - ku K0) Q (F0 m 432 ls []) := by
  obtain ⟨CX, hlt, hz0, hlo, hX, hbl, hbA⟩ := C
  obtain ⟨hx, hb, hml, hown, hts, hE, hB, hr, hlk⟩ := id CX
  obtain ⟨hin1, hin2, hin3, hin4, hin5, hin6⟩ := hin
  unfold fS_clear at hf
  obtain ⟨hkx, hf⟩ := gd_some hf
  obtain ⟨o1, ho1, hf⟩ := bnd_some hf
  obtain ⟨q437, hq437, hf⟩ := bnd_some hf
  refine lv_aload_n hx hb dL_law_432 rfl (lv_at hl 1 rfl) ?_
  refine lc_V CX hL hW hS (As := []) (rest := []) hkx (MC_X8_clear l x N K a1  M o1 ho1) cv_L_55 ⟨by decide, by decide⟩ rfl rfl (Nat.le_of_ble_eq_true rfl) hl.1 dL_law_433 hcs (fun H locs hW hS => ?_)
  refine lv_aload_n hx hb dL_law_436 rfl (lv_at hl 2 rfl) ?_
  refine lm_V CX hz0 hlo hL hW hS (As := []) (rest := []) (MM_clear l x.1 g N  S q437 hq437) cv_L_58 ⟨by decide, by decide⟩ rfl rfl (Nat.le_of_ble_eq_true rfl) hl.1 dL_law_437 hcs (fun H locs hW hS => ?_)
  refine lv_goto (tgt := 1056) hx hb dL_law_440 (by decide) ?_
  exact hk _ _ _ _ _ ls hf hL hW hS (lv_sub hl [0, 1, 2, 3, 4] rfl)
set_option maxRecDepth 100000 in
set_option maxHeartbeats 4000000 in
theorem wS_heal {p : Program} {l : Launch} {e : Env} {s : State} {m : MethodId} {below : List Frame} {meth : Method} {c : Code} {x : Xc} {g : Gm} {K0 : Ka} {b L : Nat} {xs : Nat → Int32} {N a1 a3 : Nat} {x4 : Int32} {o : Ka × Cm × Ms} {Q : State → Prop} (C : CL p l s m meth c x K0 b L xs) (hin : LIN x4 L) (hro : kz o.1 - kz K0 ≤ room_1.cells ∧ ku o.1 - ku K0 ≤ room_1.slots) (hk : ∀ (K : Ka) (M : Cm) (S : Ms) (H : Heap) (locs : List Loc) (ls : Array Slot), some (K, M, S) = some o → KLe K0 K → LWd x g K M S H → va_S (AC K0) s.heap H locs → lv_has ls 7 [(0, .ref b), (1, .ref a1), (2, .ref g.1), (3, .ref a3), (4, .int x4)] → W p l e room_1 s m #[Value.ref b] below meth c H locs (kz K - kz K0) (ku K - ku K0) Q (F0 m 1056 ls [])) (K : Ka) (M : Cm) (S : Ms) (H : Heap) (locs : List Loc) (ls : Array Slot) (hcs : kz K - kz K0 ≤ room_1.cells ∧ ku K - ku K0 ≤ room_1.slots) (hf : fS_heal N a1 (xs (x4 + 1 : Int32).toNatClampNeg) K M S = some o) (hL : KLe K0 K) (hW : LWd x g K M S H) (hS : va_S (AC K0) s.heap H locs) (hl : lv_has ls 7 [(0, .ref b), (1, .ref a1), (2, .ref g.1), (3, .ref a3), (4, .int x4)]) : W p l e room_1 s m #[Value.ref b] below meth c H locs (kz K - kz K0) (ku K - ku K0) Q (F0 m 443 ls []) := by
  obtain ⟨CX, hlt, hz0, hlo, hX, hbl, hbA⟩ := C
  obtain ⟨hx, hb, hml, hown, hts, hE, hB, hr, hlk⟩ := id CX
  obtain ⟨hin1, hin2, hin3, hin4, hin5, hin6⟩ := hin
  unfold fS_heal at hf
  obtain ⟨hkx, hf⟩ := gd_some hf
  obtain ⟨o1, ho1, hf⟩ := bnd_some hf
  obtain ⟨q460, hq460, hf⟩ := bnd_some hf
  obtain ⟨heq, hf⟩ := gd_some hf
  refine lv_aload_n hx hb dL_law_443 rfl (lv_at hl 1 rfl) ?_
  refine lv_aload_n hx hb dL_law_444 rfl (lv_at hl 0 rfl) ?_
  refine lv_iload hx hb dL_law_445 (lv_at hl 4 rfl) ?_
  refine lv_iconst (v := 1) hx hb dL_law_447 (by decide) ?_
  refine lv_iadd hx hb dL_law_448 ?_
  refine va_sld hx hb hX hbl hbA hS hin1 dL_law_449 ?_
  refine lc_I CX hL hW hS (As := [.int (xs (x4 + 1 : Int32).toNatClampNeg)]) (rest := []) hkx (MC_X8_heal l x N K a1 (xs (x4 + 1 : Int32).toNatClampNeg) M o1 ho1) cv_L_59 ⟨by decide, by decide⟩ rfl rfl (Nat.le_of_ble_eq_true rfl) hl.1 dL_law_450 hcs (fun H locs hW hS => ?_)
  refine lv_aload_n hx hb dL_law_453 rfl (lv_at hl 2 rfl) ?_
  refine lv_aload_n hx hb dL_law_454 rfl (lv_at hl 0 rfl) ?_
  refine lv_iload hx hb dL_law_455 (lv_at hl 4 rfl) ?_
  refine lv_iconst (v := 1) hx hb dL_law_457 (by decide) ?_
  refine lv_iadd hx hb dL_law_458 ?_
  refine va_sld hx hb hX hbl hbA hS hin1 dL_law_459 ?_
  refine lm_I CX hz0 hlo hL hW hS (As := [.int (xs (x4 + 1 : Int32).toNatClampNeg)]) (rest := [.int o1.1]) (MM_heal l x.1 g N (xs (x4 + 1 : Int32).toNatClampNeg) S q460 hq460) cv_L_62 ⟨by decide, by decide⟩ rfl rfl (Nat.le_of_ble_eq_true rfl) hl.1 dL_law_460 hcs (fun H locs hW hS => ?_)
  refine lv_icmp_eq (tgt := 1056) hx hb dL_law_463 (by decide) (fun hc => ?_) (fun hc => absurd (eq_of_beq heq) hc)
  exact hk _ _ _ _ _ ls hf hL hW hS (lv_sub hl [0, 1, 2, 3, 4] rfl)
set_option maxRecDepth 100000 in
set_option maxHeartbeats 4000000 in
theorem wS_close {p : Program} {l : Launch} {e : Env} {s : State} {m : MethodId} {below : List Frame} {meth : Method} {c : Code} {x : Xc} {g : Gm} {K0 : Ka} {b L : Nat} {xs : Nat → Int32} {N a1 a3 : Nat} {x4 : Int32} {o : Ka × Cm × Ms} {Q : State → Prop} (C : CL p l s m meth c x K0 b L xs) (hin : LIN x4 L) (hro : kz o.1 - kz K0 ≤ room_1.cells ∧ ku o.1 - ku K0 ≤ room_1.slots) (hk : ∀ (K : Ka) (M : Cm) (S : Ms) (H : Heap) (locs : List Loc) (ls : Array Slot), some (K, M, S) = some o → KLe K0 K → LWd x g K M S H → va_S (AC K0) s.heap H locs → lv_has ls 7 [(0, .ref b), (1, .ref a1), (2, .ref g.1), (3, .ref a3), (4, .int x4)] → W p l e room_1 s m #[Value.ref b] below meth c H locs (kz K - kz K0) (ku K - ku K0) Q (F0 m 1056 ls [])) (K : Ka) (M : Cm) (S : Ms) (H : Heap) (locs : List Loc) (ls : Array Slot) (hcs : kz K - kz K0 ≤ room_1.cells ∧ ku K - ku K0 ≤ room_1.slots) (hf : fS_close N a1  K M S = some o) (hL : KLe K0 K) (hW : LWd x g K M S H) (hS : va_S (AC K0) s.heap H locs) (hl : lv_has ls 7 [(0, .ref b), (1, .ref a1), (2, .ref g.1), (3, .ref a3), (4, .int x4)]) : W p l e room_1 s m #[Value.ref b] below meth c H locs (kz K - kz K0) (ku K - ku K0) Q (F0 m 468 ls []) := by
  obtain ⟨CX, hlt, hz0, hlo, hX, hbl, hbA⟩ := C
  obtain ⟨hx, hb, hml, hown, hts, hE, hB, hr, hlk⟩ := id CX
  obtain ⟨hin1, hin2, hin3, hin4, hin5, hin6⟩ := hin
  unfold fS_close at hf
  obtain ⟨hkx, hf⟩ := gd_some hf
  obtain ⟨o1, ho1, hf⟩ := bnd_some hf
  obtain ⟨q473, hq473, hf⟩ := bnd_some hf
  obtain ⟨heq, hf⟩ := gd_some hf
  refine lv_aload_n hx hb dL_law_468 rfl (lv_at hl 1 rfl) ?_
  refine lc_I CX hL hW hS (As := []) (rest := []) hkx (MC_X8_close l x N K a1  M o1 ho1) cv_L_63 ⟨by decide, by decide⟩ rfl rfl (Nat.le_of_ble_eq_true rfl) hl.1 dL_law_469 hcs (fun H locs hW hS => ?_)
  refine lv_aload_n hx hb dL_law_472 rfl (lv_at hl 2 rfl) ?_
  refine lm_I CX hz0 hlo hL hW hS (As := []) (rest := [.int o1.1]) (MM_close l x.1 g N  S q473 hq473) cv_L_66 ⟨by decide, by decide⟩ rfl rfl (Nat.le_of_ble_eq_true rfl) hl.1 dL_law_473 hcs (fun H locs hW hS => ?_)
  refine lv_icmp_eq (tgt := 1056) hx hb dL_law_476 (by decide) (fun hc => ?_) (fun hc => absurd (eq_of_beq heq) hc)
  exact hk _ _ _ _ _ ls hf hL hW hS (lv_sub hl [0, 1, 2, 3, 4] rfl)
set_option maxRecDepth 100000 in
set_option maxHeartbeats 4000000 in
theorem wS_beat {p : Program} {l : Launch} {e : Env} {s : State} {m : MethodId} {below : List Frame} {meth : Method} {c : Code} {x : Xc} {g : Gm} {K0 : Ka} {b L : Nat} {xs : Nat → Int32} {N a1 a3 : Nat} {x4 : Int32} {o : Ka × Cm × Ms} {Q : State → Prop} (C : CL p l s m meth c x K0 b L xs) (hin : LIN x4 L) (hro : kz o.1 - kz K0 ≤ room_1.cells ∧ ku o.1 - ku K0 ≤ room_1.slots) (hk : ∀ (K : Ka) (M : Cm) (S : Ms) (H : Heap) (locs : List Loc) (ls : Array Slot), some (K, M, S) = some o → KLe K0 K → LWd x g K M S H → va_S (AC K0) s.heap H locs → lv_has ls 7 [(0, .ref b), (1, .ref a1), (2, .ref g.1), (3, .ref a3), (4, .int x4)] → W p l e room_1 s m #[Value.ref b] below meth c H locs (kz K - kz K0) (ku K - ku K0) Q (F0 m 1056 ls [])) (K : Ka) (M : Cm) (S : Ms) (H : Heap) (locs : List Loc) (ls : Array Slot) (hcs : kz K - kz K0 ≤ room_1.cells ∧ ku K - ku K0 ≤ room_1.slots) (hf : fS_beat N a1 (xs (x4 + 1 : Int32).toNatClampNeg) K M S = some o) (hL : KLe K0 K) (hW : LWd x g K M S H) (hS : va_S (AC K0) s.heap H locs) (hl : lv_has ls 7 [(0, .ref b), (1, .ref a1), (2, .ref g.1), (3, .ref a3), (4, .int x4)]) : W p l e room_1 s m #[Value.ref b] below meth c H locs (kz K - kz K0) (ku K - ku K0) Q (F0 m 481 ls []) := by
  obtain ⟨CX, hlt, hz0, hlo, hX, hbl, hbA⟩ := C
  obtain ⟨hx, hb, hml, hown, hts, hE, hB, hr, hlk⟩ := id CX
  obtain ⟨hin1, hin2, hin3, hin4, hin5, hin6⟩ := hin
  unfold fS_beat at hf
  obtain ⟨hkx, hf⟩ := gd_some hf
  obtain ⟨o1, ho1, hf⟩ := bnd_some hf
  obtain ⟨q498, hq498, hf⟩ := bnd_some hf
  obtain ⟨heq, hf⟩ := gd_some hf
  refine lv_aload_n hx hb dL_law_481 rfl (lv_at hl 1 rfl) ?_
  refine lv_aload_n hx hb dL_law_482 rfl (lv_at hl 0 rfl) ?_
  refine lv_iload hx hb dL_law_483 (lv_at hl 4 rfl) ?_
  refine lv_iconst (v := 1) hx hb dL_law_485 (by decide) ?_
  refine lv_iadd hx hb dL_law_486 ?_
  refine va_sld hx hb hX hbl hbA hS hin1 dL_law_487 ?_
  refine lc_I CX hL hW hS (As := [.int (xs (x4 + 1 : Int32).toNatClampNeg)]) (rest := []) hkx (MC_X8_beat l x N K a1 (xs (x4 + 1 : Int32).toNatClampNeg) M o1 ho1) cv_L_67 ⟨by decide, by decide⟩ rfl rfl (Nat.le_of_ble_eq_true rfl) hl.1 dL_law_488 hcs (fun H locs hW hS => ?_)
  refine lv_aload_n hx hb dL_law_491 rfl (lv_at hl 2 rfl) ?_
  refine lv_aload_n hx hb dL_law_492 rfl (lv_at hl 0 rfl) ?_
  refine lv_iload hx hb dL_law_493 (lv_at hl 4 rfl) ?_
  refine lv_iconst (v := 1) hx hb dL_law_495 (by decide) ?_
  refine lv_iadd hx hb dL_law_496 ?_
  refine va_sld hx hb hX hbl hbA hS hin1 dL_law_497 ?_
  refine lm_I CX hz0 hlo hL hW hS (As := [.int (xs (x4 + 1 : Int32).toNatClampNeg)]) (rest := [.int o1.1]) (MM_beat l x.1 g N (xs (x4 + 1 : Int32).toNatClampNeg) S q498 hq498) cv_L_70 ⟨by decide, by decide⟩ rfl rfl (Nat.le_of_ble_eq_true rfl) hl.1 dL_law_498 hcs (fun H locs hW hS => ?_)
  refine lv_icmp_eq (tgt := 1056) hx hb dL_law_501 (by decide) (fun hc => ?_) (fun hc => absurd (eq_of_beq heq) hc)
  exact hk _ _ _ _ _ ls hf hL hW hS (lv_sub hl [0, 1, 2, 3, 4] rfl)
set_option maxRecDepth 100000 in
set_option maxHeartbeats 4000000 in
theorem wS_foresee {p : Program} {l : Launch} {e : Env} {s : State} {m : MethodId} {below : List Frame} {meth : Method} {c : Code} {x : Xc} {g : Gm} {K0 : Ka} {b L : Nat} {xs : Nat → Int32} {N a1 a3 : Nat} {x4 : Int32} {o : Ka × Cm × Ms} {Q : State → Prop} (C : CL p l s m meth c x K0 b L xs) (hin : LIN x4 L) (hro : kz o.1 - kz K0 ≤ room_1.cells ∧ ku o.1 - ku K0 ≤ room_1.slots) (hk : ∀ (K : Ka) (M : Cm) (S : Ms) (H : Heap) (locs : List Loc) (ls : Array Slot), some (K, M, S) = some o → KLe K0 K → LWd x g K M S H → va_S (AC K0) s.heap H locs → lv_has ls 7 [(0, .ref b), (1, .ref a1), (2, .ref g.1), (3, .ref a3), (4, .int x4)] → W p l e room_1 s m #[Value.ref b] below meth c H locs (kz K - kz K0) (ku K - ku K0) Q (F0 m 1056 ls [])) (K : Ka) (M : Cm) (S : Ms) (H : Heap) (locs : List Loc) (ls : Array Slot) (hcs : kz K - kz K0 ≤ room_1.cells ∧ ku K - ku K0 ≤ room_1.slots) (hf : fS_foresee N a1 (xs (x4 + 1 : Int32).toNatClampNeg) (xs (x4 + 2 : Int32).toNatClampNeg) K M S = some o) (hL : KLe K0 K) (hW : LWd x g K M S H) (hS : va_S (AC K0) s.heap H locs) (hl : lv_has ls 7 [(0, .ref b), (1, .ref a1), (2, .ref g.1), (3, .ref a3), (4, .int x4)]) : W p l e room_1 s m #[Value.ref b] below meth c H locs (kz K - kz K0) (ku K - ku K0) Q (F0 m 506 ls []) := by
  obtain ⟨CX, hlt, hz0, hlo, hX, hbl, hbA⟩ := C
  obtain ⟨hx, hb, hml, hown, hts, hE, hB, hr, hlk⟩ := id CX
  obtain ⟨hin1, hin2, hin3, hin4, hin5, hin6⟩ := hin
  unfold fS_foresee at hf
  obtain ⟨hkx, hf⟩ := gd_some hf
  obtain ⟨o1, ho1, hf⟩ := bnd_some hf
  obtain ⟨q535, hq535, hf⟩ := bnd_some hf
  obtain ⟨heq, hf⟩ := gd_some hf
  refine lv_aload_n hx hb dL_law_506 rfl (lv_at hl 1 rfl) ?_
  refine lv_aload_n hx hb dL_law_507 rfl (lv_at hl 0 rfl) ?_
  refine lv_iload hx hb dL_law_508 (lv_at hl 4 rfl) ?_
  refine lv_iconst (v := 1) hx hb dL_law_510 (by decide) ?_
  refine lv_iadd hx hb dL_law_511 ?_
  refine va_sld hx hb hX hbl hbA hS hin1 dL_law_512 ?_
  refine lv_aload_n hx hb dL_law_513 rfl (lv_at hl 0 rfl) ?_
  refine lv_iload hx hb dL_law_514 (lv_at hl 4 rfl) ?_
  refine lv_iconst (v := 2) hx hb dL_law_516 (by decide) ?_
  refine lv_iadd hx hb dL_law_517 ?_
  refine va_sld hx hb hX hbl hbA hS hin2 dL_law_518 ?_
  refine lc_I CX hL hW hS (As := [.int (xs (x4 + 1 : Int32).toNatClampNeg), .int (xs (x4 + 2 : Int32).toNatClampNeg)]) (rest := []) hkx (MC_X8_foresee l x N K a1 (xs (x4 + 1 : Int32).toNatClampNeg) (xs (x4 + 2 : Int32).toNatClampNeg) M o1 ho1) cv_L_71 ⟨by decide, by decide⟩ rfl rfl (Nat.le_of_ble_eq_true rfl) hl.1 dL_law_519 hcs (fun H locs hW hS => ?_)
  refine lv_aload_n hx hb dL_law_522 rfl (lv_at hl 2 rfl) ?_
  refine lv_aload_n hx hb dL_law_523 rfl (lv_at hl 0 rfl) ?_
  refine lv_iload hx hb dL_law_524 (lv_at hl 4 rfl) ?_
  refine lv_iconst (v := 1) hx hb dL_law_526 (by decide) ?_
  refine lv_iadd hx hb dL_law_527 ?_
  refine va_sld hx hb hX hbl hbA hS hin1 dL_law_528 ?_
  refine lv_aload_n hx hb dL_law_529 rfl (lv_at hl 0 rfl) ?_
  refine lv_iload hx hb dL_law_530 (lv_at hl 4 rfl) ?_
  refine lv_iconst (v := 2) hx hb dL_law_532 (by decide) ?_
  refine lv_iadd hx hb dL_law_533 ?_
  refine va_sld hx hb hX hbl hbA hS hin2 dL_law_534 ?_
  refine lm_I CX hz0 hlo hL hW hS (As := [.int (xs (x4 + 1 : Int32).toNatClampNeg), .int (xs (x4 + 2 : Int32).toNatClampNeg)]) (rest := [.int o1.1]) (MM_foresee l x.1 g N (xs (x4 + 1 : Int32).toNatClampNeg) (xs (x4 + 2 : Int32).toNatClampNeg) S q535 hq535) cv_L_74 ⟨by decide, by decide⟩ rfl rfl (Nat.le_of_ble_eq_true rfl) hl.1 dL_law_535 hcs (fun H locs hW hS => ?_)
  refine lv_icmp_eq (tgt := 1056) hx hb dL_law_538 (by decide) (fun hc => ?_) (fun hc => absurd (eq_of_beq heq) hc)
  exact hk _ _ _ _ _ ls hf hL hW hS (lv_sub hl [0, 1, 2, 3, 4] rfl)
set_option maxRecDepth 100000 in
set_option maxHeartbeats 4000000 in
theorem wS_foreseen {p : Program} {l : Launch} {e : Env} {s : State} {m : MethodId} {below : List Frame} {meth : Method} {c : Code} {x : Xc} {g : Gm} {K0 : Ka} {b L : Nat} {xs : Nat → Int32} {N a1 a3 : Nat} {x4 : Int32} {o : Ka × Cm × Ms} {Q : State → Prop} (C : CL p l s m meth c x K0 b L xs) (hin : LIN x4 L) (hro : kz o.1 - kz K0 ≤ room_1.cells ∧ ku o.1 - ku K0 ≤ room_1.slots) (hk : ∀ (K : Ka) (M : Cm) (S : Ms) (H : Heap) (locs : List Loc) (ls : Array Slot), some (K, M, S) = some o → KLe K0 K → LWd x g K M S H → va_S (AC K0) s.heap H locs → lv_has ls 7 [(0, .ref b), (1, .ref a1), (2, .ref g.1), (3, .ref a3), (4, .int x4)] → W p l e room_1 s m #[Value.ref b] below meth c H locs (kz K - kz K0) (ku K - ku K0) Q (F0 m 1056 ls [])) (K : Ka) (M : Cm) (S : Ms) (H : Heap) (locs : List Loc) (ls : Array Slot) (hcs : kz K - kz K0 ≤ room_1.cells ∧ ku K - ku K0 ≤ room_1.slots) (hf : fS_foreseen N a1 (xs (x4 + 1 : Int32).toNatClampNeg) K M S = some o) (hL : KLe K0 K) (hW : LWd x g K M S H) (hS : va_S (AC K0) s.heap H locs) (hl : lv_has ls 7 [(0, .ref b), (1, .ref a1), (2, .ref g.1), (3, .ref a3), (4, .int x4)]) : W p l e room_1 s m #[Value.ref b] below meth c H locs (kz K - kz K0) (ku K - ku K0) Q (F0 m 543 ls []) := by
  obtain ⟨CX, hlt, hz0, hlo, hX, hbl, hbA⟩ := C
  obtain ⟨hx, hb, hml, hown, hts, hE, hB, hr, hlk⟩ := id CX
  obtain ⟨hin1, hin2, hin3, hin4, hin5, hin6⟩ := hin
  unfold fS_foreseen at hf
  obtain ⟨hkx, hf⟩ := gd_some hf
  obtain ⟨o1, ho1, hf⟩ := bnd_some hf
  obtain ⟨q560, hq560, hf⟩ := bnd_some hf
  obtain ⟨heq, hf⟩ := gd_some hf
  refine lv_aload_n hx hb dL_law_543 rfl (lv_at hl 1 rfl) ?_
  refine lv_aload_n hx hb dL_law_544 rfl (lv_at hl 0 rfl) ?_
  refine lv_iload hx hb dL_law_545 (lv_at hl 4 rfl) ?_
  refine lv_iconst (v := 1) hx hb dL_law_547 (by decide) ?_
  refine lv_iadd hx hb dL_law_548 ?_
  refine va_sld hx hb hX hbl hbA hS hin1 dL_law_549 ?_
  refine lc_I CX hL hW hS (As := [.int (xs (x4 + 1 : Int32).toNatClampNeg)]) (rest := []) hkx (MC_X8_foreseen l x N K a1 (xs (x4 + 1 : Int32).toNatClampNeg) M o1 ho1) cv_L_75 ⟨by decide, by decide⟩ rfl rfl (Nat.le_of_ble_eq_true rfl) hl.1 dL_law_550 hcs (fun H locs hW hS => ?_)
  refine lv_aload_n hx hb dL_law_553 rfl (lv_at hl 2 rfl) ?_
  refine lv_aload_n hx hb dL_law_554 rfl (lv_at hl 0 rfl) ?_
  refine lv_iload hx hb dL_law_555 (lv_at hl 4 rfl) ?_
  refine lv_iconst (v := 1) hx hb dL_law_557 (by decide) ?_
  refine lv_iadd hx hb dL_law_558 ?_
  refine va_sld hx hb hX hbl hbA hS hin1 dL_law_559 ?_
  refine lm_I CX hz0 hlo hL hW hS (As := [.int (xs (x4 + 1 : Int32).toNatClampNeg)]) (rest := [.int o1.1]) (MM_foreseen l x.1 g N (xs (x4 + 1 : Int32).toNatClampNeg) S q560 hq560) cv_L_78 ⟨by decide, by decide⟩ rfl rfl (Nat.le_of_ble_eq_true rfl) hl.1 dL_law_560 hcs (fun H locs hW hS => ?_)
  refine lv_icmp_eq (tgt := 1056) hx hb dL_law_563 (by decide) (fun hc => ?_) (fun hc => absurd (eq_of_beq heq) hc)
  exact hk _ _ _ _ _ ls hf hL hW hS (lv_sub hl [0, 1, 2, 3, 4] rfl)
set_option maxRecDepth 100000 in
set_option maxHeartbeats 4000000 in
theorem wS_unit {p : Program} {l : Launch} {e : Env} {s : State} {m : MethodId} {below : List Frame} {meth : Method} {c : Code} {x : Xc} {g : Gm} {K0 : Ka} {b L : Nat} {xs : Nat → Int32} {N a1 a3 : Nat} {x4 : Int32} {o : Ka × Cm × Ms} {Q : State → Prop} (C : CL p l s m meth c x K0 b L xs) (hin : LIN x4 L) (hro : kz o.1 - kz K0 ≤ room_1.cells ∧ ku o.1 - ku K0 ≤ room_1.slots) (hk : ∀ (K : Ka) (M : Cm) (S : Ms) (H : Heap) (locs : List Loc) (ls : Array Slot), some (K, M, S) = some o → KLe K0 K → LWd x g K M S H → va_S (AC K0) s.heap H locs → lv_has ls 7 [(0, .ref b), (1, .ref a1), (2, .ref g.1), (3, .ref a3), (4, .int x4)] → W p l e room_1 s m #[Value.ref b] below meth c H locs (kz K - kz K0) (ku K - ku K0) Q (F0 m 1056 ls [])) (K : Ka) (M : Cm) (S : Ms) (H : Heap) (locs : List Loc) (ls : Array Slot) (hcs : kz K - kz K0 ≤ room_1.cells ∧ ku K - ku K0 ≤ room_1.slots) (hf : fS_unit N a1 a3 (xs (x4 + 1 : Int32).toNatClampNeg) (xs (x4 + 2 : Int32).toNatClampNeg) K M S = some o) (hL : KLe K0 K) (hW : LWd x g K M S H) (hS : va_S (AC K0) s.heap H locs) (hl : lv_has ls 7 [(0, .ref b), (1, .ref a1), (2, .ref g.1), (3, .ref a3), (4, .int x4)]) : W p l e room_1 s m #[Value.ref b] below meth c H locs (kz K - kz K0) (ku K - ku K0) Q (F0 m 568 ls []) := by
  obtain ⟨CX, hlt, hz0, hlo, hX, hbl, hbA⟩ := C
  obtain ⟨hx, hb, hml, hown, hts, hE, hB, hr, hlk⟩ := id CX
  obtain ⟨hin1, hin2, hin3, hin4, hin5, hin6⟩ := hin
  unfold fS_unit at hf
  obtain ⟨o1, ho1, hf⟩ := bnd_some hf
  have hq1 := mfL_unit ho1
  obtain ⟨q600, hq600, hf⟩ := bnd_some hf
  obtain ⟨q606, hq606, hf⟩ := bnd_some hf
  obtain ⟨heq, hf⟩ := gd_some hf
  obtain ⟨hout, hf⟩ := gd_some hf
  have hcs1 : kz o1.2.1 - kz K0 ≤ room_1.cells ∧ ku o1.2.1 - ku K0 ≤ room_1.slots := by cases hf; exact hro
  refine lv_aload_n hx hb dL_law_568 rfl (lv_at hl 1 rfl) ?_
  refine lv_aload_n hx hb dL_law_569 rfl (lv_at hl 0 rfl) ?_
  refine lv_iload hx hb dL_law_570 (lv_at hl 4 rfl) ?_
  refine lv_iconst (v := 1) hx hb dL_law_572 (by decide) ?_
  refine lv_iadd hx hb dL_law_573 ?_
  refine va_sld hx hb hX hbl hbA hS hin1 dL_law_574 ?_
  refine lv_aload_n hx hb dL_law_575 rfl (lv_at hl 0 rfl) ?_
  refine lv_iload hx hb dL_law_576 (lv_at hl 4 rfl) ?_
  refine lv_iconst (v := 2) hx hb dL_law_578 (by decide) ?_
  refine lv_iadd hx hb dL_law_579 ?_
  refine va_sld hx hb hX hbl hbA hS hin2 dL_law_580 ?_
  refine lv_aload_n hx hb dL_law_581 rfl (lv_at hl 3 rfl) ?_
  refine ls_I CX hL hW hS (As := [.ref a1, .int (xs (x4 + 1 : Int32).toNatClampNeg), .int (xs (x4 + 2 : Int32).toNatClampNeg), .ref a3]) (rest := []) (ML_unit l x hlt N a1 (xs (x4 + 1 : Int32).toNatClampNeg) (xs (x4 + 2 : Int32).toNatClampNeg) a3 K M o1 ho1) cg_L_79 ⟨by decide, by decide⟩ rfl rfl (Nat.le_of_ble_eq_true rfl) hl.1 hq1 dL_law_582 hcs1 (fun H locs hW hS => ?_)
  refine lv_istore (lv' := [(5, .int o1.1), (0, .ref b), (1, .ref a1), (2, .ref g.1), (3, .ref a3), (4, .int x4)]) hx hb dL_law_585 hl (by decide) rfl (fun ls hl => ?_)
  refine lv_aload_n hx hb dL_law_587 rfl (lv_at hl 3 rfl) ?_
  refine lv_aload_n hx hb dL_law_588 rfl (lv_at hl 1 rfl) ?_
  refine lv_iload hx hb dL_law_589 (lv_at hl 5 rfl) ?_
  refine lv_iconst (v := 1) hx hb dL_law_591 (by decide) ?_
  refine lv_iadd hx hb dL_law_592 ?_
  refine va_sld hx hb hX hbl hbA hS hin1 dL_law_593 ?_
  refine lv_aload_n hx hb dL_law_594 rfl (lv_at hl 1 rfl) ?_
  refine lv_iload hx hb dL_law_595 (lv_at hl 5 rfl) ?_
  refine lv_iconst (v := 2) hx hb dL_law_597 (by decide) ?_
  refine lv_iadd hx hb dL_law_598 ?_
  refine va_sld hx hb hX hbl hbA hS hin2 dL_law_599 ?_
  refine lm_I CX hz0 hlo (hL.tr hq1) hW hS (As := [.int (xs (x4 + 1 : Int32).toNatClampNeg), .int (xs (x4 + 2 : Int32).toNatClampNeg)]) (rest := []) (MM_unit l x.1 g N (xs (x4 + 1 : Int32).toNatClampNeg) (xs (x4 + 2 : Int32).toNatClampNeg) S q600 hq600) cv_L_84 ⟨by decide, by decide⟩ rfl rfl (Nat.le_of_ble_eq_true rfl) hl.1 dL_law_600 hcs1 (fun H locs hW hS => ?_)
  refine lv_istore (lv' := [(6, .int q600.1), (5, .int o1.1), (0, .ref b), (1, .ref a1), (2, .ref g.1), (3, .ref a3), (4, .int x4)]) hx hb dL_law_603 hl (by decide) rfl (fun ls hl => ?_)
  refine lv_aload_n hx hb dL_law_605 rfl (lv_at hl 4 rfl) ?_
  refine lm_I CX hz0 hlo (hL.tr hq1) hW hS (As := []) (rest := []) (MM_thrown l x.1 g N  q600.2 q606 hq606) cv_L_85 ⟨by decide, by decide⟩ rfl rfl (Nat.le_of_ble_eq_true rfl) hl.1 dL_law_606 hcs1 (fun H locs hW hS => ?_)
  refine lv_iload hx hb dL_law_609 (lv_at hl 1 rfl) ?_
  refine lv_icmp_eq (tgt := 616) hx hb dL_law_611 (by decide) (fun hc => ?_) (fun hc => absurd (eq_of_beq heq) hc)
  refine lv_iload hx hb dL_law_616 (lv_at hl 1 rfl) ?_
  refine lv_if_ne (tgt := 633) hx hb dL_law_618 (by decide) (fun hc => ?_) (fun hc => ?_)
  · refine lv_goto (tgt := 1056) hx hb dL_law_633 (by decide) ?_
    exact hk _ _ _ _ _ ls hf (hL.tr hq1) hW hS (lv_sub hl [2, 3, 4, 5, 6] rfl)
  · have hc0 : o1.1 = 0 := hc
    obtain ⟨hk3, hi, hcmp⟩ := lw_out hout hc0
    refine lv_aload_n hx hb dL_law_621 rfl (lv_at hl 5 rfl) ?_
    refine lv_iconst (v := 0) hx hb dL_law_622 (by decide) ?_
    refine cr_lald CX hW.1 hk3 hi dL_law_623 ?_
    refine lv_iload hx hb dL_law_624 (lv_at hl 0 rfl) ?_
    refine lv_i2l (v := (q600.1 : Int32).toInt64) hx hb dL_law_626 rfl ?_
    refine W.lcmp hx hb dL_law_627 ?_
    refine lv_if_eq (tgt := 633) hx hb dL_law_628 (by decide) (fun hc => ?_) (fun hc => absurd hcmp hc)
    refine lv_goto (tgt := 1056) hx hb dL_law_633 (by decide) ?_
    exact hk _ _ _ _ _ ls hf (hL.tr hq1) hW hS (lv_sub hl [2, 3, 4, 5, 6] rfl)
set_option maxRecDepth 100000 in
set_option maxHeartbeats 4000000 in
theorem wS_read {p : Program} {l : Launch} {e : Env} {s : State} {m : MethodId} {below : List Frame} {meth : Method} {c : Code} {x : Xc} {g : Gm} {K0 : Ka} {b L : Nat} {xs : Nat → Int32} {N a1 a3 : Nat} {x4 : Int32} {o : Ka × Cm × Ms} {Q : State → Prop} (C : CL p l s m meth c x K0 b L xs) (hin : LIN x4 L) (hro : kz o.1 - kz K0 ≤ room_1.cells ∧ ku o.1 - ku K0 ≤ room_1.slots) (hk : ∀ (K : Ka) (M : Cm) (S : Ms) (H : Heap) (locs : List Loc) (ls : Array Slot), some (K, M, S) = some o → KLe K0 K → LWd x g K M S H → va_S (AC K0) s.heap H locs → lv_has ls 7 [(0, .ref b), (1, .ref a1), (2, .ref g.1), (3, .ref a3), (4, .int x4)] → W p l e room_1 s m #[Value.ref b] below meth c H locs (kz K - kz K0) (ku K - ku K0) Q (F0 m 1056 ls [])) (K : Ka) (M : Cm) (S : Ms) (H : Heap) (locs : List Loc) (ls : Array Slot) (hcs : kz K - kz K0 ≤ room_1.cells ∧ ku K - ku K0 ≤ room_1.slots) (hf : fS_read N a1 a3 (xs (x4 + 1 : Int32).toNatClampNeg) (xs (x4 + 2 : Int32).toNatClampNeg) K M S = some o) (hL : KLe K0 K) (hW : LWd x g K M S H) (hS : va_S (AC K0) s.heap H locs) (hl : lv_has ls 7 [(0, .ref b), (1, .ref a1), (2, .ref g.1), (3, .ref a3), (4, .int x4)]) : W p l e room_1 s m #[Value.ref b] below meth c H locs (kz K - kz K0) (ku K - ku K0) Q (F0 m 636 ls []) := by
  obtain ⟨CX, hlt, hz0, hlo, hX, hbl, hbA⟩ := C
  obtain ⟨hx, hb, hml, hown, hts, hE, hB, hr, hlk⟩ := id CX
  obtain ⟨hin1, hin2, hin3, hin4, hin5, hin6⟩ := hin
  unfold fS_read at hf
  obtain ⟨o1, ho1, hf⟩ := bnd_some hf
  have hq1 := mfL_read ho1
  obtain ⟨q668, hq668, hf⟩ := bnd_some hf
  obtain ⟨q674, hq674, hf⟩ := bnd_some hf
  obtain ⟨heq, hf⟩ := gd_some hf
  obtain ⟨hout, hf⟩ := gd_some hf
  have hcs1 : kz o1.2.1 - kz K0 ≤ room_1.cells ∧ ku o1.2.1 - ku K0 ≤ room_1.slots := by cases hf; exact hro
  refine lv_aload_n hx hb dL_law_636 rfl (lv_at hl 1 rfl) ?_
  refine lv_aload_n hx hb dL_law_637 rfl (lv_at hl 0 rfl) ?_
  refine lv_iload hx hb dL_law_638 (lv_at hl 4 rfl) ?_
  refine lv_iconst (v := 1) hx hb dL_law_640 (by decide) ?_
  refine lv_iadd hx hb dL_law_641 ?_
  refine va_sld hx hb hX hbl hbA hS hin1 dL_law_642 ?_
  refine lv_aload_n hx hb dL_law_643 rfl (lv_at hl 0 rfl) ?_
  refine lv_iload hx hb dL_law_644 (lv_at hl 4 rfl) ?_
  refine lv_iconst (v := 2) hx hb dL_law_646 (by decide) ?_
  refine lv_iadd hx hb dL_law_647 ?_
  refine va_sld hx hb hX hbl hbA hS hin2 dL_law_648 ?_
  refine lv_aload_n hx hb dL_law_649 rfl (lv_at hl 3 rfl) ?_
  refine ls_I CX hL hW hS (As := [.ref a1, .int (xs (x4 + 1 : Int32).toNatClampNeg), .int (xs (x4 + 2 : Int32).toNatClampNeg), .ref a3]) (rest := []) (ML_read l x hlt N a1 (xs (x4 + 1 : Int32).toNatClampNeg) (xs (x4 + 2 : Int32).toNatClampNeg) a3 K M o1 ho1) cg_L_88 ⟨by decide, by decide⟩ rfl rfl (Nat.le_of_ble_eq_true rfl) hl.1 hq1 dL_law_650 hcs1 (fun H locs hW hS => ?_)
  refine lv_istore (lv' := [(5, .int o1.1), (0, .ref b), (1, .ref a1), (2, .ref g.1), (3, .ref a3), (4, .int x4)]) hx hb dL_law_653 hl (by decide) rfl (fun ls hl => ?_)
  refine lv_aload_n hx hb dL_law_655 rfl (lv_at hl 3 rfl) ?_
  refine lv_aload_n hx hb dL_law_656 rfl (lv_at hl 1 rfl) ?_
  refine lv_iload hx hb dL_law_657 (lv_at hl 5 rfl) ?_
  refine lv_iconst (v := 1) hx hb dL_law_659 (by decide) ?_
  refine lv_iadd hx hb dL_law_660 ?_
  refine va_sld hx hb hX hbl hbA hS hin1 dL_law_661 ?_
  refine lv_aload_n hx hb dL_law_662 rfl (lv_at hl 1 rfl) ?_
  refine lv_iload hx hb dL_law_663 (lv_at hl 5 rfl) ?_
  refine lv_iconst (v := 2) hx hb dL_law_665 (by decide) ?_
  refine lv_iadd hx hb dL_law_666 ?_
  refine va_sld hx hb hX hbl hbA hS hin2 dL_law_667 ?_
  refine lm_I CX hz0 hlo (hL.tr hq1) hW hS (As := [.int (xs (x4 + 1 : Int32).toNatClampNeg), .int (xs (x4 + 2 : Int32).toNatClampNeg)]) (rest := []) (MM_read l x.1 g N (xs (x4 + 1 : Int32).toNatClampNeg) (xs (x4 + 2 : Int32).toNatClampNeg) S q668 hq668) cv_L_90 ⟨by decide, by decide⟩ rfl rfl (Nat.le_of_ble_eq_true rfl) hl.1 dL_law_668 hcs1 (fun H locs hW hS => ?_)
  refine lv_istore (lv' := [(6, .int q668.1), (5, .int o1.1), (0, .ref b), (1, .ref a1), (2, .ref g.1), (3, .ref a3), (4, .int x4)]) hx hb dL_law_671 hl (by decide) rfl (fun ls hl => ?_)
  refine lv_aload_n hx hb dL_law_673 rfl (lv_at hl 4 rfl) ?_
  refine lm_I CX hz0 hlo (hL.tr hq1) hW hS (As := []) (rest := []) (MM_thrown l x.1 g N  q668.2 q674 hq674) cv_L_85 ⟨by decide, by decide⟩ rfl rfl (Nat.le_of_ble_eq_true rfl) hl.1 dL_law_674 hcs1 (fun H locs hW hS => ?_)
  refine lv_iload hx hb dL_law_677 (lv_at hl 1 rfl) ?_
  refine lv_icmp_eq (tgt := 684) hx hb dL_law_679 (by decide) (fun hc => ?_) (fun hc => absurd (eq_of_beq heq) hc)
  refine lv_iload hx hb dL_law_684 (lv_at hl 1 rfl) ?_
  refine lv_if_ne (tgt := 701) hx hb dL_law_686 (by decide) (fun hc => ?_) (fun hc => ?_)
  · refine lv_goto (tgt := 1056) hx hb dL_law_701 (by decide) ?_
    exact hk _ _ _ _ _ ls hf (hL.tr hq1) hW hS (lv_sub hl [2, 3, 4, 5, 6] rfl)
  · have hc0 : o1.1 = 0 := hc
    obtain ⟨hk3, hi, hcmp⟩ := lw_out hout hc0
    refine lv_aload_n hx hb dL_law_689 rfl (lv_at hl 5 rfl) ?_
    refine lv_iconst (v := 0) hx hb dL_law_690 (by decide) ?_
    refine cr_lald CX hW.1 hk3 hi dL_law_691 ?_
    refine lv_iload hx hb dL_law_692 (lv_at hl 0 rfl) ?_
    refine lv_i2l (v := (q668.1 : Int32).toInt64) hx hb dL_law_694 rfl ?_
    refine W.lcmp hx hb dL_law_695 ?_
    refine lv_if_eq (tgt := 701) hx hb dL_law_696 (by decide) (fun hc => ?_) (fun hc => absurd hcmp hc)
    refine lv_goto (tgt := 1056) hx hb dL_law_701 (by decide) ?_
    exact hk _ _ _ _ _ ls hf (hL.tr hq1) hW hS (lv_sub hl [2, 3, 4, 5, 6] rfl)
set_option maxRecDepth 100000 in
set_option maxHeartbeats 4000000 in
theorem wS_cause {p : Program} {l : Launch} {e : Env} {s : State} {m : MethodId} {below : List Frame} {meth : Method} {c : Code} {x : Xc} {g : Gm} {K0 : Ka} {b L : Nat} {xs : Nat → Int32} {N a1 a3 : Nat} {x4 : Int32} {o : Ka × Cm × Ms} {Q : State → Prop} (C : CL p l s m meth c x K0 b L xs) (hin : LIN x4 L) (hro : kz o.1 - kz K0 ≤ room_1.cells ∧ ku o.1 - ku K0 ≤ room_1.slots) (hk : ∀ (K : Ka) (M : Cm) (S : Ms) (H : Heap) (locs : List Loc) (ls : Array Slot), some (K, M, S) = some o → KLe K0 K → LWd x g K M S H → va_S (AC K0) s.heap H locs → lv_has ls 7 [(0, .ref b), (1, .ref a1), (2, .ref g.1), (3, .ref a3), (4, .int x4)] → W p l e room_1 s m #[Value.ref b] below meth c H locs (kz K - kz K0) (ku K - ku K0) Q (F0 m 1056 ls [])) (K : Ka) (M : Cm) (S : Ms) (H : Heap) (locs : List Loc) (ls : Array Slot) (hcs : kz K - kz K0 ≤ room_1.cells ∧ ku K - ku K0 ≤ room_1.slots) (hf : fS_cause N a1 (xs (x4 + 1 : Int32).toNatClampNeg) (xs (x4 + 2 : Int32).toNatClampNeg) K M S = some o) (hL : KLe K0 K) (hW : LWd x g K M S H) (hS : va_S (AC K0) s.heap H locs) (hl : lv_has ls 7 [(0, .ref b), (1, .ref a1), (2, .ref g.1), (3, .ref a3), (4, .int x4)]) : W p l e room_1 s m #[Value.ref b] below meth c H locs (kz K - kz K0) (ku K - ku K0) Q (F0 m 704 ls []) := by
  obtain ⟨CX, hlt, hz0, hlo, hX, hbl, hbA⟩ := C
  obtain ⟨hx, hb, hml, hown, hts, hE, hB, hr, hlk⟩ := id CX
  obtain ⟨hin1, hin2, hin3, hin4, hin5, hin6⟩ := hin
  unfold fS_cause at hf
  obtain ⟨hkx, hf⟩ := gd_some hf
  obtain ⟨o1, ho1, hf⟩ := bnd_some hf
  obtain ⟨q733, hq733, hf⟩ := bnd_some hf
  obtain ⟨heq, hf⟩ := gd_some hf
  refine lv_aload_n hx hb dL_law_704 rfl (lv_at hl 1 rfl) ?_
  refine lv_aload_n hx hb dL_law_705 rfl (lv_at hl 0 rfl) ?_
  refine lv_iload hx hb dL_law_706 (lv_at hl 4 rfl) ?_
  refine lv_iconst (v := 1) hx hb dL_law_708 (by decide) ?_
  refine lv_iadd hx hb dL_law_709 ?_
  refine va_sld hx hb hX hbl hbA hS hin1 dL_law_710 ?_
  refine lv_aload_n hx hb dL_law_711 rfl (lv_at hl 0 rfl) ?_
  refine lv_iload hx hb dL_law_712 (lv_at hl 4 rfl) ?_
  refine lv_iconst (v := 2) hx hb dL_law_714 (by decide) ?_
  refine lv_iadd hx hb dL_law_715 ?_
  refine va_sld hx hb hX hbl hbA hS hin2 dL_law_716 ?_
  refine lc_I CX hL hW hS (As := [.int (xs (x4 + 1 : Int32).toNatClampNeg), .int (xs (x4 + 2 : Int32).toNatClampNeg)]) (rest := []) hkx (MC_X8_cause l x N K a1 (xs (x4 + 1 : Int32).toNatClampNeg) (xs (x4 + 2 : Int32).toNatClampNeg) M o1 ho1) cv_L_91 ⟨by decide, by decide⟩ rfl rfl (Nat.le_of_ble_eq_true rfl) hl.1 dL_law_717 hcs (fun H locs hW hS => ?_)
  refine lv_aload_n hx hb dL_law_720 rfl (lv_at hl 2 rfl) ?_
  refine lv_aload_n hx hb dL_law_721 rfl (lv_at hl 0 rfl) ?_
  refine lv_iload hx hb dL_law_722 (lv_at hl 4 rfl) ?_
  refine lv_iconst (v := 1) hx hb dL_law_724 (by decide) ?_
  refine lv_iadd hx hb dL_law_725 ?_
  refine va_sld hx hb hX hbl hbA hS hin1 dL_law_726 ?_
  refine lv_aload_n hx hb dL_law_727 rfl (lv_at hl 0 rfl) ?_
  refine lv_iload hx hb dL_law_728 (lv_at hl 4 rfl) ?_
  refine lv_iconst (v := 2) hx hb dL_law_730 (by decide) ?_
  refine lv_iadd hx hb dL_law_731 ?_
  refine va_sld hx hb hX hbl hbA hS hin2 dL_law_732 ?_
  refine lm_I CX hz0 hlo hL hW hS (As := [.int (xs (x4 + 1 : Int32).toNatClampNeg), .int (xs (x4 + 2 : Int32).toNatClampNeg)]) (rest := [.int o1.1]) (MM_cause l x.1 g N (xs (x4 + 1 : Int32).toNatClampNeg) (xs (x4 + 2 : Int32).toNatClampNeg) S q733 hq733) cv_L_94 ⟨by decide, by decide⟩ rfl rfl (Nat.le_of_ble_eq_true rfl) hl.1 dL_law_733 hcs (fun H locs hW hS => ?_)
  refine lv_icmp_eq (tgt := 1056) hx hb dL_law_736 (by decide) (fun hc => ?_) (fun hc => absurd (eq_of_beq heq) hc)
  exact hk _ _ _ _ _ ls hf hL hW hS (lv_sub hl [0, 1, 2, 3, 4] rfl)
set_option maxRecDepth 100000 in
set_option maxHeartbeats 4000000 in
theorem wS_need {p : Program} {l : Launch} {e : Env} {s : State} {m : MethodId} {below : List Frame} {meth : Method} {c : Code} {x : Xc} {g : Gm} {K0 : Ka} {b L : Nat} {xs : Nat → Int32} {N a1 a3 : Nat} {x4 : Int32} {o : Ka × Cm × Ms} {Q : State → Prop} (C : CL p l s m meth c x K0 b L xs) (hin : LIN x4 L) (hro : kz o.1 - kz K0 ≤ room_1.cells ∧ ku o.1 - ku K0 ≤ room_1.slots) (hk : ∀ (K : Ka) (M : Cm) (S : Ms) (H : Heap) (locs : List Loc) (ls : Array Slot), some (K, M, S) = some o → KLe K0 K → LWd x g K M S H → va_S (AC K0) s.heap H locs → lv_has ls 7 [(0, .ref b), (1, .ref a1), (2, .ref g.1), (3, .ref a3), (4, .int x4)] → W p l e room_1 s m #[Value.ref b] below meth c H locs (kz K - kz K0) (ku K - ku K0) Q (F0 m 1056 ls [])) (K : Ka) (M : Cm) (S : Ms) (H : Heap) (locs : List Loc) (ls : Array Slot) (hcs : kz K - kz K0 ≤ room_1.cells ∧ ku K - ku K0 ≤ room_1.slots) (hf : fS_need N a1 (xs (x4 + 1 : Int32).toNatClampNeg) (xs (x4 + 2 : Int32).toNatClampNeg) K M S = some o) (hL : KLe K0 K) (hW : LWd x g K M S H) (hS : va_S (AC K0) s.heap H locs) (hl : lv_has ls 7 [(0, .ref b), (1, .ref a1), (2, .ref g.1), (3, .ref a3), (4, .int x4)]) : W p l e room_1 s m #[Value.ref b] below meth c H locs (kz K - kz K0) (ku K - ku K0) Q (F0 m 741 ls []) := by
  obtain ⟨CX, hlt, hz0, hlo, hX, hbl, hbA⟩ := C
  obtain ⟨hx, hb, hml, hown, hts, hE, hB, hr, hlk⟩ := id CX
  obtain ⟨hin1, hin2, hin3, hin4, hin5, hin6⟩ := hin
  unfold fS_need at hf
  obtain ⟨hkx, hf⟩ := gd_some hf
  obtain ⟨o1, ho1, hf⟩ := bnd_some hf
  obtain ⟨q770, hq770, hf⟩ := bnd_some hf
  obtain ⟨heq, hf⟩ := gd_some hf
  refine lv_aload_n hx hb dL_law_741 rfl (lv_at hl 1 rfl) ?_
  refine lv_aload_n hx hb dL_law_742 rfl (lv_at hl 0 rfl) ?_
  refine lv_iload hx hb dL_law_743 (lv_at hl 4 rfl) ?_
  refine lv_iconst (v := 1) hx hb dL_law_745 (by decide) ?_
  refine lv_iadd hx hb dL_law_746 ?_
  refine va_sld hx hb hX hbl hbA hS hin1 dL_law_747 ?_
  refine lv_aload_n hx hb dL_law_748 rfl (lv_at hl 0 rfl) ?_
  refine lv_iload hx hb dL_law_749 (lv_at hl 4 rfl) ?_
  refine lv_iconst (v := 2) hx hb dL_law_751 (by decide) ?_
  refine lv_iadd hx hb dL_law_752 ?_
  refine va_sld hx hb hX hbl hbA hS hin2 dL_law_753 ?_
  refine lc_I CX hL hW hS (As := [.int (xs (x4 + 1 : Int32).toNatClampNeg), .int (xs (x4 + 2 : Int32).toNatClampNeg)]) (rest := []) hkx (MC_X8_need l x N K a1 (xs (x4 + 1 : Int32).toNatClampNeg) (xs (x4 + 2 : Int32).toNatClampNeg) M o1 ho1) cv_L_95 ⟨by decide, by decide⟩ rfl rfl (Nat.le_of_ble_eq_true rfl) hl.1 dL_law_754 hcs (fun H locs hW hS => ?_)
  refine lv_aload_n hx hb dL_law_757 rfl (lv_at hl 2 rfl) ?_
  refine lv_aload_n hx hb dL_law_758 rfl (lv_at hl 0 rfl) ?_
  refine lv_iload hx hb dL_law_759 (lv_at hl 4 rfl) ?_
  refine lv_iconst (v := 1) hx hb dL_law_761 (by decide) ?_
  refine lv_iadd hx hb dL_law_762 ?_
  refine va_sld hx hb hX hbl hbA hS hin1 dL_law_763 ?_
  refine lv_aload_n hx hb dL_law_764 rfl (lv_at hl 0 rfl) ?_
  refine lv_iload hx hb dL_law_765 (lv_at hl 4 rfl) ?_
  refine lv_iconst (v := 2) hx hb dL_law_767 (by decide) ?_
  refine lv_iadd hx hb dL_law_768 ?_
  refine va_sld hx hb hX hbl hbA hS hin2 dL_law_769 ?_
  refine lm_I CX hz0 hlo hL hW hS (As := [.int (xs (x4 + 1 : Int32).toNatClampNeg), .int (xs (x4 + 2 : Int32).toNatClampNeg)]) (rest := [.int o1.1]) (MM_need l x.1 g N (xs (x4 + 1 : Int32).toNatClampNeg) (xs (x4 + 2 : Int32).toNatClampNeg) S q770 hq770) cv_L_98 ⟨by decide, by decide⟩ rfl rfl (Nat.le_of_ble_eq_true rfl) hl.1 dL_law_770 hcs (fun H locs hW hS => ?_)
  refine lv_icmp_eq (tgt := 1056) hx hb dL_law_773 (by decide) (fun hc => ?_) (fun hc => absurd (eq_of_beq heq) hc)
  exact hk _ _ _ _ _ ls hf hL hW hS (lv_sub hl [0, 1, 2, 3, 4] rfl)
set_option maxRecDepth 100000 in
set_option maxHeartbeats 4000000 in
theorem wS_leans {p : Program} {l : Launch} {e : Env} {s : State} {m : MethodId} {below : List Frame} {meth : Method} {c : Code} {x : Xc} {g : Gm} {K0 : Ka} {b L : Nat} {xs : Nat → Int32} {N a1 a3 : Nat} {x4 : Int32} {o : Ka × Cm × Ms} {Q : State → Prop} (C : CL p l s m meth c x K0 b L xs) (hin : LIN x4 L) (hro : kz o.1 - kz K0 ≤ room_1.cells ∧ ku o.1 - ku K0 ≤ room_1.slots) (hk : ∀ (K : Ka) (M : Cm) (S : Ms) (H : Heap) (locs : List Loc) (ls : Array Slot), some (K, M, S) = some o → KLe K0 K → LWd x g K M S H → va_S (AC K0) s.heap H locs → lv_has ls 7 [(0, .ref b), (1, .ref a1), (2, .ref g.1), (3, .ref a3), (4, .int x4)] → W p l e room_1 s m #[Value.ref b] below meth c H locs (kz K - kz K0) (ku K - ku K0) Q (F0 m 1056 ls [])) (K : Ka) (M : Cm) (S : Ms) (H : Heap) (locs : List Loc) (ls : Array Slot) (hcs : kz K - kz K0 ≤ room_1.cells ∧ ku K - ku K0 ≤ room_1.slots) (hf : fS_leans N a1 (xs (x4 + 1 : Int32).toNatClampNeg) (xs (x4 + 2 : Int32).toNatClampNeg) K M S = some o) (hL : KLe K0 K) (hW : LWd x g K M S H) (hS : va_S (AC K0) s.heap H locs) (hl : lv_has ls 7 [(0, .ref b), (1, .ref a1), (2, .ref g.1), (3, .ref a3), (4, .int x4)]) : W p l e room_1 s m #[Value.ref b] below meth c H locs (kz K - kz K0) (ku K - ku K0) Q (F0 m 778 ls []) := by
  obtain ⟨CX, hlt, hz0, hlo, hX, hbl, hbA⟩ := C
  obtain ⟨hx, hb, hml, hown, hts, hE, hB, hr, hlk⟩ := id CX
  obtain ⟨hin1, hin2, hin3, hin4, hin5, hin6⟩ := hin
  unfold fS_leans at hf
  obtain ⟨hkx, hf⟩ := gd_some hf
  obtain ⟨o1, ho1, hf⟩ := bnd_some hf
  obtain ⟨q807, hq807, hf⟩ := bnd_some hf
  obtain ⟨heq, hf⟩ := gd_some hf
  refine lv_aload_n hx hb dL_law_778 rfl (lv_at hl 1 rfl) ?_
  refine lv_aload_n hx hb dL_law_779 rfl (lv_at hl 0 rfl) ?_
  refine lv_iload hx hb dL_law_780 (lv_at hl 4 rfl) ?_
  refine lv_iconst (v := 1) hx hb dL_law_782 (by decide) ?_
  refine lv_iadd hx hb dL_law_783 ?_
  refine va_sld hx hb hX hbl hbA hS hin1 dL_law_784 ?_
  refine lv_aload_n hx hb dL_law_785 rfl (lv_at hl 0 rfl) ?_
  refine lv_iload hx hb dL_law_786 (lv_at hl 4 rfl) ?_
  refine lv_iconst (v := 2) hx hb dL_law_788 (by decide) ?_
  refine lv_iadd hx hb dL_law_789 ?_
  refine va_sld hx hb hX hbl hbA hS hin2 dL_law_790 ?_
  refine lc_I CX hL hW hS (As := [.int (xs (x4 + 1 : Int32).toNatClampNeg), .int (xs (x4 + 2 : Int32).toNatClampNeg)]) (rest := []) hkx (MC_X8_leans l x N K a1 (xs (x4 + 1 : Int32).toNatClampNeg) (xs (x4 + 2 : Int32).toNatClampNeg) M o1 ho1) cv_L_99 ⟨by decide, by decide⟩ rfl rfl (Nat.le_of_ble_eq_true rfl) hl.1 dL_law_791 hcs (fun H locs hW hS => ?_)
  refine lv_aload_n hx hb dL_law_794 rfl (lv_at hl 2 rfl) ?_
  refine lv_aload_n hx hb dL_law_795 rfl (lv_at hl 0 rfl) ?_
  refine lv_iload hx hb dL_law_796 (lv_at hl 4 rfl) ?_
  refine lv_iconst (v := 1) hx hb dL_law_798 (by decide) ?_
  refine lv_iadd hx hb dL_law_799 ?_
  refine va_sld hx hb hX hbl hbA hS hin1 dL_law_800 ?_
  refine lv_aload_n hx hb dL_law_801 rfl (lv_at hl 0 rfl) ?_
  refine lv_iload hx hb dL_law_802 (lv_at hl 4 rfl) ?_
  refine lv_iconst (v := 2) hx hb dL_law_804 (by decide) ?_
  refine lv_iadd hx hb dL_law_805 ?_
  refine va_sld hx hb hX hbl hbA hS hin2 dL_law_806 ?_
  refine lm_I CX hz0 hlo hL hW hS (As := [.int (xs (x4 + 1 : Int32).toNatClampNeg), .int (xs (x4 + 2 : Int32).toNatClampNeg)]) (rest := [.int o1.1]) (MM_leans l x.1 g N (xs (x4 + 1 : Int32).toNatClampNeg) (xs (x4 + 2 : Int32).toNatClampNeg) S q807 hq807) cv_L_102 ⟨by decide, by decide⟩ rfl rfl (Nat.le_of_ble_eq_true rfl) hl.1 dL_law_807 hcs (fun H locs hW hS => ?_)
  refine lv_icmp_eq (tgt := 1056) hx hb dL_law_810 (by decide) (fun hc => ?_) (fun hc => absurd (eq_of_beq heq) hc)
  exact hk _ _ _ _ _ ls hf hL hW hS (lv_sub hl [0, 1, 2, 3, 4] rfl)
set_option maxRecDepth 100000 in
set_option maxHeartbeats 4000000 in
theorem wS_up {p : Program} {l : Launch} {e : Env} {s : State} {m : MethodId} {below : List Frame} {meth : Method} {c : Code} {x : Xc} {g : Gm} {K0 : Ka} {b L : Nat} {xs : Nat → Int32} {N a1 a3 : Nat} {x4 : Int32} {o : Ka × Cm × Ms} {Q : State → Prop} (C : CL p l s m meth c x K0 b L xs) (hin : LIN x4 L) (hro : kz o.1 - kz K0 ≤ room_1.cells ∧ ku o.1 - ku K0 ≤ room_1.slots) (hk : ∀ (K : Ka) (M : Cm) (S : Ms) (H : Heap) (locs : List Loc) (ls : Array Slot), some (K, M, S) = some o → KLe K0 K → LWd x g K M S H → va_S (AC K0) s.heap H locs → lv_has ls 7 [(0, .ref b), (1, .ref a1), (2, .ref g.1), (3, .ref a3), (4, .int x4)] → W p l e room_1 s m #[Value.ref b] below meth c H locs (kz K - kz K0) (ku K - ku K0) Q (F0 m 1056 ls [])) (K : Ka) (M : Cm) (S : Ms) (H : Heap) (locs : List Loc) (ls : Array Slot) (hcs : kz K - kz K0 ≤ room_1.cells ∧ ku K - ku K0 ≤ room_1.slots) (hf : fS_up N a1 (xs (x4 + 1 : Int32).toNatClampNeg) (xs (x4 + 2 : Int32).toNatClampNeg) K M S = some o) (hL : KLe K0 K) (hW : LWd x g K M S H) (hS : va_S (AC K0) s.heap H locs) (hl : lv_has ls 7 [(0, .ref b), (1, .ref a1), (2, .ref g.1), (3, .ref a3), (4, .int x4)]) : W p l e room_1 s m #[Value.ref b] below meth c H locs (kz K - kz K0) (ku K - ku K0) Q (F0 m 815 ls []) := by
  obtain ⟨CX, hlt, hz0, hlo, hX, hbl, hbA⟩ := C
  obtain ⟨hx, hb, hml, hown, hts, hE, hB, hr, hlk⟩ := id CX
  obtain ⟨hin1, hin2, hin3, hin4, hin5, hin6⟩ := hin
  unfold fS_up at hf
  obtain ⟨hkx, hf⟩ := gd_some hf
  obtain ⟨o1, ho1, hf⟩ := bnd_some hf
  obtain ⟨q844, hq844, hf⟩ := bnd_some hf
  obtain ⟨heq, hf⟩ := gd_some hf
  refine lv_aload_n hx hb dL_law_815 rfl (lv_at hl 1 rfl) ?_
  refine lv_aload_n hx hb dL_law_816 rfl (lv_at hl 0 rfl) ?_
  refine lv_iload hx hb dL_law_817 (lv_at hl 4 rfl) ?_
  refine lv_iconst (v := 1) hx hb dL_law_819 (by decide) ?_
  refine lv_iadd hx hb dL_law_820 ?_
  refine va_sld hx hb hX hbl hbA hS hin1 dL_law_821 ?_
  refine lv_aload_n hx hb dL_law_822 rfl (lv_at hl 0 rfl) ?_
  refine lv_iload hx hb dL_law_823 (lv_at hl 4 rfl) ?_
  refine lv_iconst (v := 2) hx hb dL_law_825 (by decide) ?_
  refine lv_iadd hx hb dL_law_826 ?_
  refine va_sld hx hb hX hbl hbA hS hin2 dL_law_827 ?_
  refine lc_I CX hL hW hS (As := [.int (xs (x4 + 1 : Int32).toNatClampNeg), .int (xs (x4 + 2 : Int32).toNatClampNeg)]) (rest := []) hkx (MC_X8_up l x N K a1 (xs (x4 + 1 : Int32).toNatClampNeg) (xs (x4 + 2 : Int32).toNatClampNeg) M o1 ho1) cv_L_103 ⟨by decide, by decide⟩ rfl rfl (Nat.le_of_ble_eq_true rfl) hl.1 dL_law_828 hcs (fun H locs hW hS => ?_)
  refine lv_aload_n hx hb dL_law_831 rfl (lv_at hl 2 rfl) ?_
  refine lv_aload_n hx hb dL_law_832 rfl (lv_at hl 0 rfl) ?_
  refine lv_iload hx hb dL_law_833 (lv_at hl 4 rfl) ?_
  refine lv_iconst (v := 1) hx hb dL_law_835 (by decide) ?_
  refine lv_iadd hx hb dL_law_836 ?_
  refine va_sld hx hb hX hbl hbA hS hin1 dL_law_837 ?_
  refine lv_aload_n hx hb dL_law_838 rfl (lv_at hl 0 rfl) ?_
  refine lv_iload hx hb dL_law_839 (lv_at hl 4 rfl) ?_
  refine lv_iconst (v := 2) hx hb dL_law_841 (by decide) ?_
  refine lv_iadd hx hb dL_law_842 ?_
  refine va_sld hx hb hX hbl hbA hS hin2 dL_law_843 ?_
  refine lm_I CX hz0 hlo hL hW hS (As := [.int (xs (x4 + 1 : Int32).toNatClampNeg), .int (xs (x4 + 2 : Int32).toNatClampNeg)]) (rest := [.int o1.1]) (MM_up l x.1 g N (xs (x4 + 1 : Int32).toNatClampNeg) (xs (x4 + 2 : Int32).toNatClampNeg) S q844 hq844) cv_L_106 ⟨by decide, by decide⟩ rfl rfl (Nat.le_of_ble_eq_true rfl) hl.1 dL_law_844 hcs (fun H locs hW hS => ?_)
  refine lv_icmp_eq (tgt := 1056) hx hb dL_law_847 (by decide) (fun hc => ?_) (fun hc => absurd (eq_of_beq heq) hc)
  exact hk _ _ _ _ _ ls hf hL hW hS (lv_sub hl [0, 1, 2, 3, 4] rfl)
set_option maxRecDepth 100000 in
set_option maxHeartbeats 4000000 in
theorem wS_half {p : Program} {l : Launch} {e : Env} {s : State} {m : MethodId} {below : List Frame} {meth : Method} {c : Code} {x : Xc} {g : Gm} {K0 : Ka} {b L : Nat} {xs : Nat → Int32} {N a1 a3 : Nat} {x4 : Int32} {o : Ka × Cm × Ms} {Q : State → Prop} (C : CL p l s m meth c x K0 b L xs) (hin : LIN x4 L) (hro : kz o.1 - kz K0 ≤ room_1.cells ∧ ku o.1 - ku K0 ≤ room_1.slots) (hk : ∀ (K : Ka) (M : Cm) (S : Ms) (H : Heap) (locs : List Loc) (ls : Array Slot), some (K, M, S) = some o → KLe K0 K → LWd x g K M S H → va_S (AC K0) s.heap H locs → lv_has ls 7 [(0, .ref b), (1, .ref a1), (2, .ref g.1), (3, .ref a3), (4, .int x4)] → W p l e room_1 s m #[Value.ref b] below meth c H locs (kz K - kz K0) (ku K - ku K0) Q (F0 m 1056 ls [])) (K : Ka) (M : Cm) (S : Ms) (H : Heap) (locs : List Loc) (ls : Array Slot) (hcs : kz K - kz K0 ≤ room_1.cells ∧ ku K - ku K0 ≤ room_1.slots) (hf : fS_half N a1 (xs (x4 + 1 : Int32).toNatClampNeg) (xs (x4 + 2 : Int32).toNatClampNeg) K M S = some o) (hL : KLe K0 K) (hW : LWd x g K M S H) (hS : va_S (AC K0) s.heap H locs) (hl : lv_has ls 7 [(0, .ref b), (1, .ref a1), (2, .ref g.1), (3, .ref a3), (4, .int x4)]) : W p l e room_1 s m #[Value.ref b] below meth c H locs (kz K - kz K0) (ku K - ku K0) Q (F0 m 852 ls []) := by
  obtain ⟨CX, hlt, hz0, hlo, hX, hbl, hbA⟩ := C
  obtain ⟨hx, hb, hml, hown, hts, hE, hB, hr, hlk⟩ := id CX
  obtain ⟨hin1, hin2, hin3, hin4, hin5, hin6⟩ := hin
  unfold fS_half at hf
  obtain ⟨hkx, hf⟩ := gd_some hf
  obtain ⟨o1, ho1, hf⟩ := bnd_some hf
  obtain ⟨q881, hq881, hf⟩ := bnd_some hf
  obtain ⟨heq, hf⟩ := gd_some hf
  refine lv_aload_n hx hb dL_law_852 rfl (lv_at hl 1 rfl) ?_
  refine lv_aload_n hx hb dL_law_853 rfl (lv_at hl 0 rfl) ?_
  refine lv_iload hx hb dL_law_854 (lv_at hl 4 rfl) ?_
  refine lv_iconst (v := 1) hx hb dL_law_856 (by decide) ?_
  refine lv_iadd hx hb dL_law_857 ?_
  refine va_sld hx hb hX hbl hbA hS hin1 dL_law_858 ?_
  refine lv_aload_n hx hb dL_law_859 rfl (lv_at hl 0 rfl) ?_
  refine lv_iload hx hb dL_law_860 (lv_at hl 4 rfl) ?_
  refine lv_iconst (v := 2) hx hb dL_law_862 (by decide) ?_
  refine lv_iadd hx hb dL_law_863 ?_
  refine va_sld hx hb hX hbl hbA hS hin2 dL_law_864 ?_
  refine lc_I CX hL hW hS (As := [.int (xs (x4 + 1 : Int32).toNatClampNeg), .int (xs (x4 + 2 : Int32).toNatClampNeg)]) (rest := []) hkx (MC_X8_half l x N K a1 (xs (x4 + 1 : Int32).toNatClampNeg) (xs (x4 + 2 : Int32).toNatClampNeg) M o1 ho1) cv_L_107 ⟨by decide, by decide⟩ rfl rfl (Nat.le_of_ble_eq_true rfl) hl.1 dL_law_865 hcs (fun H locs hW hS => ?_)
  refine lv_aload_n hx hb dL_law_868 rfl (lv_at hl 2 rfl) ?_
  refine lv_aload_n hx hb dL_law_869 rfl (lv_at hl 0 rfl) ?_
  refine lv_iload hx hb dL_law_870 (lv_at hl 4 rfl) ?_
  refine lv_iconst (v := 1) hx hb dL_law_872 (by decide) ?_
  refine lv_iadd hx hb dL_law_873 ?_
  refine va_sld hx hb hX hbl hbA hS hin1 dL_law_874 ?_
  refine lv_aload_n hx hb dL_law_875 rfl (lv_at hl 0 rfl) ?_
  refine lv_iload hx hb dL_law_876 (lv_at hl 4 rfl) ?_
  refine lv_iconst (v := 2) hx hb dL_law_878 (by decide) ?_
  refine lv_iadd hx hb dL_law_879 ?_
  refine va_sld hx hb hX hbl hbA hS hin2 dL_law_880 ?_
  refine lm_I CX hz0 hlo hL hW hS (As := [.int (xs (x4 + 1 : Int32).toNatClampNeg), .int (xs (x4 + 2 : Int32).toNatClampNeg)]) (rest := [.int o1.1]) (MM_half l x.1 g N (xs (x4 + 1 : Int32).toNatClampNeg) (xs (x4 + 2 : Int32).toNatClampNeg) S q881 hq881) cv_L_110 ⟨by decide, by decide⟩ rfl rfl (Nat.le_of_ble_eq_true rfl) hl.1 dL_law_881 hcs (fun H locs hW hS => ?_)
  refine lv_icmp_eq (tgt := 1056) hx hb dL_law_884 (by decide) (fun hc => ?_) (fun hc => absurd (eq_of_beq heq) hc)
  exact hk _ _ _ _ _ ls hf hL hW hS (lv_sub hl [0, 1, 2, 3, 4] rfl)
set_option maxRecDepth 100000 in
set_option maxHeartbeats 4000000 in
theorem wS_order {p : Program} {l : Launch} {e : Env} {s : State} {m : MethodId} {below : List Frame} {meth : Method} {c : Code} {x : Xc} {g : Gm} {K0 : Ka} {b L : Nat} {xs : Nat → Int32} {N a1 a3 : Nat} {x4 : Int32} {o : Ka × Cm × Ms} {Q : State → Prop} (C : CL p l s m meth c x K0 b L xs) (hin : LIN x4 L) (hro : kz o.1 - kz K0 ≤ room_1.cells ∧ ku o.1 - ku K0 ≤ room_1.slots) (hk : ∀ (K : Ka) (M : Cm) (S : Ms) (H : Heap) (locs : List Loc) (ls : Array Slot), some (K, M, S) = some o → KLe K0 K → LWd x g K M S H → va_S (AC K0) s.heap H locs → lv_has ls 7 [(0, .ref b), (1, .ref a1), (2, .ref g.1), (3, .ref a3), (4, .int x4)] → W p l e room_1 s m #[Value.ref b] below meth c H locs (kz K - kz K0) (ku K - ku K0) Q (F0 m 1056 ls [])) (K : Ka) (M : Cm) (S : Ms) (H : Heap) (locs : List Loc) (ls : Array Slot) (hcs : kz K - kz K0 ≤ room_1.cells ∧ ku K - ku K0 ≤ room_1.slots) (hf : fS_order N a1 (xs (x4 + 1 : Int32).toNatClampNeg) (xs (x4 + 2 : Int32).toNatClampNeg) K M S = some o) (hL : KLe K0 K) (hW : LWd x g K M S H) (hS : va_S (AC K0) s.heap H locs) (hl : lv_has ls 7 [(0, .ref b), (1, .ref a1), (2, .ref g.1), (3, .ref a3), (4, .int x4)]) : W p l e room_1 s m #[Value.ref b] below meth c H locs (kz K - kz K0) (ku K - ku K0) Q (F0 m 889 ls []) := by
  obtain ⟨CX, hlt, hz0, hlo, hX, hbl, hbA⟩ := C
  obtain ⟨hx, hb, hml, hown, hts, hE, hB, hr, hlk⟩ := id CX
  obtain ⟨hin1, hin2, hin3, hin4, hin5, hin6⟩ := hin
  unfold fS_order at hf
  obtain ⟨hkx, hf⟩ := gd_some hf
  obtain ⟨o1, ho1, hf⟩ := bnd_some hf
  obtain ⟨q918, hq918, hf⟩ := bnd_some hf
  obtain ⟨heq, hf⟩ := gd_some hf
  refine lv_aload_n hx hb dL_law_889 rfl (lv_at hl 1 rfl) ?_
  refine lv_aload_n hx hb dL_law_890 rfl (lv_at hl 0 rfl) ?_
  refine lv_iload hx hb dL_law_891 (lv_at hl 4 rfl) ?_
  refine lv_iconst (v := 1) hx hb dL_law_893 (by decide) ?_
  refine lv_iadd hx hb dL_law_894 ?_
  refine va_sld hx hb hX hbl hbA hS hin1 dL_law_895 ?_
  refine lv_aload_n hx hb dL_law_896 rfl (lv_at hl 0 rfl) ?_
  refine lv_iload hx hb dL_law_897 (lv_at hl 4 rfl) ?_
  refine lv_iconst (v := 2) hx hb dL_law_899 (by decide) ?_
  refine lv_iadd hx hb dL_law_900 ?_
  refine va_sld hx hb hX hbl hbA hS hin2 dL_law_901 ?_
  refine lc_I CX hL hW hS (As := [.int (xs (x4 + 1 : Int32).toNatClampNeg), .int (xs (x4 + 2 : Int32).toNatClampNeg)]) (rest := []) hkx (MC_X8_order l x N K a1 (xs (x4 + 1 : Int32).toNatClampNeg) (xs (x4 + 2 : Int32).toNatClampNeg) M o1 ho1) cv_L_111 ⟨by decide, by decide⟩ rfl rfl (Nat.le_of_ble_eq_true rfl) hl.1 dL_law_902 hcs (fun H locs hW hS => ?_)
  refine lv_aload_n hx hb dL_law_905 rfl (lv_at hl 2 rfl) ?_
  refine lv_aload_n hx hb dL_law_906 rfl (lv_at hl 0 rfl) ?_
  refine lv_iload hx hb dL_law_907 (lv_at hl 4 rfl) ?_
  refine lv_iconst (v := 1) hx hb dL_law_909 (by decide) ?_
  refine lv_iadd hx hb dL_law_910 ?_
  refine va_sld hx hb hX hbl hbA hS hin1 dL_law_911 ?_
  refine lv_aload_n hx hb dL_law_912 rfl (lv_at hl 0 rfl) ?_
  refine lv_iload hx hb dL_law_913 (lv_at hl 4 rfl) ?_
  refine lv_iconst (v := 2) hx hb dL_law_915 (by decide) ?_
  refine lv_iadd hx hb dL_law_916 ?_
  refine va_sld hx hb hX hbl hbA hS hin2 dL_law_917 ?_
  refine lm_I CX hz0 hlo hL hW hS (As := [.int (xs (x4 + 1 : Int32).toNatClampNeg), .int (xs (x4 + 2 : Int32).toNatClampNeg)]) (rest := [.int o1.1]) (MM_order l x.1 g N (xs (x4 + 1 : Int32).toNatClampNeg) (xs (x4 + 2 : Int32).toNatClampNeg) S q918 hq918) cv_L_114 ⟨by decide, by decide⟩ rfl rfl (Nat.le_of_ble_eq_true rfl) hl.1 dL_law_918 hcs (fun H locs hW hS => ?_)
  refine lv_icmp_eq (tgt := 1056) hx hb dL_law_921 (by decide) (fun hc => ?_) (fun hc => absurd (eq_of_beq heq) hc)
  exact hk _ _ _ _ _ ls hf hL hW hS (lv_sub hl [0, 1, 2, 3, 4] rfl)
set_option maxRecDepth 100000 in
set_option maxHeartbeats 4000000 in
theorem wS_closed {p : Program} {l : Launch} {e : Env} {s : State} {m : MethodId} {below : List Frame} {meth : Method} {c : Code} {x : Xc} {g : Gm} {K0 : Ka} {b L : Nat} {xs : Nat → Int32} {N a1 a3 : Nat} {x4 : Int32} {o : Ka × Cm × Ms} {Q : State → Prop} (C : CL p l s m meth c x K0 b L xs) (hin : LIN x4 L) (hro : kz o.1 - kz K0 ≤ room_1.cells ∧ ku o.1 - ku K0 ≤ room_1.slots) (hk : ∀ (K : Ka) (M : Cm) (S : Ms) (H : Heap) (locs : List Loc) (ls : Array Slot), some (K, M, S) = some o → KLe K0 K → LWd x g K M S H → va_S (AC K0) s.heap H locs → lv_has ls 7 [(0, .ref b), (1, .ref a1), (2, .ref g.1), (3, .ref a3), (4, .int x4)] → W p l e room_1 s m #[Value.ref b] below meth c H locs (kz K - kz K0) (ku K - ku K0) Q (F0 m 1056 ls [])) (K : Ka) (M : Cm) (S : Ms) (H : Heap) (locs : List Loc) (ls : Array Slot) (hcs : kz K - kz K0 ≤ room_1.cells ∧ ku K - ku K0 ≤ room_1.slots) (hf : fS_closed N a1 (xs (x4 + 1 : Int32).toNatClampNeg) (xs (x4 + 2 : Int32).toNatClampNeg) K M S = some o) (hL : KLe K0 K) (hW : LWd x g K M S H) (hS : va_S (AC K0) s.heap H locs) (hl : lv_has ls 7 [(0, .ref b), (1, .ref a1), (2, .ref g.1), (3, .ref a3), (4, .int x4)]) : W p l e room_1 s m #[Value.ref b] below meth c H locs (kz K - kz K0) (ku K - ku K0) Q (F0 m 926 ls []) := by
  obtain ⟨CX, hlt, hz0, hlo, hX, hbl, hbA⟩ := C
  obtain ⟨hx, hb, hml, hown, hts, hE, hB, hr, hlk⟩ := id CX
  obtain ⟨hin1, hin2, hin3, hin4, hin5, hin6⟩ := hin
  unfold fS_closed at hf
  obtain ⟨hkx, hf⟩ := gd_some hf
  obtain ⟨o1, ho1, hf⟩ := bnd_some hf
  obtain ⟨q955, hq955, hf⟩ := bnd_some hf
  obtain ⟨heq, hf⟩ := gd_some hf
  refine lv_aload_n hx hb dL_law_926 rfl (lv_at hl 1 rfl) ?_
  refine lv_aload_n hx hb dL_law_927 rfl (lv_at hl 0 rfl) ?_
  refine lv_iload hx hb dL_law_928 (lv_at hl 4 rfl) ?_
  refine lv_iconst (v := 1) hx hb dL_law_930 (by decide) ?_
  refine lv_iadd hx hb dL_law_931 ?_
  refine va_sld hx hb hX hbl hbA hS hin1 dL_law_932 ?_
  refine lv_aload_n hx hb dL_law_933 rfl (lv_at hl 0 rfl) ?_
  refine lv_iload hx hb dL_law_934 (lv_at hl 4 rfl) ?_
  refine lv_iconst (v := 2) hx hb dL_law_936 (by decide) ?_
  refine lv_iadd hx hb dL_law_937 ?_
  refine va_sld hx hb hX hbl hbA hS hin2 dL_law_938 ?_
  refine lc_I CX hL hW hS (As := [.int (xs (x4 + 1 : Int32).toNatClampNeg), .int (xs (x4 + 2 : Int32).toNatClampNeg)]) (rest := []) hkx (MC_X8_closed l x N K a1 (xs (x4 + 1 : Int32).toNatClampNeg) (xs (x4 + 2 : Int32).toNatClampNeg) M o1 ho1) cv_L_115 ⟨by decide, by decide⟩ rfl rfl (Nat.le_of_ble_eq_true rfl) hl.1 dL_law_939 hcs (fun H locs hW hS => ?_)
  refine lv_aload_n hx hb dL_law_942 rfl (lv_at hl 2 rfl) ?_
  refine lv_aload_n hx hb dL_law_943 rfl (lv_at hl 0 rfl) ?_
  refine lv_iload hx hb dL_law_944 (lv_at hl 4 rfl) ?_
  refine lv_iconst (v := 1) hx hb dL_law_946 (by decide) ?_
  refine lv_iadd hx hb dL_law_947 ?_
  refine va_sld hx hb hX hbl hbA hS hin1 dL_law_948 ?_
  refine lv_aload_n hx hb dL_law_949 rfl (lv_at hl 0 rfl) ?_
  refine lv_iload hx hb dL_law_950 (lv_at hl 4 rfl) ?_
  refine lv_iconst (v := 2) hx hb dL_law_952 (by decide) ?_
  refine lv_iadd hx hb dL_law_953 ?_
  refine va_sld hx hb hX hbl hbA hS hin2 dL_law_954 ?_
  refine lm_I CX hz0 hlo hL hW hS (As := [.int (xs (x4 + 1 : Int32).toNatClampNeg), .int (xs (x4 + 2 : Int32).toNatClampNeg)]) (rest := [.int o1.1]) (MM_closed l x.1 g N (xs (x4 + 1 : Int32).toNatClampNeg) (xs (x4 + 2 : Int32).toNatClampNeg) S q955 hq955) cv_L_118 ⟨by decide, by decide⟩ rfl rfl (Nat.le_of_ble_eq_true rfl) hl.1 dL_law_955 hcs (fun H locs hW hS => ?_)
  refine lv_icmp_eq (tgt := 1056) hx hb dL_law_958 (by decide) (fun hc => ?_) (fun hc => absurd (eq_of_beq heq) hc)
  exact hk _ _ _ _ _ ls hf hL hW hS (lv_sub hl [0, 1, 2, 3, 4] rfl)
set_option maxRecDepth 100000 in
set_option maxHeartbeats 4000000 in
theorem wS_device {p : Program} {l : Launch} {e : Env} {s : State} {m : MethodId} {below : List Frame} {meth : Method} {c : Code} {x : Xc} {g : Gm} {K0 : Ka} {b L : Nat} {xs : Nat → Int32} {N a1 a3 : Nat} {x4 : Int32} {o : Ka × Cm × Ms} {Q : State → Prop} (C : CL p l s m meth c x K0 b L xs) (hin : LIN x4 L) (hro : kz o.1 - kz K0 ≤ room_1.cells ∧ ku o.1 - ku K0 ≤ room_1.slots) (hk : ∀ (K : Ka) (M : Cm) (S : Ms) (H : Heap) (locs : List Loc) (ls : Array Slot), some (K, M, S) = some o → KLe K0 K → LWd x g K M S H → va_S (AC K0) s.heap H locs → lv_has ls 7 [(0, .ref b), (1, .ref a1), (2, .ref g.1), (3, .ref a3), (4, .int x4)] → W p l e room_1 s m #[Value.ref b] below meth c H locs (kz K - kz K0) (ku K - ku K0) Q (F0 m 1056 ls [])) (K : Ka) (M : Cm) (S : Ms) (H : Heap) (locs : List Loc) (ls : Array Slot) (hcs : kz K - kz K0 ≤ room_1.cells ∧ ku K - ku K0 ≤ room_1.slots) (hf : fS_device N a1 a3 (xs (x4 + 1 : Int32).toNatClampNeg) (xs (x4 + 2 : Int32).toNatClampNeg) K M S = some o) (hL : KLe K0 K) (hW : LWd x g K M S H) (hS : va_S (AC K0) s.heap H locs) (hl : lv_has ls 7 [(0, .ref b), (1, .ref a1), (2, .ref g.1), (3, .ref a3), (4, .int x4)]) : W p l e room_1 s m #[Value.ref b] below meth c H locs (kz K - kz K0) (ku K - ku K0) Q (F0 m 963 ls []) := by
  obtain ⟨CX, hlt, hz0, hlo, hX, hbl, hbA⟩ := C
  obtain ⟨hx, hb, hml, hown, hts, hE, hB, hr, hlk⟩ := id CX
  obtain ⟨hin1, hin2, hin3, hin4, hin5, hin6⟩ := hin
  unfold fS_device at hf
  obtain ⟨o1, ho1, hf⟩ := bnd_some hf
  have hq1 := mfL_device ho1
  obtain ⟨q995, hq995, hf⟩ := bnd_some hf
  obtain ⟨q1001, hq1001, hf⟩ := bnd_some hf
  obtain ⟨heq, hf⟩ := gd_some hf
  obtain ⟨hout, hf⟩ := gd_some hf
  have hcs1 : kz o1.2.1 - kz K0 ≤ room_1.cells ∧ ku o1.2.1 - ku K0 ≤ room_1.slots := by cases hf; exact hro
  refine lv_aload_n hx hb dL_law_963 rfl (lv_at hl 1 rfl) ?_
  refine lv_aload_n hx hb dL_law_964 rfl (lv_at hl 0 rfl) ?_
  refine lv_iload hx hb dL_law_965 (lv_at hl 4 rfl) ?_
  refine lv_iconst (v := 1) hx hb dL_law_967 (by decide) ?_
  refine lv_iadd hx hb dL_law_968 ?_
  refine va_sld hx hb hX hbl hbA hS hin1 dL_law_969 ?_
  refine lv_aload_n hx hb dL_law_970 rfl (lv_at hl 0 rfl) ?_
  refine lv_iload hx hb dL_law_971 (lv_at hl 4 rfl) ?_
  refine lv_iconst (v := 2) hx hb dL_law_973 (by decide) ?_
  refine lv_iadd hx hb dL_law_974 ?_
  refine va_sld hx hb hX hbl hbA hS hin2 dL_law_975 ?_
  refine lv_aload_n hx hb dL_law_976 rfl (lv_at hl 3 rfl) ?_
  refine ls_I CX hL hW hS (As := [.ref a1, .int (xs (x4 + 1 : Int32).toNatClampNeg), .int (xs (x4 + 2 : Int32).toNatClampNeg), .ref a3]) (rest := []) (ML_device l x hlt N a1 (xs (x4 + 1 : Int32).toNatClampNeg) (xs (x4 + 2 : Int32).toNatClampNeg) a3 K M o1 ho1) cg_L_119 ⟨by decide, by decide⟩ rfl rfl (Nat.le_of_ble_eq_true rfl) hl.1 hq1 dL_law_977 hcs1 (fun H locs hW hS => ?_)
  refine lv_istore (lv' := [(5, .int o1.1), (0, .ref b), (1, .ref a1), (2, .ref g.1), (3, .ref a3), (4, .int x4)]) hx hb dL_law_980 hl (by decide) rfl (fun ls hl => ?_)
  refine lv_aload_n hx hb dL_law_982 rfl (lv_at hl 3 rfl) ?_
  refine lv_aload_n hx hb dL_law_983 rfl (lv_at hl 1 rfl) ?_
  refine lv_iload hx hb dL_law_984 (lv_at hl 5 rfl) ?_
  refine lv_iconst (v := 1) hx hb dL_law_986 (by decide) ?_
  refine lv_iadd hx hb dL_law_987 ?_
  refine va_sld hx hb hX hbl hbA hS hin1 dL_law_988 ?_
  refine lv_aload_n hx hb dL_law_989 rfl (lv_at hl 1 rfl) ?_
  refine lv_iload hx hb dL_law_990 (lv_at hl 5 rfl) ?_
  refine lv_iconst (v := 2) hx hb dL_law_992 (by decide) ?_
  refine lv_iadd hx hb dL_law_993 ?_
  refine va_sld hx hb hX hbl hbA hS hin2 dL_law_994 ?_
  refine lm_I CX hz0 hlo (hL.tr hq1) hW hS (As := [.int (xs (x4 + 1 : Int32).toNatClampNeg), .int (xs (x4 + 2 : Int32).toNatClampNeg)]) (rest := []) (MM_device l x.1 g N (xs (x4 + 1 : Int32).toNatClampNeg) (xs (x4 + 2 : Int32).toNatClampNeg) S q995 hq995) cv_L_121 ⟨by decide, by decide⟩ rfl rfl (Nat.le_of_ble_eq_true rfl) hl.1 dL_law_995 hcs1 (fun H locs hW hS => ?_)
  refine lv_istore (lv' := [(6, .int q995.1), (5, .int o1.1), (0, .ref b), (1, .ref a1), (2, .ref g.1), (3, .ref a3), (4, .int x4)]) hx hb dL_law_998 hl (by decide) rfl (fun ls hl => ?_)
  refine lv_aload_n hx hb dL_law_1000 rfl (lv_at hl 4 rfl) ?_
  refine lm_I CX hz0 hlo (hL.tr hq1) hW hS (As := []) (rest := []) (MM_thrown l x.1 g N  q995.2 q1001 hq1001) cv_L_85 ⟨by decide, by decide⟩ rfl rfl (Nat.le_of_ble_eq_true rfl) hl.1 dL_law_1001 hcs1 (fun H locs hW hS => ?_)
  refine lv_iload hx hb dL_law_1004 (lv_at hl 1 rfl) ?_
  refine lv_icmp_eq (tgt := 1011) hx hb dL_law_1006 (by decide) (fun hc => ?_) (fun hc => absurd (eq_of_beq heq) hc)
  refine lv_iload hx hb dL_law_1011 (lv_at hl 1 rfl) ?_
  refine lv_if_ne (tgt := 1028) hx hb dL_law_1013 (by decide) (fun hc => ?_) (fun hc => ?_)
  · refine lv_goto (tgt := 1056) hx hb dL_law_1028 (by decide) ?_
    exact hk _ _ _ _ _ ls hf (hL.tr hq1) hW hS (lv_sub hl [2, 3, 4, 5, 6] rfl)
  · have hc0 : o1.1 = 0 := hc
    obtain ⟨hk3, hi, hcmp⟩ := lw_out hout hc0
    refine lv_aload_n hx hb dL_law_1016 rfl (lv_at hl 5 rfl) ?_
    refine lv_iconst (v := 0) hx hb dL_law_1017 (by decide) ?_
    refine cr_lald CX hW.1 hk3 hi dL_law_1018 ?_
    refine lv_iload hx hb dL_law_1019 (lv_at hl 0 rfl) ?_
    refine lv_i2l (v := (q995.1 : Int32).toInt64) hx hb dL_law_1021 rfl ?_
    refine W.lcmp hx hb dL_law_1022 ?_
    refine lv_if_eq (tgt := 1028) hx hb dL_law_1023 (by decide) (fun hc => ?_) (fun hc => absurd hcmp hc)
    refine lv_goto (tgt := 1056) hx hb dL_law_1028 (by decide) ?_
    exact hk _ _ _ _ _ ls hf (hL.tr hq1) hW hS (lv_sub hl [2, 3, 4, 5, 6] rfl)
set_option maxRecDepth 100000 in
set_option maxHeartbeats 4000000 in
theorem wS_count {p : Program} {l : Launch} {e : Env} {s : State} {m : MethodId} {below : List Frame} {meth : Method} {c : Code} {x : Xc} {g : Gm} {K0 : Ka} {b L : Nat} {xs : Nat → Int32} {N a1 a3 : Nat} {x4 : Int32} {o : Ka × Cm × Ms} {Q : State → Prop} (C : CL p l s m meth c x K0 b L xs) (hin : LIN x4 L) (hro : kz o.1 - kz K0 ≤ room_1.cells ∧ ku o.1 - ku K0 ≤ room_1.slots) (hk : ∀ (K : Ka) (M : Cm) (S : Ms) (H : Heap) (locs : List Loc) (ls : Array Slot), some (K, M, S) = some o → KLe K0 K → LWd x g K M S H → va_S (AC K0) s.heap H locs → lv_has ls 7 [(0, .ref b), (1, .ref a1), (2, .ref g.1), (3, .ref a3), (4, .int x4)] → W p l e room_1 s m #[Value.ref b] below meth c H locs (kz K - kz K0) (ku K - ku K0) Q (F0 m 1056 ls [])) (K : Ka) (M : Cm) (S : Ms) (H : Heap) (locs : List Loc) (ls : Array Slot) (hcs : kz K - kz K0 ≤ room_1.cells ∧ ku K - ku K0 ≤ room_1.slots) (hf : fS_count N a1 (xs (x4 + 1 : Int32).toNatClampNeg) K M S = some o) (hL : KLe K0 K) (hW : LWd x g K M S H) (hS : va_S (AC K0) s.heap H locs) (hl : lv_has ls 7 [(0, .ref b), (1, .ref a1), (2, .ref g.1), (3, .ref a3), (4, .int x4)]) : W p l e room_1 s m #[Value.ref b] below meth c H locs (kz K - kz K0) (ku K - ku K0) Q (F0 m 1031 ls []) := by
  obtain ⟨CX, hlt, hz0, hlo, hX, hbl, hbA⟩ := C
  obtain ⟨hx, hb, hml, hown, hts, hE, hB, hr, hlk⟩ := id CX
  obtain ⟨hin1, hin2, hin3, hin4, hin5, hin6⟩ := hin
  unfold fS_count at hf
  obtain ⟨hkx, hf⟩ := gd_some hf
  obtain ⟨o1, ho1, hf⟩ := bnd_some hf
  obtain ⟨q1048, hq1048, hf⟩ := bnd_some hf
  obtain ⟨heq, hf⟩ := gd_some hf
  refine lv_aload_n hx hb dL_law_1031 rfl (lv_at hl 1 rfl) ?_
  refine lv_aload_n hx hb dL_law_1032 rfl (lv_at hl 0 rfl) ?_
  refine lv_iload hx hb dL_law_1033 (lv_at hl 4 rfl) ?_
  refine lv_iconst (v := 1) hx hb dL_law_1035 (by decide) ?_
  refine lv_iadd hx hb dL_law_1036 ?_
  refine va_sld hx hb hX hbl hbA hS hin1 dL_law_1037 ?_
  refine lc_I CX hL hW hS (As := [.int (xs (x4 + 1 : Int32).toNatClampNeg)]) (rest := []) hkx (MC_X8_count l x N K a1 (xs (x4 + 1 : Int32).toNatClampNeg) M o1 ho1) cv_L_122 ⟨by decide, by decide⟩ rfl rfl (Nat.le_of_ble_eq_true rfl) hl.1 dL_law_1038 hcs (fun H locs hW hS => ?_)
  refine lv_aload_n hx hb dL_law_1041 rfl (lv_at hl 2 rfl) ?_
  refine lv_aload_n hx hb dL_law_1042 rfl (lv_at hl 0 rfl) ?_
  refine lv_iload hx hb dL_law_1043 (lv_at hl 4 rfl) ?_
  refine lv_iconst (v := 1) hx hb dL_law_1045 (by decide) ?_
  refine lv_iadd hx hb dL_law_1046 ?_
  refine va_sld hx hb hX hbl hbA hS hin1 dL_law_1047 ?_
  refine lm_I CX hz0 hlo hL hW hS (As := [.int (xs (x4 + 1 : Int32).toNatClampNeg)]) (rest := [.int o1.1]) (MM_count l x.1 g N (xs (x4 + 1 : Int32).toNatClampNeg) S q1048 hq1048) cv_L_125 ⟨by decide, by decide⟩ rfl rfl (Nat.le_of_ble_eq_true rfl) hl.1 dL_law_1048 hcs (fun H locs hW hS => ?_)
  refine lv_icmp_eq (tgt := 1056) hx hb dL_law_1051 (by decide) (fun hc => ?_) (fun hc => absurd (eq_of_beq heq) hc)
  exact hk _ _ _ _ _ ls hf hL hW hS (lv_sub hl [0, 1, 2, 3, 4] rfl)
