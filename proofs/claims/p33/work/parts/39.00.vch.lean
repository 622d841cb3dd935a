/-! WHAT EACH METHOD COMES TO, block by block, printed by wip/p34/vc.py -/
abbrev oI (x : Int32) : Option cV := some (.inl x)
abbrev oL (x : Int64) : Option cV := some (.inr (.inl x))
abbrev oR (k : Nat) : Option cV := some (.inr (.inr (some k)))
theorem alen_10 : Int32.ofNat 10 = (10 : Int32) := by decide
theorem alen_1320 : Int32.ofNat 1320 = (1320 : Int32) := by decide
theorem alen_2000 : Int32.ofNat 2000 = (2000 : Int32) := by decide
theorem alen_406 : Int32.ofNat 406 = (406 : Int32) := by decide
theorem alen_7 : Int32.ofNat 7 = (7 : Int32) := by decide
theorem alen_8 : Int32.ofNat 8 = (8 : Int32) := by decide
theorem alen_9 : Int32.ofNat 9 = (9 : Int32) := by decide
theorem alen_99 : Int32.ofNat 99 = (99 : Int32) := by decide
theorem bipush_m2 : (Int8.ofInt (-2)).toInt32 = (-2 : Int32) := by decide
theorem bipush_10 : (Int8.ofInt (10)).toInt32 = (10 : Int32) := by decide
theorem bipush_100 : (Int8.ofInt (100)).toInt32 = (100 : Int32) := by decide
theorem bipush_11 : (Int8.ofInt (11)).toInt32 = (11 : Int32) := by decide
theorem bipush_12 : (Int8.ofInt (12)).toInt32 = (12 : Int32) := by decide
theorem bipush_122 : (Int8.ofInt (122)).toInt32 = (122 : Int32) := by decide
theorem bipush_13 : (Int8.ofInt (13)).toInt32 = (13 : Int32) := by decide
theorem bipush_14 : (Int8.ofInt (14)).toInt32 = (14 : Int32) := by decide
theorem bipush_15 : (Int8.ofInt (15)).toInt32 = (15 : Int32) := by decide
theorem bipush_16 : (Int8.ofInt (16)).toInt32 = (16 : Int32) := by decide
theorem bipush_19 : (Int8.ofInt (19)).toInt32 = (19 : Int32) := by decide
theorem bipush_20 : (Int8.ofInt (20)).toInt32 = (20 : Int32) := by decide
theorem bipush_21 : (Int8.ofInt (21)).toInt32 = (21 : Int32) := by decide
theorem bipush_22 : (Int8.ofInt (22)).toInt32 = (22 : Int32) := by decide
theorem bipush_23 : (Int8.ofInt (23)).toInt32 = (23 : Int32) := by decide
theorem bipush_24 : (Int8.ofInt (24)).toInt32 = (24 : Int32) := by decide
theorem bipush_25 : (Int8.ofInt (25)).toInt32 = (25 : Int32) := by decide
theorem bipush_26 : (Int8.ofInt (26)).toInt32 = (26 : Int32) := by decide
theorem bipush_30 : (Int8.ofInt (30)).toInt32 = (30 : Int32) := by decide
theorem bipush_31 : (Int8.ofInt (31)).toInt32 = (31 : Int32) := by decide
theorem bipush_32 : (Int8.ofInt (32)).toInt32 = (32 : Int32) := by decide
theorem bipush_33 : (Int8.ofInt (33)).toInt32 = (33 : Int32) := by decide
theorem bipush_40 : (Int8.ofInt (40)).toInt32 = (40 : Int32) := by decide
theorem bipush_41 : (Int8.ofInt (41)).toInt32 = (41 : Int32) := by decide
theorem bipush_42 : (Int8.ofInt (42)).toInt32 = (42 : Int32) := by decide
theorem bipush_43 : (Int8.ofInt (43)).toInt32 = (43 : Int32) := by decide
theorem bipush_45 : (Int8.ofInt (45)).toInt32 = (45 : Int32) := by decide
theorem bipush_47 : (Int8.ofInt (47)).toInt32 = (47 : Int32) := by decide
theorem bipush_48 : (Int8.ofInt (48)).toInt32 = (48 : Int32) := by decide
theorem bipush_55 : (Int8.ofInt (55)).toInt32 = (55 : Int32) := by decide
theorem bipush_56 : (Int8.ofInt (56)).toInt32 = (56 : Int32) := by decide
theorem bipush_57 : (Int8.ofInt (57)).toInt32 = (57 : Int32) := by decide
theorem bipush_58 : (Int8.ofInt (58)).toInt32 = (58 : Int32) := by decide
theorem bipush_59 : (Int8.ofInt (59)).toInt32 = (59 : Int32) := by decide
theorem bipush_6 : (Int8.ofInt (6)).toInt32 = (6 : Int32) := by decide
theorem bipush_60 : (Int8.ofInt (60)).toInt32 = (60 : Int32) := by decide
theorem bipush_61 : (Int8.ofInt (61)).toInt32 = (61 : Int32) := by decide
theorem bipush_63 : (Int8.ofInt (63)).toInt32 = (63 : Int32) := by decide
theorem bipush_7 : (Int8.ofInt (7)).toInt32 = (7 : Int32) := by decide
theorem bipush_72 : (Int8.ofInt (72)).toInt32 = (72 : Int32) := by decide
theorem bipush_8 : (Int8.ofInt (8)).toInt32 = (8 : Int32) := by decide
theorem bipush_9 : (Int8.ofInt (9)).toInt32 = (9 : Int32) := by decide
theorem bipush_97 : (Int8.ofInt (97)).toInt32 = (97 : Int32) := by decide
theorem bipush_99 : (Int8.ofInt (99)).toInt32 = (99 : Int32) := by decide
theorem iconst_m1 : Int32.ofInt (-1) = (-1 : Int32) := by decide
theorem iconst_m8 : Int32.ofInt (-8) = (-8 : Int32) := by decide
theorem iconst_0 : Int32.ofInt (0) = (0 : Int32) := by decide
theorem iconst_1 : Int32.ofInt (1) = (1 : Int32) := by decide
theorem iconst_2 : Int32.ofInt (2) = (2 : Int32) := by decide
theorem iconst_3 : Int32.ofInt (3) = (3 : Int32) := by decide
theorem iconst_4 : Int32.ofInt (4) = (4 : Int32) := by decide
theorem iconst_5 : Int32.ofInt (5) = (5 : Int32) := by decide
theorem lconst_0 : Int64.ofNat ((0 : Fin 2) : Nat) = (0 : Int64) := by decide
theorem ldc_1103515245 : Int32.ofNat 1103515245 = (1103515245 : Int32) := by decide
theorem ldc_1431655765 : Int32.ofNat 1431655765 = (1431655765 : Int32) := by decide
theorem ldc_2147483647 : Int32.ofNat 2147483647 = (2147483647 : Int32) := by decide
theorem ldc_252645135 : Int32.ofNat 252645135 = (252645135 : Int32) := by decide
theorem ldc_858993459 : Int32.ofNat 858993459 = (858993459 : Int32) := by decide
theorem ldc_99999 : Int32.ofNat 99999 = (99999 : Int32) := by decide
theorem ldc_999999 : Int32.ofNat 999999 = (999999 : Int32) := by decide
theorem ldc2_10 : Int64.ofNat 10 = (10 : Int64) := by decide
theorem ldc2_27 : Int64.ofNat 27 = (27 : Int64) := by decide
theorem sipush_m1000 : (Int16.ofInt (-1000)).toInt32 = (-1000 : Int32) := by decide
theorem sipush_m2000 : (Int16.ofInt (-2000)).toInt32 = (-2000 : Int32) := by decide
theorem sipush_12345 : (Int16.ofInt (12345)).toInt32 = (12345 : Int32) := by decide
theorem sipush_129 : (Int16.ofInt (129)).toInt32 = (129 : Int32) := by decide
theorem sipush_130 : (Int16.ofInt (130)).toInt32 = (130 : Int32) := by decide
theorem sipush_200 : (Int16.ofInt (200)).toInt32 = (200 : Int32) := by decide
theorem sipush_2000 : (Int16.ofInt (2000)).toInt32 = (2000 : Int32) := by decide
theorem sipush_201 : (Int16.ofInt (201)).toInt32 = (201 : Int32) := by decide
theorem sipush_2262 : (Int16.ofInt (2262)).toInt32 = (2262 : Int32) := by decide
theorem sipush_255 : (Int16.ofInt (255)).toInt32 = (255 : Int32) := by decide
theorem sipush_400 : (Int16.ofInt (400)).toInt32 = (400 : Int32) := by decide
theorem sipush_420 : (Int16.ofInt (420)).toInt32 = (420 : Int32) := by decide
theorem sipush_999 : (Int16.ofInt (999)).toInt32 = (999 : Int32) := by decide
theorem sipush_9999 : (Int16.ofInt (9999)).toInt32 = (9999 : Int32) := by decide
set_option maxRecDepth 20000 in
theorem hm1 : tMs[1]? = some tM1 := rfl
set_option maxRecDepth 20000 in
theorem hm2 : tMs[2]? = some tM2 := rfl
set_option maxRecDepth 20000 in
theorem hm3 : tMs[3]? = some tM3 := rfl
set_option maxRecDepth 20000 in
theorem hm4 : tMs[4]? = some tM4 := rfl
set_option maxRecDepth 20000 in
theorem hm5 : tMs[5]? = some tM5 := rfl
set_option maxRecDepth 20000 in
theorem hm6 : tMs[6]? = some tM6 := rfl
set_option maxRecDepth 20000 in
theorem hm7 : tMs[7]? = some tM7 := rfl
set_option maxRecDepth 20000 in
theorem hm9 : tMs[9]? = some tM9 := rfl
set_option maxRecDepth 20000 in
theorem hm10 : tMs[10]? = some tM10 := rfl
set_option maxRecDepth 20000 in
theorem hm11 : tMs[11]? = some tM11 := rfl
set_option maxRecDepth 20000 in
theorem hm12 : tMs[12]? = some tM12 := rfl
set_option maxRecDepth 20000 in
theorem hm13 : tMs[13]? = some tM13 := rfl
set_option maxRecDepth 20000 in
theorem hm14 : tMs[14]? = some tM14 := rfl
set_option maxRecDepth 20000 in
theorem hm15 : tMs[15]? = some tM15 := rfl
set_option maxRecDepth 20000 in
theorem hm16 : tMs[16]? = some tM16 := rfl
set_option maxRecDepth 20000 in
theorem hm17 : tMs[17]? = some tM17 := rfl
set_option maxRecDepth 20000 in
theorem hm18 : tMs[18]? = some tM18 := rfl
set_option maxRecDepth 20000 in
theorem hm19 : tMs[19]? = some tM19 := rfl
set_option maxRecDepth 20000 in
theorem hm20 : tMs[20]? = some tM20 := rfl
set_option maxRecDepth 20000 in
theorem hm21 : tMs[21]? = some tM21 := rfl
set_option maxRecDepth 20000 in
theorem hm22 : tMs[22]? = some tM22 := rfl
set_option maxRecDepth 20000 in
theorem hm23 : tMs[23]? = some tM23 := rfl
set_option maxRecDepth 20000 in
theorem hm24 : tMs[24]? = some tM24 := rfl
set_option maxRecDepth 20000 in
theorem hm25 : tMs[25]? = some tM25 := rfl
set_option maxRecDepth 20000 in
theorem hm26 : tMs[26]? = some tM26 := rfl
set_option maxRecDepth 20000 in
theorem hm27 : tMs[27]? = some tM27 := rfl
set_option maxRecDepth 20000 in
theorem hm28 : tMs[28]? = some tM28 := rfl
set_option maxRecDepth 20000 in
theorem hm29 : tMs[29]? = some tM29 := rfl
set_option maxRecDepth 20000 in
theorem hm30 : tMs[30]? = some tM30 := rfl
set_option maxRecDepth 20000 in
theorem hm31 : tMs[31]? = some tM31 := rfl
set_option maxRecDepth 20000 in
theorem hm32 : tMs[32]? = some tM32 := rfl
set_option maxRecDepth 20000 in
theorem hm33 : tMs[33]? = some tM33 := rfl
set_option maxRecDepth 20000 in
theorem hm34 : tMs[34]? = some tM34 := rfl
set_option maxRecDepth 20000 in
theorem hm35 : tMs[35]? = some tM35 := rfl
set_option maxRecDepth 20000 in
theorem hm36 : tMs[36]? = some tM36 := rfl
set_option maxRecDepth 20000 in
theorem hm37 : tMs[37]? = some tM37 := rfl
set_option maxRecDepth 20000 in
theorem hm38 : tMs[38]? = some tM38 := rfl
set_option maxRecDepth 20000 in
theorem hm39 : tMs[39]? = some tM39 := rfl
set_option maxRecDepth 20000 in
theorem hm40 : tMs[40]? = some tM40 := rfl
set_option maxRecDepth 20000 in
theorem hm41 : tMs[41]? = some tM41 := rfl
set_option maxRecDepth 20000 in
theorem hm42 : tMs[42]? = some tM42 := rfl
set_option maxRecDepth 20000 in
theorem hm43 : tMs[43]? = some tM43 := rfl
set_option maxRecDepth 20000 in
theorem hm44 : tMs[44]? = some tM44 := rfl
set_option maxRecDepth 20000 in
theorem hm45 : tMs[45]? = some tM45 := rfl
set_option maxRecDepth 20000 in
theorem hm46 : tMs[46]? = some tM46 := rfl
set_option maxRecDepth 20000 in
theorem hm47 : tMs[47]? = some tM47 := rfl
set_option maxRecDepth 20000 in
theorem hm48 : tMs[48]? = some tM48 := rfl
set_option maxRecDepth 20000 in
theorem hm49 : tMs[49]? = some tM49 := rfl
set_option maxRecDepth 20000 in
theorem hm50 : tMs[50]? = some tM50 := rfl
set_option maxRecDepth 20000 in
theorem hm51 : tMs[51]? = some tM51 := rfl
set_option maxRecDepth 20000 in
theorem hm52 : tMs[52]? = some tM52 := rfl
set_option maxRecDepth 20000 in
theorem hm53 : tMs[53]? = some tM53 := rfl
set_option maxRecDepth 20000 in
theorem hm54 : tMs[54]? = some tM54 := rfl
set_option maxRecDepth 20000 in
theorem hm55 : tMs[55]? = some tM55 := rfl
set_option maxRecDepth 20000 in
theorem hm56 : tMs[56]? = some tM56 := rfl
set_option maxRecDepth 20000 in
theorem hm57 : tMs[57]? = some tM57 := rfl
set_option maxRecDepth 20000 in
theorem hm58 : tMs[58]? = some tM58 := rfl
set_option maxRecDepth 20000 in
theorem hm59 : tMs[59]? = some tM59 := rfl
set_option maxRecDepth 20000 in
theorem hm60 : tMs[60]? = some tM60 := rfl
set_option maxRecDepth 20000 in
theorem hm61 : tMs[61]? = some tM61 := rfl
set_option maxRecDepth 20000 in
theorem hm62 : tMs[62]? = some tM62 := rfl
set_option maxRecDepth 20000 in
theorem hm63 : tMs[63]? = some tM63 := rfl
set_option maxRecDepth 20000 in
theorem hm64 : tMs[64]? = some tM64 := rfl
set_option maxRecDepth 20000 in
theorem hm65 : tMs[65]? = some tM65 := rfl
set_option maxRecDepth 20000 in
theorem hm66 : tMs[66]? = some tM66 := rfl
set_option maxRecDepth 20000 in
theorem hm67 : tMs[67]? = some tM67 := rfl
set_option maxRecDepth 20000 in
theorem hm68 : tMs[68]? = some tM68 := rfl
set_option maxRecDepth 20000 in
theorem hm69 : tMs[69]? = some tM69 := rfl
set_option maxRecDepth 20000 in
theorem hm70 : tMs[70]? = some tM70 := rfl
set_option maxRecDepth 20000 in
theorem hm71 : tMs[71]? = some tM71 := rfl
set_option maxRecDepth 20000 in
theorem hm72 : tMs[72]? = some tM72 := rfl
set_option maxRecDepth 20000 in
theorem hm73 : tMs[73]? = some tM73 := rfl
set_option maxRecDepth 20000 in
theorem hm74 : tMs[74]? = some tM74 := rfl
set_option maxRecDepth 20000 in
theorem hm75 : tMs[75]? = some tM75 := rfl
set_option maxRecDepth 20000 in
theorem hm76 : tMs[76]? = some tM76 := rfl
set_option maxRecDepth 20000 in
theorem hm77 : tMs[77]? = some tM77 := rfl
set_option maxRecDepth 20000 in
theorem hm78 : tMs[78]? = some tM78 := rfl
set_option maxRecDepth 20000 in
theorem hm79 : tMs[79]? = some tM79 := rfl
set_option maxRecDepth 20000 in
theorem hm80 : tMs[80]? = some tM80 := rfl
set_option maxRecDepth 20000 in
theorem hm81 : tMs[81]? = some tM81 := rfl
set_option maxRecDepth 20000 in
theorem hm82 : tMs[82]? = some tM82 := rfl
set_option maxRecDepth 20000 in
theorem hm83 : tMs[83]? = some tM83 := rfl
set_option maxRecDepth 20000 in
theorem hm84 : tMs[84]? = some tM84 := rfl
set_option maxRecDepth 20000 in
theorem hm85 : tMs[85]? = some tM85 := rfl
set_option maxRecDepth 20000 in
theorem hm86 : tMs[86]? = some tM86 := rfl
set_option maxRecDepth 20000 in
theorem hm87 : tMs[87]? = some tM87 := rfl
set_option maxRecDepth 20000 in
theorem hm88 : tMs[88]? = some tM88 := rfl
set_option maxRecDepth 20000 in
theorem hm89 : tMs[89]? = some tM89 := rfl
set_option maxRecDepth 20000 in
theorem hm90 : tMs[90]? = some tM90 := rfl
set_option maxRecDepth 20000 in
theorem hm91 : tMs[91]? = some tM91 := rfl
set_option maxRecDepth 20000 in
theorem hm92 : tMs[92]? = some tM92 := rfl
set_option maxRecDepth 20000 in
theorem hm93 : tMs[93]? = some tM93 := rfl
set_option maxRecDepth 20000 in
theorem hm94 : tMs[94]? = some tM94 := rfl
set_option maxRecDepth 20000 in
theorem hm95 : tMs[95]? = some tM95 := rfl
set_option maxRecDepth 20000 in
theorem hm96 : tMs[96]? = some tM96 := rfl
set_option maxRecDepth 20000 in
theorem hm97 : tMs[97]? = some tM97 := rfl
set_option maxRecDepth 20000 in
theorem hm98 : tMs[98]? = some tM98 := rfl
set_option maxRecDepth 20000 in
theorem hm99 : tMs[99]? = some tM99 := rfl
set_option maxRecDepth 20000 in
theorem hm100 : tMs[100]? = some tM100 := rfl
set_option maxRecDepth 20000 in
theorem hm101 : tMs[101]? = some tM101 := rfl
set_option maxRecDepth 20000 in
theorem hm102 : tMs[102]? = some tM102 := rfl
set_option maxRecDepth 20000 in
theorem hm103 : tMs[103]? = some tM103 := rfl
set_option maxRecDepth 20000 in
theorem hm104 : tMs[104]? = some tM104 := rfl
set_option maxRecDepth 20000 in
theorem hm105 : tMs[105]? = some tM105 := rfl
set_option maxRecDepth 20000 in
theorem hm106 : tMs[106]? = some tM106 := rfl
set_option maxRecDepth 20000 in
theorem hm107 : tMs[107]? = some tM107 := rfl
set_option maxRecDepth 20000 in
theorem hm108 : tMs[108]? = some tM108 := rfl
set_option maxRecDepth 20000 in
theorem hm109 : tMs[109]? = some tM109 := rfl
set_option maxRecDepth 20000 in
theorem hm110 : tMs[110]? = some tM110 := rfl
set_option maxRecDepth 20000 in
theorem hm111 : tMs[111]? = some tM111 := rfl
set_option maxRecDepth 20000 in
theorem hm112 : tMs[112]? = some tM112 := rfl
set_option maxRecDepth 20000 in
theorem hm113 : tMs[113]? = some tM113 := rfl
set_option maxRecDepth 20000 in
theorem hm115 : tMs[115]? = some tM115 := rfl
set_option maxRecDepth 20000 in
theorem hm116 : tMs[116]? = some tM116 := rfl
set_option maxRecDepth 20000 in
theorem hm117 : tMs[117]? = some tM117 := rfl
set_option maxRecDepth 20000 in
theorem hm118 : tMs[118]? = some tM118 := rfl
set_option maxRecDepth 20000 in
theorem hm119 : tMs[119]? = some tM119 := rfl
set_option maxRecDepth 20000 in
theorem hm120 : tMs[120]? = some tM120 := rfl
set_option maxRecDepth 20000 in
theorem hm121 : tMs[121]? = some tM121 := rfl
set_option maxRecDepth 20000 in
theorem hm122 : tMs[122]? = some tM122 := rfl
set_option maxRecDepth 20000 in
theorem hm123 : tMs[123]? = some tM123 := rfl
set_option maxRecDepth 20000 in
theorem hm124 : tMs[124]? = some tM124 := rfl
set_option maxRecDepth 20000 in
theorem hm125 : tMs[125]? = some tM125 := rfl
set_option maxRecDepth 20000 in
theorem hm126 : tMs[126]? = some tM126 := rfl
set_option maxRecDepth 20000 in
theorem hm127 : tMs[127]? = some tM127 := rfl
set_option maxRecDepth 20000 in
theorem hm128 : tMs[128]? = some tM128 := rfl
set_option maxRecDepth 20000 in
theorem hm129 : tMs[129]? = some tM129 := rfl
set_option maxRecDepth 20000 in
theorem hm130 : tMs[130]? = some tM130 := rfl
set_option maxRecDepth 20000 in
theorem hm131 : tMs[131]? = some tM131 := rfl
set_option maxRecDepth 20000 in
theorem hm132 : tMs[132]? = some tM132 := rfl
set_option maxRecDepth 20000 in
theorem hm133 : tMs[133]? = some tM133 := rfl
set_option maxRecDepth 20000 in
theorem hm134 : tMs[134]? = some tM134 := rfl
set_option maxRecDepth 20000 in
theorem hm135 : tMs[135]? = some tM135 := rfl
set_option maxRecDepth 20000 in
theorem hm136 : tMs[136]? = some tM136 := rfl
set_option maxRecDepth 20000 in
theorem hm137 : tMs[137]? = some tM137 := rfl
set_option maxRecDepth 20000 in
theorem hm139 : tMs[139]? = some tM139 := rfl
set_option maxRecDepth 20000 in
theorem hm140 : tMs[140]? = some tM140 := rfl
set_option maxRecDepth 20000 in
theorem hm141 : tMs[141]? = some tM141 := rfl
set_option maxRecDepth 20000 in
theorem hm142 : tMs[142]? = some tM142 := rfl
set_option maxRecDepth 20000 in
theorem hm143 : tMs[143]? = some tM143 := rfl
set_option maxRecDepth 20000 in
theorem hm144 : tMs[144]? = some tM144 := rfl
set_option maxRecDepth 20000 in
theorem hm145 : tMs[145]? = some tM145 := rfl
set_option maxRecDepth 20000 in
theorem hm146 : tMs[146]? = some tM146 := rfl
set_option maxRecDepth 20000 in
theorem hm147 : tMs[147]? = some tM147 := rfl
set_option maxRecDepth 20000 in
theorem hm148 : tMs[148]? = some tM148 := rfl
set_option maxRecDepth 20000 in
theorem hm149 : tMs[149]? = some tM149 := rfl
set_option maxRecDepth 20000 in
theorem hm150 : tMs[150]? = some tM150 := rfl
set_option maxRecDepth 20000 in
theorem hm151 : tMs[151]? = some tM151 := rfl
set_option maxRecDepth 20000 in
theorem hm152 : tMs[152]? = some tM152 := rfl
set_option maxRecDepth 20000 in
theorem hm154 : tMs[154]? = some tM154 := rfl
set_option maxRecDepth 20000 in
theorem hm155 : tMs[155]? = some tM155 := rfl
set_option maxRecDepth 20000 in
theorem hm156 : tMs[156]? = some tM156 := rfl
set_option maxRecDepth 20000 in
theorem hm157 : tMs[157]? = some tM157 := rfl
set_option maxRecDepth 20000 in
theorem hm158 : tMs[158]? = some tM158 := rfl
set_option maxRecDepth 20000 in
theorem hm159 : tMs[159]? = some tM159 := rfl
set_option maxRecDepth 20000 in
theorem hm160 : tMs[160]? = some tM160 := rfl
set_option maxRecDepth 20000 in
theorem hm161 : tMs[161]? = some tM161 := rfl
set_option maxRecDepth 20000 in
theorem hm162 : tMs[162]? = some tM162 := rfl
set_option maxRecDepth 20000 in
theorem hm163 : tMs[163]? = some tM163 := rfl
set_option maxRecDepth 20000 in
theorem hm164 : tMs[164]? = some tM164 := rfl
set_option maxRecDepth 20000 in
theorem hm165 : tMs[165]? = some tM165 := rfl
set_option maxRecDepth 20000 in
theorem hm166 : tMs[166]? = some tM166 := rfl
set_option maxRecDepth 20000 in
theorem hm167 : tMs[167]? = some tM167 := rfl
set_option maxRecDepth 20000 in
theorem hm169 : tMs[169]? = some tM169 := rfl
set_option maxRecDepth 20000 in
theorem hm170 : tMs[170]? = some tM170 := rfl
set_option maxRecDepth 20000 in
theorem hm171 : tMs[171]? = some tM171 := rfl
set_option maxRecDepth 20000 in
theorem hm172 : tMs[172]? = some tM172 := rfl
set_option maxRecDepth 20000 in
theorem hm173 : tMs[173]? = some tM173 := rfl
set_option maxRecDepth 20000 in
theorem hm174 : tMs[174]? = some tM174 := rfl
set_option maxRecDepth 20000 in
theorem hm176 : tMs[176]? = some tM176 := rfl
set_option maxRecDepth 20000 in
theorem hm177 : tMs[177]? = some tM177 := rfl
set_option maxRecDepth 20000 in
theorem hm178 : tMs[178]? = some tM178 := rfl
set_option maxRecDepth 20000 in
theorem hm179 : tMs[179]? = some tM179 := rfl
set_option maxRecDepth 20000 in
theorem hm180 : tMs[180]? = some tM180 := rfl
set_option maxRecDepth 20000 in
theorem hm181 : tMs[181]? = some tM181 := rfl
set_option maxRecDepth 20000 in
theorem hm182 : tMs[182]? = some tM182 := rfl
set_option maxRecDepth 20000 in
theorem hm183 : tMs[183]? = some tM183 := rfl
set_option maxRecDepth 20000 in
theorem hm185 : tMs[185]? = some tM185 := rfl
set_option maxRecDepth 20000 in
theorem hm186 : tMs[186]? = some tM186 := rfl
set_option maxRecDepth 20000 in
theorem hm187 : tMs[187]? = some tM187 := rfl
set_option maxRecDepth 20000 in
theorem hm188 : tMs[188]? = some tM188 := rfl
set_option maxRecDepth 20000 in
theorem hm189 : tMs[189]? = some tM189 := rfl
set_option maxRecDepth 20000 in
theorem hm190 : tMs[190]? = some tM190 := rfl
set_option maxRecDepth 20000 in
theorem hm191 : tMs[191]? = some tM191 := rfl
set_option maxRecDepth 20000 in
theorem hm192 : tMs[192]? = some tM192 := rfl
set_option maxRecDepth 20000 in
theorem hm193 : tMs[193]? = some tM193 := rfl
set_option maxRecDepth 20000 in
theorem hm194 : tMs[194]? = some tM194 := rfl
set_option maxRecDepth 20000 in
theorem hm195 : tMs[195]? = some tM195 := rfl
set_option maxRecDepth 20000 in
theorem hm196 : tMs[196]? = some tM196 := rfl
set_option maxRecDepth 20000 in
theorem hm197 : tMs[197]? = some tM197 := rfl
set_option maxRecDepth 20000 in
theorem hm198 : tMs[198]? = some tM198 := rfl
set_option maxRecDepth 20000 in
theorem hm199 : tMs[199]? = some tM199 := rfl
set_option maxRecDepth 20000 in
theorem hm201 : tMs[201]? = some tM201 := rfl
set_option maxRecDepth 20000 in
theorem hm202 : tMs[202]? = some tM202 := rfl
set_option maxRecDepth 20000 in
theorem hm203 : tMs[203]? = some tM203 := rfl
set_option maxRecDepth 20000 in
theorem hm204 : tMs[204]? = some tM204 := rfl
set_option maxRecDepth 20000 in
theorem hm205 : tMs[205]? = some tM205 := rfl
set_option maxRecDepth 20000 in
theorem hm206 : tMs[206]? = some tM206 := rfl
set_option maxRecDepth 20000 in
theorem hm208 : tMs[208]? = some tM208 := rfl
set_option maxRecDepth 20000 in
theorem hm209 : tMs[209]? = some tM209 := rfl
set_option maxRecDepth 20000 in
theorem hm210 : tMs[210]? = some tM210 := rfl
set_option maxRecDepth 20000 in
theorem hm211 : tMs[211]? = some tM211 := rfl
set_option maxRecDepth 20000 in
theorem hm212 : tMs[212]? = some tM212 := rfl
set_option maxRecDepth 20000 in
theorem hm213 : tMs[213]? = some tM213 := rfl
set_option maxRecDepth 20000 in
theorem hm215 : tMs[215]? = some tM215 := rfl
set_option maxRecDepth 20000 in
theorem hm216 : tMs[216]? = some tM216 := rfl
set_option maxRecDepth 20000 in
theorem hm217 : tMs[217]? = some tM217 := rfl
set_option maxRecDepth 20000 in
theorem hm218 : tMs[218]? = some tM218 := rfl
set_option maxRecDepth 20000 in
theorem hm219 : tMs[219]? = some tM219 := rfl
set_option maxRecDepth 20000 in
theorem hm220 : tMs[220]? = some tM220 := rfl
set_option maxRecDepth 20000 in
theorem hm221 : tMs[221]? = some tM221 := rfl
set_option maxRecDepth 20000 in
theorem hm222 : tMs[222]? = some tM222 := rfl
set_option maxRecDepth 20000 in
theorem hm223 : tMs[223]? = some tM223 := rfl
set_option maxRecDepth 20000 in
theorem hm224 : tMs[224]? = some tM224 := rfl
set_option maxRecDepth 20000 in
theorem hm225 : tMs[225]? = some tM225 := rfl
set_option maxRecDepth 20000 in
theorem hm226 : tMs[226]? = some tM226 := rfl
set_option maxRecDepth 20000 in
theorem hm227 : tMs[227]? = some tM227 := rfl
set_option maxRecDepth 20000 in
theorem hm228 : tMs[228]? = some tM228 := rfl
set_option maxRecDepth 20000 in
theorem hm229 : tMs[229]? = some tM229 := rfl
set_option maxRecDepth 20000 in
theorem hm231 : tMs[231]? = some tM231 := rfl
set_option maxRecDepth 20000 in
theorem hm232 : tMs[232]? = some tM232 := rfl
set_option maxRecDepth 20000 in
theorem hm233 : tMs[233]? = some tM233 := rfl
set_option maxRecDepth 20000 in
theorem hm234 : tMs[234]? = some tM234 := rfl
set_option maxRecDepth 20000 in
theorem hm235 : tMs[235]? = some tM235 := rfl
set_option maxRecDepth 20000 in
theorem hm236 : tMs[236]? = some tM236 := rfl
set_option maxRecDepth 20000 in
theorem hm238 : tMs[238]? = some tM238 := rfl
set_option maxRecDepth 20000 in
theorem hm239 : tMs[239]? = some tM239 := rfl
set_option maxRecDepth 20000 in
theorem hm240 : tMs[240]? = some tM240 := rfl
set_option maxRecDepth 20000 in
theorem hm241 : tMs[241]? = some tM241 := rfl
set_option maxRecDepth 20000 in
theorem hm243 : tMs[243]? = some tM243 := rfl
set_option maxRecDepth 20000 in
theorem hm244 : tMs[244]? = some tM244 := rfl
set_option maxRecDepth 20000 in
theorem hm245 : tMs[245]? = some tM245 := rfl
set_option maxRecDepth 20000 in
theorem hm246 : tMs[246]? = some tM246 := rfl
set_option maxRecDepth 20000 in
theorem hm247 : tMs[247]? = some tM247 := rfl
set_option maxRecDepth 20000 in
theorem hm248 : tMs[248]? = some tM248 := rfl
set_option maxRecDepth 20000 in
theorem hm249 : tMs[249]? = some tM249 := rfl
set_option maxRecDepth 20000 in
theorem hm250 : tMs[250]? = some tM250 := rfl
set_option maxRecDepth 20000 in
theorem hm251 : tMs[251]? = some tM251 := rfl
set_option maxRecDepth 20000 in
theorem hm252 : tMs[252]? = some tM252 := rfl
set_option maxRecDepth 20000 in
theorem hm253 : tMs[253]? = some tM253 := rfl
set_option maxRecDepth 20000 in
theorem hm254 : tMs[254]? = some tM254 := rfl
set_option maxRecDepth 20000 in
theorem hm255 : tMs[255]? = some tM255 := rfl
set_option maxRecDepth 20000 in
theorem hm256 : tMs[256]? = some tM256 := rfl
set_option maxRecDepth 20000 in
theorem hm257 : tMs[257]? = some tM257 := rfl
set_option maxRecDepth 20000 in
theorem hm258 : tMs[258]? = some tM258 := rfl
set_option maxRecDepth 20000 in
theorem hm259 : tMs[259]? = some tM259 := rfl
set_option maxRecDepth 20000 in
theorem hm260 : tMs[260]? = some tM260 := rfl
set_option maxRecDepth 20000 in
theorem hm261 : tMs[261]? = some tM261 := rfl
set_option maxRecDepth 20000 in
theorem hm262 : tMs[262]? = some tM262 := rfl
set_option maxRecDepth 20000 in
theorem hm263 : tMs[263]? = some tM263 := rfl
set_option maxRecDepth 20000 in
theorem hm264 : tMs[264]? = some tM264 := rfl
set_option maxRecDepth 20000 in
theorem hm265 : tMs[265]? = some tM265 := rfl
set_option maxRecDepth 20000 in
theorem hm266 : tMs[266]? = some tM266 := rfl
set_option maxRecDepth 20000 in
theorem hm267 : tMs[267]? = some tM267 := rfl
set_option maxRecDepth 20000 in
theorem hm268 : tMs[268]? = some tM268 := rfl
set_option maxRecDepth 20000 in
theorem hm269 : tMs[269]? = some tM269 := rfl
set_option maxRecDepth 20000 in
theorem hm270 : tMs[270]? = some tM270 := rfl
set_option maxRecDepth 20000 in
theorem hm271 : tMs[271]? = some tM271 := rfl
set_option maxRecDepth 20000 in
theorem hm272 : tMs[272]? = some tM272 := rfl
set_option maxRecDepth 20000 in
theorem hm273 : tMs[273]? = some tM273 := rfl
set_option maxRecDepth 20000 in
theorem hm274 : tMs[274]? = some tM274 := rfl
set_option maxRecDepth 20000 in
theorem hm275 : tMs[275]? = some tM275 := rfl
set_option maxRecDepth 20000 in
theorem hm276 : tMs[276]? = some tM276 := rfl
set_option maxRecDepth 20000 in
theorem hm277 : tMs[277]? = some tM277 := rfl
set_option maxRecDepth 20000 in
theorem hm278 : tMs[278]? = some tM278 := rfl
set_option maxRecDepth 20000 in
theorem hm279 : tMs[279]? = some tM279 := rfl
set_option maxRecDepth 20000 in
theorem hm280 : tMs[280]? = some tM280 := rfl
set_option maxRecDepth 20000 in
theorem hm281 : tMs[281]? = some tM281 := rfl
set_option maxRecDepth 20000 in
theorem hm282 : tMs[282]? = some tM282 := rfl
set_option maxRecDepth 20000 in
theorem hm283 : tMs[283]? = some tM283 := rfl
set_option maxRecDepth 20000 in
theorem hm284 : tMs[284]? = some tM284 := rfl
set_option maxRecDepth 20000 in
theorem hm285 : tMs[285]? = some tM285 := rfl
set_option maxRecDepth 20000 in
theorem hm286 : tMs[286]? = some tM286 := rfl
abbrev c_X11_putBytes_0 (d : Nat) (x1 : Int32) (m : dM) (Q : dM → Prop) : Prop := Wp d 244 0 [oR 0, oI x1, none] [] m (qV Q)
abbrev j_X11_putBytes_0_3 (d : Nat) (x1 : Int32) (x2 : Int32) (m : dM) (Q : dM → Prop) : Prop := Wp d 244 3 [oR 0, oI x1, oI x2] [] m (qV Q)
abbrev j_X11_putBytes_0_46 (d : Nat) (m : dM) (Q : dM → Prop) : Prop := Wp d 244 46 [none, none, none] [] m (qV Q)
abbrev c_X11_feed_0 (d : Nat) (x1 : Int32) (x2 : Int32) (x3 : Int32) (x4 : Int32) (x5 : Int32) (m : dM) (Q : Int32 → dM → Prop) : Prop := Wp d 243 0 [oR 0, oI x1, oI x2, oI x3, oI x4, oI x5] [] m (qI Q)
abbrev c_X12_put_70 (d : Nat) (x1 : Int32) (m : dM) (Q : dM → Prop) : Prop := Wp d 2 0 [oR 70, oI x1, none] [] m (qV Q)
abbrev j_X12_put_70_3 (d : Nat) (x1 : Int32) (x2 : Int32) (m : dM) (Q : dM → Prop) : Prop := Wp d 2 3 [oR 70, oI x1, oI x2] [] m (qV Q)
abbrev c_X12_feed_70 (d : Nat) (x1 : Int32) (x2 : Int32) (x3 : Int32) (x4 : Int32) (x5 : Int32) (m : dM) (Q : Int32 → dM → Prop) : Prop := Wp d 1 0 [oR 70, oI x1, oI x2, oI x3, oI x4, oI x5] [] m (qI Q)
abbrev c_X11_back_0 (d : Nat) (x1 : Int32) (m : dM) (Q : Int32 → dM → Prop) : Prop := Wp d 245 0 [oR 0, oI x1] [] m (qI Q)
abbrev j_X11_back_0_12 (d : Nat) (m : dM) (Q : Int32 → dM → Prop) : Prop := Wp d 245 12 [none, none] [] m (qI Q)
abbrev c_X12_back_70 (d : Nat) (x1 : Int32) (m : dM) (Q : Int32 → dM → Prop) : Prop := Wp d 3 0 [oR 70, oI x1] [] m (qI Q)
abbrev j_X12_back_70_12 (d : Nat) (m : dM) (Q : Int32 → dM → Prop) : Prop := Wp d 3 12 [none, none] [] m (qI Q)
abbrev c_X8_byteAt_38 (d : Nat) (x1 : Int32) (m : dM) (Q : Int32 → dM → Prop) : Prop := Wp d 221 0 [oR 38, oI x1] [] m (qI Q)
abbrev j_X8_byteAt_38_41 (d : Nat) (m : dM) (Q : Int32 → dM → Prop) : Prop := Wp d 221 41 [none, none] [] m (qI Q)
abbrev c_X8_pastBlanks_38 (d : Nat) (x1 : Int32) (m : dM) (Q : Int32 → dM → Prop) : Prop := Wp d 224 0 [oR 38, oI x1, none, none] [] m (qI Q)
abbrev j_X8_pastBlanks_38_2 (d : Nat) (x2 : Int32) (m : dM) (Q : Int32 → dM → Prop) : Prop := Wp d 224 2 [oR 38, none, oI x2, none] [] m (qI Q)
abbrev j_X8_pastBlanks_38_42 (d : Nat) (x2 : Int32) (m : dM) (Q : Int32 → dM → Prop) : Prop := Wp d 224 42 [oR 38, none, oI x2, none] [] m (qI Q)
abbrev c_X8_isLetterAt_38 (d : Nat) (x1 : Int32) (m : dM) (Q : Int32 → dM → Prop) : Prop := Wp d 222 0 [oR 38, oI x1, none] [] m (qI Q)
abbrev j_X8_isLetterAt_38_22 (d : Nat) (m : dM) (Q : Int32 → dM → Prop) : Prop := Wp d 222 22 [none, none, none] [] m (qI Q)
abbrev c_X8_isDigitAt_38 (d : Nat) (x1 : Int32) (m : dM) (Q : Int32 → dM → Prop) : Prop := Wp d 223 0 [oR 38, oI x1, none] [] m (qI Q)
abbrev j_X8_isDigitAt_38_22 (d : Nat) (m : dM) (Q : Int32 → dM → Prop) : Prop := Wp d 223 22 [none, none, none] [] m (qI Q)
abbrev c_X8_signOf (d : Nat) (x0 : Int32) (m : dM) (Q : Int32 → dM → Prop) : Prop := Wp d 226 0 [oI x0] [] m (qI Q)
abbrev c_X8_scanDigits_38 (d : Nat) (x1 : Int32) (x2 : Int32) (m : dM) (Q : Int32 → dM → Prop) : Prop := Wp d 229 0 [oR 38, oI x1, oI x2, none, none, none] [] m (qI Q)
abbrev j_X8_scanDigits_38_5 (d : Nat) (x1 : Int32) (x2 : Int32) (y3 : Int64) (x5 : Int32) (m : dM) (Q : Int32 → dM → Prop) : Prop := Wp d 229 5 [oR 38, oI x1, oI x2, oL y3, none, oI x5] [] m (qI Q)
abbrev j_X8_scanDigits_38_54 (d : Nat) (x1 : Int32) (x2 : Int32) (y3 : Int64) (x5 : Int32) (m : dM) (Q : Int32 → dM → Prop) : Prop := Wp d 229 54 [oR 38, oI x1, oI x2, oL y3, none, oI x5] [] m (qI Q)
abbrev c_X8_withLetter (d : Nat) (y0 : Int64) (x2 : Int32) (m : dM) (Q : Int64 → dM → Prop) : Prop := Wp d 220 0 [oL y0, none, oI x2] [] m (qL Q)
abbrev c_X8_wordOrName_38 (d : Nat) (y1 : Int64) (m : dM) (Q : Int32 → dM → Prop) : Prop := Wp d 228 0 [oR 38, oL y1, none, none] [] m (qI Q)
abbrev j_X8_wordOrName_38_2 (d : Nat) (y1 : Int64) (x3 : Int32) (m : dM) (Q : Int32 → dM → Prop) : Prop := Wp d 228 2 [oR 38, oL y1, none, oI x3] [] m (qI Q)
abbrev c_X8_scanLetters_38 (d : Nat) (x1 : Int32) (x2 : Int32) (m : dM) (Q : Int32 → dM → Prop) : Prop := Wp d 227 0 [oR 38, oI x1, oI x2, none, none, none] [] m (qI Q)
abbrev j_X8_scanLetters_38_5 (d : Nat) (x1 : Int32) (x2 : Int32) (y3 : Int64) (x5 : Int32) (m : dM) (Q : Int32 → dM → Prop) : Prop := Wp d 227 5 [oR 38, oI x1, oI x2, oL y3, none, oI x5] [] m (qI Q)
abbrev j_X8_scanLetters_38_49 (d : Nat) (x1 : Int32) (x2 : Int32) (y3 : Int64) (x5 : Int32) (m : dM) (Q : Int32 → dM → Prop) : Prop := Wp d 227 49 [oR 38, oI x1, oI x2, oL y3, none, oI x5] [] m (qI Q)
abbrev c_X8_scanOne_38 (d : Nat) (x1 : Int32) (x2 : Int32) (m : dM) (Q : Int32 → dM → Prop) : Prop := Wp d 225 0 [oR 38, oI x1, oI x2] [] m (qI Q)
abbrev c_X8_scan_38_1 (d : Nat) (x2 : Int32) (m : dM) (Q : dM → Prop) : Prop := Wp d 215 0 [oR 38, oR 1, oI x2, none, none] [] m (qV Q)
abbrev j_X8_scan_38_1_20 (d : Nat) (x3 : Int32) (x4 : Int32) (m : dM) (Q : dM → Prop) : Prop := Wp d 215 20 [oR 38, none, none, oI x3, oI x4] [] m (qV Q)
abbrev j_X8_scan_38_1_74 (d : Nat) (m : dM) (Q : dM → Prop) : Prop := Wp d 215 74 [none, none, none, none, none] [] m (qV Q)
abbrev c_X4_begin_29 (d : Nat) (x1 : Int32) (m : dM) (Q : dM → Prop) : Prop := Wp d 178 0 [oR 29, oI x1] [] m (qV Q)
abbrev c_X4_put_29 (d : Nat) (x1 : Int32) (m : dM) (Q : dM → Prop) : Prop := Wp d 179 0 [oR 29, oI x1] [] m (qV Q)
abbrev j_X4_put_29_32 (d : Nat) (m : dM) (Q : dM → Prop) : Prop := Wp d 179 32 [none, none] [] m (qV Q)
abbrev c_X4_endPiece_29 (d : Nat) (x1 : Int32) (m : dM) (Q : dM → Prop) : Prop := Wp d 180 0 [oR 29, oI x1] [] m (qV Q)
abbrev j_X4_endPiece_29_38 (d : Nat) (m : dM) (Q : dM → Prop) : Prop := Wp d 180 38 [none, none] [] m (qV Q)
abbrev c_X4_clear_29 (d : Nat) (m : dM) (Q : dM → Prop) : Prop := Wp d 176 0 [oR 29] [] m (qV Q)
abbrev c_X3_clear_20 (d : Nat) (m : dM) (Q : dM → Prop) : Prop := Wp d 169 0 [oR 20] [] m (qV Q)
abbrev c_X2_kind_43 (d : Nat) (m : dM) (Q : Int32 → dM → Prop) : Prop := Wp d 157 0 [oR 43] [] m (qI Q)
abbrev j_X2_kind_43_32 (d : Nat) (m : dM) (Q : Int32 → dM → Prop) : Prop := Wp d 157 32 [none] [] m (qI Q)
abbrev c_X2_step_43 (d : Nat) (m : dM) (Q : Int32 → dM → Prop) : Prop := Wp d 159 0 [oR 43] [] m (qI Q)
abbrev c_X2_fail_43 (d : Nat) (x1 : Int32) (m : dM) (Q : Int32 → dM → Prop) : Prop := Wp d 158 0 [oR 43, oI x1] [] m (qI Q)
abbrev c_X2_need_43 (d : Nat) (x1 : Int32) (m : dM) (Q : Int32 → dM → Prop) : Prop := Wp d 160 0 [oR 43, oI x1] [] m (qI Q)
abbrev c_X2_checkRow_43 (d : Nat) (x1 : Int32) (x2 : Int32) (m : dM) (Q : dM → Prop) : Prop := Wp d 161 0 [oR 43, oI x1, oI x2, none, none] [] m (qV Q)
abbrev j_X2_checkRow_43_8 (d : Nat) (x1 : Int32) (x2 : Int32) (x3 : Int32) (x4 : Int32) (m : dM) (Q : dM → Prop) : Prop := Wp d 161 8 [oR 43, oI x1, oI x2, oI x3, oI x4] [] m (qV Q)
abbrev j_X2_checkRow_43_31 (d : Nat) (x2 : Int32) (x3 : Int32) (m : dM) (Q : dM → Prop) : Prop := Wp d 161 31 [oR 43, none, oI x2, oI x3, none] [] m (qV Q)
abbrev j_X2_checkRow_43_34 (d : Nat) (x2 : Int32) (x3 : Int32) (x4 : Int32) (m : dM) (Q : dM → Prop) : Prop := Wp d 161 34 [oR 43, none, oI x2, oI x3, oI x4] [] m (qV Q)
abbrev j_X2_checkRow_43_57 (d : Nat) (x3 : Int32) (m : dM) (Q : dM → Prop) : Prop := Wp d 161 57 [oR 43, none, none, oI x3, none] [] m (qV Q)
abbrev j_X2_checkRow_43_68 (d : Nat) (m : dM) (Q : dM → Prop) : Prop := Wp d 161 68 [none, none, none, none, none] [] m (qV Q)
abbrev c_X2_checkCounted_43 (d : Nat) (x1 : Int32) (x2 : Int32) (x3 : Int32) (x4 : Int32) (m : dM) (Q : dM → Prop) : Prop := Wp d 162 0 [oR 43, oI x1, oI x2, oI x3, oI x4] [] m (qV Q)
abbrev j_X2_checkCounted_43_20 (d : Nat) (m : dM) (Q : dM → Prop) : Prop := Wp d 162 20 [none, none, none, none, none] [] m (qV Q)
abbrev c_X8_nameAt_38 (d : Nat) (x1 : Int32) (m : dM) (Q : Int64 → dM → Prop) : Prop := Wp d 219 0 [oR 38, oI x1] [] m (qL Q)
abbrev j_X8_nameAt_38_20 (d : Nat) (m : dM) (Q : Int64 → dM → Prop) : Prop := Wp d 219 20 [none, none] [] m (qL Q)
abbrev c_X8_numberAt_38 (d : Nat) (x1 : Int32) (m : dM) (Q : Int32 → dM → Prop) : Prop := Wp d 218 0 [oR 38, oI x1] [] m (qI Q)
abbrev c_X2_unit_43 (d : Nat) (x1 : Int32) (m : dM) (Q : Int32 → dM → Prop) : Prop := Wp d 167 0 [oR 43, oI x1, none] [] m (qI Q)
abbrev j_X2_unit_43_67 (d : Nat) (x1 : Int32) (x2 : Int32) (m : dM) (Q : Int32 → dM → Prop) : Prop := Wp d 167 67 [oR 43, oI x1, oI x2] [] m (qI Q)
abbrev j_X2_unit_43_123 (d : Nat) (m : dM) (Q : Int32 → dM → Prop) : Prop := Wp d 167 123 [none, none, none] [] m (qI Q)
abbrev c_X2_product_43 (d : Nat) (x1 : Int32) (m : dM) (Q : Int32 → dM → Prop) : Prop := Wp d 166 0 [oR 43, oI x1, none, none] [] m (qI Q)
abbrev j_X2_product_43_12 (d : Nat) (x1 : Int32) (x2 : Int32) (m : dM) (Q : Int32 → dM → Prop) : Prop := Wp d 166 12 [oR 43, oI x1, oI x2, none] [] m (qI Q)
abbrev j_X2_product_43_37 (d : Nat) (x1 : Int32) (x2 : Int32) (m : dM) (Q : Int32 → dM → Prop) : Prop := Wp d 166 37 [oR 43, oI x1, oI x2, none] [] m (qI Q)
abbrev j_X2_product_43_67 (d : Nat) (m : dM) (Q : Int32 → dM → Prop) : Prop := Wp d 166 67 [none, none, none, none] [] m (qI Q)
abbrev j_X2_product_43_83 (d : Nat) (m : dM) (Q : Int32 → dM → Prop) : Prop := Wp d 166 83 [none, none, none, none] [] m (qI Q)
abbrev c_X2_sum_43 (d : Nat) (x1 : Int32) (m : dM) (Q : Int32 → dM → Prop) : Prop := Wp d 165 0 [oR 43, oI x1, none, none] [] m (qI Q)
abbrev j_X2_sum_43_12 (d : Nat) (x1 : Int32) (x2 : Int32) (m : dM) (Q : Int32 → dM → Prop) : Prop := Wp d 165 12 [oR 43, oI x1, oI x2, none] [] m (qI Q)
abbrev j_X2_sum_43_37 (d : Nat) (x1 : Int32) (x2 : Int32) (m : dM) (Q : Int32 → dM → Prop) : Prop := Wp d 165 37 [oR 43, oI x1, oI x2, none] [] m (qI Q)
abbrev j_X2_sum_43_67 (d : Nat) (m : dM) (Q : Int32 → dM → Prop) : Prop := Wp d 165 67 [none, none, none, none] [] m (qI Q)
abbrev j_X2_sum_43_83 (d : Nat) (m : dM) (Q : Int32 → dM → Prop) : Prop := Wp d 165 83 [none, none, none, none] [] m (qI Q)
abbrev c_X2_endPiece_43 (d : Nat) (x1 : Int32) (x2 : Int32) (m : dM) (Q : Int32 → dM → Prop) : Prop := Wp d 164 0 [oR 43, oI x1, oI x2] [] m (qI Q)
abbrev c_X2_checkLaw_43 (d : Nat) (x1 : Int32) (m : dM) (Q : Int32 → dM → Prop) : Prop := Wp d 163 0 [oR 43, oI x1, none] [] m (qI Q)
abbrev j_X2_checkLaw_43_24 (d : Nat) (m : dM) (Q : Int32 → dM → Prop) : Prop := Wp d 163 24 [none, none, none] [] m (qI Q)
abbrev j_X2_checkLaw_43_28 (d : Nat) (x1 : Int32) (x2 : Int32) (m : dM) (Q : Int32 → dM → Prop) : Prop := Wp d 163 28 [oR 43, oI x1, oI x2] [] m (qI Q)
abbrev j_X2_checkLaw_43_114 (d : Nat) (m : dM) (Q : Int32 → dM → Prop) : Prop := Wp d 163 114 [none, none, none] [] m (qI Q)
abbrev j_X2_checkLaw_43_122 (d : Nat) (x1 : Int32) (m : dM) (Q : Int32 → dM → Prop) : Prop := Wp d 163 122 [oR 43, oI x1, none] [] m (qI Q)
abbrev j_X2_checkLaw_43_144 (d : Nat) (m : dM) (Q : Int32 → dM → Prop) : Prop := Wp d 163 144 [none, none, none] [] m (qI Q)
abbrev c_X2_checkTold_43 (d : Nat) (x1 : Int32) (m : dM) (Q : dM → Prop) : Prop := Wp d 155 0 [oR 43, oI x1] [] m (qV Q)
abbrev j_X2_checkTold_43_165 (d : Nat) (m : dM) (Q : dM → Prop) : Prop := Wp d 155 165 [none, none] [] m (qV Q)
abbrev c_X2_check_43 (d : Nat) (m : dM) (Q : Int32 → dM → Prop) : Prop := Wp d 154 0 [oR 43, none] [] m (qI Q)
abbrev j_X2_check_43_27 (d : Nat) (x1 : Int32) (m : dM) (Q : Int32 → dM → Prop) : Prop := Wp d 154 27 [oR 43, oI x1] [] m (qI Q)
abbrev j_X2_check_43_64 (d : Nat) (m : dM) (Q : Int32 → dM → Prop) : Prop := Wp d 154 64 [oR 43, none] [] m (qI Q)
abbrev c_X8_placeAt_38 (d : Nat) (x1 : Int32) (m : dM) (Q : Int32 → dM → Prop) : Prop := Wp d 217 0 [oR 38, oI x1] [] m (qI Q)
abbrev j_X8_placeAt_38_20 (d : Nat) (m : dM) (Q : Int32 → dM → Prop) : Prop := Wp d 217 20 [oR 38, none] [] m (qI Q)
abbrev c_X2_faultAt_43 (d : Nat) (m : dM) (Q : Int32 → dM → Prop) : Prop := Wp d 156 0 [oR 43] [] m (qI Q)
abbrev c_X8_kindAt_38 (d : Nat) (x1 : Int32) (m : dM) (Q : Int32 → dM → Prop) : Prop := Wp d 216 0 [oR 38, oI x1] [] m (qI Q)
abbrev j_X8_kindAt_38_20 (d : Nat) (m : dM) (Q : Int32 → dM → Prop) : Prop := Wp d 216 20 [none, none] [] m (qI Q)
abbrev c_X5_indexOf_45 (d : Nat) (x1 : Int32) (y2 : Int64) (m : dM) (Q : Int32 → dM → Prop) : Prop := Wp d 199 0 [oR 45, oI x1, oL y2, none, none] [] m (qI Q)
abbrev j_X5_indexOf_45_3 (d : Nat) (x1 : Int32) (y2 : Int64) (x4 : Int32) (m : dM) (Q : Int32 → dM → Prop) : Prop := Wp d 199 3 [oR 45, oI x1, oL y2, none, oI x4] [] m (qI Q)
abbrev j_X5_indexOf_45_34 (d : Nat) (m : dM) (Q : Int32 → dM → Prop) : Prop := Wp d 199 34 [none, none, none, none, none] [] m (qI Q)
abbrev c_X5_indexOf_46 (d : Nat) (x1 : Int32) (y2 : Int64) (m : dM) (Q : Int32 → dM → Prop) : Prop := Wp d 199 0 [oR 46, oI x1, oL y2, none, none] [] m (qI Q)
abbrev j_X5_indexOf_46_3 (d : Nat) (x1 : Int32) (y2 : Int64) (x4 : Int32) (m : dM) (Q : Int32 → dM → Prop) : Prop := Wp d 199 3 [oR 46, oI x1, oL y2, none, oI x4] [] m (qI Q)
abbrev j_X5_indexOf_46_34 (d : Nat) (m : dM) (Q : Int32 → dM → Prop) : Prop := Wp d 199 34 [none, none, none, none, none] [] m (qI Q)
abbrev c_X5_fail_44 (d : Nat) (x1 : Int32) (m : dM) (Q : Int32 → dM → Prop) : Prop := Wp d 188 0 [oR 44, oI x1] [] m (qI Q)
abbrev c_X5_isNewName_44 (d : Nat) (m : dM) (Q : Int32 → dM → Prop) : Prop := Wp d 197 0 [oR 44, none, none, none] [] m (qI Q)
abbrev j_X5_isNewName_44_50 (d : Nat) (m : dM) (Q : Int32 → dM → Prop) : Prop := Wp d 197 50 [oR 44, none, none, none] [] m (qI Q)
abbrev c_X5_isWithin_44 (d : Nat) (x1 : Int32) (x2 : Int32) (m : dM) (Q : Int32 → dM → Prop) : Prop := Wp d 196 0 [oR 44, oI x1, oI x2, none] [] m (qI Q)
abbrev j_X5_isWithin_44_22 (d : Nat) (m : dM) (Q : Int32 → dM → Prop) : Prop := Wp d 196 22 [oR 44, none, none, none] [] m (qI Q)
abbrev c_X5_takeFlat_44 (d : Nat) (m : dM) (Q : Int32 → dM → Prop) : Prop := Wp d 190 0 [oR 44, none] [] m (qI Q)
abbrev c_X5_flatNamed_44 (d : Nat) (m : dM) (Q : Int32 → dM → Prop) : Prop := Wp d 198 0 [oR 44, none] [] m (qI Q)
abbrev j_X5_flatNamed_44_36 (d : Nat) (x1 : Int32) (m : dM) (Q : Int32 → dM → Prop) : Prop := Wp d 198 36 [none, oI x1] [] m (qI Q)
abbrev c_X3_endsOf_20 (d : Nat) (x1 : Int32) (m : dM) (Q : Int32 → dM → Prop) : Prop := Wp d 172 0 [oR 20, oI x1] [] m (qI Q)
abbrev c_X3_isWired_20 (d : Nat) (x1 : Int32) (x2 : Int32) (m : dM) (Q : Int32 → dM → Prop) : Prop := Wp d 171 0 [oR 20, oI x1, oI x2, none, none] [] m (qI Q)
abbrev j_X3_isWired_20_11 (d : Nat) (x3 : Int32) (x4 : Int32) (m : dM) (Q : Int32 → dM → Prop) : Prop := Wp d 171 11 [oR 20, none, none, oI x3, oI x4] [] m (qI Q)
abbrev c_X5_takeWire_44 (d : Nat) (m : dM) (Q : Int32 → dM → Prop) : Prop := Wp d 191 0 [oR 44, none, none, none] [] m (qI Q)
abbrev j_X5_takeWire_44_71 (d : Nat) (m : dM) (Q : Int32 → dM → Prop) : Prop := Wp d 191 71 [oR 44, none, none, none] [] m (qI Q)
abbrev c_X5_takeUse_44 (d : Nat) (m : dM) (Q : Int32 → dM → Prop) : Prop := Wp d 192 0 [oR 44, none] [] m (qI Q)
abbrev j_X5_takeUse_44_213 (d : Nat) (m : dM) (Q : Int32 → dM → Prop) : Prop := Wp d 192 213 [none, none] [] m (qI Q)
abbrev c_X5_takeSurge_44 (d : Nat) (m : dM) (Q : Int32 → dM → Prop) : Prop := Wp d 193 0 [oR 44] [] m (qI Q)
abbrev j_X5_takeSurge_44_62 (d : Nat) (m : dM) (Q : Int32 → dM → Prop) : Prop := Wp d 193 62 [none] [] m (qI Q)
abbrev c_X5_takeCoins_44 (d : Nat) (m : dM) (Q : Int32 → dM → Prop) : Prop := Wp d 194 0 [oR 44] [] m (qI Q)
abbrev c_X5_takeSeed_44 (d : Nat) (m : dM) (Q : Int32 → dM → Prop) : Prop := Wp d 195 0 [oR 44] [] m (qI Q)
abbrev c_X5_takeTold_44 (d : Nat) (x1 : Int32) (m : dM) (Q : Int32 → dM → Prop) : Prop := Wp d 189 0 [oR 44, oI x1] [] m (qI Q)
abbrev c_X5_skipEnd_44 (d : Nat) (m : dM) (Q : dM → Prop) : Prop := Wp d 187 0 [oR 44] [] m (qV Q)
abbrev j_X5_skipEnd_44_0 (d : Nat) (m : dM) (Q : dM → Prop) : Prop := Wp d 187 0 [oR 44] [] m (qV Q)
abbrev j_X5_skipEnd_44_39 (d : Nat) (m : dM) (Q : dM → Prop) : Prop := Wp d 187 39 [oR 44] [] m (qV Q)
abbrev c_X5_check_44 (d : Nat) (m : dM) (Q : Int32 → dM → Prop) : Prop := Wp d 185 0 [oR 44, none, none] [] m (qI Q)
abbrev j_X5_check_44_12 (d : Nat) (x1 : Int32) (m : dM) (Q : Int32 → dM → Prop) : Prop := Wp d 185 12 [oR 44, oI x1, none] [] m (qI Q)
abbrev j_X5_check_44_76 (d : Nat) (x1 : Int32) (m : dM) (Q : Int32 → dM → Prop) : Prop := Wp d 185 76 [oR 44, oI x1, none] [] m (qI Q)
abbrev j_X5_check_44_82 (d : Nat) (m : dM) (Q : Int32 → dM → Prop) : Prop := Wp d 185 82 [oR 44, none, none] [] m (qI Q)
abbrev c_X5_faultAt_44 (d : Nat) (m : dM) (Q : Int32 → dM → Prop) : Prop := Wp d 186 0 [oR 44] [] m (qI Q)
abbrev c_X4_copy_11_29 (d : Nat) (m : dM) (Q : dM → Prop) : Prop := Wp d 177 0 [oR 11, oR 29, none] [] m (qV Q)
abbrev j_X4_copy_11_29_27 (d : Nat) (x2 : Int32) (m : dM) (Q : dM → Prop) : Prop := Wp d 177 27 [oR 11, oR 29, oI x2] [] m (qV Q)
abbrev c_X3_copy_2_20 (d : Nat) (m : dM) (Q : dM → Prop) : Prop := Wp d 170 0 [oR 2, oR 20] [] m (qV Q)
abbrev c_X10_houseIsNew_57 (d : Nat) (m : dM) (Q : dM → Prop) : Prop := Wp d 238 0 [oR 57] [] m (qV Q)
abbrev c_X0_houseIsNew_54 (d : Nat) (m : dM) (Q : dM → Prop) : Prop := Wp d 115 0 [oR 54] [] m (qV Q)
abbrev c_J7_fill_49 (d : Nat) (x1 : Int32) (m : dM) (Q : dM → Prop) : Prop := Wp d 286 0 [oR 49, oI x1, none, none] [] m (qV Q)
abbrev j_J7_fill_49_5 (d : Nat) (x1 : Int32) (x2 : Int32) (x3 : Int32) (m : dM) (Q : dM → Prop) : Prop := Wp d 286 5 [oR 49, oI x1, oI x2, oI x3] [] m (qV Q)
abbrev c_J7_fill_50 (d : Nat) (x1 : Int32) (m : dM) (Q : dM → Prop) : Prop := Wp d 286 0 [oR 50, oI x1, none, none] [] m (qV Q)
abbrev j_J7_fill_50_5 (d : Nat) (x1 : Int32) (x2 : Int32) (x3 : Int32) (m : dM) (Q : dM → Prop) : Prop := Wp d 286 5 [oR 50, oI x1, oI x2, oI x3] [] m (qV Q)
abbrev c_X7_begin_47_2 (d : Nat) (m : dM) (Q : dM → Prop) : Prop := Wp d 208 0 [oR 47, oR 2] [] m (qV Q)
abbrev c_X6_clear_51 (d : Nat) (m : dM) (Q : dM → Prop) : Prop := Wp d 201 0 [oR 51] [] m (qV Q)
abbrev c_X6_clearSlots_51 (d : Nat) (m : dM) (Q : dM → Prop) : Prop := Wp d 202 0 [oR 51] [] m (qV Q)
abbrev c_X9_clear_67 (d : Nat) (m : dM) (Q : dM → Prop) : Prop := Wp d 231 0 [oR 67] [] m (qV Q)
abbrev c_X11_read_0 (d : Nat) (m : dM) (Q : Int32 → dM → Prop) : Prop := Wp d 246 0 [oR 0, none] [] m (qI Q)
abbrev j_X11_read_0_69 (d : Nat) (x1 : Int32) (m : dM) (Q : Int32 → dM → Prop) : Prop := Wp d 246 69 [oR 0, oI x1] [] m (qI Q)
abbrev j_X11_read_0_123 (d : Nat) (x1 : Int32) (m : dM) (Q : Int32 → dM → Prop) : Prop := Wp d 246 123 [none, oI x1] [] m (qI Q)
abbrev c_X12_byteAt_70 (d : Nat) (x1 : Int32) (m : dM) (Q : Int32 → dM → Prop) : Prop := Wp d 4 0 [oR 70, oI x1] [] m (qI Q)
abbrev c_X12_isLetter (d : Nat) (x0 : Int32) (m : dM) (Q : Int32 → dM → Prop) : Prop := Wp d 6 0 [oI x0] [] m (qI Q)
abbrev j_X12_isLetter_16 (d : Nat) (m : dM) (Q : Int32 → dM → Prop) : Prop := Wp d 6 16 [none] [] m (qI Q)
abbrev c_X12_isDigit (d : Nat) (x0 : Int32) (m : dM) (Q : Int32 → dM → Prop) : Prop := Wp d 5 0 [oI x0] [] m (qI Q)
abbrev j_X12_isDigit_16 (d : Nat) (m : dM) (Q : Int32 → dM → Prop) : Prop := Wp d 5 16 [none] [] m (qI Q)
abbrev c_X12_token_70 (d : Nat) (x1 : Int32) (x2 : Int32) (x3 : Int32) (y4 : Int64) (m : dM) (Q : dM → Prop) : Prop := Wp d 9 0 [oR 70, oI x1, oI x2, oI x3, oL y4, none] [] m (qV Q)
abbrev c_X12_sign_70 (d : Nat) (x1 : Int32) (x2 : Int32) (x3 : Int32) (m : dM) (Q : Int32 → dM → Prop) : Prop := Wp d 11 0 [oR 70, oI x1, oI x2, oI x3, none] [] m (qI Q)
abbrev j_X12_sign_70_55 (d : Nat) (x1 : Int32) (x2 : Int32) (x4 : Int32) (m : dM) (Q : Int32 → dM → Prop) : Prop := Wp d 11 55 [oR 70, oI x1, oI x2, none, oI x4] [] m (qI Q)
abbrev j_X12_sign_70_65 (d : Nat) (x1 : Int32) (x2 : Int32) (x4 : Int32) (m : dM) (Q : Int32 → dM → Prop) : Prop := Wp d 11 65 [oR 70, oI x1, oI x2, none, oI x4] [] m (qI Q)
abbrev j_X12_sign_70_75 (d : Nat) (x1 : Int32) (x2 : Int32) (x4 : Int32) (m : dM) (Q : Int32 → dM → Prop) : Prop := Wp d 11 75 [oR 70, oI x1, oI x2, none, oI x4] [] m (qI Q)
abbrev j_X12_sign_70_85 (d : Nat) (x1 : Int32) (x2 : Int32) (x4 : Int32) (m : dM) (Q : Int32 → dM → Prop) : Prop := Wp d 11 85 [oR 70, oI x1, oI x2, none, oI x4] [] m (qI Q)
abbrev j_X12_sign_70_95 (d : Nat) (x1 : Int32) (x4 : Int32) (m : dM) (Q : Int32 → dM → Prop) : Prop := Wp d 11 95 [oR 70, oI x1, none, none, oI x4] [] m (qI Q)
abbrev c_X12_appends (d : Nat) (y0 : Int64) (x2 : Int32) (m : dM) (Q : Int64 → dM → Prop) : Prop := Wp d 7 0 [oL y0, none, oI x2] [] m (qL Q)
abbrev c_X12_cutsUp_70 (d : Nat) (m : dM) (Q : dM → Prop) : Prop := Wp d 10 0 [oR 70, none, none, none, none, none, none, none] [] m (qV Q)
abbrev j_X12_cutsUp_70_7 (d : Nat) (x1 : Int32) (m : dM) (Q : dM → Prop) : Prop := Wp d 10 7 [oR 70, oI x1, none, none, none, none, none, none] [] m (qV Q)
abbrev j_X12_cutsUp_70_67 (d : Nat) (x1 : Int32) (m : dM) (Q : dM → Prop) : Prop := Wp d 10 67 [oR 70, oI x1, none, none, none, none, none, none] [] m (qV Q)
abbrev j_X12_cutsUp_70_85 (d : Nat) (x1 : Int32) (x3 : Int32) (y4 : Int64) (m : dM) (Q : dM → Prop) : Prop := Wp d 10 85 [oR 70, oI x1, none, oI x3, oL y4, none, none, none] [] m (qV Q)
abbrev j_X12_cutsUp_70_118 (d : Nat) (x1 : Int32) (x3 : Int32) (y4 : Int64) (m : dM) (Q : dM → Prop) : Prop := Wp d 10 118 [oR 70, oI x1, none, oI x3, oL y4, none, none, none] [] m (qV Q)
abbrev j_X12_cutsUp_70_146 (d : Nat) (x1 : Int32) (x3 : Int32) (y4 : Int64) (x6 : Int32) (x7 : Int32) (m : dM) (Q : dM → Prop) : Prop := Wp d 10 146 [oR 70, oI x1, none, oI x3, oL y4, none, oI x6, oI x7] [] m (qV Q)
abbrev j_X12_cutsUp_70_173 (d : Nat) (x1 : Int32) (x3 : Int32) (y4 : Int64) (x6 : Int32) (x7 : Int32) (m : dM) (Q : dM → Prop) : Prop := Wp d 10 173 [oR 70, oI x1, none, oI x3, oL y4, none, oI x6, oI x7] [] m (qV Q)
abbrev j_X12_cutsUp_70_179 (d : Nat) (x1 : Int32) (x3 : Int32) (y4 : Int64) (x6 : Int32) (m : dM) (Q : dM → Prop) : Prop := Wp d 10 179 [oR 70, oI x1, none, oI x3, oL y4, none, oI x6, none] [] m (qV Q)
abbrev j_X12_cutsUp_70_208 (d : Nat) (x1 : Int32) (x3 : Int32) (x4 : Int32) (m : dM) (Q : dM → Prop) : Prop := Wp d 10 208 [oR 70, oI x1, none, oI x3, oI x4, none, none, none] [] m (qV Q)
abbrev j_X12_cutsUp_70_244 (d : Nat) (x1 : Int32) (x3 : Int32) (x4 : Int32) (m : dM) (Q : dM → Prop) : Prop := Wp d 10 244 [oR 70, oI x1, none, oI x3, oI x4, none, none, none] [] m (qV Q)
abbrev j_X12_cutsUp_70_291 (d : Nat) (x1 : Int32) (m : dM) (Q : dM → Prop) : Prop := Wp d 10 291 [oR 70, oI x1, none, none, none, none, none, none] [] m (qV Q)
abbrev c_X12_plain_70 (d : Nat) (x1 : Int32) (m : dM) (Q : dM → Prop) : Prop := Wp d 17 0 [oR 70, oI x1, none] [] m (qV Q)
abbrev j_X12_plain_70_52 (d : Nat) (x1 : Int32) (x2 : Int32) (m : dM) (Q : dM → Prop) : Prop := Wp d 17 52 [oR 70, oI x1, oI x2] [] m (qV Q)
abbrev c_X12_is_70 (d : Nat) (x1 : Int32) (m : dM) (Q : Int32 → dM → Prop) : Prop := Wp d 12 0 [oR 70, oI x1] [] m (qI Q)
abbrev j_X12_is_70_24 (d : Nat) (m : dM) (Q : Int32 → dM → Prop) : Prop := Wp d 12 24 [none, none] [] m (qI Q)
abbrev c_X12_fail_70 (d : Nat) (x1 : Int32) (m : dM) (Q : dM → Prop) : Prop := Wp d 13 0 [oR 70, oI x1] [] m (qV Q)
abbrev c_X12_goesOn_70 (d : Nat) (m : dM) (Q : dM → Prop) : Prop := Wp d 15 0 [oR 70] [] m (qV Q)
abbrev j_X12_goesOn_70_28 (d : Nat) (m : dM) (Q : dM → Prop) : Prop := Wp d 15 28 [none] [] m (qV Q)
abbrev c_X12_roomFor_70 (d : Nat) (x1 : Int32) (x2 : Int32) (m : dM) (Q : dM → Prop) : Prop := Wp d 20 0 [oR 70, oI x1, oI x2] [] m (qV Q)
abbrev j_X12_roomFor_70_10 (d : Nat) (m : dM) (Q : dM → Prop) : Prop := Wp d 20 10 [oR 70, none, none] [] m (qV Q)
abbrev j_X12_roomFor_70_21 (d : Nat) (m : dM) (Q : dM → Prop) : Prop := Wp d 20 21 [none, none, none] [] m (qV Q)
abbrev c_X12_must_70 (d : Nat) (x1 : Int32) (m : dM) (Q : dM → Prop) : Prop := Wp d 16 0 [oR 70, oI x1] [] m (qV Q)
abbrev j_X12_must_70_20 (d : Nat) (m : dM) (Q : dM → Prop) : Prop := Wp d 16 20 [none, none] [] m (qV Q)
abbrev c_X12_wrong_70 (d : Nat) (x1 : Int32) (x2 : Int32) (m : dM) (Q : dM → Prop) : Prop := Wp d 14 0 [oR 70, oI x1, oI x2, none] [] m (qV Q)
abbrev j_X12_wrong_70_45 (d : Nat) (m : dM) (Q : dM → Prop) : Prop := Wp d 14 45 [none, none, none, none] [] m (qV Q)
abbrev j_X12_wrong_70_46 (d : Nat) (x1 : Int32) (x3 : Int32) (m : dM) (Q : dM → Prop) : Prop := Wp d 14 46 [oR 70, oI x1, none, oI x3] [] m (qV Q)
abbrev c_X12_named_70 (d : Nat) (m : dM) (Q : Int32 → dM → Prop) : Prop := Wp d 22 0 [oR 70, none, none] [] m (qI Q)
abbrev j_X12_named_70_12 (d : Nat) (x1 : Int32) (x2 : Int32) (m : dM) (Q : Int32 → dM → Prop) : Prop := Wp d 22 12 [oR 70, oI x1, oI x2] [] m (qI Q)
abbrev j_X12_named_70_49 (d : Nat) (x1 : Int32) (x2 : Int32) (m : dM) (Q : Int32 → dM → Prop) : Prop := Wp d 22 49 [oR 70, oI x1, oI x2] [] m (qI Q)
abbrev j_X12_named_70_55 (d : Nat) (x1 : Int32) (m : dM) (Q : Int32 → dM → Prop) : Prop := Wp d 22 55 [none, oI x1, none] [] m (qI Q)
abbrev c_X12_bounded_70 (d : Nat) (x1 : Int32) (x2 : Int32) (m : dM) (Q : Int32 → dM → Prop) : Prop := Wp d 25 0 [oR 70, oI x1, oI x2, none] [] m (qI Q)
abbrev j_X12_bounded_70_15 (d : Nat) (x1 : Int32) (m : dM) (Q : Int32 → dM → Prop) : Prop := Wp d 25 15 [oR 70, oI x1, none, none] [] m (qI Q)
abbrev j_X12_bounded_70_42 (d : Nat) (x3 : Int32) (m : dM) (Q : Int32 → dM → Prop) : Prop := Wp d 25 42 [oR 70, none, none, oI x3] [] m (qI Q)
abbrev j_X12_bounded_70_51 (d : Nat) (x3 : Int32) (m : dM) (Q : Int32 → dM → Prop) : Prop := Wp d 25 51 [oR 70, none, none, oI x3] [] m (qI Q)
abbrev c_X12_endsName_70 (d : Nat) (x1 : Int32) (x2 : Int32) (m : dM) (Q : dM → Prop) : Prop := Wp d 23 0 [oR 70, oI x1, oI x2] [] m (qV Q)
abbrev c_X12_knownFlat_70 (d : Nat) (m : dM) (Q : Int32 → dM → Prop) : Prop := Wp d 24 0 [oR 70, none, none] [] m (qI Q)
abbrev j_X12_knownFlat_70_21 (d : Nat) (x1 : Int32) (x2 : Int32) (m : dM) (Q : Int32 → dM → Prop) : Prop := Wp d 24 21 [oR 70, oI x1, oI x2] [] m (qI Q)
abbrev j_X12_knownFlat_70_61 (d : Nat) (x1 : Int32) (x2 : Int32) (m : dM) (Q : Int32 → dM → Prop) : Prop := Wp d 24 61 [oR 70, oI x1, oI x2] [] m (qI Q)
abbrev c_X12_areWired_70 (d : Nat) (x1 : Int32) (x2 : Int32) (m : dM) (Q : Int32 → dM → Prop) : Prop := Wp d 26 0 [oR 70, oI x1, oI x2, none] [] m (qI Q)
abbrev j_X12_areWired_70_8 (d : Nat) (x1 : Int32) (x2 : Int32) (x3 : Int32) (m : dM) (Q : Int32 → dM → Prop) : Prop := Wp d 26 8 [oR 70, oI x1, oI x2, oI x3] [] m (qI Q)
abbrev j_X12_areWired_70_49 (d : Nat) (x1 : Int32) (x2 : Int32) (x3 : Int32) (m : dM) (Q : Int32 → dM → Prop) : Prop := Wp d 26 49 [oR 70, oI x1, oI x2, oI x3] [] m (qI Q)
abbrev j_X12_areWired_70_69 (d : Nat) (m : dM) (Q : Int32 → dM → Prop) : Prop := Wp d 26 69 [none, none, none, none] [] m (qI Q)
abbrev j_X12_areWired_70_71 (d : Nat) (x1 : Int32) (x2 : Int32) (x3 : Int32) (m : dM) (Q : Int32 → dM → Prop) : Prop := Wp d 26 71 [oR 70, oI x1, oI x2, oI x3] [] m (qI Q)
abbrev c_X12_tellWire_70 (d : Nat) (m : dM) (Q : dM → Prop) : Prop := Wp d 27 0 [oR 70, none, none, none, none] [] m (qV Q)
abbrev j_X12_tellWire_70_66 (d : Nat) (x1 : Int32) (x2 : Int32) (x3 : Int32) (x4 : Int32) (m : dM) (Q : dM → Prop) : Prop := Wp d 27 66 [oR 70, oI x1, oI x2, oI x3, oI x4] [] m (qV Q)
abbrev j_X12_tellWire_70_72 (d : Nat) (x1 : Int32) (x2 : Int32) (x4 : Int32) (m : dM) (Q : dM → Prop) : Prop := Wp d 27 72 [oR 70, oI x1, oI x2, none, oI x4] [] m (qV Q)
abbrev j_X12_tellWire_70_125 (d : Nat) (m : dM) (Q : dM → Prop) : Prop := Wp d 27 125 [none, none, none, none, none] [] m (qV Q)
abbrev c_X12_tellUse_70 (d : Nat) (m : dM) (Q : dM → Prop) : Prop := Wp d 28 0 [oR 70, none, none] [] m (qV Q)
abbrev j_X12_tellUse_70_118 (d : Nat) (m : dM) (Q : dM → Prop) : Prop := Wp d 28 118 [none, none, none] [] m (qV Q)
abbrev c_X12_emit_70 (d : Nat) (x1 : Int32) (x2 : Int32) (m : dM) (Q : dM → Prop) : Prop := Wp d 31 0 [oR 70, oI x1, oI x2] [] m (qV Q)
abbrev c_X12_unit_70 (d : Nat) (m : dM) (Q : dM → Prop) : Prop := Wp d 34 0 [oR 70] [] m (qV Q)
abbrev j_X12_unit_70_88 (d : Nat) (m : dM) (Q : dM → Prop) : Prop := Wp d 34 88 [oR 70] [] m (qV Q)
abbrev j_X12_unit_70_93 (d : Nat) (m : dM) (Q : dM → Prop) : Prop := Wp d 34 93 [none] [] m (qV Q)
abbrev c_X12_comesOut_70 (d : Nat) (x1 : Int32) (m : dM) (Q : dM → Prop) : Prop := Wp d 32 0 [oR 70, oI x1, none] [] m (qV Q)
abbrev j_X12_comesOut_70_0 (d : Nat) (x1 : Int32) (m : dM) (Q : dM → Prop) : Prop := Wp d 32 0 [oR 70, oI x1, none] [] m (qV Q)
abbrev j_X12_comesOut_70_41 (d : Nat) (m : dM) (Q : dM → Prop) : Prop := Wp d 32 41 [none, none, none] [] m (qV Q)
abbrev j_X12_comesOut_70_42 (d : Nat) (x1 : Int32) (x2 : Int32) (m : dM) (Q : dM → Prop) : Prop := Wp d 32 42 [oR 70, oI x1, oI x2] [] m (qV Q)
abbrev c_X12_expression_70 (d : Nat) (m : dM) (Q : dM → Prop) : Prop := Wp d 33 0 [oR 70, none, none] [] m (qV Q)
abbrev j_X12_expression_70_12 (d : Nat) (x1 : Int32) (x2 : Int32) (m : dM) (Q : dM → Prop) : Prop := Wp d 33 12 [oR 70, oI x1, oI x2] [] m (qV Q)
abbrev j_X12_expression_70_23 (d : Nat) (x1 : Int32) (m : dM) (Q : dM → Prop) : Prop := Wp d 33 23 [oR 70, oI x1, none] [] m (qV Q)
abbrev j_X12_expression_70_46 (d : Nat) (x1 : Int32) (m : dM) (Q : dM → Prop) : Prop := Wp d 33 46 [oR 70, oI x1, none] [] m (qV Q)
abbrev j_X12_expression_70_96 (d : Nat) (x1 : Int32) (m : dM) (Q : dM → Prop) : Prop := Wp d 33 96 [oR 70, oI x1, none] [] m (qV Q)
abbrev j_X12_expression_70_145 (d : Nat) (x1 : Int32) (m : dM) (Q : dM → Prop) : Prop := Wp d 33 145 [oR 70, oI x1, none] [] m (qV Q)
abbrev j_X12_expression_70_181 (d : Nat) (x1 : Int32) (m : dM) (Q : dM → Prop) : Prop := Wp d 33 181 [oR 70, oI x1, none] [] m (qV Q)
abbrev j_X12_expression_70_204 (d : Nat) (m : dM) (Q : dM → Prop) : Prop := Wp d 33 204 [oR 70, none, none] [] m (qV Q)
abbrev j_X12_expression_70_272 (d : Nat) (m : dM) (Q : dM → Prop) : Prop := Wp d 33 272 [none, none, none] [] m (qV Q)
abbrev c_X12_term_70 (d : Nat) (m : dM) (Q : dM → Prop) : Prop := Wp d 30 0 [oR 70] [] m (qV Q)
abbrev j_X12_term_70_24 (d : Nat) (m : dM) (Q : dM → Prop) : Prop := Wp d 30 24 [oR 70] [] m (qV Q)
abbrev c_X12_tellLaw_70 (d : Nat) (x1 : Int32) (m : dM) (Q : dM → Prop) : Prop := Wp d 29 0 [oR 70, oI x1, none, none] [] m (qV Q)
abbrev j_X12_tellLaw_70_12 (d : Nat) (x1 : Int32) (x2 : Int32) (x3 : Int32) (m : dM) (Q : dM → Prop) : Prop := Wp d 29 12 [oR 70, oI x1, oI x2, oI x3] [] m (qV Q)
abbrev j_X12_tellLaw_70_38 (d : Nat) (x1 : Int32) (x2 : Int32) (x3 : Int32) (m : dM) (Q : dM → Prop) : Prop := Wp d 29 38 [oR 70, oI x1, oI x2, oI x3] [] m (qV Q)
abbrev j_X12_tellLaw_70_110 (d : Nat) (x1 : Int32) (x2 : Int32) (x3 : Int32) (m : dM) (Q : dM → Prop) : Prop := Wp d 29 110 [oR 70, oI x1, oI x2, oI x3] [] m (qV Q)
abbrev j_X12_tellLaw_70_129 (d : Nat) (x1 : Int32) (x2 : Int32) (m : dM) (Q : dM → Prop) : Prop := Wp d 29 129 [oR 70, oI x1, oI x2, none] [] m (qV Q)
abbrev c_X12_tellOne_70 (d : Nat) (m : dM) (Q : dM → Prop) : Prop := Wp d 21 0 [oR 70, none] [] m (qV Q)
abbrev j_X12_tellOne_70_349 (d : Nat) (x1 : Int32) (m : dM) (Q : dM → Prop) : Prop := Wp d 21 349 [oR 70, oI x1] [] m (qV Q)
abbrev j_X12_tellOne_70_354 (d : Nat) (x1 : Int32) (m : dM) (Q : dM → Prop) : Prop := Wp d 21 354 [oR 70, oI x1] [] m (qV Q)
abbrev j_X12_tellOne_70_371 (d : Nat) (m : dM) (Q : dM → Prop) : Prop := Wp d 21 371 [none, none] [] m (qV Q)
abbrev c_X12_begins_70 (d : Nat) (m : dM) (Q : dM → Prop) : Prop := Wp d 42 0 [oR 70, none] [] m (qV Q)
abbrev j_X12_begins_70_2 (d : Nat) (x1 : Int32) (m : dM) (Q : dM → Prop) : Prop := Wp d 42 2 [oR 70, oI x1] [] m (qV Q)
abbrev j_X12_begins_70_23 (d : Nat) (x1 : Int32) (m : dM) (Q : dM → Prop) : Prop := Wp d 42 23 [oR 70, oI x1] [] m (qV Q)
abbrev j_X12_begins_70_64 (d : Nat) (x1 : Int32) (m : dM) (Q : dM → Prop) : Prop := Wp d 42 64 [oR 70, oI x1] [] m (qV Q)
abbrev c_X12_keepsRow_70 (d : Nat) (m : dM) (Q : dM → Prop) : Prop := Wp d 43 0 [oR 70, none] [] m (qV Q)
abbrev j_X12_keepsRow_70_2 (d : Nat) (x1 : Int32) (m : dM) (Q : dM → Prop) : Prop := Wp d 43 2 [oR 70, oI x1] [] m (qV Q)
abbrev c_X12_read_70 (d : Nat) (m : dM) (Q : Int32 → dM → Prop) : Prop := Wp d 18 0 [oR 70, none] [] m (qI Q)
abbrev j_X12_read_70_10 (d : Nat) (x1 : Int32) (m : dM) (Q : Int32 → dM → Prop) : Prop := Wp d 18 10 [oR 70, oI x1] [] m (qI Q)
abbrev j_X12_read_70_112 (d : Nat) (m : dM) (Q : Int32 → dM → Prop) : Prop := Wp d 18 112 [oR 70, none] [] m (qI Q)
abbrev j_X12_read_70_134 (d : Nat) (m : dM) (Q : Int32 → dM → Prop) : Prop := Wp d 18 134 [oR 70, none] [] m (qI Q)
abbrev j_X12_read_70_219 (d : Nat) (x1 : Int32) (m : dM) (Q : Int32 → dM → Prop) : Prop := Wp d 18 219 [oR 70, oI x1] [] m (qI Q)
abbrev c_X11_place_0 (d : Nat) (m : dM) (Q : Int32 → dM → Prop) : Prop := Wp d 247 0 [oR 0] [] m (qI Q)
abbrev c_X12_place_70 (d : Nat) (m : dM) (Q : Int32 → dM → Prop) : Prop := Wp d 19 0 [oR 70] [] m (qI Q)
abbrev c_X11_isFlat_0 (d : Nat) (x1 : Int32) (m : dM) (Q : Int32 → dM → Prop) : Prop := Wp d 248 0 [oR 0, oI x1] [] m (qI Q)
abbrev j_X11_isFlat_0_19 (d : Nat) (m : dM) (Q : Int32 → dM → Prop) : Prop := Wp d 248 19 [none, none] [] m (qI Q)
abbrev c_J7_fill_59 (d : Nat) (x1 : Int32) (m : dM) (Q : dM → Prop) : Prop := Wp d 286 0 [oR 59, oI x1, none, none] [] m (qV Q)
abbrev j_J7_fill_59_5 (d : Nat) (x1 : Int32) (x2 : Int32) (x3 : Int32) (m : dM) (Q : dM → Prop) : Prop := Wp d 286 5 [oR 59, oI x1, oI x2, oI x3] [] m (qV Q)
abbrev c_J7_fill_60 (d : Nat) (x1 : Int32) (m : dM) (Q : dM → Prop) : Prop := Wp d 286 0 [oR 60, oI x1, none, none] [] m (qV Q)
abbrev j_J7_fill_60_5 (d : Nat) (x1 : Int32) (x2 : Int32) (x3 : Int32) (m : dM) (Q : dM → Prop) : Prop := Wp d 286 5 [oR 60, oI x1, oI x2, oI x3] [] m (qV Q)
abbrev c_X11_has (d : Nat) (x0 : Int32) (x1 : Int32) (m : dM) (Q : Int32 → dM → Prop) : Prop := Wp d 283 0 [oI x0, oI x1] [] m (qI Q)
abbrev c_X10_reachBy_57 (d : Nat) (x1 : Int32) (x2 : Int32) (m : dM) (Q : dM → Prop) : Prop := Wp d 240 0 [oR 57, oI x1, oI x2, none, none, none] [] m (qV Q)
abbrev j_X10_reachBy_57_151 (d : Nat) (m : dM) (Q : dM → Prop) : Prop := Wp d 240 151 [none, none, none, none, none, none] [] m (qV Q)
abbrev c_X10_lay_57 (d : Nat) (x1 : Int32) (m : dM) (Q : dM → Prop) : Prop := Wp d 239 0 [oR 57, oI x1, none, none, none] [] m (qV Q)
abbrev j_X10_lay_57_58 (d : Nat) (x1 : Int32) (x2 : Int32) (m : dM) (Q : dM → Prop) : Prop := Wp d 239 58 [oR 57, oI x1, oI x2, none, none] [] m (qV Q)
abbrev j_X10_lay_57_77 (d : Nat) (x1 : Int32) (x2 : Int32) (x3 : Int32) (x4 : Int32) (m : dM) (Q : dM → Prop) : Prop := Wp d 239 77 [oR 57, oI x1, oI x2, oI x3, oI x4] [] m (qV Q)
abbrev j_X10_lay_57_105 (d : Nat) (x1 : Int32) (x2 : Int32) (x3 : Int32) (x4 : Int32) (m : dM) (Q : dM → Prop) : Prop := Wp d 239 105 [oR 57, oI x1, oI x2, oI x3, oI x4] [] m (qV Q)
abbrev j_X10_lay_57_128 (d : Nat) (m : dM) (Q : dM → Prop) : Prop := Wp d 239 128 [none, none, none, none, none] [] m (qV Q)
abbrev c_X0_waysNow_54_47 (d : Nat) (m : dM) (Q : dM → Prop) : Prop := Wp d 116 0 [oR 54, oR 47] [] m (qR 57 Q)
abbrev c_X7_hourOfDay_47 (d : Nat) (m : dM) (Q : Int32 → dM → Prop) : Prop := Wp d 212 0 [oR 47] [] m (qI Q)
abbrev c_X7_day_47 (d : Nat) (m : dM) (Q : Int32 → dM → Prop) : Prop := Wp d 213 0 [oR 47] [] m (qI Q)
abbrev c_J7_fill_55 (d : Nat) (x1 : Int32) (m : dM) (Q : dM → Prop) : Prop := Wp d 286 0 [oR 55, oI x1, none, none] [] m (qV Q)
abbrev j_J7_fill_55_5 (d : Nat) (x1 : Int32) (x2 : Int32) (x3 : Int32) (m : dM) (Q : dM → Prop) : Prop := Wp d 286 5 [oR 55, oI x1, oI x2, oI x3] [] m (qV Q)
abbrev c_X0_setVars_54 (d : Nat) (x1 : Int32) (x2 : Int32) (x3 : Int32) (m : dM) (Q : dM → Prop) : Prop := Wp d 125 0 [oR 54, oI x1, oI x2, oI x3] [] m (qV Q)
abbrev c_X4_worked_11 (d : Nat) (x1 : Int32) (x2 : Int32) (x3 : Int32) (m : dM) (Q : Int32 → dM → Prop) : Prop := Wp d 183 0 [oR 11, oI x1, oI x2, oI x3] [] m (qI Q)
abbrev c_X4_pieceTells_11_55 (d : Nat) (x1 : Int32) (x2 : Int32) (m : dM) (Q : Int32 → dM → Prop) : Prop := Wp d 182 0 [oR 11, oI x1, oI x2, oR 55, none, none, none, none] [] m (qI Q)
abbrev j_X4_pieceTells_11_55_10 (d : Nat) (m : dM) (Q : Int32 → dM → Prop) : Prop := Wp d 182 10 [none, none, none, none, none, none, none, none] [] m (qI Q)
abbrev j_X4_pieceTells_11_55_37 (d : Nat) (x4 : Int32) (x5 : Int32) (x6 : Int32) (m : dM) (Q : Int32 → dM → Prop) : Prop := Wp d 182 37 [oR 11, none, none, oR 55, oI x4, oI x5, oI x6, none] [] m (qI Q)
abbrev j_X4_pieceTells_11_55_150 (d : Nat) (x4 : Int32) (x5 : Int32) (x6 : Int32) (m : dM) (Q : Int32 → dM → Prop) : Prop := Wp d 182 150 [oR 11, none, none, oR 55, oI x4, oI x5, oI x6, none] [] m (qI Q)
abbrev j_X4_pieceTells_11_55_156 (d : Nat) (m : dM) (Q : Int32 → dM → Prop) : Prop := Wp d 182 156 [oR 11, none, none, none, none, none, none, none] [] m (qI Q)
abbrev c_X4_tells_11_55 (d : Nat) (x1 : Int32) (m : dM) (Q : Int32 → dM → Prop) : Prop := Wp d 181 0 [oR 11, oI x1, oR 55, none, none, none, none] [] m (qI Q)
abbrev j_X4_tells_11_55_17 (d : Nat) (x1 : Int32) (x3 : Int32) (x4 : Int32) (m : dM) (Q : Int32 → dM → Prop) : Prop := Wp d 181 17 [oR 11, oI x1, oR 55, oI x3, oI x4, none, none] [] m (qI Q)
abbrev j_X4_tells_11_55_93 (d : Nat) (x1 : Int32) (x3 : Int32) (m : dM) (Q : Int32 → dM → Prop) : Prop := Wp d 181 93 [oR 11, oI x1, oR 55, oI x3, none, none, none] [] m (qI Q)
abbrev c_X0_held (d : Nat) (x0 : Int32) (m : dM) (Q : Int32 → dM → Prop) : Prop := Wp d 126 0 [oI x0] [] m (qI Q)
abbrev c_X0_quarrelOf_54_47 (d : Nat) (x2 : Int32) (m : dM) (Q : Int32 → dM → Prop) : Prop := Wp d 127 0 [oR 54, oR 47, oI x2] [] m (qI Q)
abbrev c_X0_usesAt_54_47 (d : Nat) (x2 : Int32) (m : dM) (Q : Int32 → dM → Prop) : Prop := Wp d 118 0 [oR 54, oR 47, oI x2, none, none, none] [] m (qI Q)
abbrev j_X0_usesAt_54_47_16 (d : Nat) (x2 : Int32) (x3 : Int32) (x4 : Int32) (m : dM) (Q : Int32 → dM → Prop) : Prop := Wp d 118 16 [oR 54, oR 47, oI x2, oI x3, oI x4, none] [] m (qI Q)
abbrev j_X0_usesAt_54_47_60 (d : Nat) (x2 : Int32) (x3 : Int32) (x4 : Int32) (m : dM) (Q : Int32 → dM → Prop) : Prop := Wp d 118 60 [oR 54, oR 47, oI x2, oI x3, oI x4, none] [] m (qI Q)
abbrev j_X0_usesAt_54_47_110 (d : Nat) (x2 : Int32) (x3 : Int32) (x4 : Int32) (m : dM) (Q : Int32 → dM → Prop) : Prop := Wp d 118 110 [oR 54, oR 47, oI x2, oI x3, oI x4, none] [] m (qI Q)
abbrev c_X0_usesNow_54_47 (d : Nat) (m : dM) (Q : Int32 → dM → Prop) : Prop := Wp d 117 0 [oR 54, oR 47] [] m (qI Q)
abbrev c_X0_ampsOf_54 (d : Nat) (x1 : Int32) (x2 : Int32) (m : dM) (Q : Int32 → dM → Prop) : Prop := Wp d 119 0 [oR 54, oI x1, oI x2, none, none] [] m (qI Q)
abbrev j_X0_ampsOf_54_5 (d : Nat) (x1 : Int32) (x2 : Int32) (x3 : Int32) (x4 : Int32) (m : dM) (Q : Int32 → dM → Prop) : Prop := Wp d 119 5 [oR 54, oI x1, oI x2, oI x3, oI x4] [] m (qI Q)
abbrev c_X11_flat_0 (d : Nat) (x1 : Int32) (x2 : Int32) (m : dM) (Q : Int32 → dM → Prop) : Prop := Wp d 251 0 [oR 0, oI x1, oI x2, none] [] m (qI Q)
abbrev c_X12_in (d : Nat) (x0 : Int32) (x1 : Int32) (x2 : Int32) (m : dM) (Q : Int32 → dM → Prop) : Prop := Wp d 36 0 [oI x0, oI x1, oI x2] [] m (qI Q)
abbrev j_X12_in_14 (d : Nat) (m : dM) (Q : Int32 → dM → Prop) : Prop := Wp d 36 14 [none, none, none] [] m (qI Q)
abbrev c_X12_isFlat_70 (d : Nat) (x1 : Int32) (m : dM) (Q : Int32 → dM → Prop) : Prop := Wp d 39 0 [oR 70, oI x1] [] m (qI Q)
abbrev c_X12_isWire_70 (d : Nat) (x1 : Int32) (m : dM) (Q : Int32 → dM → Prop) : Prop := Wp d 40 0 [oR 70, oI x1] [] m (qI Q)
abbrev c_X12_isWhole_70 (d : Nat) (x1 : Int32) (m : dM) (Q : Int32 → dM → Prop) : Prop := Wp d 47 0 [oR 70, oI x1] [] m (qI Q)
abbrev j_X12_isWhole_70_24 (d : Nat) (m : dM) (Q : Int32 → dM → Prop) : Prop := Wp d 47 24 [none, none] [] m (qI Q)
abbrev c_X12_otherEnd_70 (d : Nat) (x1 : Int32) (x2 : Int32) (m : dM) (Q : Int32 → dM → Prop) : Prop := Wp d 48 0 [oR 70, oI x1, oI x2, none] [] m (qI Q)
abbrev c_X12_wireFrom_70 (d : Nat) (x1 : Int32) (m : dM) (Q : Int32 → dM → Prop) : Prop := Wp d 49 0 [oR 70, oI x1, none, none] [] m (qI Q)
abbrev j_X12_wireFrom_70_2 (d : Nat) (x1 : Int32) (x2 : Int32) (m : dM) (Q : Int32 → dM → Prop) : Prop := Wp d 49 2 [oR 70, oI x1, oI x2, none] [] m (qI Q)
abbrev j_X12_wireFrom_70_56 (d : Nat) (x1 : Int32) (x2 : Int32) (m : dM) (Q : Int32 → dM → Prop) : Prop := Wp d 49 56 [oR 70, oI x1, oI x2, none] [] m (qI Q)
abbrev c_X12_fillsWays_70 (d : Nat) (m : dM) (Q : dM → Prop) : Prop := Wp d 50 0 [oR 70, none, none, none, none] [] m (qV Q)
abbrev j_X12_fillsWays_70_2 (d : Nat) (x1 : Int32) (m : dM) (Q : dM → Prop) : Prop := Wp d 50 2 [oR 70, oI x1, none, none, none] [] m (qV Q)
abbrev j_X12_fillsWays_70_51 (d : Nat) (x1 : Int32) (m : dM) (Q : dM → Prop) : Prop := Wp d 50 51 [oR 70, oI x1, none, none, none] [] m (qV Q)
abbrev j_X12_fillsWays_70_59 (d : Nat) (x1 : Int32) (x2 : Int32) (m : dM) (Q : dM → Prop) : Prop := Wp d 50 59 [oR 70, oI x1, oI x2, none, none] [] m (qV Q)
abbrev j_X12_fillsWays_70_146 (d : Nat) (x1 : Int32) (x2 : Int32) (x3 : Int32) (x4 : Int32) (m : dM) (Q : dM → Prop) : Prop := Wp d 50 146 [oR 70, oI x1, oI x2, oI x3, oI x4] [] m (qV Q)
abbrev j_X12_fillsWays_70_177 (d : Nat) (x1 : Int32) (x2 : Int32) (m : dM) (Q : dM → Prop) : Prop := Wp d 50 177 [oR 70, oI x1, oI x2, none, none] [] m (qV Q)
abbrev j_X12_fillsWays_70_191 (d : Nat) (x1 : Int32) (m : dM) (Q : dM → Prop) : Prop := Wp d 50 191 [oR 70, oI x1, none, none, none] [] m (qV Q)
abbrev j_X12_fillsWays_70_199 (d : Nat) (x1 : Int32) (x2 : Int32) (m : dM) (Q : dM → Prop) : Prop := Wp d 50 199 [oR 70, oI x1, oI x2, none, none] [] m (qV Q)
abbrev j_X12_fillsWays_70_245 (d : Nat) (x1 : Int32) (x2 : Int32) (m : dM) (Q : dM → Prop) : Prop := Wp d 50 245 [oR 70, oI x1, oI x2, none, none] [] m (qV Q)
abbrev c_X12_copies_70 (d : Nat) (m : dM) (Q : dM → Prop) : Prop := Wp d 44 0 [oR 70, none] [] m (qV Q)
abbrev j_X12_copies_70_2 (d : Nat) (x1 : Int32) (m : dM) (Q : dM → Prop) : Prop := Wp d 44 2 [oR 70, oI x1] [] m (qV Q)
abbrev c_X12_isLit_70 (d : Nat) (x1 : Int32) (m : dM) (Q : Int32 → dM → Prop) : Prop := Wp d 51 0 [oR 70, oI x1] [] m (qI Q)
abbrev c_X12_looks_70 (d : Nat) (x1 : Int32) (x2 : Int32) (m : dM) (Q : dM → Prop) : Prop := Wp d 58 0 [oR 70, oI x1, oI x2, none] [] m (qV Q)
abbrev j_X12_looks_70_2 (d : Nat) (x1 : Int32) (x2 : Int32) (x3 : Int32) (m : dM) (Q : dM → Prop) : Prop := Wp d 58 2 [oR 70, oI x1, oI x2, oI x3] [] m (qV Q)
abbrev c_X12_termOf_70 (d : Nat) (x1 : Int32) (x2 : Int32) (m : dM) (Q : Int32 → dM → Prop) : Prop := Wp d 35 0 [oR 70, oI x1, oI x2, none, none, none, none, none] [] m (qI Q)
abbrev j_X12_termOf_70_5 (d : Nat) (x2 : Int32) (x3 : Int32) (x4 : Int32) (m : dM) (Q : Int32 → dM → Prop) : Prop := Wp d 35 5 [oR 70, none, oI x2, oI x3, oI x4, none, none, none] [] m (qI Q)
abbrev j_X12_termOf_70_104 (d : Nat) (x2 : Int32) (x3 : Int32) (x4 : Int32) (x5 : Int32) (x6 : Int32) (x7 : Int32) (m : dM) (Q : Int32 → dM → Prop) : Prop := Wp d 35 104 [oR 70, none, oI x2, oI x3, oI x4, oI x5, oI x6, oI x7] [] m (qI Q)
abbrev j_X12_termOf_70_159 (d : Nat) (x2 : Int32) (x3 : Int32) (x4 : Int32) (m : dM) (Q : Int32 → dM → Prop) : Prop := Wp d 35 159 [oR 70, none, oI x2, oI x3, oI x4, none, none, none] [] m (qI Q)
abbrev c_X12_lawTells_70 (d : Nat) (x1 : Int32) (x2 : Int32) (m : dM) (Q : Int32 → dM → Prop) : Prop := Wp d 59 0 [oR 70, oI x1, oI x2, none, none, none, none] [] m (qI Q)
abbrev j_X12_lawTells_70_39 (d : Nat) (x3 : Int32) (x4 : Int32) (m : dM) (Q : Int32 → dM → Prop) : Prop := Wp d 59 39 [oR 70, none, none, oI x3, oI x4, none, none] [] m (qI Q)
abbrev j_X12_lawTells_70_119 (d : Nat) (x4 : Int32) (m : dM) (Q : Int32 → dM → Prop) : Prop := Wp d 59 119 [oR 70, none, none, none, oI x4, none, none] [] m (qI Q)
abbrev c_X12_within (d : Nat) (x0 : Int32) (x1 : Int32) (x2 : Int32) (m : dM) (Q : Int32 → dM → Prop) : Prop := Wp d 37 0 [oI x0, oI x1, oI x2] [] m (qI Q)
abbrev c_X12_quarrelOf_70 (d : Nat) (x1 : Int32) (m : dM) (Q : Int32 → dM → Prop) : Prop := Wp d 62 0 [oR 70, oI x1] [] m (qI Q)
abbrev c_X12_flatAt_70 (d : Nat) (x1 : Int32) (m : dM) (Q : Int32 → dM → Prop) : Prop := Wp d 53 0 [oR 70, oI x1] [] m (qI Q)
abbrev c_X12_onAt_70 (d : Nat) (x1 : Int32) (m : dM) (Q : Int32 → dM → Prop) : Prop := Wp d 55 0 [oR 70, oI x1, none, none] [] m (qI Q)
abbrev j_X12_onAt_70_4 (d : Nat) (x1 : Int32) (x2 : Int32) (x3 : Int32) (m : dM) (Q : Int32 → dM → Prop) : Prop := Wp d 55 4 [oR 70, oI x1, oI x2, oI x3] [] m (qI Q)
abbrev j_X12_onAt_70_83 (d : Nat) (x1 : Int32) (x2 : Int32) (x3 : Int32) (m : dM) (Q : Int32 → dM → Prop) : Prop := Wp d 55 83 [oR 70, oI x1, oI x2, oI x3] [] m (qI Q)
abbrev c_X12_onNow_70 (d : Nat) (m : dM) (Q : Int32 → dM → Prop) : Prop := Wp d 56 0 [oR 70] [] m (qI Q)
abbrev c_X12_ampsAt_70 (d : Nat) (x1 : Int32) (m : dM) (Q : Int32 → dM → Prop) : Prop := Wp d 54 0 [oR 70, oI x1] [] m (qI Q)
abbrev c_X12_ampsOn_70 (d : Nat) (x1 : Int32) (m : dM) (Q : Int32 → dM → Prop) : Prop := Wp d 70 0 [oR 70, oI x1, none, none, none] [] m (qI Q)
abbrev j_X12_ampsOn_70_10 (d : Nat) (x1 : Int32) (x2 : Int32) (x3 : Int32) (x4 : Int32) (m : dM) (Q : Int32 → dM → Prop) : Prop := Wp d 70 10 [oR 70, oI x1, oI x2, oI x3, oI x4] [] m (qI Q)
abbrev j_X12_ampsOn_70_53 (d : Nat) (x1 : Int32) (x2 : Int32) (x3 : Int32) (x4 : Int32) (m : dM) (Q : Int32 → dM → Prop) : Prop := Wp d 70 53 [oR 70, oI x1, oI x2, oI x3, oI x4] [] m (qI Q)
abbrev c_X12_flat_70 (d : Nat) (x1 : Int32) (x2 : Int32) (m : dM) (Q : Int32 → dM → Prop) : Prop := Wp d 69 0 [oR 70, oI x1, oI x2] [] m (qI Q)
abbrev c_X11_isWire_0 (d : Nat) (x1 : Int32) (m : dM) (Q : Int32 → dM → Prop) : Prop := Wp d 249 0 [oR 0, oI x1] [] m (qI Q)
abbrev j_X11_isWire_0_19 (d : Nat) (m : dM) (Q : Int32 → dM → Prop) : Prop := Wp d 249 19 [none, none] [] m (qI Q)
abbrev c_J7_fill_56 (d : Nat) (x1 : Int32) (m : dM) (Q : dM → Prop) : Prop := Wp d 286 0 [oR 56, oI x1, none, none] [] m (qV Q)
abbrev j_J7_fill_56_5 (d : Nat) (x1 : Int32) (x2 : Int32) (x3 : Int32) (m : dM) (Q : dM → Prop) : Prop := Wp d 286 5 [oR 56, oI x1, oI x2, oI x3] [] m (qV Q)
abbrev c_X0_putOn_54_47 (d : Nat) (x2 : Int32) (m : dM) (Q : dM → Prop) : Prop := Wp d 120 0 [oR 54, oR 47, oI x2, none, none, none] [] m (qV Q)
abbrev j_X0_putOn_54_47_21 (d : Nat) (x2 : Int32) (x3 : Int32) (m : dM) (Q : dM → Prop) : Prop := Wp d 120 21 [oR 54, none, oI x2, oI x3, none, none] [] m (qV Q)
abbrev j_X0_putOn_54_47_66 (d : Nat) (x2 : Int32) (x3 : Int32) (x4 : Int32) (x5 : Int32) (m : dM) (Q : dM → Prop) : Prop := Wp d 120 66 [oR 54, none, oI x2, oI x3, oI x4, oI x5] [] m (qV Q)
abbrev j_X0_putOn_54_47_125 (d : Nat) (x2 : Int32) (x3 : Int32) (m : dM) (Q : dM → Prop) : Prop := Wp d 120 125 [oR 54, none, oI x2, oI x3, none, none] [] m (qV Q)
abbrev c_X0_loadNow_54_47 (d : Nat) (x2 : Int32) (m : dM) (Q : Int32 → dM → Prop) : Prop := Wp d 121 0 [oR 54, oR 47, oI x2] [] m (qI Q)
abbrev c_X0_costOf_54_47 (d : Nat) (x2 : Int32) (m : dM) (Q : Int32 → dM → Prop) : Prop := Wp d 128 0 [oR 54, oR 47, oI x2] [] m (qI Q)
abbrev c_X0_going_54_47 (d : Nat) (x2 : Int32) (x3 : Int32) (m : dM) (Q : Int32 → dM → Prop) : Prop := Wp d 124 0 [oR 54, oR 47, oI x2, oI x3, none, none] [] m (qI Q)
abbrev j_X0_going_54_47_6 (d : Nat) (x2 : Int32) (x3 : Int32) (x4 : Int32) (x5 : Int32) (m : dM) (Q : Int32 → dM → Prop) : Prop := Wp d 124 6 [oR 54, oR 47, oI x2, oI x3, oI x4, oI x5] [] m (qI Q)
abbrev j_X0_going_54_47_119 (d : Nat) (x2 : Int32) (x3 : Int32) (x4 : Int32) (x5 : Int32) (m : dM) (Q : Int32 → dM → Prop) : Prop := Wp d 124 119 [oR 54, oR 47, oI x2, oI x3, oI x4, oI x5] [] m (qI Q)
abbrev c_X0_goingWith_54_47 (d : Nat) (x2 : Int32) (m : dM) (Q : Int32 → dM → Prop) : Prop := Wp d 123 0 [oR 54, oR 47, oI x2] [] m (qI Q)
abbrev c_X0_goingNow_54_47 (d : Nat) (m : dM) (Q : Int32 → dM → Prop) : Prop := Wp d 122 0 [oR 54, oR 47] [] m (qI Q)
abbrev c_X11_wire_0 (d : Nat) (x1 : Int32) (x2 : Int32) (m : dM) (Q : Int32 → dM → Prop) : Prop := Wp d 252 0 [oR 0, oI x1, oI x2] [] m (qI Q)
abbrev c_X12_loadBy_70 (d : Nat) (x1 : Int32) (x2 : Int32) (m : dM) (Q : Int32 → dM → Prop) : Prop := Wp d 57 0 [oR 70, oI x1, oI x2, none, none] [] m (qI Q)
abbrev j_X12_loadBy_70_5 (d : Nat) (x1 : Int32) (x2 : Int32) (x3 : Int32) (x4 : Int32) (m : dM) (Q : Int32 → dM → Prop) : Prop := Wp d 57 5 [oR 70, oI x1, oI x2, oI x3, oI x4] [] m (qI Q)
abbrev j_X12_loadBy_70_57 (d : Nat) (x1 : Int32) (x2 : Int32) (x3 : Int32) (x4 : Int32) (m : dM) (Q : Int32 → dM → Prop) : Prop := Wp d 57 57 [oR 70, oI x1, oI x2, oI x3, oI x4] [] m (qI Q)
abbrev c_X12_costsOf_70 (d : Nat) (x1 : Int32) (m : dM) (Q : Int32 → dM → Prop) : Prop := Wp d 63 0 [oR 70, oI x1] [] m (qI Q)
abbrev c_X12_doesGo_70 (d : Nat) (x1 : Int32) (x2 : Int32) (x3 : Int32) (x4 : Int32) (m : dM) (Q : Int32 → dM → Prop) : Prop := Wp d 60 0 [oR 70, oI x1, oI x2, oI x3, oI x4, none] [] m (qI Q)
abbrev j_X12_doesGo_70_21 (d : Nat) (m : dM) (Q : Int32 → dM → Prop) : Prop := Wp d 60 21 [none, none, none, none, none, none] [] m (qI Q)
abbrev c_X12_wire_70 (d : Nat) (x1 : Int32) (x2 : Int32) (m : dM) (Q : Int32 → dM → Prop) : Prop := Wp d 71 0 [oR 70, oI x1, oI x2] [] m (qI Q)
abbrev c_X11_isUse_0 (d : Nat) (x1 : Int32) (m : dM) (Q : Int32 → dM → Prop) : Prop := Wp d 250 0 [oR 0, oI x1] [] m (qI Q)
abbrev j_X11_isUse_0_19 (d : Nat) (m : dM) (Q : Int32 → dM → Prop) : Prop := Wp d 250 19 [none, none] [] m (qI Q)
abbrev c_X0_payOf_54_47 (d : Nat) (x2 : Int32) (m : dM) (Q : Int32 → dM → Prop) : Prop := Wp d 129 0 [oR 54, oR 47, oI x2] [] m (qI Q)
abbrev c_X11_use_0 (d : Nat) (x1 : Int32) (x2 : Int32) (m : dM) (Q : Int32 → dM → Prop) : Prop := Wp d 253 0 [oR 0, oI x1, oI x2, none] [] m (qI Q)
abbrev c_X12_isUse_70 (d : Nat) (x1 : Int32) (m : dM) (Q : Int32 → dM → Prop) : Prop := Wp d 41 0 [oR 70, oI x1] [] m (qI Q)
abbrev c_X12_paysOf_70 (d : Nat) (x1 : Int32) (m : dM) (Q : Int32 → dM → Prop) : Prop := Wp d 64 0 [oR 70, oI x1] [] m (qI Q)
abbrev c_X12_use_70 (d : Nat) (x1 : Int32) (x2 : Int32) (m : dM) (Q : Int32 → dM → Prop) : Prop := Wp d 72 0 [oR 70, oI x1, oI x2] [] m (qI Q)
abbrev c_X7_writeTo_47_52 (d : Nat) (x2 : Int32) (m : dM) (Q : dM → Prop) : Prop := Wp d 210 0 [oR 47, oR 52, oI x2] [] m (qV Q)
abbrev j_X7_writeTo_47_52_13 (d : Nat) (m : dM) (Q : dM → Prop) : Prop := Wp d 210 13 [none, none, none] [] m (qV Q)
abbrev c_X6_keep_51_47 (d : Nat) (m : dM) (Q : dM → Prop) : Prop := Wp d 203 0 [oR 51, oR 47] [] m (qV Q)
abbrev c_X11_agree_0 (d : Nat) (x1 : Int32) (x2 : Int32) (m : dM) (Q : Int32 → dM → Prop) : Prop := Wp d 254 0 [oR 0, oI x1, oI x2] [] m (qI Q)
abbrev j_X11_agree_0_23 (d : Nat) (m : dM) (Q : Int32 → dM → Prop) : Prop := Wp d 254 23 [none, none, none] [] m (qI Q)
abbrev c_X12_records_70 (d : Nat) (m : dM) (Q : dM → Prop) : Prop := Wp d 73 0 [oR 70, none] [] m (qV Q)
abbrev j_X12_records_70_11 (d : Nat) (x1 : Int32) (m : dM) (Q : dM → Prop) : Prop := Wp d 73 11 [oR 70, oI x1] [] m (qV Q)
abbrev j_X12_records_70_49 (d : Nat) (m : dM) (Q : dM → Prop) : Prop := Wp d 73 49 [oR 70, none] [] m (qV Q)
abbrev j_X12_records_70_51 (d : Nat) (x1 : Int32) (m : dM) (Q : dM → Prop) : Prop := Wp d 73 51 [oR 70, oI x1] [] m (qV Q)
abbrev c_X12_agree_70 (d : Nat) (x1 : Int32) (x2 : Int32) (m : dM) (Q : Int32 → dM → Prop) : Prop := Wp d 74 0 [oR 70, oI x1, oI x2] [] m (qI Q)
abbrev j_X12_agree_70_30 (d : Nat) (m : dM) (Q : Int32 → dM → Prop) : Prop := Wp d 74 30 [none, none, none] [] m (qI Q)
abbrev c_X11_mend_0 (d : Nat) (x1 : Int32) (m : dM) (Q : Int32 → dM → Prop) : Prop := Wp d 255 0 [oR 0, oI x1, none] [] m (qI Q)
abbrev j_X11_mend_0_48 (d : Nat) (m : dM) (Q : Int32 → dM → Prop) : Prop := Wp d 255 48 [none, none, none] [] m (qI Q)
abbrev c_X12_mend_70 (d : Nat) (x1 : Int32) (m : dM) (Q : Int32 → dM → Prop) : Prop := Wp d 75 0 [oR 70, oI x1] [] m (qI Q)
abbrev j_X12_mend_70_41 (d : Nat) (m : dM) (Q : Int32 → dM → Prop) : Prop := Wp d 75 41 [none, none] [] m (qI Q)
abbrev c_X11_thicken_0 (d : Nat) (x1 : Int32) (m : dM) (Q : Int32 → dM → Prop) : Prop := Wp d 256 0 [oR 0, oI x1, none] [] m (qI Q)
abbrev j_X11_thicken_0_62 (d : Nat) (m : dM) (Q : Int32 → dM → Prop) : Prop := Wp d 256 62 [none, none, none] [] m (qI Q)
abbrev c_X12_thicken_70 (d : Nat) (x1 : Int32) (m : dM) (Q : Int32 → dM → Prop) : Prop := Wp d 76 0 [oR 70, oI x1] [] m (qI Q)
abbrev j_X12_thicken_70_53 (d : Nat) (m : dM) (Q : Int32 → dM → Prop) : Prop := Wp d 76 53 [none, none] [] m (qI Q)
abbrev c_X11_pin_0 (d : Nat) (x1 : Int32) (x2 : Int32) (m : dM) (Q : Int32 → dM → Prop) : Prop := Wp d 257 0 [oR 0, oI x1, oI x2] [] m (qI Q)
abbrev j_X11_pin_0_37 (d : Nat) (m : dM) (Q : Int32 → dM → Prop) : Prop := Wp d 257 37 [none, none, none] [] m (qI Q)
abbrev c_X12_pin_70 (d : Nat) (x1 : Int32) (x2 : Int32) (m : dM) (Q : Int32 → dM → Prop) : Prop := Wp d 77 0 [oR 70, oI x1, oI x2] [] m (qI Q)
abbrev j_X12_pin_70_43 (d : Nat) (m : dM) (Q : Int32 → dM → Prop) : Prop := Wp d 77 43 [none, none, none] [] m (qI Q)
abbrev c_X0_takePay_54_47 (d : Nat) (m : dM) (Q : dM → Prop) : Prop := Wp d 135 0 [oR 54, oR 47, none, none] [] m (qV Q)
abbrev j_X0_takePay_54_47_12 (d : Nat) (x2 : Int32) (x3 : Int32) (m : dM) (Q : dM → Prop) : Prop := Wp d 135 12 [oR 54, oR 47, oI x2, oI x3] [] m (qV Q)
abbrev j_X0_takePay_54_47_51 (d : Nat) (x2 : Int32) (x3 : Int32) (m : dM) (Q : dM → Prop) : Prop := Wp d 135 51 [oR 54, oR 47, oI x2, oI x3] [] m (qV Q)
abbrev c_X0_countQuarrels_54_47 (d : Nat) (m : dM) (Q : dM → Prop) : Prop := Wp d 136 0 [oR 54, oR 47, none] [] m (qV Q)
abbrev j_X0_countQuarrels_54_47_13 (d : Nat) (x2 : Int32) (m : dM) (Q : dM → Prop) : Prop := Wp d 136 13 [oR 54, oR 47, oI x2] [] m (qV Q)
abbrev j_X0_countQuarrels_54_47_78 (d : Nat) (x2 : Int32) (m : dM) (Q : dM → Prop) : Prop := Wp d 136 78 [oR 54, oR 47, oI x2] [] m (qV Q)
abbrev c_X0_stirred (d : Nat) (x0 : Int32) (x1 : Int32) (m : dM) (Q : Int32 → dM → Prop) : Prop := Wp d 133 0 [oI x0, oI x1, none] [] m (qI Q)
abbrev c_X0_lot (d : Nat) (x0 : Int32) (x1 : Int32) (x2 : Int32) (m : dM) (Q : Int32 → dM → Prop) : Prop := Wp d 132 0 [oI x0, oI x1, oI x2, none] [] m (qI Q)
abbrev c_X0_isSurge_54 (d : Nat) (x1 : Int32) (x2 : Int32) (m : dM) (Q : Int32 → dM → Prop) : Prop := Wp d 130 0 [oR 54, oI x1, oI x2] [] m (qI Q)
abbrev c_X0_surgeOf_54 (d : Nat) (x1 : Int32) (x2 : Int32) (m : dM) (Q : Int32 → dM → Prop) : Prop := Wp d 131 0 [oR 54, oI x1, oI x2] [] m (qI Q)
abbrev c_X0_passWires_54_47 (d : Nat) (x2 : Int32) (m : dM) (Q : Int32 → dM → Prop) : Prop := Wp d 137 0 [oR 54, oR 47, oI x2, none, none] [] m (qI Q)
abbrev j_X0_passWires_54_47_38 (d : Nat) (x3 : Int32) (x4 : Int32) (m : dM) (Q : Int32 → dM → Prop) : Prop := Wp d 137 38 [oR 54, oR 47, none, oI x3, oI x4] [] m (qI Q)
abbrev j_X0_passWires_54_47_84 (d : Nat) (x3 : Int32) (x4 : Int32) (m : dM) (Q : Int32 → dM → Prop) : Prop := Wp d 137 84 [oR 54, oR 47, none, oI x3, oI x4] [] m (qI Q)
abbrev c_X0_passHour_54_47 (d : Nat) (m : dM) (Q : dM → Prop) : Prop := Wp d 134 0 [oR 54, oR 47] [] m (qV Q)
abbrev c_X11_hours_0 (d : Nat) (x1 : Int32) (m : dM) (Q : Int32 → dM → Prop) : Prop := Wp d 258 0 [oR 0, oI x1, none] [] m (qI Q)
abbrev j_X11_hours_0_10 (d : Nat) (m : dM) (Q : Int32 → dM → Prop) : Prop := Wp d 258 10 [none, none, none] [] m (qI Q)
abbrev j_X11_hours_0_27 (d : Nat) (x1 : Int32) (m : dM) (Q : Int32 → dM → Prop) : Prop := Wp d 258 27 [oR 0, oI x1, none] [] m (qI Q)
abbrev j_X11_hours_0_29 (d : Nat) (x1 : Int32) (x2 : Int32) (m : dM) (Q : Int32 → dM → Prop) : Prop := Wp d 258 29 [oR 0, oI x1, oI x2] [] m (qI Q)
abbrev c_X12_isLong (d : Nat) (x0 : Int32) (m : dM) (Q : Int32 → dM → Prop) : Prop := Wp d 78 0 [oI x0] [] m (qI Q)
abbrev c_X12_goingBits_70 (d : Nat) (x1 : Int32) (x2 : Int32) (x3 : Int32) (m : dM) (Q : Int32 → dM → Prop) : Prop := Wp d 61 0 [oR 70, oI x1, oI x2, oI x3, none, none] [] m (qI Q)
abbrev j_X12_goingBits_70_6 (d : Nat) (x1 : Int32) (x2 : Int32) (x3 : Int32) (x4 : Int32) (x5 : Int32) (m : dM) (Q : Int32 → dM → Prop) : Prop := Wp d 61 6 [oR 70, oI x1, oI x2, oI x3, oI x4, oI x5] [] m (qI Q)
abbrev j_X12_goingBits_70_41 (d : Nat) (x1 : Int32) (x2 : Int32) (x3 : Int32) (x4 : Int32) (x5 : Int32) (m : dM) (Q : Int32 → dM → Prop) : Prop := Wp d 61 41 [oR 70, oI x1, oI x2, oI x3, oI x4, oI x5] [] m (qI Q)
abbrev c_X12_paysAll_70 (d : Nat) (x1 : Int32) (m : dM) (Q : Int32 → dM → Prop) : Prop := Wp d 65 0 [oR 70, oI x1, none, none] [] m (qI Q)
abbrev j_X12_paysAll_70_4 (d : Nat) (x1 : Int32) (x2 : Int32) (x3 : Int32) (m : dM) (Q : Int32 → dM → Prop) : Prop := Wp d 65 4 [oR 70, oI x1, oI x2, oI x3] [] m (qI Q)
abbrev j_X12_paysAll_70_34 (d : Nat) (x1 : Int32) (x2 : Int32) (x3 : Int32) (m : dM) (Q : Int32 → dM → Prop) : Prop := Wp d 65 34 [oR 70, oI x1, oI x2, oI x3] [] m (qI Q)
abbrev c_X12_quarrelsAll_70 (d : Nat) (m : dM) (Q : Int32 → dM → Prop) : Prop := Wp d 66 0 [oR 70, none, none] [] m (qI Q)
abbrev j_X12_quarrelsAll_70_4 (d : Nat) (x1 : Int32) (x2 : Int32) (m : dM) (Q : Int32 → dM → Prop) : Prop := Wp d 66 4 [oR 70, oI x1, oI x2] [] m (qI Q)
abbrev j_X12_quarrelsAll_70_33 (d : Nat) (x1 : Int32) (x2 : Int32) (m : dM) (Q : Int32 → dM → Prop) : Prop := Wp d 66 33 [oR 70, oI x1, oI x2] [] m (qI Q)
abbrev c_X12_mixed (d : Nat) (x0 : Int32) (x1 : Int32) (m : dM) (Q : Int32 → dM → Prop) : Prop := Wp d 45 0 [oI x0, oI x1, none] [] m (qI Q)
abbrev c_X12_isSurge_70 (d : Nat) (m : dM) (Q : Int32 → dM → Prop) : Prop := Wp d 46 0 [oR 70] [] m (qI Q)
abbrev c_X12_hourGoes_70 (d : Nat) (m : dM) (Q : dM → Prop) : Prop := Wp d 67 0 [oR 70, none, none, none, none] [] m (qV Q)
abbrev j_X12_hourGoes_70_111 (d : Nat) (x4 : Int32) (m : dM) (Q : dM → Prop) : Prop := Wp d 67 111 [oR 70, none, none, none, oI x4] [] m (qV Q)
abbrev j_X12_hourGoes_70_169 (d : Nat) (x4 : Int32) (m : dM) (Q : dM → Prop) : Prop := Wp d 67 169 [oR 70, none, none, none, oI x4] [] m (qV Q)
abbrev j_X12_hourGoes_70_256 (d : Nat) (x4 : Int32) (m : dM) (Q : dM → Prop) : Prop := Wp d 67 256 [oR 70, none, none, none, oI x4] [] m (qV Q)
abbrev j_X12_hourGoes_70_284 (d : Nat) (m : dM) (Q : dM → Prop) : Prop := Wp d 67 284 [none, none, none, none, none] [] m (qV Q)
abbrev c_X12_goes_70 (d : Nat) (x1 : Int32) (m : dM) (Q : dM → Prop) : Prop := Wp d 68 0 [oR 70, oI x1, none] [] m (qV Q)
abbrev j_X12_goes_70_2 (d : Nat) (x1 : Int32) (x2 : Int32) (m : dM) (Q : dM → Prop) : Prop := Wp d 68 2 [oR 70, oI x1, oI x2] [] m (qV Q)
abbrev c_X12_hours_70 (d : Nat) (x1 : Int32) (m : dM) (Q : Int32 → dM → Prop) : Prop := Wp d 79 0 [oR 70, oI x1] [] m (qI Q)
abbrev c_X7_readFrom_47_52 (d : Nat) (x2 : Int32) (m : dM) (Q : dM → Prop) : Prop := Wp d 211 0 [oR 47, oR 52, oI x2] [] m (qV Q)
abbrev j_X7_readFrom_47_52_13 (d : Nat) (m : dM) (Q : dM → Prop) : Prop := Wp d 211 13 [none, none, none] [] m (qV Q)
abbrev c_X6_takeBack_51_47 (d : Nat) (m : dM) (Q : Int32 → dM → Prop) : Prop := Wp d 204 0 [oR 51, oR 47] [] m (qI Q)
abbrev c_X11_undo_0 (d : Nat) (m : dM) (Q : Int32 → dM → Prop) : Prop := Wp d 259 0 [oR 0] [] m (qI Q)
abbrev c_X12_undo_70 (d : Nat) (m : dM) (Q : Int32 → dM → Prop) : Prop := Wp d 80 0 [oR 70, none] [] m (qI Q)
abbrev j_X12_undo_70_21 (d : Nat) (x1 : Int32) (m : dM) (Q : Int32 → dM → Prop) : Prop := Wp d 80 21 [oR 70, oI x1] [] m (qI Q)
abbrev c_X10_wireAt_57 (d : Nat) (x1 : Int32) (x2 : Int32) (m : dM) (Q : Int32 → dM → Prop) : Prop := Wp d 241 0 [oR 57, oI x1, oI x2, none, none, none] [] m (qI Q)
abbrev j_X10_wireAt_57_14 (d : Nat) (m : dM) (Q : Int32 → dM → Prop) : Prop := Wp d 241 14 [none, none, none, none, none, none] [] m (qI Q)
abbrev j_X10_wireAt_57_21 (d : Nat) (x2 : Int32) (x3 : Int32) (x4 : Int32) (m : dM) (Q : Int32 → dM → Prop) : Prop := Wp d 241 21 [oR 57, none, oI x2, oI x3, oI x4, none] [] m (qI Q)
abbrev c_X11_way_0 (d : Nat) (x1 : Int32) (x2 : Int32) (m : dM) (Q : Int32 → dM → Prop) : Prop := Wp d 260 0 [oR 0, oI x1, oI x2, none] [] m (qI Q)
abbrev j_X11_way_0_12 (d : Nat) (m : dM) (Q : Int32 → dM → Prop) : Prop := Wp d 260 12 [none, none, none, none] [] m (qI Q)
abbrev c_X12_way_70 (d : Nat) (x1 : Int32) (x2 : Int32) (m : dM) (Q : Int32 → dM → Prop) : Prop := Wp d 81 0 [oR 70, oI x1, oI x2, none, none] [] m (qI Q)
abbrev j_X12_way_70_12 (d : Nat) (m : dM) (Q : Int32 → dM → Prop) : Prop := Wp d 81 12 [none, none, none, none, none] [] m (qI Q)
abbrev j_X12_way_70_46 (d : Nat) (x2 : Int32) (x3 : Int32) (x4 : Int32) (m : dM) (Q : Int32 → dM → Prop) : Prop := Wp d 81 46 [oR 70, none, oI x2, oI x3, oI x4] [] m (qI Q)
abbrev c_X7_copy_62_47 (d : Nat) (m : dM) (Q : dM → Prop) : Prop := Wp d 209 0 [oR 62, oR 47] [] m (qV Q)
abbrev c_X7_hourOfDay_62 (d : Nat) (m : dM) (Q : Int32 → dM → Prop) : Prop := Wp d 212 0 [oR 62] [] m (qI Q)
abbrev c_X0_usesAt_54_62 (d : Nat) (x2 : Int32) (m : dM) (Q : Int32 → dM → Prop) : Prop := Wp d 118 0 [oR 54, oR 62, oI x2, none, none, none] [] m (qI Q)
abbrev j_X0_usesAt_54_62_16 (d : Nat) (x2 : Int32) (x3 : Int32) (x4 : Int32) (m : dM) (Q : Int32 → dM → Prop) : Prop := Wp d 118 16 [oR 54, oR 62, oI x2, oI x3, oI x4, none] [] m (qI Q)
abbrev j_X0_usesAt_54_62_60 (d : Nat) (x2 : Int32) (x3 : Int32) (x4 : Int32) (m : dM) (Q : Int32 → dM → Prop) : Prop := Wp d 118 60 [oR 54, oR 62, oI x2, oI x3, oI x4, none] [] m (qI Q)
abbrev j_X0_usesAt_54_62_110 (d : Nat) (x2 : Int32) (x3 : Int32) (x4 : Int32) (m : dM) (Q : Int32 → dM → Prop) : Prop := Wp d 118 110 [oR 54, oR 62, oI x2, oI x3, oI x4, none] [] m (qI Q)
abbrev c_X0_putOn_54_62 (d : Nat) (x2 : Int32) (m : dM) (Q : dM → Prop) : Prop := Wp d 120 0 [oR 54, oR 62, oI x2, none, none, none] [] m (qV Q)
abbrev j_X0_putOn_54_62_21 (d : Nat) (x2 : Int32) (x3 : Int32) (m : dM) (Q : dM → Prop) : Prop := Wp d 120 21 [oR 54, none, oI x2, oI x3, none, none] [] m (qV Q)
abbrev j_X0_putOn_54_62_66 (d : Nat) (x2 : Int32) (x3 : Int32) (x4 : Int32) (x5 : Int32) (m : dM) (Q : dM → Prop) : Prop := Wp d 120 66 [oR 54, none, oI x2, oI x3, oI x4, oI x5] [] m (qV Q)
abbrev j_X0_putOn_54_62_125 (d : Nat) (x2 : Int32) (x3 : Int32) (m : dM) (Q : dM → Prop) : Prop := Wp d 120 125 [oR 54, none, oI x2, oI x3, none, none] [] m (qV Q)
abbrev c_X7_day_62 (d : Nat) (m : dM) (Q : Int32 → dM → Prop) : Prop := Wp d 213 0 [oR 62] [] m (qI Q)
abbrev c_X0_going_54_62 (d : Nat) (x2 : Int32) (x3 : Int32) (m : dM) (Q : Int32 → dM → Prop) : Prop := Wp d 124 0 [oR 54, oR 62, oI x2, oI x3, none, none] [] m (qI Q)
abbrev j_X0_going_54_62_6 (d : Nat) (x2 : Int32) (x3 : Int32) (x4 : Int32) (x5 : Int32) (m : dM) (Q : Int32 → dM → Prop) : Prop := Wp d 124 6 [oR 54, oR 62, oI x2, oI x3, oI x4, oI x5] [] m (qI Q)
abbrev j_X0_going_54_62_119 (d : Nat) (x2 : Int32) (x3 : Int32) (x4 : Int32) (x5 : Int32) (m : dM) (Q : Int32 → dM → Prop) : Prop := Wp d 124 119 [oR 54, oR 62, oI x2, oI x3, oI x4, oI x5] [] m (qI Q)
abbrev c_X0_passWires_54_62 (d : Nat) (x2 : Int32) (m : dM) (Q : Int32 → dM → Prop) : Prop := Wp d 137 0 [oR 54, oR 62, oI x2, none, none] [] m (qI Q)
abbrev j_X0_passWires_54_62_38 (d : Nat) (x3 : Int32) (x4 : Int32) (m : dM) (Q : Int32 → dM → Prop) : Prop := Wp d 137 38 [oR 54, oR 62, none, oI x3, oI x4] [] m (qI Q)
abbrev j_X0_passWires_54_62_84 (d : Nat) (x3 : Int32) (x4 : Int32) (m : dM) (Q : Int32 → dM → Prop) : Prop := Wp d 137 84 [oR 54, oR 62, none, oI x3, oI x4] [] m (qI Q)
abbrev c_X1_peakOf_61_47 (d : Nat) (x2 : Int32) (x3 : Int32) (x4 : Int32) (m : dM) (Q : Int32 → dM → Prop) : Prop := Wp d 139 0 [oR 61, oR 47, oI x2, oI x3, oI x4, none, none, none] [] m (qI Q)
abbrev j_X1_peakOf_61_47_17 (d : Nat) (x2 : Int32) (x3 : Int32) (x4 : Int32) (x5 : Int32) (x6 : Int32) (x7 : Int32) (m : dM) (Q : Int32 → dM → Prop) : Prop := Wp d 139 17 [oR 61, none, oI x2, oI x3, oI x4, oI x5, oI x6, oI x7] [] m (qI Q)
abbrev j_X1_peakOf_61_47_65 (d : Nat) (x2 : Int32) (x3 : Int32) (x4 : Int32) (x5 : Int32) (x6 : Int32) (x7 : Int32) (m : dM) (Q : Int32 → dM → Prop) : Prop := Wp d 139 65 [oR 61, none, oI x2, oI x3, oI x4, oI x5, oI x6, oI x7] [] m (qI Q)
abbrev c_X11_peak_0 (d : Nat) (x1 : Int32) (x2 : Int32) (x3 : Int32) (m : dM) (Q : Int32 → dM → Prop) : Prop := Wp d 261 0 [oR 0, oI x1, oI x2, oI x3] [] m (qI Q)
abbrev j_X11_peak_0_28 (d : Nat) (m : dM) (Q : Int32 → dM → Prop) : Prop := Wp d 261 28 [none, none, none, none] [] m (qI Q)
abbrev c_X12_copiesStill_70 (d : Nat) (m : dM) (Q : dM → Prop) : Prop := Wp d 82 0 [oR 70] [] m (qV Q)
abbrev c_X12_peak_70 (d : Nat) (x1 : Int32) (x2 : Int32) (x3 : Int32) (m : dM) (Q : Int32 → dM → Prop) : Prop := Wp d 83 0 [oR 70, oI x1, oI x2, oI x3, none, none, none, none] [] m (qI Q)
abbrev j_X12_peak_70_27 (d : Nat) (m : dM) (Q : Int32 → dM → Prop) : Prop := Wp d 83 27 [none, none, none, none, none, none, none, none] [] m (qI Q)
abbrev j_X12_peak_70_42 (d : Nat) (x1 : Int32) (x2 : Int32) (x3 : Int32) (x4 : Int32) (x5 : Int32) (x6 : Int32) (m : dM) (Q : Int32 → dM → Prop) : Prop := Wp d 83 42 [oR 70, oI x1, oI x2, oI x3, oI x4, oI x5, oI x6, none] [] m (qI Q)
abbrev j_X12_peak_70_86 (d : Nat) (x1 : Int32) (x2 : Int32) (x3 : Int32) (x4 : Int32) (x5 : Int32) (x6 : Int32) (m : dM) (Q : Int32 → dM → Prop) : Prop := Wp d 83 86 [oR 70, oI x1, oI x2, oI x3, oI x4, oI x5, oI x6, none] [] m (qI Q)
abbrev c_X1_trialTillGone_61 (d : Nat) (m : dM) (Q : Int32 → dM → Prop) : Prop := Wp d 142 0 [oR 61, none] [] m (qI Q)
abbrev j_X1_trialTillGone_61_7 (d : Nat) (x1 : Int32) (m : dM) (Q : Int32 → dM → Prop) : Prop := Wp d 142 7 [oR 61, oI x1] [] m (qI Q)
abbrev c_X1_firstGone_61_47 (d : Nat) (m : dM) (Q : Int32 → dM → Prop) : Prop := Wp d 140 0 [oR 61, oR 47] [] m (qI Q)
abbrev c_X11_bitAt (d : Nat) (x0 : Int32) (x1 : Int32) (m : dM) (Q : Int32 → dM → Prop) : Prop := Wp d 284 0 [oI x0, oI x1, none, none] [] m (qI Q)
abbrev j_X11_bitAt_4 (d : Nat) (x0 : Int32) (x1 : Int32) (x2 : Int32) (x3 : Int32) (m : dM) (Q : Int32 → dM → Prop) : Prop := Wp d 284 4 [oI x0, oI x1, oI x2, oI x3] [] m (qI Q)
abbrev j_X11_bitAt_28 (d : Nat) (x0 : Int32) (x1 : Int32) (x2 : Int32) (x3 : Int32) (m : dM) (Q : Int32 → dM → Prop) : Prop := Wp d 284 28 [oI x0, oI x1, oI x2, oI x3] [] m (qI Q)
abbrev c_X1_firstWire_61 (d : Nat) (m : dM) (Q : Int32 → dM → Prop) : Prop := Wp d 141 0 [oR 61] [] m (qI Q)
abbrev c_X11_first_0 (d : Nat) (x1 : Int32) (m : dM) (Q : Int32 → dM → Prop) : Prop := Wp d 262 0 [oR 0, oI x1, none] [] m (qI Q)
abbrev j_X11_first_0_9 (d : Nat) (m : dM) (Q : Int32 → dM → Prop) : Prop := Wp d 262 9 [none, none, none] [] m (qI Q)
abbrev c_X12_firstGoing_70 (d : Nat) (m : dM) (Q : Int32 → dM → Prop) : Prop := Wp d 84 0 [oR 70, none] [] m (qI Q)
abbrev j_X12_firstGoing_70_2 (d : Nat) (x1 : Int32) (m : dM) (Q : Int32 → dM → Prop) : Prop := Wp d 84 2 [oR 70, oI x1] [] m (qI Q)
abbrev c_X12_lowestOf (d : Nat) (x0 : Int32) (m : dM) (Q : Int32 → dM → Prop) : Prop := Wp d 85 0 [oI x0, none] [] m (qI Q)
abbrev j_X12_lowestOf_2 (d : Nat) (x0 : Int32) (x1 : Int32) (m : dM) (Q : Int32 → dM → Prop) : Prop := Wp d 85 2 [oI x0, oI x1] [] m (qI Q)
abbrev j_X12_lowestOf_22 (d : Nat) (x1 : Int32) (m : dM) (Q : Int32 → dM → Prop) : Prop := Wp d 85 22 [none, oI x1] [] m (qI Q)
abbrev c_X12_first_70 (d : Nat) (x1 : Int32) (m : dM) (Q : Int32 → dM → Prop) : Prop := Wp d 86 0 [oR 70, oI x1, none] [] m (qI Q)
abbrev c_X1_payOfAll_61 (d : Nat) (x1 : Int32) (m : dM) (Q : Int32 → dM → Prop) : Prop := Wp d 145 0 [oR 61, oI x1, none, none] [] m (qI Q)
abbrev j_X1_payOfAll_61_4 (d : Nat) (x1 : Int32) (x2 : Int32) (x3 : Int32) (m : dM) (Q : Int32 → dM → Prop) : Prop := Wp d 145 4 [oR 61, oI x1, oI x2, oI x3] [] m (qI Q)
abbrev c_X1_bestTogether_61_47 (d : Nat) (m : dM) (Q : Int32 → dM → Prop) : Prop := Wp d 144 0 [oR 61, oR 47, none, none, none, none, none] [] m (qI Q)
abbrev j_X1_bestTogether_61_47_17 (d : Nat) (x2 : Int32) (x3 : Int32) (x4 : Int32) (m : dM) (Q : Int32 → dM → Prop) : Prop := Wp d 144 17 [oR 61, oR 47, oI x2, oI x3, oI x4, none, none] [] m (qI Q)
abbrev j_X1_bestTogether_61_47_89 (d : Nat) (x3 : Int32) (x4 : Int32) (x5 : Int32) (x6 : Int32) (m : dM) (Q : Int32 → dM → Prop) : Prop := Wp d 144 89 [oR 61, oR 47, none, oI x3, oI x4, oI x5, oI x6] [] m (qI Q)
abbrev j_X1_bestTogether_61_47_148 (d : Nat) (x3 : Int32) (x4 : Int32) (x5 : Int32) (x6 : Int32) (m : dM) (Q : Int32 → dM → Prop) : Prop := Wp d 144 148 [oR 61, oR 47, none, oI x3, oI x4, oI x5, oI x6] [] m (qI Q)
abbrev c_X11_together_0 (d : Nat) (x1 : Int32) (m : dM) (Q : Int32 → dM → Prop) : Prop := Wp d 263 0 [oR 0, oI x1, none] [] m (qI Q)
abbrev j_X11_together_0_9 (d : Nat) (m : dM) (Q : Int32 → dM → Prop) : Prop := Wp d 263 9 [none, none, none] [] m (qI Q)
abbrev c_X12_usesLit_70 (d : Nat) (m : dM) (Q : Int32 → dM → Prop) : Prop := Wp d 87 0 [oR 70, none, none] [] m (qI Q)
abbrev j_X12_usesLit_70_4 (d : Nat) (x1 : Int32) (x2 : Int32) (m : dM) (Q : Int32 → dM → Prop) : Prop := Wp d 87 4 [oR 70, oI x1, oI x2] [] m (qI Q)
abbrev j_X12_usesLit_70_35 (d : Nat) (x1 : Int32) (x2 : Int32) (m : dM) (Q : Int32 → dM → Prop) : Prop := Wp d 87 35 [oR 70, oI x1, oI x2] [] m (qI Q)
abbrev c_X12_together_70 (d : Nat) (x1 : Int32) (m : dM) (Q : Int32 → dM → Prop) : Prop := Wp d 88 0 [oR 70, oI x1, none, none, none, none, none] [] m (qI Q)
abbrev j_X12_together_70_28 (d : Nat) (x1 : Int32) (x2 : Int32) (x3 : Int32) (x4 : Int32) (x5 : Int32) (m : dM) (Q : Int32 → dM → Prop) : Prop := Wp d 88 28 [oR 70, oI x1, oI x2, oI x3, oI x4, oI x5, none] [] m (qI Q)
abbrev j_X12_together_70_101 (d : Nat) (x1 : Int32) (x2 : Int32) (x3 : Int32) (x4 : Int32) (x5 : Int32) (m : dM) (Q : Int32 → dM → Prop) : Prop := Wp d 88 101 [oR 70, oI x1, oI x2, oI x3, oI x4, oI x5, none] [] m (qI Q)
abbrev c_X1_firstStart_61_47 (d : Nat) (x2 : Int32) (m : dM) (Q : Int32 → dM → Prop) : Prop := Wp d 146 0 [oR 61, oR 47, oI x2, none, none, none] [] m (qI Q)
abbrev j_X1_firstStart_61_47_28 (d : Nat) (x2 : Int32) (x3 : Int32) (x4 : Int32) (x5 : Int32) (m : dM) (Q : Int32 → dM → Prop) : Prop := Wp d 146 28 [oR 61, oR 47, oI x2, oI x3, oI x4, oI x5] [] m (qI Q)
abbrev c_X11_when_0 (d : Nat) (x1 : Int32) (m : dM) (Q : Int32 → dM → Prop) : Prop := Wp d 264 0 [oR 0, oI x1] [] m (qI Q)
abbrev c_X12_canBegin_70 (d : Nat) (x1 : Int32) (x2 : Int32) (m : dM) (Q : Int32 → dM → Prop) : Prop := Wp d 89 0 [oR 70, oI x1, oI x2, none, none, none] [] m (qI Q)
abbrev j_X12_canBegin_70_33 (d : Nat) (x1 : Int32) (x2 : Int32) (x3 : Int32) (x4 : Int32) (m : dM) (Q : Int32 → dM → Prop) : Prop := Wp d 89 33 [oR 70, oI x1, oI x2, oI x3, oI x4, none] [] m (qI Q)
abbrev j_X12_canBegin_70_75 (d : Nat) (x1 : Int32) (x2 : Int32) (x3 : Int32) (x4 : Int32) (x5 : Int32) (m : dM) (Q : Int32 → dM → Prop) : Prop := Wp d 89 75 [oR 70, oI x1, oI x2, oI x3, oI x4, oI x5] [] m (qI Q)
abbrev c_X12_when_70 (d : Nat) (x1 : Int32) (m : dM) (Q : Int32 → dM → Prop) : Prop := Wp d 90 0 [oR 70, oI x1, none, none] [] m (qI Q)
abbrev j_X12_when_70_46 (d : Nat) (x1 : Int32) (x2 : Int32) (x3 : Int32) (m : dM) (Q : Int32 → dM → Prop) : Prop := Wp d 90 46 [oR 70, oI x1, oI x2, oI x3] [] m (qI Q)
abbrev c_X1_bestThicker_61_47 (d : Nat) (x2 : Int32) (m : dM) (Q : Int32 → dM → Prop) : Prop := Wp d 143 0 [oR 61, oR 47, oI x2, none, none, none, none] [] m (qI Q)
abbrev j_X1_bestThicker_61_47_20 (d : Nat) (x2 : Int32) (x3 : Int32) (x4 : Int32) (x5 : Int32) (m : dM) (Q : Int32 → dM → Prop) : Prop := Wp d 143 20 [oR 61, oR 47, oI x2, oI x3, oI x4, oI x5, none] [] m (qI Q)
abbrev j_X1_bestThicker_61_47_105 (d : Nat) (x2 : Int32) (x3 : Int32) (x4 : Int32) (x5 : Int32) (m : dM) (Q : Int32 → dM → Prop) : Prop := Wp d 143 105 [oR 61, oR 47, oI x2, oI x3, oI x4, oI x5, none] [] m (qI Q)
abbrev j_X1_bestThicker_61_47_111 (d : Nat) (x4 : Int32) (m : dM) (Q : Int32 → dM → Prop) : Prop := Wp d 143 111 [none, none, none, none, oI x4, none, none] [] m (qI Q)
abbrev c_X11_thick_0 (d : Nat) (x1 : Int32) (m : dM) (Q : Int32 → dM → Prop) : Prop := Wp d 265 0 [oR 0, oI x1] [] m (qI Q)
abbrev j_X11_thick_0_11 (d : Nat) (m : dM) (Q : Int32 → dM → Prop) : Prop := Wp d 265 11 [none, none] [] m (qI Q)
abbrev c_X12_thick_70 (d : Nat) (x1 : Int32) (m : dM) (Q : Int32 → dM → Prop) : Prop := Wp d 91 0 [oR 70, oI x1, none, none, none, none] [] m (qI Q)
abbrev j_X12_thick_70_27 (d : Nat) (x1 : Int32) (x2 : Int32) (x3 : Int32) (x4 : Int32) (m : dM) (Q : Int32 → dM → Prop) : Prop := Wp d 91 27 [oR 70, oI x1, oI x2, oI x3, oI x4, none] [] m (qI Q)
abbrev j_X12_thick_70_105 (d : Nat) (x1 : Int32) (x2 : Int32) (x3 : Int32) (x4 : Int32) (m : dM) (Q : Int32 → dM → Prop) : Prop := Wp d 91 105 [oR 70, oI x1, oI x2, oI x3, oI x4, none] [] m (qI Q)
abbrev c_X3_endsOf_2 (d : Nat) (x1 : Int32) (m : dM) (Q : Int32 → dM → Prop) : Prop := Wp d 172 0 [oR 2, oI x1] [] m (qI Q)
abbrev c_X3_litWithout_2 (d : Nat) (x1 : Int32) (m : dM) (Q : Int32 → dM → Prop) : Prop := Wp d 174 0 [oR 2, oI x1, none, none, none, none, none] [] m (qI Q)
abbrev j_X3_litWithout_2_15 (d : Nat) (x1 : Int32) (x2 : Int32) (x3 : Int32) (m : dM) (Q : Int32 → dM → Prop) : Prop := Wp d 174 15 [oR 2, oI x1, oI x2, oI x3, none, none, none] [] m (qI Q)
abbrev j_X3_litWithout_2_29 (d : Nat) (x1 : Int32) (x2 : Int32) (x3 : Int32) (x4 : Int32) (x5 : Int32) (m : dM) (Q : Int32 → dM → Prop) : Prop := Wp d 174 29 [oR 2, oI x1, oI x2, oI x3, oI x4, oI x5, none] [] m (qI Q)
abbrev j_X3_litWithout_2_67 (d : Nat) (x1 : Int32) (x2 : Int32) (x3 : Int32) (x4 : Int32) (x5 : Int32) (m : dM) (Q : Int32 → dM → Prop) : Prop := Wp d 174 67 [oR 2, oI x1, oI x2, oI x3, oI x4, oI x5, none] [] m (qI Q)
abbrev j_X3_litWithout_2_88 (d : Nat) (x2 : Int32) (m : dM) (Q : Int32 → dM → Prop) : Prop := Wp d 174 88 [none, none, oI x2, none, none, none, none] [] m (qI Q)
abbrev c_X1_cutBy_2 (d : Nat) (x1 : Int32) (x2 : Int32) (x3 : Int32) (x4 : Int32) (m : dM) (Q : Int32 → dM → Prop) : Prop := Wp d 148 0 [oR 2, oI x1, oI x2, oI x3, oI x4, none, none] [] m (qI Q)
abbrev j_X1_cutBy_2_26 (d : Nat) (x1 : Int32) (x2 : Int32) (x4 : Int32) (x5 : Int32) (m : dM) (Q : Int32 → dM → Prop) : Prop := Wp d 148 26 [oR 2, oI x1, oI x2, none, oI x4, oI x5, none] [] m (qI Q)
abbrev j_X1_cutBy_2_79 (d : Nat) (x1 : Int32) (x2 : Int32) (x4 : Int32) (x5 : Int32) (m : dM) (Q : Int32 → dM → Prop) : Prop := Wp d 148 79 [oR 2, oI x1, oI x2, none, oI x4, oI x5, none] [] m (qI Q)
abbrev c_X1_leastCut_61_47 (d : Nat) (x2 : Int32) (m : dM) (Q : Int32 → dM → Prop) : Prop := Wp d 147 0 [oR 61, oR 47, oI x2, none, none] [] m (qI Q)
abbrev j_X1_leastCut_61_47_2 (d : Nat) (x2 : Int32) (x3 : Int32) (m : dM) (Q : Int32 → dM → Prop) : Prop := Wp d 147 2 [oR 61, oR 47, oI x2, oI x3, none] [] m (qI Q)
abbrev c_J6_bitCount (d : Nat) (x0 : Int32) (m : dM) (Q : Int32 → dM → Prop) : Prop := Wp d 285 0 [oI x0] [] m (qI Q)
abbrev c_X11_cut_0 (d : Nat) (x1 : Int32) (x2 : Int32) (m : dM) (Q : Int32 → dM → Prop) : Prop := Wp d 266 0 [oR 0, oI x1, oI x2, none] [] m (qI Q)
abbrev j_X11_cut_0_18 (d : Nat) (m : dM) (Q : Int32 → dM → Prop) : Prop := Wp d 266 18 [none, none, none, none] [] m (qI Q)
abbrev c_X12_goneBits_70 (d : Nat) (m : dM) (Q : Int32 → dM → Prop) : Prop := Wp d 93 0 [oR 70, none, none] [] m (qI Q)
abbrev j_X12_goneBits_70_4 (d : Nat) (x1 : Int32) (x2 : Int32) (m : dM) (Q : Int32 → dM → Prop) : Prop := Wp d 93 4 [oR 70, oI x1, oI x2] [] m (qI Q)
abbrev j_X12_goneBits_70_36 (d : Nat) (x1 : Int32) (x2 : Int32) (m : dM) (Q : Int32 → dM → Prop) : Prop := Wp d 93 36 [oR 70, oI x1, oI x2] [] m (qI Q)
abbrev c_X12_ithOf (d : Nat) (x0 : Int32) (x1 : Int32) (m : dM) (Q : Int32 → dM → Prop) : Prop := Wp d 94 0 [oI x0, oI x1, none, none] [] m (qI Q)
abbrev j_X12_ithOf_4 (d : Nat) (x0 : Int32) (x1 : Int32) (x2 : Int32) (x3 : Int32) (m : dM) (Q : Int32 → dM → Prop) : Prop := Wp d 94 4 [oI x0, oI x1, oI x2, oI x3] [] m (qI Q)
abbrev j_X12_ithOf_31 (d : Nat) (x0 : Int32) (x1 : Int32) (x2 : Int32) (x3 : Int32) (m : dM) (Q : Int32 → dM → Prop) : Prop := Wp d 94 31 [oI x0, oI x1, oI x2, oI x3] [] m (qI Q)
abbrev c_X12_bits (d : Nat) (x0 : Int32) (m : dM) (Q : Int32 → dM → Prop) : Prop := Wp d 38 0 [oI x0, none, none] [] m (qI Q)
abbrev j_X12_bits_4 (d : Nat) (x0 : Int32) (x1 : Int32) (x2 : Int32) (m : dM) (Q : Int32 → dM → Prop) : Prop := Wp d 38 4 [oI x0, oI x1, oI x2] [] m (qI Q)
abbrev c_X12_isEarlier (d : Nat) (x0 : Int32) (x1 : Int32) (m : dM) (Q : Int32 → dM → Prop) : Prop := Wp d 95 0 [oI x0, oI x1, none] [] m (qI Q)
abbrev j_X12_isEarlier_2 (d : Nat) (x0 : Int32) (x1 : Int32) (x2 : Int32) (m : dM) (Q : Int32 → dM → Prop) : Prop := Wp d 95 2 [oI x0, oI x1, oI x2] [] m (qI Q)
abbrev c_X12_loses_70 (d : Nat) (x1 : Int32) (m : dM) (Q : dM → Prop) : Prop := Wp d 92 0 [oR 70, oI x1, none] [] m (qV Q)
abbrev j_X12_loses_70_6 (d : Nat) (x1 : Int32) (x2 : Int32) (m : dM) (Q : dM → Prop) : Prop := Wp d 92 6 [oR 70, oI x1, oI x2] [] m (qV Q)
abbrev j_X12_loses_70_31 (d : Nat) (x1 : Int32) (x2 : Int32) (m : dM) (Q : dM → Prop) : Prop := Wp d 92 31 [oR 70, oI x1, oI x2] [] m (qV Q)
abbrev c_X12_cut_70 (d : Nat) (x1 : Int32) (x2 : Int32) (m : dM) (Q : Int32 → dM → Prop) : Prop := Wp d 96 0 [oR 70, oI x1, oI x2, none, none, none] [] m (qI Q)
abbrev j_X12_cut_70_17 (d : Nat) (m : dM) (Q : Int32 → dM → Prop) : Prop := Wp d 96 17 [none, none, none, none, none, none] [] m (qI Q)
abbrev j_X12_cut_70_30 (d : Nat) (x1 : Int32) (x2 : Int32) (x3 : Int32) (x4 : Int32) (x5 : Int32) (m : dM) (Q : Int32 → dM → Prop) : Prop := Wp d 96 30 [oR 70, oI x1, oI x2, oI x3, oI x4, oI x5] [] m (qI Q)
abbrev j_X12_cut_70_109 (d : Nat) (x1 : Int32) (x2 : Int32) (x3 : Int32) (x4 : Int32) (x5 : Int32) (m : dM) (Q : Int32 → dM → Prop) : Prop := Wp d 96 109 [oR 70, oI x1, oI x2, oI x3, oI x4, oI x5] [] m (qI Q)
abbrev j_X12_cut_70_127 (d : Nat) (x1 : Int32) (x2 : Int32) (x3 : Int32) (x4 : Int32) (x5 : Int32) (m : dM) (Q : Int32 → dM → Prop) : Prop := Wp d 96 127 [oR 70, oI x1, oI x2, oI x3, oI x4, oI x5] [] m (qI Q)
abbrev c_X11_share_0 (d : Nat) (x1 : Int32) (x2 : Int32) (m : dM) (Q : Int32 → dM → Prop) : Prop := Wp d 267 0 [oR 0, oI x1, oI x2, none] [] m (qI Q)
abbrev j_X11_share_0_16 (d : Nat) (m : dM) (Q : Int32 → dM → Prop) : Prop := Wp d 267 16 [none, none, none, none] [] m (qI Q)
abbrev c_X12_share_70 (d : Nat) (x1 : Int32) (x2 : Int32) (m : dM) (Q : Int32 → dM → Prop) : Prop := Wp d 97 0 [oR 70, oI x1, oI x2] [] m (qI Q)
abbrev j_X12_share_70_16 (d : Nat) (m : dM) (Q : Int32 → dM → Prop) : Prop := Wp d 97 16 [none, none, none] [] m (qI Q)
abbrev c_X3_allFlats_2 (d : Nat) (m : dM) (Q : Int32 → dM → Prop) : Prop := Wp d 173 0 [oR 2] [] m (qI Q)
abbrev c_X11_without_0 (d : Nat) (x1 : Int32) (m : dM) (Q : Int32 → dM → Prop) : Prop := Wp d 268 0 [oR 0, oI x1] [] m (qI Q)
abbrev c_X12_litBits_70 (d : Nat) (m : dM) (Q : Int32 → dM → Prop) : Prop := Wp d 52 0 [oR 70, none, none] [] m (qI Q)
abbrev j_X12_litBits_70_4 (d : Nat) (x1 : Int32) (x2 : Int32) (m : dM) (Q : Int32 → dM → Prop) : Prop := Wp d 52 4 [oR 70, oI x1, oI x2] [] m (qI Q)
abbrev j_X12_litBits_70_31 (d : Nat) (x1 : Int32) (x2 : Int32) (m : dM) (Q : Int32 → dM → Prop) : Prop := Wp d 52 31 [oR 70, oI x1, oI x2] [] m (qI Q)
abbrev c_X12_darkBits_70 (d : Nat) (m : dM) (Q : Int32 → dM → Prop) : Prop := Wp d 98 0 [oR 70] [] m (qI Q)
abbrev c_X12_without_70 (d : Nat) (x1 : Int32) (m : dM) (Q : Int32 → dM → Prop) : Prop := Wp d 99 0 [oR 70, oI x1] [] m (qI Q)
abbrev c_X11_needed_0 (d : Nat) (m : dM) (Q : Int32 → dM → Prop) : Prop := Wp d 269 0 [oR 0, none, none, none] [] m (qI Q)
abbrev j_X11_needed_0_19 (d : Nat) (x1 : Int32) (x2 : Int32) (x3 : Int32) (m : dM) (Q : Int32 → dM → Prop) : Prop := Wp d 269 19 [oR 0, oI x1, oI x2, oI x3] [] m (qI Q)
abbrev j_X11_needed_0_72 (d : Nat) (x1 : Int32) (x2 : Int32) (x3 : Int32) (m : dM) (Q : Int32 → dM → Prop) : Prop := Wp d 269 72 [oR 0, oI x1, oI x2, oI x3] [] m (qI Q)
abbrev c_X12_needed_70 (d : Nat) (m : dM) (Q : Int32 → dM → Prop) : Prop := Wp d 100 0 [oR 70, none, none, none] [] m (qI Q)
abbrev j_X12_needed_70_13 (d : Nat) (x1 : Int32) (x2 : Int32) (x3 : Int32) (m : dM) (Q : Int32 → dM → Prop) : Prop := Wp d 100 13 [oR 70, oI x1, oI x2, oI x3] [] m (qI Q)
abbrev j_X12_needed_70_63 (d : Nat) (x1 : Int32) (x2 : Int32) (x3 : Int32) (m : dM) (Q : Int32 → dM → Prop) : Prop := Wp d 100 63 [oR 70, oI x1, oI x2, oI x3] [] m (qI Q)
abbrev c_X11_hottest_0 (d : Nat) (x1 : Int32) (m : dM) (Q : Int32 → dM → Prop) : Prop := Wp d 270 0 [oR 0, oI x1, none, none, none, none] [] m (qI Q)
abbrev j_X11_hottest_0_9 (d : Nat) (m : dM) (Q : Int32 → dM → Prop) : Prop := Wp d 270 9 [none, none, none, none, none, none] [] m (qI Q)
abbrev j_X11_hottest_0_42 (d : Nat) (x1 : Int32) (x2 : Int32) (x3 : Int32) (x4 : Int32) (m : dM) (Q : Int32 → dM → Prop) : Prop := Wp d 270 42 [oR 0, oI x1, oI x2, oI x3, oI x4, none] [] m (qI Q)
abbrev j_X11_hottest_0_103 (d : Nat) (x1 : Int32) (x4 : Int32) (x5 : Int32) (m : dM) (Q : Int32 → dM → Prop) : Prop := Wp d 270 103 [oR 0, oI x1, none, none, oI x4, oI x5] [] m (qI Q)
abbrev j_X11_hottest_0_109 (d : Nat) (x1 : Int32) (x2 : Int32) (x3 : Int32) (x4 : Int32) (m : dM) (Q : Int32 → dM → Prop) : Prop := Wp d 270 109 [oR 0, oI x1, oI x2, oI x3, oI x4, none] [] m (qI Q)
abbrev c_X12_hottest_70 (d : Nat) (x1 : Int32) (m : dM) (Q : Int32 → dM → Prop) : Prop := Wp d 101 0 [oR 70, oI x1, none, none, none, none, none] [] m (qI Q)
abbrev j_X12_hottest_70_34 (d : Nat) (x1 : Int32) (x2 : Int32) (x3 : Int32) (x4 : Int32) (x5 : Int32) (m : dM) (Q : Int32 → dM → Prop) : Prop := Wp d 101 34 [oR 70, oI x1, oI x2, oI x3, oI x4, oI x5, none] [] m (qI Q)
abbrev j_X12_hottest_70_88 (d : Nat) (x1 : Int32) (x2 : Int32) (x5 : Int32) (x6 : Int32) (m : dM) (Q : Int32 → dM → Prop) : Prop := Wp d 101 88 [oR 70, oI x1, oI x2, none, none, oI x5, oI x6] [] m (qI Q)
abbrev j_X12_hottest_70_95 (d : Nat) (x1 : Int32) (x2 : Int32) (x3 : Int32) (x4 : Int32) (x5 : Int32) (m : dM) (Q : Int32 → dM → Prop) : Prop := Wp d 101 95 [oR 70, oI x1, oI x2, oI x3, oI x4, oI x5, none] [] m (qI Q)
abbrev c_X1_clashOf_61_47 (d : Nat) (x2 : Int32) (x3 : Int32) (m : dM) (Q : Int32 → dM → Prop) : Prop := Wp d 149 0 [oR 61, oR 47, oI x2, oI x3, none, none] [] m (qI Q)
abbrev j_X1_clashOf_61_47_47 (d : Nat) (m : dM) (Q : Int32 → dM → Prop) : Prop := Wp d 149 47 [none, none, none, none, none, none] [] m (qI Q)
abbrev c_X11_clash_0 (d : Nat) (x1 : Int32) (x2 : Int32) (m : dM) (Q : Int32 → dM → Prop) : Prop := Wp d 271 0 [oR 0, oI x1, oI x2] [] m (qI Q)
abbrev j_X11_clash_0_37 (d : Nat) (m : dM) (Q : Int32 → dM → Prop) : Prop := Wp d 271 37 [none, none, none] [] m (qI Q)
abbrev c_X12_clash_70 (d : Nat) (x1 : Int32) (x2 : Int32) (m : dM) (Q : Int32 → dM → Prop) : Prop := Wp d 102 0 [oR 70, oI x1, oI x2, none] [] m (qI Q)
abbrev j_X12_clash_70_21 (d : Nat) (m : dM) (Q : Int32 → dM → Prop) : Prop := Wp d 102 21 [none, none, none, none] [] m (qI Q)
abbrev j_X12_clash_70_51 (d : Nat) (m : dM) (Q : Int32 → dM → Prop) : Prop := Wp d 102 51 [none, none, none, none] [] m (qI Q)
abbrev c_X0_payOf_54_62 (d : Nat) (x2 : Int32) (m : dM) (Q : Int32 → dM → Prop) : Prop := Wp d 129 0 [oR 54, oR 62, oI x2] [] m (qI Q)
abbrev c_X0_takePay_54_62 (d : Nat) (m : dM) (Q : dM → Prop) : Prop := Wp d 135 0 [oR 54, oR 62, none, none] [] m (qV Q)
abbrev j_X0_takePay_54_62_12 (d : Nat) (x2 : Int32) (x3 : Int32) (m : dM) (Q : dM → Prop) : Prop := Wp d 135 12 [oR 54, oR 62, oI x2, oI x3] [] m (qV Q)
abbrev j_X0_takePay_54_62_51 (d : Nat) (x2 : Int32) (x3 : Int32) (m : dM) (Q : dM → Prop) : Prop := Wp d 135 51 [oR 54, oR 62, oI x2, oI x3] [] m (qV Q)
abbrev c_X0_quarrelOf_54_62 (d : Nat) (x2 : Int32) (m : dM) (Q : Int32 → dM → Prop) : Prop := Wp d 127 0 [oR 54, oR 62, oI x2] [] m (qI Q)
abbrev c_X0_countQuarrels_54_62 (d : Nat) (m : dM) (Q : dM → Prop) : Prop := Wp d 136 0 [oR 54, oR 62, none] [] m (qV Q)
abbrev j_X0_countQuarrels_54_62_13 (d : Nat) (x2 : Int32) (m : dM) (Q : dM → Prop) : Prop := Wp d 136 13 [oR 54, oR 62, oI x2] [] m (qV Q)
abbrev j_X0_countQuarrels_54_62_78 (d : Nat) (x2 : Int32) (m : dM) (Q : dM → Prop) : Prop := Wp d 136 78 [oR 54, oR 62, oI x2] [] m (qV Q)
abbrev c_X0_passHour_54_62 (d : Nat) (m : dM) (Q : dM → Prop) : Prop := Wp d 134 0 [oR 54, oR 62] [] m (qV Q)
abbrev c_X1_after_61_47 (d : Nat) (x2 : Int32) (m : dM) (Q : dM → Prop) : Prop := Wp d 150 0 [oR 61, oR 47, oI x2, none] [] m (qR 62 Q)
abbrev j_X1_after_61_47_10 (d : Nat) (x2 : Int32) (x3 : Int32) (m : dM) (Q : dM → Prop) : Prop := Wp d 150 10 [oR 61, none, oI x2, oI x3] [] m (qR 62 Q)
abbrev c_X11_then_0 (d : Nat) (x1 : Int32) (x2 : Int32) (m : dM) (Q : Int32 → dM → Prop) : Prop := Wp d 272 0 [oR 0, oI x1, oI x2, none] [] m (qI Q)
abbrev j_X11_then_0_19 (d : Nat) (m : dM) (Q : Int32 → dM → Prop) : Prop := Wp d 272 19 [none, none, none, none] [] m (qI Q)
abbrev c_X12_then_70 (d : Nat) (x1 : Int32) (x2 : Int32) (m : dM) (Q : Int32 → dM → Prop) : Prop := Wp d 103 0 [oR 70, oI x1, oI x2, none, none] [] m (qI Q)
abbrev j_X12_then_70_16 (d : Nat) (m : dM) (Q : Int32 → dM → Prop) : Prop := Wp d 103 16 [none, none, none, none, none] [] m (qI Q)
abbrev j_X12_then_70_57 (d : Nat) (x3 : Int32) (x4 : Int32) (m : dM) (Q : Int32 → dM → Prop) : Prop := Wp d 103 57 [oR 70, none, none, oI x3, oI x4] [] m (qI Q)
abbrev c_X11_litIn_0 (d : Nat) (x1 : Int32) (x2 : Int32) (m : dM) (Q : Int32 → dM → Prop) : Prop := Wp d 273 0 [oR 0, oI x1, oI x2] [] m (qI Q)
abbrev j_X11_litIn_0_18 (d : Nat) (m : dM) (Q : Int32 → dM → Prop) : Prop := Wp d 273 18 [none, none, none] [] m (qI Q)
abbrev c_X12_litIn_70 (d : Nat) (x1 : Int32) (x2 : Int32) (m : dM) (Q : Int32 → dM → Prop) : Prop := Wp d 104 0 [oR 70, oI x1, oI x2] [] m (qI Q)
abbrev j_X12_litIn_70_15 (d : Nat) (m : dM) (Q : Int32 → dM → Prop) : Prop := Wp d 104 15 [none, none, none] [] m (qI Q)
abbrev c_X1_isCalm_61_47 (d : Nat) (x2 : Int32) (x3 : Int32) (m : dM) (Q : Int32 → dM → Prop) : Prop := Wp d 152 0 [oR 61, oR 47, oI x2, oI x3, none] [] m (qI Q)
abbrev j_X1_isCalm_61_47_11 (d : Nat) (x2 : Int32) (x3 : Int32) (x4 : Int32) (m : dM) (Q : Int32 → dM → Prop) : Prop := Wp d 152 11 [oR 61, none, oI x2, oI x3, oI x4] [] m (qI Q)
abbrev c_X1_calmSeeds_61_47 (d : Nat) (x2 : Int32) (x3 : Int32) (m : dM) (Q : Int32 → dM → Prop) : Prop := Wp d 151 0 [oR 61, oR 47, oI x2, oI x3, none, none] [] m (qI Q)
abbrev j_X1_calmSeeds_61_47_6 (d : Nat) (x2 : Int32) (x3 : Int32) (x4 : Int32) (x5 : Int32) (m : dM) (Q : Int32 → dM → Prop) : Prop := Wp d 151 6 [oR 61, oR 47, oI x2, oI x3, oI x4, oI x5] [] m (qI Q)
abbrev c_X11_year_0 (d : Nat) (x1 : Int32) (x2 : Int32) (m : dM) (Q : Int32 → dM → Prop) : Prop := Wp d 274 0 [oR 0, oI x1, oI x2] [] m (qI Q)
abbrev j_X11_year_0_21 (d : Nat) (m : dM) (Q : Int32 → dM → Prop) : Prop := Wp d 274 21 [none, none, none] [] m (qI Q)
abbrev c_X12_year_70 (d : Nat) (x1 : Int32) (x2 : Int32) (m : dM) (Q : Int32 → dM → Prop) : Prop := Wp d 105 0 [oR 70, oI x1, oI x2, none, none, none, none] [] m (qI Q)
abbrev j_X12_year_70_17 (d : Nat) (m : dM) (Q : Int32 → dM → Prop) : Prop := Wp d 105 17 [none, none, none, none, none, none, none] [] m (qI Q)
abbrev j_X12_year_70_24 (d : Nat) (x1 : Int32) (x2 : Int32) (x3 : Int32) (x4 : Int32) (m : dM) (Q : Int32 → dM → Prop) : Prop := Wp d 105 24 [oR 70, oI x1, oI x2, oI x3, oI x4, none, none] [] m (qI Q)
abbrev j_X12_year_70_51 (d : Nat) (x1 : Int32) (x2 : Int32) (x3 : Int32) (x4 : Int32) (x5 : Int32) (x6 : Int32) (m : dM) (Q : Int32 → dM → Prop) : Prop := Wp d 105 51 [oR 70, oI x1, oI x2, oI x3, oI x4, oI x5, oI x6] [] m (qI Q)
abbrev j_X12_year_70_71 (d : Nat) (x1 : Int32) (x2 : Int32) (x3 : Int32) (x4 : Int32) (x5 : Int32) (x6 : Int32) (m : dM) (Q : Int32 → dM → Prop) : Prop := Wp d 105 71 [oR 70, oI x1, oI x2, oI x3, oI x4, oI x5, oI x6] [] m (qI Q)
abbrev j_X12_year_70_85 (d : Nat) (x1 : Int32) (x2 : Int32) (x3 : Int32) (x4 : Int32) (m : dM) (Q : Int32 → dM → Prop) : Prop := Wp d 105 85 [oR 70, oI x1, oI x2, oI x3, oI x4, none, none] [] m (qI Q)
abbrev c_X9_add_67 (d : Nat) (x1 : Int32) (x2 : Int32) (m : dM) (Q : Int32 → dM → Prop) : Prop := Wp d 232 0 [oR 67, oI x1, oI x2] [] m (qI Q)
abbrev c_X11_tell_0 (d : Nat) (x1 : Int32) (x2 : Int32) (m : dM) (Q : Int32 → dM → Prop) : Prop := Wp d 275 0 [oR 0, oI x1, oI x2] [] m (qI Q)
abbrev c_X12_tell_70 (d : Nat) (x1 : Int32) (x2 : Int32) (m : dM) (Q : Int32 → dM → Prop) : Prop := Wp d 106 0 [oR 70, oI x1, oI x2] [] m (qI Q)
abbrev j_X12_tell_70_17 (d : Nat) (m : dM) (Q : Int32 → dM → Prop) : Prop := Wp d 106 17 [none, none, none] [] m (qI Q)
abbrev c_X11_forget_0 (d : Nat) (m : dM) (Q : Int32 → dM → Prop) : Prop := Wp d 276 0 [oR 0, none] [] m (qI Q)
abbrev c_X12_forget_70 (d : Nat) (m : dM) (Q : Int32 → dM → Prop) : Prop := Wp d 107 0 [oR 70, none] [] m (qI Q)
abbrev c_X9_isSo_67 (d : Nat) (x1 : Int32) (x2 : Int32) (m : dM) (Q : Int32 → dM → Prop) : Prop := Wp d 234 0 [oR 67, oI x1, oI x2, none] [] m (qI Q)
abbrev j_X9_isSo_67_2 (d : Nat) (x1 : Int32) (x2 : Int32) (x3 : Int32) (m : dM) (Q : Int32 → dM → Prop) : Prop := Wp d 234 2 [oR 67, oI x1, oI x2, oI x3] [] m (qI Q)
abbrev j_X9_isSo_67_42 (d : Nat) (m : dM) (Q : Int32 → dM → Prop) : Prop := Wp d 234 42 [none, none, none, none] [] m (qI Q)
abbrev c_X9_suspects_67 (d : Nat) (x1 : Int32) (x2 : Int32) (m : dM) (Q : Int32 → dM → Prop) : Prop := Wp d 233 0 [oR 67, oI x1, oI x2, none, none] [] m (qI Q)
abbrev j_X9_suspects_67_5 (d : Nat) (x1 : Int32) (x2 : Int32) (x3 : Int32) (x4 : Int32) (m : dM) (Q : Int32 → dM → Prop) : Prop := Wp d 233 5 [oR 67, oI x1, oI x2, oI x3, oI x4] [] m (qI Q)
abbrev j_X9_suspects_67_54 (d : Nat) (x1 : Int32) (x2 : Int32) (x3 : Int32) (x4 : Int32) (m : dM) (Q : Int32 → dM → Prop) : Prop := Wp d 233 54 [oR 67, oI x1, oI x2, oI x3, oI x4] [] m (qI Q)
abbrev c_X11_went_0 (d : Nat) (x1 : Int32) (x2 : Int32) (m : dM) (Q : Int32 → dM → Prop) : Prop := Wp d 277 0 [oR 0, oI x1, oI x2, none] [] m (qI Q)
abbrev j_X11_went_0_24 (d : Nat) (m : dM) (Q : Int32 → dM → Prop) : Prop := Wp d 277 24 [none, none, none, none] [] m (qI Q)
abbrev c_X12_wentBits_70 (d : Nat) (x1 : Int32) (m : dM) (Q : Int32 → dM → Prop) : Prop := Wp d 108 0 [oR 70, oI x1, none, none, none, none] [] m (qI Q)
abbrev j_X12_wentBits_70_4 (d : Nat) (x1 : Int32) (x2 : Int32) (x3 : Int32) (m : dM) (Q : Int32 → dM → Prop) : Prop := Wp d 108 4 [oR 70, oI x1, oI x2, oI x3, none, none] [] m (qI Q)
abbrev j_X12_wentBits_70_56 (d : Nat) (x1 : Int32) (x2 : Int32) (x3 : Int32) (x4 : Int32) (x5 : Int32) (m : dM) (Q : Int32 → dM → Prop) : Prop := Wp d 108 56 [oR 70, oI x1, oI x2, oI x3, oI x4, oI x5] [] m (qI Q)
abbrev j_X12_wentBits_70_91 (d : Nat) (x1 : Int32) (x2 : Int32) (x3 : Int32) (x4 : Int32) (x5 : Int32) (m : dM) (Q : Int32 → dM → Prop) : Prop := Wp d 108 91 [oR 70, oI x1, oI x2, oI x3, oI x4, oI x5] [] m (qI Q)
abbrev j_X12_wentBits_70_108 (d : Nat) (x1 : Int32) (x2 : Int32) (x3 : Int32) (m : dM) (Q : Int32 → dM → Prop) : Prop := Wp d 108 108 [oR 70, oI x1, oI x2, oI x3, none, none] [] m (qI Q)
abbrev c_X12_went_70 (d : Nat) (x1 : Int32) (x2 : Int32) (m : dM) (Q : Int32 → dM → Prop) : Prop := Wp d 109 0 [oR 70, oI x1, oI x2, none] [] m (qI Q)
abbrev j_X12_went_70_21 (d : Nat) (m : dM) (Q : Int32 → dM → Prop) : Prop := Wp d 109 21 [none, none, none, none] [] m (qI Q)
abbrev c_X9_leftAtWorst_67 (d : Nat) (x1 : Int32) (x2 : Int32) (x3 : Int32) (m : dM) (Q : Int32 → dM → Prop) : Prop := Wp d 236 0 [oR 67, oI x1, oI x2, oI x3, none, none] [] m (qI Q)
abbrev j_X9_leftAtWorst_67_6 (d : Nat) (x1 : Int32) (x2 : Int32) (x3 : Int32) (x4 : Int32) (x5 : Int32) (m : dM) (Q : Int32 → dM → Prop) : Prop := Wp d 236 6 [oR 67, oI x1, oI x2, oI x3, oI x4, oI x5] [] m (qI Q)
abbrev c_X9_bestQuestion_67 (d : Nat) (x1 : Int32) (x2 : Int32) (m : dM) (Q : Int32 → dM → Prop) : Prop := Wp d 235 0 [oR 67, oI x1, oI x2, none, none, none, none, none] [] m (qI Q)
abbrev j_X9_bestQuestion_67_18 (d : Nat) (x1 : Int32) (x3 : Int32) (x4 : Int32) (x5 : Int32) (x6 : Int32) (m : dM) (Q : Int32 → dM → Prop) : Prop := Wp d 235 18 [oR 67, oI x1, none, oI x3, oI x4, oI x5, oI x6, none] [] m (qI Q)
abbrev j_X9_bestQuestion_67_59 (d : Nat) (x1 : Int32) (x3 : Int32) (x4 : Int32) (x5 : Int32) (x6 : Int32) (m : dM) (Q : Int32 → dM → Prop) : Prop := Wp d 235 59 [oR 67, oI x1, none, oI x3, oI x4, oI x5, oI x6, none] [] m (qI Q)
abbrev j_X9_bestQuestion_67_65 (d : Nat) (x4 : Int32) (m : dM) (Q : Int32 → dM → Prop) : Prop := Wp d 235 65 [none, none, none, none, oI x4, none, none, none] [] m (qI Q)
abbrev c_X11_ask_0 (d : Nat) (x1 : Int32) (m : dM) (Q : Int32 → dM → Prop) : Prop := Wp d 278 0 [oR 0, oI x1] [] m (qI Q)
abbrev j_X11_ask_0_15 (d : Nat) (m : dM) (Q : Int32 → dM → Prop) : Prop := Wp d 278 15 [none, none] [] m (qI Q)
abbrev c_X12_ask_70 (d : Nat) (x1 : Int32) (m : dM) (Q : Int32 → dM → Prop) : Prop := Wp d 110 0 [oR 70, oI x1, none, none, none, none, none, none] [] m (qI Q)
abbrev j_X12_ask_70_29 (d : Nat) (x2 : Int32) (x3 : Int32) (x4 : Int32) (x5 : Int32) (m : dM) (Q : Int32 → dM → Prop) : Prop := Wp d 110 29 [oR 70, none, oI x2, oI x3, oI x4, oI x5, none, none] [] m (qI Q)
abbrev j_X12_ask_70_53 (d : Nat) (x2 : Int32) (x3 : Int32) (x4 : Int32) (x5 : Int32) (x6 : Int32) (x7 : Int32) (m : dM) (Q : Int32 → dM → Prop) : Prop := Wp d 110 53 [oR 70, none, oI x2, oI x3, oI x4, oI x5, oI x6, oI x7] [] m (qI Q)
abbrev j_X12_ask_70_94 (d : Nat) (x2 : Int32) (x3 : Int32) (x4 : Int32) (x5 : Int32) (x6 : Int32) (x7 : Int32) (m : dM) (Q : Int32 → dM → Prop) : Prop := Wp d 110 94 [oR 70, none, oI x2, oI x3, oI x4, oI x5, oI x6, oI x7] [] m (qI Q)
abbrev j_X12_ask_70_140 (d : Nat) (x2 : Int32) (x5 : Int32) (x7 : Int32) (m : dM) (Q : Int32 → dM → Prop) : Prop := Wp d 110 140 [oR 70, none, oI x2, none, none, oI x5, none, oI x7] [] m (qI Q)
abbrev j_X12_ask_70_147 (d : Nat) (x2 : Int32) (x3 : Int32) (x4 : Int32) (x5 : Int32) (m : dM) (Q : Int32 → dM → Prop) : Prop := Wp d 110 147 [oR 70, none, oI x2, oI x3, oI x4, oI x5, none, none] [] m (qI Q)
abbrev j_X12_ask_70_153 (d : Nat) (x3 : Int32) (m : dM) (Q : Int32 → dM → Prop) : Prop := Wp d 110 153 [none, none, none, oI x3, none, none, none, none] [] m (qI Q)
abbrev c_X7_writeTo_47_53 (d : Nat) (x2 : Int32) (m : dM) (Q : dM → Prop) : Prop := Wp d 210 0 [oR 47, oR 53, oI x2] [] m (qV Q)
abbrev j_X7_writeTo_47_53_13 (d : Nat) (m : dM) (Q : dM → Prop) : Prop := Wp d 210 13 [none, none, none] [] m (qV Q)
abbrev c_X6_store_51_47 (d : Nat) (x1 : Int32) (m : dM) (Q : Int32 → dM → Prop) : Prop := Wp d 205 0 [oR 51, oI x1, oR 47] [] m (qI Q)
abbrev j_X6_store_51_47_9 (d : Nat) (m : dM) (Q : Int32 → dM → Prop) : Prop := Wp d 205 9 [none, none, none] [] m (qI Q)
abbrev c_X11_hold_0 (d : Nat) (x1 : Int32) (m : dM) (Q : Int32 → dM → Prop) : Prop := Wp d 279 0 [oR 0, oI x1] [] m (qI Q)
abbrev c_X12_hold_70 (d : Nat) (x1 : Int32) (m : dM) (Q : Int32 → dM → Prop) : Prop := Wp d 111 0 [oR 70, oI x1, none] [] m (qI Q)
abbrev j_X12_hold_70_20 (d : Nat) (x1 : Int32) (x2 : Int32) (m : dM) (Q : Int32 → dM → Prop) : Prop := Wp d 111 20 [oR 70, oI x1, oI x2] [] m (qI Q)
abbrev c_X7_readFrom_47_53 (d : Nat) (x2 : Int32) (m : dM) (Q : dM → Prop) : Prop := Wp d 211 0 [oR 47, oR 53, oI x2] [] m (qV Q)
abbrev j_X7_readFrom_47_53_13 (d : Nat) (m : dM) (Q : dM → Prop) : Prop := Wp d 211 13 [none, none, none] [] m (qV Q)
abbrev c_X6_fetch_51_47 (d : Nat) (x1 : Int32) (m : dM) (Q : Int32 → dM → Prop) : Prop := Wp d 206 0 [oR 51, oI x1, oR 47] [] m (qI Q)
abbrev j_X6_fetch_51_47_20 (d : Nat) (m : dM) (Q : Int32 → dM → Prop) : Prop := Wp d 206 20 [none, none, none] [] m (qI Q)
abbrev c_X11_restore_0 (d : Nat) (x1 : Int32) (m : dM) (Q : Int32 → dM → Prop) : Prop := Wp d 280 0 [oR 0, oI x1] [] m (qI Q)
abbrev c_X12_restore_70 (d : Nat) (x1 : Int32) (m : dM) (Q : Int32 → dM → Prop) : Prop := Wp d 112 0 [oR 70, oI x1, none] [] m (qI Q)
abbrev j_X12_restore_70_18 (d : Nat) (m : dM) (Q : Int32 → dM → Prop) : Prop := Wp d 112 18 [none, none, none] [] m (qI Q)
abbrev j_X12_restore_70_22 (d : Nat) (x1 : Int32) (x2 : Int32) (m : dM) (Q : Int32 → dM → Prop) : Prop := Wp d 112 22 [oR 70, oI x1, oI x2] [] m (qI Q)
abbrev c_X11_wholeRatings_0 (d : Nat) (m : dM) (Q : Int32 → dM → Prop) : Prop := Wp d 282 0 [oR 0, none, none] [] m (qI Q)
abbrev j_X11_wholeRatings_0_4 (d : Nat) (x1 : Int32) (x2 : Int32) (m : dM) (Q : Int32 → dM → Prop) : Prop := Wp d 282 4 [oR 0, oI x1, oI x2] [] m (qI Q)
abbrev c_X11_count_0 (d : Nat) (x1 : Int32) (m : dM) (Q : Int32 → dM → Prop) : Prop := Wp d 281 0 [oR 0, oI x1] [] m (qI Q)
abbrev c_X12_count_70 (d : Nat) (x1 : Int32) (m : dM) (Q : Int32 → dM → Prop) : Prop := Wp d 113 0 [oR 70, oI x1, none, none] [] m (qI Q)
abbrev j_X12_count_70_228 (d : Nat) (x2 : Int32) (x3 : Int32) (m : dM) (Q : Int32 → dM → Prop) : Prop := Wp d 113 228 [oR 70, none, oI x2, oI x3] [] m (qI Q)
abbrev j_X12_count_70_265 (d : Nat) (x2 : Int32) (x3 : Int32) (m : dM) (Q : Int32 → dM → Prop) : Prop := Wp d 113 265 [oR 70, none, oI x2, oI x3] [] m (qI Q)
abbrev j_X12_count_70_295 (d : Nat) (x2 : Int32) (x3 : Int32) (m : dM) (Q : Int32 → dM → Prop) : Prop := Wp d 113 295 [oR 70, none, oI x2, oI x3] [] m (qI Q)
