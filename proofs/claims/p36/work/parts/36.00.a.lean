section
set_option maxRecDepth 20000 in
def tG_0 : List (eY × List (List eN)) := [(tY0, tC0), (tY1, tC1), (tY2, tC2), (tY3, tC3), (tY4, tC4), (tY5, tC5), (tY6, tC6), (tY7, tC7), (tY8, tC8), (tY9, tC9), (tY10, tC10), (tY11, tC11), (tY12, tC12), (tY13, tC13), (tY14, tC14), (tY15, tC15), (tY16, tC16), (tY17, tC17), (tY18, tC18), (tY19, tC19), (tY20, tC20), (tY21, tC21), (tY22, tC22), (tY23, tC23), (tY24, tC24), (tY25, tC25), (tY26, tC26), (tY27, tC27), (tY28, tC28), (tY29, tC29), (tY30, tC30), (tY31, tC31), (tY32, tC32), (tY33, tC33), (tY34, tC34), (tY35, tC35), (tY36, tC36), (tY37, tC37), (tY38, tC38), (tY39, tC39), (tY40, tC40), (tY41, tC41), (tY42, tC42), (tY43, tC43), (tY44, tC44), (tY45, tC45), (tY46, tC46), (tY47, tC47), (tY48, tC48), (tY49, tC49), (tY50, tC50), (tY51, tC51), (tY52, tC52), (tY53, tC53), (tY54, tC54), (tY55, tC55), (tY56, tC56), (tY57, tC57), (tY58, tC58), (tY59, tC59), (tY60, tC60), (tY61, tC61), (tY62, tC62), (tY63, tC63), (tY64, tC64), (tY65, tC65), (tY66, tC66), (tY67, tC67), (tY68, tC68), (tY69, tC69), (tY70, tC70), (tY71, tC71), (tY72, tC72), (tY73, tC73), (tY74, tC74), (tY75, tC75), (tY76, tC76), (tY77, tC77), (tY78, tC78), (tY79, tC79), (tY80, tC80), (tY81, tC81), (tY82, tC82), (tY83, tC83), (tY84, tC84), (tY85, tC85), (tY86, tC86), (tY87, tC87), (tY88, tC88), (tY89, tC89), (tY90, tC90), (tY91, tC91), (tY92, tC92), (tY93, tC93), (tY94, tC94), (tY95, tC95)]
theorem tg_0 : kGa tG_0 = true := by decide +kernel
set_option maxRecDepth 20000 in
def tH_0 : List (eM × eY × Nat × Nat × Nat × Nat) := [(tM0, tY0, (tWs[0]?).getD (0, 0, 0, 0)), (tM1, tY1, (tWs[1]?).getD (0, 0, 0, 0)), (tM2, tY2, (tWs[2]?).getD (0, 0, 0, 0)), (tM3, tY3, (tWs[3]?).getD (0, 0, 0, 0)), (tM4, tY4, (tWs[4]?).getD (0, 0, 0, 0)), (tM5, tY5, (tWs[5]?).getD (0, 0, 0, 0)), (tM6, tY6, (tWs[6]?).getD (0, 0, 0, 0)), (tM7, tY7, (tWs[7]?).getD (0, 0, 0, 0)), (tM8, tY8, (tWs[8]?).getD (0, 0, 0, 0)), (tM9, tY9, (tWs[9]?).getD (0, 0, 0, 0)), (tM10, tY10, (tWs[10]?).getD (0, 0, 0, 0)), (tM11, tY11, (tWs[11]?).getD (0, 0, 0, 0)), (tM12, tY12, (tWs[12]?).getD (0, 0, 0, 0)), (tM13, tY13, (tWs[13]?).getD (0, 0, 0, 0)), (tM14, tY14, (tWs[14]?).getD (0, 0, 0, 0)), (tM15, tY15, (tWs[15]?).getD (0, 0, 0, 0)), (tM16, tY16, (tWs[16]?).getD (0, 0, 0, 0)), (tM17, tY17, (tWs[17]?).getD (0, 0, 0, 0)), (tM18, tY18, (tWs[18]?).getD (0, 0, 0, 0)), (tM19, tY19, (tWs[19]?).getD (0, 0, 0, 0)), (tM20, tY20, (tWs[20]?).getD (0, 0, 0, 0)), (tM21, tY21, (tWs[21]?).getD (0, 0, 0, 0)), (tM22, tY22, (tWs[22]?).getD (0, 0, 0, 0)), (tM23, tY23, (tWs[23]?).getD (0, 0, 0, 0)), (tM24, tY24, (tWs[24]?).getD (0, 0, 0, 0)), (tM25, tY25, (tWs[25]?).getD (0, 0, 0, 0)), (tM26, tY26, (tWs[26]?).getD (0, 0, 0, 0)), (tM27, tY27, (tWs[27]?).getD (0, 0, 0, 0)), (tM28, tY28, (tWs[28]?).getD (0, 0, 0, 0)), (tM29, tY29, (tWs[29]?).getD (0, 0, 0, 0)), (tM30, tY30, (tWs[30]?).getD (0, 0, 0, 0)), (tM31, tY31, (tWs[31]?).getD (0, 0, 0, 0)), (tM32, tY32, (tWs[32]?).getD (0, 0, 0, 0)), (tM33, tY33, (tWs[33]?).getD (0, 0, 0, 0)), (tM34, tY34, (tWs[34]?).getD (0, 0, 0, 0)), (tM35, tY35, (tWs[35]?).getD (0, 0, 0, 0)), (tM36, tY36, (tWs[36]?).getD (0, 0, 0, 0)), (tM37, tY37, (tWs[37]?).getD (0, 0, 0, 0)), (tM38, tY38, (tWs[38]?).getD (0, 0, 0, 0)), (tM39, tY39, (tWs[39]?).getD (0, 0, 0, 0)), (tM40, tY40, (tWs[40]?).getD (0, 0, 0, 0)), (tM41, tY41, (tWs[41]?).getD (0, 0, 0, 0)), (tM42, tY42, (tWs[42]?).getD (0, 0, 0, 0)), (tM43, tY43, (tWs[43]?).getD (0, 0, 0, 0)), (tM44, tY44, (tWs[44]?).getD (0, 0, 0, 0)), (tM45, tY45, (tWs[45]?).getD (0, 0, 0, 0)), (tM46, tY46, (tWs[46]?).getD (0, 0, 0, 0)), (tM47, tY47, (tWs[47]?).getD (0, 0, 0, 0)), (tM48, tY48, (tWs[48]?).getD (0, 0, 0, 0)), (tM49, tY49, (tWs[49]?).getD (0, 0, 0, 0)), (tM50, tY50, (tWs[50]?).getD (0, 0, 0, 0)), (tM51, tY51, (tWs[51]?).getD (0, 0, 0, 0)), (tM52, tY52, (tWs[52]?).getD (0, 0, 0, 0)), (tM53, tY53, (tWs[53]?).getD (0, 0, 0, 0)), (tM54, tY54, (tWs[54]?).getD (0, 0, 0, 0)), (tM55, tY55, (tWs[55]?).getD (0, 0, 0, 0)), (tM56, tY56, (tWs[56]?).getD (0, 0, 0, 0)), (tM57, tY57, (tWs[57]?).getD (0, 0, 0, 0)), (tM58, tY58, (tWs[58]?).getD (0, 0, 0, 0)), (tM59, tY59, (tWs[59]?).getD (0, 0, 0, 0)), (tM60, tY60, (tWs[60]?).getD (0, 0, 0, 0)), (tM61, tY61, (tWs[61]?).getD (0, 0, 0, 0)), (tM62, tY62, (tWs[62]?).getD (0, 0, 0, 0)), (tM63, tY63, (tWs[63]?).getD (0, 0, 0, 0)), (tM64, tY64, (tWs[64]?).getD (0, 0, 0, 0)), (tM65, tY65, (tWs[65]?).getD (0, 0, 0, 0)), (tM66, tY66, (tWs[66]?).getD (0, 0, 0, 0)), (tM67, tY67, (tWs[67]?).getD (0, 0, 0, 0)), (tM68, tY68, (tWs[68]?).getD (0, 0, 0, 0)), (tM69, tY69, (tWs[69]?).getD (0, 0, 0, 0)), (tM70, tY70, (tWs[70]?).getD (0, 0, 0, 0)), (tM71, tY71, (tWs[71]?).getD (0, 0, 0, 0)), (tM72, tY72, (tWs[72]?).getD (0, 0, 0, 0)), (tM73, tY73, (tWs[73]?).getD (0, 0, 0, 0)), (tM74, tY74, (tWs[74]?).getD (0, 0, 0, 0)), (tM75, tY75, (tWs[75]?).getD (0, 0, 0, 0)), (tM76, tY76, (tWs[76]?).getD (0, 0, 0, 0)), (tM77, tY77, (tWs[77]?).getD (0, 0, 0, 0)), (tM78, tY78, (tWs[78]?).getD (0, 0, 0, 0)), (tM79, tY79, (tWs[79]?).getD (0, 0, 0, 0)), (tM80, tY80, (tWs[80]?).getD (0, 0, 0, 0)), (tM81, tY81, (tWs[81]?).getD (0, 0, 0, 0)), (tM82, tY82, (tWs[82]?).getD (0, 0, 0, 0)), (tM83, tY83, (tWs[83]?).getD (0, 0, 0, 0)), (tM84, tY84, (tWs[84]?).getD (0, 0, 0, 0)), (tM85, tY85, (tWs[85]?).getD (0, 0, 0, 0)), (tM86, tY86, (tWs[86]?).getD (0, 0, 0, 0)), (tM87, tY87, (tWs[87]?).getD (0, 0, 0, 0)), (tM88, tY88, (tWs[88]?).getD (0, 0, 0, 0)), (tM89, tY89, (tWs[89]?).getD (0, 0, 0, 0)), (tM90, tY90, (tWs[90]?).getD (0, 0, 0, 0)), (tM91, tY91, (tWs[91]?).getD (0, 0, 0, 0)), (tM92, tY92, (tWs[92]?).getD (0, 0, 0, 0)), (tM93, tY93, (tWs[93]?).getD (0, 0, 0, 0)), (tM94, tY94, (tWs[94]?).getD (0, 0, 0, 0)), (tM95, tY95, (tWs[95]?).getD (0, 0, 0, 0))]
theorem th_0 : kGm tH_0 = true := by decide +kernel
set_option maxRecDepth 20000 in
def tG_1 : List (eY × List (List eN)) := [(tY96, tC96), (tY97, tC97), (tY98, tC98), (tY99, tC99), (tY100, tC100), (tY101, tC101), (tY102, tC102), (tY103, tC103), (tY104, tC104), (tY105, tC105), (tY106, tC106), (tY107, tC107), (tY108, tC108), (tY109, tC109), (tY110, tC110), (tY111, tC111), (tY112, tC112), (tY113, tC113), (tY114, tC114), (tY115, tC115), (tY116, tC116), (tY117, tC117), (tY118, tC118), (tY119, tC119), (tY120, tC120), (tY121, tC121), (tY122, tC122), (tY123, tC123), (tY124, tC124), (tY125, tC125), (tY126, tC126), (tY127, tC127), (tY128, tC128), (tY129, tC129), (tY130, tC130), (tY131, tC131), (tY132, tC132), (tY133, tC133), (tY134, tC134), (tY135, tC135), (tY136, tC136), (tY137, tC137), (tY138, tC138), (tY139, tC139), (tY140, tC140), (tY141, tC141), (tY142, tC142), (tY143, tC143), (tY144, tC144), (tY145, tC145), (tY146, tC146), (tY147, tC147), (tY148, tC148), (tY149, tC149), (tY150, tC150), (tY151, tC151), (tY152, tC152), (tY153, tC153), (tY154, tC154), (tY155, tC155), (tY156, tC156), (tY157, tC157), (tY158, tC158), (tY159, tC159), (tY160, tC160), (tY161, tC161), (tY162, tC162), (tY163, tC163), (tY164, tC164), (tY165, tC165), (tY166, tC166), (tY167, tC167), (tY168, tC168), (tY169, tC169), (tY170, tC170), (tY171, tC171), (tY172, tC172), (tY173, tC173), (tY174, tC174), (tY175, tC175), (tY176, tC176), (tY177, tC177), (tY178, tC178), (tY179, tC179), (tY180, tC180), (tY181, tC181), (tY182, tC182), (tY183, tC183), (tY184, tC184), (tY185, tC185), (tY186, tC186), (tY187, tC187), (tY188, tC188), (tY189, tC189), (tY190, tC190), (tY191, tC191)]
theorem tg_1 : kGa tG_1 = true := by decide +kernel
set_option maxRecDepth 20000 in
def tH_1 : List (eM × eY × Nat × Nat × Nat × Nat) := [(tM96, tY96, (tWs[96]?).getD (0, 0, 0, 0)), (tM97, tY97, (tWs[97]?).getD (0, 0, 0, 0)), (tM98, tY98, (tWs[98]?).getD (0, 0, 0, 0)), (tM99, tY99, (tWs[99]?).getD (0, 0, 0, 0)), (tM100, tY100, (tWs[100]?).getD (0, 0, 0, 0)), (tM101, tY101, (tWs[101]?).getD (0, 0, 0, 0)), (tM102, tY102, (tWs[102]?).getD (0, 0, 0, 0)), (tM103, tY103, (tWs[103]?).getD (0, 0, 0, 0)), (tM104, tY104, (tWs[104]?).getD (0, 0, 0, 0)), (tM105, tY105, (tWs[105]?).getD (0, 0, 0, 0)), (tM106, tY106, (tWs[106]?).getD (0, 0, 0, 0)), (tM107, tY107, (tWs[107]?).getD (0, 0, 0, 0)), (tM108, tY108, (tWs[108]?).getD (0, 0, 0, 0)), (tM109, tY109, (tWs[109]?).getD (0, 0, 0, 0)), (tM110, tY110, (tWs[110]?).getD (0, 0, 0, 0)), (tM111, tY111, (tWs[111]?).getD (0, 0, 0, 0)), (tM112, tY112, (tWs[112]?).getD (0, 0, 0, 0)), (tM113, tY113, (tWs[113]?).getD (0, 0, 0, 0)), (tM114, tY114, (tWs[114]?).getD (0, 0, 0, 0)), (tM115, tY115, (tWs[115]?).getD (0, 0, 0, 0)), (tM116, tY116, (tWs[116]?).getD (0, 0, 0, 0)), (tM117, tY117, (tWs[117]?).getD (0, 0, 0, 0)), (tM118, tY118, (tWs[118]?).getD (0, 0, 0, 0)), (tM119, tY119, (tWs[119]?).getD (0, 0, 0, 0)), (tM120, tY120, (tWs[120]?).getD (0, 0, 0, 0)), (tM121, tY121, (tWs[121]?).getD (0, 0, 0, 0)), (tM122, tY122, (tWs[122]?).getD (0, 0, 0, 0)), (tM123, tY123, (tWs[123]?).getD (0, 0, 0, 0)), (tM124, tY124, (tWs[124]?).getD (0, 0, 0, 0)), (tM125, tY125, (tWs[125]?).getD (0, 0, 0, 0)), (tM126, tY126, (tWs[126]?).getD (0, 0, 0, 0)), (tM127, tY127, (tWs[127]?).getD (0, 0, 0, 0)), (tM128, tY128, (tWs[128]?).getD (0, 0, 0, 0)), (tM129, tY129, (tWs[129]?).getD (0, 0, 0, 0)), (tM130, tY130, (tWs[130]?).getD (0, 0, 0, 0)), (tM131, tY131, (tWs[131]?).getD (0, 0, 0, 0)), (tM132, tY132, (tWs[132]?).getD (0, 0, 0, 0)), (tM133, tY133, (tWs[133]?).getD (0, 0, 0, 0)), (tM134, tY134, (tWs[134]?).getD (0, 0, 0, 0)), (tM135, tY135, (tWs[135]?).getD (0, 0, 0, 0)), (tM136, tY136, (tWs[136]?).getD (0, 0, 0, 0)), (tM137, tY137, (tWs[137]?).getD (0, 0, 0, 0)), (tM138, tY138, (tWs[138]?).getD (0, 0, 0, 0)), (tM139, tY139, (tWs[139]?).getD (0, 0, 0, 0)), (tM140, tY140, (tWs[140]?).getD (0, 0, 0, 0)), (tM141, tY141, (tWs[141]?).getD (0, 0, 0, 0)), (tM142, tY142, (tWs[142]?).getD (0, 0, 0, 0)), (tM143, tY143, (tWs[143]?).getD (0, 0, 0, 0)), (tM144, tY144, (tWs[144]?).getD (0, 0, 0, 0)), (tM145, tY145, (tWs[145]?).getD (0, 0, 0, 0)), (tM146, tY146, (tWs[146]?).getD (0, 0, 0, 0)), (tM147, tY147, (tWs[147]?).getD (0, 0, 0, 0)), (tM148, tY148, (tWs[148]?).getD (0, 0, 0, 0)), (tM149, tY149, (tWs[149]?).getD (0, 0, 0, 0)), (tM150, tY150, (tWs[150]?).getD (0, 0, 0, 0)), (tM151, tY151, (tWs[151]?).getD (0, 0, 0, 0)), (tM152, tY152, (tWs[152]?).getD (0, 0, 0, 0)), (tM153, tY153, (tWs[153]?).getD (0, 0, 0, 0)), (tM154, tY154, (tWs[154]?).getD (0, 0, 0, 0)), (tM155, tY155, (tWs[155]?).getD (0, 0, 0, 0)), (tM156, tY156, (tWs[156]?).getD (0, 0, 0, 0)), (tM157, tY157, (tWs[157]?).getD (0, 0, 0, 0)), (tM158, tY158, (tWs[158]?).getD (0, 0, 0, 0)), (tM159, tY159, (tWs[159]?).getD (0, 0, 0, 0)), (tM160, tY160, (tWs[160]?).getD (0, 0, 0, 0)), (tM161, tY161, (tWs[161]?).getD (0, 0, 0, 0)), (tM162, tY162, (tWs[162]?).getD (0, 0, 0, 0)), (tM163, tY163, (tWs[163]?).getD (0, 0, 0, 0)), (tM164, tY164, (tWs[164]?).getD (0, 0, 0, 0)), (tM165, tY165, (tWs[165]?).getD (0, 0, 0, 0)), (tM166, tY166, (tWs[166]?).getD (0, 0, 0, 0)), (tM167, tY167, (tWs[167]?).getD (0, 0, 0, 0)), (tM168, tY168, (tWs[168]?).getD (0, 0, 0, 0)), (tM169, tY169, (tWs[169]?).getD (0, 0, 0, 0)), (tM170, tY170, (tWs[170]?).getD (0, 0, 0, 0)), (tM171, tY171, (tWs[171]?).getD (0, 0, 0, 0)), (tM172, tY172, (tWs[172]?).getD (0, 0, 0, 0)), (tM173, tY173, (tWs[173]?).getD (0, 0, 0, 0)), (tM174, tY174, (tWs[174]?).getD (0, 0, 0, 0)), (tM175, tY175, (tWs[175]?).getD (0, 0, 0, 0)), (tM176, tY176, (tWs[176]?).getD (0, 0, 0, 0)), (tM177, tY177, (tWs[177]?).getD (0, 0, 0, 0)), (tM178, tY178, (tWs[178]?).getD (0, 0, 0, 0)), (tM179, tY179, (tWs[179]?).getD (0, 0, 0, 0)), (tM180, tY180, (tWs[180]?).getD (0, 0, 0, 0)), (tM181, tY181, (tWs[181]?).getD (0, 0, 0, 0)), (tM182, tY182, (tWs[182]?).getD (0, 0, 0, 0)), (tM183, tY183, (tWs[183]?).getD (0, 0, 0, 0)), (tM184, tY184, (tWs[184]?).getD (0, 0, 0, 0)), (tM185, tY185, (tWs[185]?).getD (0, 0, 0, 0)), (tM186, tY186, (tWs[186]?).getD (0, 0, 0, 0)), (tM187, tY187, (tWs[187]?).getD (0, 0, 0, 0)), (tM188, tY188, (tWs[188]?).getD (0, 0, 0, 0)), (tM189, tY189, (tWs[189]?).getD (0, 0, 0, 0)), (tM190, tY190, (tWs[190]?).getD (0, 0, 0, 0)), (tM191, tY191, (tWs[191]?).getD (0, 0, 0, 0))]
theorem th_1 : kGm tH_1 = true := by decide +kernel
set_option maxRecDepth 20000 in
def tG_2 : List (eY × List (List eN)) := [(tY192, tC192), (tY193, tC193), (tY194, tC194), (tY195, tC195), (tY196, tC196), (tY197, tC197), (tY198, tC198), (tY199, tC199), (tY200, tC200), (tY201, tC201), (tY202, tC202), (tY203, tC203), (tY204, tC204), (tY205, tC205), (tY206, tC206), (tY207, tC207), (tY208, tC208), (tY209, tC209), (tY210, tC210), (tY211, tC211), (tY212, tC212), (tY213, tC213), (tY214, tC214), (tY215, tC215), (tY216, tC216), (tY217, tC217), (tY218, tC218), (tY219, tC219), (tY220, tC220), (tY221, tC221), (tY222, tC222), (tY223, tC223), (tY224, tC224), (tY225, tC225), (tY226, tC226), (tY227, tC227), (tY228, tC228), (tY229, tC229), (tY230, tC230), (tY231, tC231), (tY232, tC232), (tY233, tC233), (tY234, tC234), (tY235, tC235), (tY236, tC236), (tY237, tC237), (tY238, tC238), (tY239, tC239), (tY240, tC240), (tY241, tC241), (tY242, tC242), (tY243, tC243), (tY244, tC244), (tY245, tC245), (tY246, tC246), (tY247, tC247), (tY248, tC248), (tY249, tC249), (tY250, tC250), (tY251, tC251), (tY252, tC252), (tY253, tC253), (tY254, tC254), (tY255, tC255), (tY256, tC256), (tY257, tC257), (tY258, tC258), (tY259, tC259), (tY260, tC260), (tY261, tC261), (tY262, tC262), (tY263, tC263), (tY264, tC264), (tY265, tC265), (tY266, tC266), (tY267, tC267), (tY268, tC268), (tY269, tC269), (tY270, tC270), (tY271, tC271), (tY272, tC272), (tY273, tC273), (tY274, tC274), (tY275, tC275), (tY276, tC276), (tY277, tC277), (tY278, tC278), (tY279, tC279), (tY280, tC280), (tY281, tC281), (tY282, tC282), (tY283, tC283), (tY284, tC284), (tY285, tC285), (tY286, tC286)]
theorem tg_2 : kGa tG_2 = true := by decide +kernel
set_option maxRecDepth 20000 in
def tH_2 : List (eM × eY × Nat × Nat × Nat × Nat) := [(tM192, tY192, (tWs[192]?).getD (0, 0, 0, 0)), (tM193, tY193, (tWs[193]?).getD (0, 0, 0, 0)), (tM194, tY194, (tWs[194]?).getD (0, 0, 0, 0)), (tM195, tY195, (tWs[195]?).getD (0, 0, 0, 0)), (tM196, tY196, (tWs[196]?).getD (0, 0, 0, 0)), (tM197, tY197, (tWs[197]?).getD (0, 0, 0, 0)), (tM198, tY198, (tWs[198]?).getD (0, 0, 0, 0)), (tM199, tY199, (tWs[199]?).getD (0, 0, 0, 0)), (tM200, tY200, (tWs[200]?).getD (0, 0, 0, 0)), (tM201, tY201, (tWs[201]?).getD (0, 0, 0, 0)), (tM202, tY202, (tWs[202]?).getD (0, 0, 0, 0)), (tM203, tY203, (tWs[203]?).getD (0, 0, 0, 0)), (tM204, tY204, (tWs[204]?).getD (0, 0, 0, 0)), (tM205, tY205, (tWs[205]?).getD (0, 0, 0, 0)), (tM206, tY206, (tWs[206]?).getD (0, 0, 0, 0)), (tM207, tY207, (tWs[207]?).getD (0, 0, 0, 0)), (tM208, tY208, (tWs[208]?).getD (0, 0, 0, 0)), (tM209, tY209, (tWs[209]?).getD (0, 0, 0, 0)), (tM210, tY210, (tWs[210]?).getD (0, 0, 0, 0)), (tM211, tY211, (tWs[211]?).getD (0, 0, 0, 0)), (tM212, tY212, (tWs[212]?).getD (0, 0, 0, 0)), (tM213, tY213, (tWs[213]?).getD (0, 0, 0, 0)), (tM214, tY214, (tWs[214]?).getD (0, 0, 0, 0)), (tM215, tY215, (tWs[215]?).getD (0, 0, 0, 0)), (tM216, tY216, (tWs[216]?).getD (0, 0, 0, 0)), (tM217, tY217, (tWs[217]?).getD (0, 0, 0, 0)), (tM218, tY218, (tWs[218]?).getD (0, 0, 0, 0)), (tM219, tY219, (tWs[219]?).getD (0, 0, 0, 0)), (tM220, tY220, (tWs[220]?).getD (0, 0, 0, 0)), (tM221, tY221, (tWs[221]?).getD (0, 0, 0, 0)), (tM222, tY222, (tWs[222]?).getD (0, 0, 0, 0)), (tM223, tY223, (tWs[223]?).getD (0, 0, 0, 0)), (tM224, tY224, (tWs[224]?).getD (0, 0, 0, 0)), (tM225, tY225, (tWs[225]?).getD (0, 0, 0, 0)), (tM226, tY226, (tWs[226]?).getD (0, 0, 0, 0)), (tM227, tY227, (tWs[227]?).getD (0, 0, 0, 0)), (tM228, tY228, (tWs[228]?).getD (0, 0, 0, 0)), (tM229, tY229, (tWs[229]?).getD (0, 0, 0, 0)), (tM230, tY230, (tWs[230]?).getD (0, 0, 0, 0)), (tM231, tY231, (tWs[231]?).getD (0, 0, 0, 0)), (tM232, tY232, (tWs[232]?).getD (0, 0, 0, 0)), (tM233, tY233, (tWs[233]?).getD (0, 0, 0, 0)), (tM234, tY234, (tWs[234]?).getD (0, 0, 0, 0)), (tM235, tY235, (tWs[235]?).getD (0, 0, 0, 0)), (tM236, tY236, (tWs[236]?).getD (0, 0, 0, 0)), (tM237, tY237, (tWs[237]?).getD (0, 0, 0, 0)), (tM238, tY238, (tWs[238]?).getD (0, 0, 0, 0)), (tM239, tY239, (tWs[239]?).getD (0, 0, 0, 0)), (tM240, tY240, (tWs[240]?).getD (0, 0, 0, 0)), (tM241, tY241, (tWs[241]?).getD (0, 0, 0, 0)), (tM242, tY242, (tWs[242]?).getD (0, 0, 0, 0)), (tM243, tY243, (tWs[243]?).getD (0, 0, 0, 0)), (tM244, tY244, (tWs[244]?).getD (0, 0, 0, 0)), (tM245, tY245, (tWs[245]?).getD (0, 0, 0, 0)), (tM246, tY246, (tWs[246]?).getD (0, 0, 0, 0)), (tM247, tY247, (tWs[247]?).getD (0, 0, 0, 0)), (tM248, tY248, (tWs[248]?).getD (0, 0, 0, 0)), (tM249, tY249, (tWs[249]?).getD (0, 0, 0, 0)), (tM250, tY250, (tWs[250]?).getD (0, 0, 0, 0)), (tM251, tY251, (tWs[251]?).getD (0, 0, 0, 0)), (tM252, tY252, (tWs[252]?).getD (0, 0, 0, 0)), (tM253, tY253, (tWs[253]?).getD (0, 0, 0, 0)), (tM254, tY254, (tWs[254]?).getD (0, 0, 0, 0)), (tM255, tY255, (tWs[255]?).getD (0, 0, 0, 0)), (tM256, tY256, (tWs[256]?).getD (0, 0, 0, 0)), (tM257, tY257, (tWs[257]?).getD (0, 0, 0, 0)), (tM258, tY258, (tWs[258]?).getD (0, 0, 0, 0)), (tM259, tY259, (tWs[259]?).getD (0, 0, 0, 0)), (tM260, tY260, (tWs[260]?).getD (0, 0, 0, 0)), (tM261, tY261, (tWs[261]?).getD (0, 0, 0, 0)), (tM262, tY262, (tWs[262]?).getD (0, 0, 0, 0)), (tM263, tY263, (tWs[263]?).getD (0, 0, 0, 0)), (tM264, tY264, (tWs[264]?).getD (0, 0, 0, 0)), (tM265, tY265, (tWs[265]?).getD (0, 0, 0, 0)), (tM266, tY266, (tWs[266]?).getD (0, 0, 0, 0)), (tM267, tY267, (tWs[267]?).getD (0, 0, 0, 0)), (tM268, tY268, (tWs[268]?).getD (0, 0, 0, 0)), (tM269, tY269, (tWs[269]?).getD (0, 0, 0, 0)), (tM270, tY270, (tWs[270]?).getD (0, 0, 0, 0)), (tM271, tY271, (tWs[271]?).getD (0, 0, 0, 0)), (tM272, tY272, (tWs[272]?).getD (0, 0, 0, 0)), (tM273, tY273, (tWs[273]?).getD (0, 0, 0, 0)), (tM274, tY274, (tWs[274]?).getD (0, 0, 0, 0)), (tM275, tY275, (tWs[275]?).getD (0, 0, 0, 0)), (tM276, tY276, (tWs[276]?).getD (0, 0, 0, 0)), (tM277, tY277, (tWs[277]?).getD (0, 0, 0, 0)), (tM278, tY278, (tWs[278]?).getD (0, 0, 0, 0)), (tM279, tY279, (tWs[279]?).getD (0, 0, 0, 0)), (tM280, tY280, (tWs[280]?).getD (0, 0, 0, 0)), (tM281, tY281, (tWs[281]?).getD (0, 0, 0, 0)), (tM282, tY282, (tWs[282]?).getD (0, 0, 0, 0)), (tM283, tY283, (tWs[283]?).getD (0, 0, 0, 0)), (tM284, tY284, (tWs[284]?).getD (0, 0, 0, 0)), (tM285, tY285, (tWs[285]?).getD (0, 0, 0, 0)), (tM286, tY286, (tWs[286]?).getD (0, 0, 0, 0))]
theorem th_2 : kGm tH_2 = true := by decide +kernel
end
section
theorem td0 : tC0.all (fun ch => dCh tY0.2.1 (ch.map dTr)) = true := by decide +kernel
theorem ta0 : tC0.all (fun ch => ch.all (kFn tY0.1)) = true := kGa_ok tg_0 0 rfl
theorem tm0 : kM tM0 tY0 ((tWs[0]?).getD (0, 0, 0, 0)) = true := kGm_ok th_0 0 rfl
set_option maxRecDepth 20000 in
theorem tw0 : kW ((tWs[0]?).getD (0, 0, 0, 0)).1 = some (.code tY0.1 tY0.2.1 tM0.2.1 tY0.2.2) := rfl
theorem tk0 : eMok tCl lw_g tNs tMs tYs tM0 tY0 := kM_ok (q := (tWs[0]?).getD (0, 0, 0, 0)) (show ∀ ch ∈ tC0, _ from kE_ok (Y := tY0) td0 ta0) tw0 tm0
end
section
theorem td1 : tC1.all (fun ch => dCh tY1.2.1 (ch.map dTr)) = true := by decide +kernel
theorem td2 : tC2.all (fun ch => dCh tY2.2.1 (ch.map dTr)) = true := by decide +kernel
theorem td3 : tC3.all (fun ch => dCh tY3.2.1 (ch.map dTr)) = true := by decide +kernel
theorem td4 : tC4.all (fun ch => dCh tY4.2.1 (ch.map dTr)) = true := by decide +kernel
theorem td5 : tC5.all (fun ch => dCh tY5.2.1 (ch.map dTr)) = true := by decide +kernel
theorem td6 : tC6.all (fun ch => dCh tY6.2.1 (ch.map dTr)) = true := by decide +kernel
theorem td7 : tC7.all (fun ch => dCh tY7.2.1 (ch.map dTr)) = true := by decide +kernel
theorem td8 : tC8.all (fun ch => dCh tY8.2.1 (ch.map dTr)) = true := by decide +kernel
theorem td9 : tC9.all (fun ch => dCh tY9.2.1 (ch.map dTr)) = true := by decide +kernel
theorem td10 : tC10.all (fun ch => dCh tY10.2.1 (ch.map dTr)) = true := by decide +kernel
theorem td11 : tC11.all (fun ch => dCh tY11.2.1 (ch.map dTr)) = true := by decide +kernel
theorem td12 : tC12.all (fun ch => dCh tY12.2.1 (ch.map dTr)) = true := by decide +kernel
theorem td13 : tC13.all (fun ch => dCh tY13.2.1 (ch.map dTr)) = true := by decide +kernel
theorem td14 : tC14.all (fun ch => dCh tY14.2.1 (ch.map dTr)) = true := by decide +kernel
theorem td15 : tC15.all (fun ch => dCh tY15.2.1 (ch.map dTr)) = true := by decide +kernel
theorem td16 : tC16.all (fun ch => dCh tY16.2.1 (ch.map dTr)) = true := by decide +kernel
theorem td17 : tC17.all (fun ch => dCh tY17.2.1 (ch.map dTr)) = true := by decide +kernel
theorem td18 : tC18.all (fun ch => dCh tY18.2.1 (ch.map dTr)) = true := by decide +kernel
theorem td19 : tC19.all (fun ch => dCh tY19.2.1 (ch.map dTr)) = true := by decide +kernel
theorem td20 : tC20.all (fun ch => dCh tY20.2.1 (ch.map dTr)) = true := by decide +kernel
theorem td21 : tC21.all (fun ch => dCh tY21.2.1 (ch.map dTr)) = true := by decide +kernel
theorem td22 : tC22.all (fun ch => dCh tY22.2.1 (ch.map dTr)) = true := by decide +kernel
theorem td23 : tC23.all (fun ch => dCh tY23.2.1 (ch.map dTr)) = true := by decide +kernel
theorem td24 : tC24.all (fun ch => dCh tY24.2.1 (ch.map dTr)) = true := by decide +kernel
theorem td25 : tC25.all (fun ch => dCh tY25.2.1 (ch.map dTr)) = true := by decide +kernel
theorem ta1 : tC1.all (fun ch => ch.all (kFn tY1.1)) = true := kGa_ok tg_0 1 rfl
theorem tm1 : kM tM1 tY1 ((tWs[1]?).getD (0, 0, 0, 0)) = true := kGm_ok th_0 1 rfl
set_option maxRecDepth 20000 in
theorem tw1 : kW ((tWs[1]?).getD (0, 0, 0, 0)).1 = some (.code tY1.1 tY1.2.1 tM1.2.1 tY1.2.2) := rfl
theorem tk1 : eMok tCl lw_g tNs tMs tYs tM1 tY1 := kM_ok (q := (tWs[1]?).getD (0, 0, 0, 0)) (show ∀ ch ∈ tC1, _ from kE_ok (Y := tY1) td1 ta1) tw1 tm1
theorem ta2 : tC2.all (fun ch => ch.all (kFn tY2.1)) = true := kGa_ok tg_0 2 rfl
theorem tm2 : kM tM2 tY2 ((tWs[2]?).getD (0, 0, 0, 0)) = true := kGm_ok th_0 2 rfl
set_option maxRecDepth 20000 in
theorem tw2 : kW ((tWs[2]?).getD (0, 0, 0, 0)).1 = some (.code tY2.1 tY2.2.1 tM2.2.1 tY2.2.2) := rfl
theorem tk2 : eMok tCl lw_g tNs tMs tYs tM2 tY2 := kM_ok (q := (tWs[2]?).getD (0, 0, 0, 0)) (show ∀ ch ∈ tC2, _ from kE_ok (Y := tY2) td2 ta2) tw2 tm2
theorem ta3 : tC3.all (fun ch => ch.all (kFn tY3.1)) = true := kGa_ok tg_0 3 rfl
theorem tm3 : kM tM3 tY3 ((tWs[3]?).getD (0, 0, 0, 0)) = true := kGm_ok th_0 3 rfl
set_option maxRecDepth 20000 in
theorem tw3 : kW ((tWs[3]?).getD (0, 0, 0, 0)).1 = some (.code tY3.1 tY3.2.1 tM3.2.1 tY3.2.2) := rfl
theorem tk3 : eMok tCl lw_g tNs tMs tYs tM3 tY3 := kM_ok (q := (tWs[3]?).getD (0, 0, 0, 0)) (show ∀ ch ∈ tC3, _ from kE_ok (Y := tY3) td3 ta3) tw3 tm3
theorem ta4 : tC4.all (fun ch => ch.all (kFn tY4.1)) = true := kGa_ok tg_0 4 rfl
theorem tm4 : kM tM4 tY4 ((tWs[4]?).getD (0, 0, 0, 0)) = true := kGm_ok th_0 4 rfl
set_option maxRecDepth 20000 in
theorem tw4 : kW ((tWs[4]?).getD (0, 0, 0, 0)).1 = some (.code tY4.1 tY4.2.1 tM4.2.1 tY4.2.2) := rfl
theorem tk4 : eMok tCl lw_g tNs tMs tYs tM4 tY4 := kM_ok (q := (tWs[4]?).getD (0, 0, 0, 0)) (show ∀ ch ∈ tC4, _ from kE_ok (Y := tY4) td4 ta4) tw4 tm4
theorem ta5 : tC5.all (fun ch => ch.all (kFn tY5.1)) = true := kGa_ok tg_0 5 rfl
theorem tm5 : kM tM5 tY5 ((tWs[5]?).getD (0, 0, 0, 0)) = true := kGm_ok th_0 5 rfl
set_option maxRecDepth 20000 in
theorem tw5 : kW ((tWs[5]?).getD (0, 0, 0, 0)).1 = some (.code tY5.1 tY5.2.1 tM5.2.1 tY5.2.2) := rfl
theorem tk5 : eMok tCl lw_g tNs tMs tYs tM5 tY5 := kM_ok (q := (tWs[5]?).getD (0, 0, 0, 0)) (show ∀ ch ∈ tC5, _ from kE_ok (Y := tY5) td5 ta5) tw5 tm5
theorem ta6 : tC6.all (fun ch => ch.all (kFn tY6.1)) = true := kGa_ok tg_0 6 rfl
theorem tm6 : kM tM6 tY6 ((tWs[6]?).getD (0, 0, 0, 0)) = true := kGm_ok th_0 6 rfl
set_option maxRecDepth 20000 in
theorem tw6 : kW ((tWs[6]?).getD (0, 0, 0, 0)).1 = some (.code tY6.1 tY6.2.1 tM6.2.1 tY6.2.2) := rfl
theorem tk6 : eMok tCl lw_g tNs tMs tYs tM6 tY6 := kM_ok (q := (tWs[6]?).getD (0, 0, 0, 0)) (show ∀ ch ∈ tC6, _ from kE_ok (Y := tY6) td6 ta6) tw6 tm6
theorem ta7 : tC7.all (fun ch => ch.all (kFn tY7.1)) = true := kGa_ok tg_0 7 rfl
theorem tm7 : kM tM7 tY7 ((tWs[7]?).getD (0, 0, 0, 0)) = true := kGm_ok th_0 7 rfl
set_option maxRecDepth 20000 in
theorem tw7 : kW ((tWs[7]?).getD (0, 0, 0, 0)).1 = some (.code tY7.1 tY7.2.1 tM7.2.1 tY7.2.2) := rfl
theorem tk7 : eMok tCl lw_g tNs tMs tYs tM7 tY7 := kM_ok (q := (tWs[7]?).getD (0, 0, 0, 0)) (show ∀ ch ∈ tC7, _ from kE_ok (Y := tY7) td7 ta7) tw7 tm7
theorem ta8 : tC8.all (fun ch => ch.all (kFn tY8.1)) = true := kGa_ok tg_0 8 rfl
theorem tm8 : kM tM8 tY8 ((tWs[8]?).getD (0, 0, 0, 0)) = true := kGm_ok th_0 8 rfl
set_option maxRecDepth 20000 in
theorem tw8 : kW ((tWs[8]?).getD (0, 0, 0, 0)).1 = some (.code tY8.1 tY8.2.1 tM8.2.1 tY8.2.2) := rfl
theorem tk8 : eMok tCl lw_g tNs tMs tYs tM8 tY8 := kM_ok (q := (tWs[8]?).getD (0, 0, 0, 0)) (show ∀ ch ∈ tC8, _ from kE_ok (Y := tY8) td8 ta8) tw8 tm8
theorem ta9 : tC9.all (fun ch => ch.all (kFn tY9.1)) = true := kGa_ok tg_0 9 rfl
theorem tm9 : kM tM9 tY9 ((tWs[9]?).getD (0, 0, 0, 0)) = true := kGm_ok th_0 9 rfl
set_option maxRecDepth 20000 in
theorem tw9 : kW ((tWs[9]?).getD (0, 0, 0, 0)).1 = some (.code tY9.1 tY9.2.1 tM9.2.1 tY9.2.2) := rfl
theorem tk9 : eMok tCl lw_g tNs tMs tYs tM9 tY9 := kM_ok (q := (tWs[9]?).getD (0, 0, 0, 0)) (show ∀ ch ∈ tC9, _ from kE_ok (Y := tY9) td9 ta9) tw9 tm9
theorem ta10 : tC10.all (fun ch => ch.all (kFn tY10.1)) = true := kGa_ok tg_0 10 rfl
theorem tm10 : kM tM10 tY10 ((tWs[10]?).getD (0, 0, 0, 0)) = true := kGm_ok th_0 10 rfl
set_option maxRecDepth 20000 in
theorem tw10 : kW ((tWs[10]?).getD (0, 0, 0, 0)).1 = some (.code tY10.1 tY10.2.1 tM10.2.1 tY10.2.2) := rfl
theorem tk10 : eMok tCl lw_g tNs tMs tYs tM10 tY10 := kM_ok (q := (tWs[10]?).getD (0, 0, 0, 0)) (show ∀ ch ∈ tC10, _ from kE_ok (Y := tY10) td10 ta10) tw10 tm10
theorem ta11 : tC11.all (fun ch => ch.all (kFn tY11.1)) = true := kGa_ok tg_0 11 rfl
theorem tm11 : kM tM11 tY11 ((tWs[11]?).getD (0, 0, 0, 0)) = true := kGm_ok th_0 11 rfl
set_option maxRecDepth 20000 in
theorem tw11 : kW ((tWs[11]?).getD (0, 0, 0, 0)).1 = some (.code tY11.1 tY11.2.1 tM11.2.1 tY11.2.2) := rfl
theorem tk11 : eMok tCl lw_g tNs tMs tYs tM11 tY11 := kM_ok (q := (tWs[11]?).getD (0, 0, 0, 0)) (show ∀ ch ∈ tC11, _ from kE_ok (Y := tY11) td11 ta11) tw11 tm11
theorem ta12 : tC12.all (fun ch => ch.all (kFn tY12.1)) = true := kGa_ok tg_0 12 rfl
theorem tm12 : kM tM12 tY12 ((tWs[12]?).getD (0, 0, 0, 0)) = true := kGm_ok th_0 12 rfl
set_option maxRecDepth 20000 in
theorem tw12 : kW ((tWs[12]?).getD (0, 0, 0, 0)).1 = some (.code tY12.1 tY12.2.1 tM12.2.1 tY12.2.2) := rfl
theorem tk12 : eMok tCl lw_g tNs tMs tYs tM12 tY12 := kM_ok (q := (tWs[12]?).getD (0, 0, 0, 0)) (show ∀ ch ∈ tC12, _ from kE_ok (Y := tY12) td12 ta12) tw12 tm12
theorem ta13 : tC13.all (fun ch => ch.all (kFn tY13.1)) = true := kGa_ok tg_0 13 rfl
theorem tm13 : kM tM13 tY13 ((tWs[13]?).getD (0, 0, 0, 0)) = true := kGm_ok th_0 13 rfl
set_option maxRecDepth 20000 in
theorem tw13 : kW ((tWs[13]?).getD (0, 0, 0, 0)).1 = some (.code tY13.1 tY13.2.1 tM13.2.1 tY13.2.2) := rfl
theorem tk13 : eMok tCl lw_g tNs tMs tYs tM13 tY13 := kM_ok (q := (tWs[13]?).getD (0, 0, 0, 0)) (show ∀ ch ∈ tC13, _ from kE_ok (Y := tY13) td13 ta13) tw13 tm13
theorem ta14 : tC14.all (fun ch => ch.all (kFn tY14.1)) = true := kGa_ok tg_0 14 rfl
theorem tm14 : kM tM14 tY14 ((tWs[14]?).getD (0, 0, 0, 0)) = true := kGm_ok th_0 14 rfl
set_option maxRecDepth 20000 in
theorem tw14 : kW ((tWs[14]?).getD (0, 0, 0, 0)).1 = some (.code tY14.1 tY14.2.1 tM14.2.1 tY14.2.2) := rfl
theorem tk14 : eMok tCl lw_g tNs tMs tYs tM14 tY14 := kM_ok (q := (tWs[14]?).getD (0, 0, 0, 0)) (show ∀ ch ∈ tC14, _ from kE_ok (Y := tY14) td14 ta14) tw14 tm14
theorem ta15 : tC15.all (fun ch => ch.all (kFn tY15.1)) = true := kGa_ok tg_0 15 rfl
theorem tm15 : kM tM15 tY15 ((tWs[15]?).getD (0, 0, 0, 0)) = true := kGm_ok th_0 15 rfl
set_option maxRecDepth 20000 in
theorem tw15 : kW ((tWs[15]?).getD (0, 0, 0, 0)).1 = some (.code tY15.1 tY15.2.1 tM15.2.1 tY15.2.2) := rfl
theorem tk15 : eMok tCl lw_g tNs tMs tYs tM15 tY15 := kM_ok (q := (tWs[15]?).getD (0, 0, 0, 0)) (show ∀ ch ∈ tC15, _ from kE_ok (Y := tY15) td15 ta15) tw15 tm15
theorem ta16 : tC16.all (fun ch => ch.all (kFn tY16.1)) = true := kGa_ok tg_0 16 rfl
theorem tm16 : kM tM16 tY16 ((tWs[16]?).getD (0, 0, 0, 0)) = true := kGm_ok th_0 16 rfl
set_option maxRecDepth 20000 in
theorem tw16 : kW ((tWs[16]?).getD (0, 0, 0, 0)).1 = some (.code tY16.1 tY16.2.1 tM16.2.1 tY16.2.2) := rfl
theorem tk16 : eMok tCl lw_g tNs tMs tYs tM16 tY16 := kM_ok (q := (tWs[16]?).getD (0, 0, 0, 0)) (show ∀ ch ∈ tC16, _ from kE_ok (Y := tY16) td16 ta16) tw16 tm16
theorem ta17 : tC17.all (fun ch => ch.all (kFn tY17.1)) = true := kGa_ok tg_0 17 rfl
theorem tm17 : kM tM17 tY17 ((tWs[17]?).getD (0, 0, 0, 0)) = true := kGm_ok th_0 17 rfl
set_option maxRecDepth 20000 in
theorem tw17 : kW ((tWs[17]?).getD (0, 0, 0, 0)).1 = some (.code tY17.1 tY17.2.1 tM17.2.1 tY17.2.2) := rfl
theorem tk17 : eMok tCl lw_g tNs tMs tYs tM17 tY17 := kM_ok (q := (tWs[17]?).getD (0, 0, 0, 0)) (show ∀ ch ∈ tC17, _ from kE_ok (Y := tY17) td17 ta17) tw17 tm17
theorem ta18 : tC18.all (fun ch => ch.all (kFn tY18.1)) = true := kGa_ok tg_0 18 rfl
theorem tm18 : kM tM18 tY18 ((tWs[18]?).getD (0, 0, 0, 0)) = true := kGm_ok th_0 18 rfl
set_option maxRecDepth 20000 in
theorem tw18 : kW ((tWs[18]?).getD (0, 0, 0, 0)).1 = some (.code tY18.1 tY18.2.1 tM18.2.1 tY18.2.2) := rfl
theorem tk18 : eMok tCl lw_g tNs tMs tYs tM18 tY18 := kM_ok (q := (tWs[18]?).getD (0, 0, 0, 0)) (show ∀ ch ∈ tC18, _ from kE_ok (Y := tY18) td18 ta18) tw18 tm18
theorem ta19 : tC19.all (fun ch => ch.all (kFn tY19.1)) = true := kGa_ok tg_0 19 rfl
theorem tm19 : kM tM19 tY19 ((tWs[19]?).getD (0, 0, 0, 0)) = true := kGm_ok th_0 19 rfl
set_option maxRecDepth 20000 in
theorem tw19 : kW ((tWs[19]?).getD (0, 0, 0, 0)).1 = some (.code tY19.1 tY19.2.1 tM19.2.1 tY19.2.2) := rfl
theorem tk19 : eMok tCl lw_g tNs tMs tYs tM19 tY19 := kM_ok (q := (tWs[19]?).getD (0, 0, 0, 0)) (show ∀ ch ∈ tC19, _ from kE_ok (Y := tY19) td19 ta19) tw19 tm19
theorem ta20 : tC20.all (fun ch => ch.all (kFn tY20.1)) = true := kGa_ok tg_0 20 rfl
theorem tm20 : kM tM20 tY20 ((tWs[20]?).getD (0, 0, 0, 0)) = true := kGm_ok th_0 20 rfl
set_option maxRecDepth 20000 in
theorem tw20 : kW ((tWs[20]?).getD (0, 0, 0, 0)).1 = some (.code tY20.1 tY20.2.1 tM20.2.1 tY20.2.2) := rfl
theorem tk20 : eMok tCl lw_g tNs tMs tYs tM20 tY20 := kM_ok (q := (tWs[20]?).getD (0, 0, 0, 0)) (show ∀ ch ∈ tC20, _ from kE_ok (Y := tY20) td20 ta20) tw20 tm20
theorem ta21 : tC21.all (fun ch => ch.all (kFn tY21.1)) = true := kGa_ok tg_0 21 rfl
theorem tm21 : kM tM21 tY21 ((tWs[21]?).getD (0, 0, 0, 0)) = true := kGm_ok th_0 21 rfl
set_option maxRecDepth 20000 in
theorem tw21 : kW ((tWs[21]?).getD (0, 0, 0, 0)).1 = some (.code tY21.1 tY21.2.1 tM21.2.1 tY21.2.2) := rfl
theorem tk21 : eMok tCl lw_g tNs tMs tYs tM21 tY21 := kM_ok (q := (tWs[21]?).getD (0, 0, 0, 0)) (show ∀ ch ∈ tC21, _ from kE_ok (Y := tY21) td21 ta21) tw21 tm21
theorem ta22 : tC22.all (fun ch => ch.all (kFn tY22.1)) = true := kGa_ok tg_0 22 rfl
theorem tm22 : kM tM22 tY22 ((tWs[22]?).getD (0, 0, 0, 0)) = true := kGm_ok th_0 22 rfl
set_option maxRecDepth 20000 in
theorem tw22 : kW ((tWs[22]?).getD (0, 0, 0, 0)).1 = some (.code tY22.1 tY22.2.1 tM22.2.1 tY22.2.2) := rfl
theorem tk22 : eMok tCl lw_g tNs tMs tYs tM22 tY22 := kM_ok (q := (tWs[22]?).getD (0, 0, 0, 0)) (show ∀ ch ∈ tC22, _ from kE_ok (Y := tY22) td22 ta22) tw22 tm22
theorem ta23 : tC23.all (fun ch => ch.all (kFn tY23.1)) = true := kGa_ok tg_0 23 rfl
theorem tm23 : kM tM23 tY23 ((tWs[23]?).getD (0, 0, 0, 0)) = true := kGm_ok th_0 23 rfl
set_option maxRecDepth 20000 in
theorem tw23 : kW ((tWs[23]?).getD (0, 0, 0, 0)).1 = some (.code tY23.1 tY23.2.1 tM23.2.1 tY23.2.2) := rfl
theorem tk23 : eMok tCl lw_g tNs tMs tYs tM23 tY23 := kM_ok (q := (tWs[23]?).getD (0, 0, 0, 0)) (show ∀ ch ∈ tC23, _ from kE_ok (Y := tY23) td23 ta23) tw23 tm23
theorem ta24 : tC24.all (fun ch => ch.all (kFn tY24.1)) = true := kGa_ok tg_0 24 rfl
theorem tm24 : kM tM24 tY24 ((tWs[24]?).getD (0, 0, 0, 0)) = true := kGm_ok th_0 24 rfl
set_option maxRecDepth 20000 in
theorem tw24 : kW ((tWs[24]?).getD (0, 0, 0, 0)).1 = some (.code tY24.1 tY24.2.1 tM24.2.1 tY24.2.2) := rfl
theorem tk24 : eMok tCl lw_g tNs tMs tYs tM24 tY24 := kM_ok (q := (tWs[24]?).getD (0, 0, 0, 0)) (show ∀ ch ∈ tC24, _ from kE_ok (Y := tY24) td24 ta24) tw24 tm24
theorem ta25 : tC25.all (fun ch => ch.all (kFn tY25.1)) = true := kGa_ok tg_0 25 rfl
theorem tm25 : kM tM25 tY25 ((tWs[25]?).getD (0, 0, 0, 0)) = true := kGm_ok th_0 25 rfl
set_option maxRecDepth 20000 in
theorem tw25 : kW ((tWs[25]?).getD (0, 0, 0, 0)).1 = some (.code tY25.1 tY25.2.1 tM25.2.1 tY25.2.2) := rfl
theorem tk25 : eMok tCl lw_g tNs tMs tYs tM25 tY25 := kM_ok (q := (tWs[25]?).getD (0, 0, 0, 0)) (show ∀ ch ∈ tC25, _ from kE_ok (Y := tY25) td25 ta25) tw25 tm25
end
section
theorem td26 : tC26.all (fun ch => dCh tY26.2.1 (ch.map dTr)) = true := by decide +kernel
theorem td27 : tC27.all (fun ch => dCh tY27.2.1 (ch.map dTr)) = true := by decide +kernel
theorem td28 : tC28.all (fun ch => dCh tY28.2.1 (ch.map dTr)) = true := by decide +kernel
theorem td29 : tC29.all (fun ch => dCh tY29.2.1 (ch.map dTr)) = true := by decide +kernel
theorem td30 : tC30.all (fun ch => dCh tY30.2.1 (ch.map dTr)) = true := by decide +kernel
theorem td31 : tC31.all (fun ch => dCh tY31.2.1 (ch.map dTr)) = true := by decide +kernel
theorem td32 : tC32.all (fun ch => dCh tY32.2.1 (ch.map dTr)) = true := by decide +kernel
theorem td33 : tC33.all (fun ch => dCh tY33.2.1 (ch.map dTr)) = true := by decide +kernel
theorem td34 : tC34.all (fun ch => dCh tY34.2.1 (ch.map dTr)) = true := by decide +kernel
theorem td35 : tC35.all (fun ch => dCh tY35.2.1 (ch.map dTr)) = true := by decide +kernel
theorem td36 : tC36.all (fun ch => dCh tY36.2.1 (ch.map dTr)) = true := by decide +kernel
theorem td37 : tC37.all (fun ch => dCh tY37.2.1 (ch.map dTr)) = true := by decide +kernel
theorem td38 : tC38.all (fun ch => dCh tY38.2.1 (ch.map dTr)) = true := by decide +kernel
theorem td39 : tC39.all (fun ch => dCh tY39.2.1 (ch.map dTr)) = true := by decide +kernel
theorem td40 : tC40.all (fun ch => dCh tY40.2.1 (ch.map dTr)) = true := by decide +kernel
theorem td41 : tC41.all (fun ch => dCh tY41.2.1 (ch.map dTr)) = true := by decide +kernel
theorem td42 : tC42.all (fun ch => dCh tY42.2.1 (ch.map dTr)) = true := by decide +kernel
theorem td43 : tC43.all (fun ch => dCh tY43.2.1 (ch.map dTr)) = true := by decide +kernel
theorem td44 : tC44.all (fun ch => dCh tY44.2.1 (ch.map dTr)) = true := by decide +kernel
theorem td45 : tC45.all (fun ch => dCh tY45.2.1 (ch.map dTr)) = true := by decide +kernel
theorem td46 : tC46.all (fun ch => dCh tY46.2.1 (ch.map dTr)) = true := by decide +kernel
theorem td47 : tC47.all (fun ch => dCh tY47.2.1 (ch.map dTr)) = true := by decide +kernel
theorem td48 : tC48.all (fun ch => dCh tY48.2.1 (ch.map dTr)) = true := by decide +kernel
theorem td49 : tC49.all (fun ch => dCh tY49.2.1 (ch.map dTr)) = true := by decide +kernel
theorem td50 : tC50.all (fun ch => dCh tY50.2.1 (ch.map dTr)) = true := by decide +kernel
theorem td51 : tC51.all (fun ch => dCh tY51.2.1 (ch.map dTr)) = true := by decide +kernel
theorem td52 : tC52.all (fun ch => dCh tY52.2.1 (ch.map dTr)) = true := by decide +kernel
theorem td53 : tC53.all (fun ch => dCh tY53.2.1 (ch.map dTr)) = true := by decide +kernel
theorem td54 : tC54.all (fun ch => dCh tY54.2.1 (ch.map dTr)) = true := by decide +kernel
theorem td55 : tC55.all (fun ch => dCh tY55.2.1 (ch.map dTr)) = true := by decide +kernel
theorem ta26 : tC26.all (fun ch => ch.all (kFn tY26.1)) = true := kGa_ok tg_0 26 rfl
theorem tm26 : kM tM26 tY26 ((tWs[26]?).getD (0, 0, 0, 0)) = true := kGm_ok th_0 26 rfl
set_option maxRecDepth 20000 in
theorem tw26 : kW ((tWs[26]?).getD (0, 0, 0, 0)).1 = some (.code tY26.1 tY26.2.1 tM26.2.1 tY26.2.2) := rfl
theorem tk26 : eMok tCl lw_g tNs tMs tYs tM26 tY26 := kM_ok (q := (tWs[26]?).getD (0, 0, 0, 0)) (show ∀ ch ∈ tC26, _ from kE_ok (Y := tY26) td26 ta26) tw26 tm26
theorem ta27 : tC27.all (fun ch => ch.all (kFn tY27.1)) = true := kGa_ok tg_0 27 rfl
theorem tm27 : kM tM27 tY27 ((tWs[27]?).getD (0, 0, 0, 0)) = true := kGm_ok th_0 27 rfl
set_option maxRecDepth 20000 in
theorem tw27 : kW ((tWs[27]?).getD (0, 0, 0, 0)).1 = some (.code tY27.1 tY27.2.1 tM27.2.1 tY27.2.2) := rfl
theorem tk27 : eMok tCl lw_g tNs tMs tYs tM27 tY27 := kM_ok (q := (tWs[27]?).getD (0, 0, 0, 0)) (show ∀ ch ∈ tC27, _ from kE_ok (Y := tY27) td27 ta27) tw27 tm27
theorem ta28 : tC28.all (fun ch => ch.all (kFn tY28.1)) = true := kGa_ok tg_0 28 rfl
theorem tm28 : kM tM28 tY28 ((tWs[28]?).getD (0, 0, 0, 0)) = true := kGm_ok th_0 28 rfl
set_option maxRecDepth 20000 in
theorem tw28 : kW ((tWs[28]?).getD (0, 0, 0, 0)).1 = some (.code tY28.1 tY28.2.1 tM28.2.1 tY28.2.2) := rfl
theorem tk28 : eMok tCl lw_g tNs tMs tYs tM28 tY28 := kM_ok (q := (tWs[28]?).getD (0, 0, 0, 0)) (show ∀ ch ∈ tC28, _ from kE_ok (Y := tY28) td28 ta28) tw28 tm28
theorem ta29 : tC29.all (fun ch => ch.all (kFn tY29.1)) = true := kGa_ok tg_0 29 rfl
theorem tm29 : kM tM29 tY29 ((tWs[29]?).getD (0, 0, 0, 0)) = true := kGm_ok th_0 29 rfl
set_option maxRecDepth 20000 in
theorem tw29 : kW ((tWs[29]?).getD (0, 0, 0, 0)).1 = some (.code tY29.1 tY29.2.1 tM29.2.1 tY29.2.2) := rfl
theorem tk29 : eMok tCl lw_g tNs tMs tYs tM29 tY29 := kM_ok (q := (tWs[29]?).getD (0, 0, 0, 0)) (show ∀ ch ∈ tC29, _ from kE_ok (Y := tY29) td29 ta29) tw29 tm29
theorem ta30 : tC30.all (fun ch => ch.all (kFn tY30.1)) = true := kGa_ok tg_0 30 rfl
theorem tm30 : kM tM30 tY30 ((tWs[30]?).getD (0, 0, 0, 0)) = true := kGm_ok th_0 30 rfl
set_option maxRecDepth 20000 in
theorem tw30 : kW ((tWs[30]?).getD (0, 0, 0, 0)).1 = some (.code tY30.1 tY30.2.1 tM30.2.1 tY30.2.2) := rfl
theorem tk30 : eMok tCl lw_g tNs tMs tYs tM30 tY30 := kM_ok (q := (tWs[30]?).getD (0, 0, 0, 0)) (show ∀ ch ∈ tC30, _ from kE_ok (Y := tY30) td30 ta30) tw30 tm30
theorem ta31 : tC31.all (fun ch => ch.all (kFn tY31.1)) = true := kGa_ok tg_0 31 rfl
theorem tm31 : kM tM31 tY31 ((tWs[31]?).getD (0, 0, 0, 0)) = true := kGm_ok th_0 31 rfl
set_option maxRecDepth 20000 in
theorem tw31 : kW ((tWs[31]?).getD (0, 0, 0, 0)).1 = some (.code tY31.1 tY31.2.1 tM31.2.1 tY31.2.2) := rfl
theorem tk31 : eMok tCl lw_g tNs tMs tYs tM31 tY31 := kM_ok (q := (tWs[31]?).getD (0, 0, 0, 0)) (show ∀ ch ∈ tC31, _ from kE_ok (Y := tY31) td31 ta31) tw31 tm31
theorem ta32 : tC32.all (fun ch => ch.all (kFn tY32.1)) = true := kGa_ok tg_0 32 rfl
theorem tm32 : kM tM32 tY32 ((tWs[32]?).getD (0, 0, 0, 0)) = true := kGm_ok th_0 32 rfl
set_option maxRecDepth 20000 in
theorem tw32 : kW ((tWs[32]?).getD (0, 0, 0, 0)).1 = some (.code tY32.1 tY32.2.1 tM32.2.1 tY32.2.2) := rfl
theorem tk32 : eMok tCl lw_g tNs tMs tYs tM32 tY32 := kM_ok (q := (tWs[32]?).getD (0, 0, 0, 0)) (show ∀ ch ∈ tC32, _ from kE_ok (Y := tY32) td32 ta32) tw32 tm32
theorem ta33 : tC33.all (fun ch => ch.all (kFn tY33.1)) = true := kGa_ok tg_0 33 rfl
theorem tm33 : kM tM33 tY33 ((tWs[33]?).getD (0, 0, 0, 0)) = true := kGm_ok th_0 33 rfl
set_option maxRecDepth 20000 in
theorem tw33 : kW ((tWs[33]?).getD (0, 0, 0, 0)).1 = some (.code tY33.1 tY33.2.1 tM33.2.1 tY33.2.2) := rfl
theorem tk33 : eMok tCl lw_g tNs tMs tYs tM33 tY33 := kM_ok (q := (tWs[33]?).getD (0, 0, 0, 0)) (show ∀ ch ∈ tC33, _ from kE_ok (Y := tY33) td33 ta33) tw33 tm33
theorem ta34 : tC34.all (fun ch => ch.all (kFn tY34.1)) = true := kGa_ok tg_0 34 rfl
theorem tm34 : kM tM34 tY34 ((tWs[34]?).getD (0, 0, 0, 0)) = true := kGm_ok th_0 34 rfl
set_option maxRecDepth 20000 in
theorem tw34 : kW ((tWs[34]?).getD (0, 0, 0, 0)).1 = some (.code tY34.1 tY34.2.1 tM34.2.1 tY34.2.2) := rfl
theorem tk34 : eMok tCl lw_g tNs tMs tYs tM34 tY34 := kM_ok (q := (tWs[34]?).getD (0, 0, 0, 0)) (show ∀ ch ∈ tC34, _ from kE_ok (Y := tY34) td34 ta34) tw34 tm34
theorem ta35 : tC35.all (fun ch => ch.all (kFn tY35.1)) = true := kGa_ok tg_0 35 rfl
theorem tm35 : kM tM35 tY35 ((tWs[35]?).getD (0, 0, 0, 0)) = true := kGm_ok th_0 35 rfl
set_option maxRecDepth 20000 in
theorem tw35 : kW ((tWs[35]?).getD (0, 0, 0, 0)).1 = some (.code tY35.1 tY35.2.1 tM35.2.1 tY35.2.2) := rfl
theorem tk35 : eMok tCl lw_g tNs tMs tYs tM35 tY35 := kM_ok (q := (tWs[35]?).getD (0, 0, 0, 0)) (show ∀ ch ∈ tC35, _ from kE_ok (Y := tY35) td35 ta35) tw35 tm35
theorem ta36 : tC36.all (fun ch => ch.all (kFn tY36.1)) = true := kGa_ok tg_0 36 rfl
theorem tm36 : kM tM36 tY36 ((tWs[36]?).getD (0, 0, 0, 0)) = true := kGm_ok th_0 36 rfl
set_option maxRecDepth 20000 in
theorem tw36 : kW ((tWs[36]?).getD (0, 0, 0, 0)).1 = some (.code tY36.1 tY36.2.1 tM36.2.1 tY36.2.2) := rfl
theorem tk36 : eMok tCl lw_g tNs tMs tYs tM36 tY36 := kM_ok (q := (tWs[36]?).getD (0, 0, 0, 0)) (show ∀ ch ∈ tC36, _ from kE_ok (Y := tY36) td36 ta36) tw36 tm36
theorem ta37 : tC37.all (fun ch => ch.all (kFn tY37.1)) = true := kGa_ok tg_0 37 rfl
theorem tm37 : kM tM37 tY37 ((tWs[37]?).getD (0, 0, 0, 0)) = true := kGm_ok th_0 37 rfl
set_option maxRecDepth 20000 in
theorem tw37 : kW ((tWs[37]?).getD (0, 0, 0, 0)).1 = some (.code tY37.1 tY37.2.1 tM37.2.1 tY37.2.2) := rfl
theorem tk37 : eMok tCl lw_g tNs tMs tYs tM37 tY37 := kM_ok (q := (tWs[37]?).getD (0, 0, 0, 0)) (show ∀ ch ∈ tC37, _ from kE_ok (Y := tY37) td37 ta37) tw37 tm37
theorem ta38 : tC38.all (fun ch => ch.all (kFn tY38.1)) = true := kGa_ok tg_0 38 rfl
theorem tm38 : kM tM38 tY38 ((tWs[38]?).getD (0, 0, 0, 0)) = true := kGm_ok th_0 38 rfl
set_option maxRecDepth 20000 in
theorem tw38 : kW ((tWs[38]?).getD (0, 0, 0, 0)).1 = some (.code tY38.1 tY38.2.1 tM38.2.1 tY38.2.2) := rfl
theorem tk38 : eMok tCl lw_g tNs tMs tYs tM38 tY38 := kM_ok (q := (tWs[38]?).getD (0, 0, 0, 0)) (show ∀ ch ∈ tC38, _ from kE_ok (Y := tY38) td38 ta38) tw38 tm38
theorem ta39 : tC39.all (fun ch => ch.all (kFn tY39.1)) = true := kGa_ok tg_0 39 rfl
theorem tm39 : kM tM39 tY39 ((tWs[39]?).getD (0, 0, 0, 0)) = true := kGm_ok th_0 39 rfl
set_option maxRecDepth 20000 in
theorem tw39 : kW ((tWs[39]?).getD (0, 0, 0, 0)).1 = some (.code tY39.1 tY39.2.1 tM39.2.1 tY39.2.2) := rfl
theorem tk39 : eMok tCl lw_g tNs tMs tYs tM39 tY39 := kM_ok (q := (tWs[39]?).getD (0, 0, 0, 0)) (show ∀ ch ∈ tC39, _ from kE_ok (Y := tY39) td39 ta39) tw39 tm39
theorem ta40 : tC40.all (fun ch => ch.all (kFn tY40.1)) = true := kGa_ok tg_0 40 rfl
theorem tm40 : kM tM40 tY40 ((tWs[40]?).getD (0, 0, 0, 0)) = true := kGm_ok th_0 40 rfl
set_option maxRecDepth 20000 in
theorem tw40 : kW ((tWs[40]?).getD (0, 0, 0, 0)).1 = some (.code tY40.1 tY40.2.1 tM40.2.1 tY40.2.2) := rfl
theorem tk40 : eMok tCl lw_g tNs tMs tYs tM40 tY40 := kM_ok (q := (tWs[40]?).getD (0, 0, 0, 0)) (show ∀ ch ∈ tC40, _ from kE_ok (Y := tY40) td40 ta40) tw40 tm40
theorem ta41 : tC41.all (fun ch => ch.all (kFn tY41.1)) = true := kGa_ok tg_0 41 rfl
theorem tm41 : kM tM41 tY41 ((tWs[41]?).getD (0, 0, 0, 0)) = true := kGm_ok th_0 41 rfl
set_option maxRecDepth 20000 in
theorem tw41 : kW ((tWs[41]?).getD (0, 0, 0, 0)).1 = some (.code tY41.1 tY41.2.1 tM41.2.1 tY41.2.2) := rfl
theorem tk41 : eMok tCl lw_g tNs tMs tYs tM41 tY41 := kM_ok (q := (tWs[41]?).getD (0, 0, 0, 0)) (show ∀ ch ∈ tC41, _ from kE_ok (Y := tY41) td41 ta41) tw41 tm41
theorem ta42 : tC42.all (fun ch => ch.all (kFn tY42.1)) = true := kGa_ok tg_0 42 rfl
theorem tm42 : kM tM42 tY42 ((tWs[42]?).getD (0, 0, 0, 0)) = true := kGm_ok th_0 42 rfl
set_option maxRecDepth 20000 in
theorem tw42 : kW ((tWs[42]?).getD (0, 0, 0, 0)).1 = some (.code tY42.1 tY42.2.1 tM42.2.1 tY42.2.2) := rfl
theorem tk42 : eMok tCl lw_g tNs tMs tYs tM42 tY42 := kM_ok (q := (tWs[42]?).getD (0, 0, 0, 0)) (show ∀ ch ∈ tC42, _ from kE_ok (Y := tY42) td42 ta42) tw42 tm42
theorem ta43 : tC43.all (fun ch => ch.all (kFn tY43.1)) = true := kGa_ok tg_0 43 rfl
theorem tm43 : kM tM43 tY43 ((tWs[43]?).getD (0, 0, 0, 0)) = true := kGm_ok th_0 43 rfl
set_option maxRecDepth 20000 in
theorem tw43 : kW ((tWs[43]?).getD (0, 0, 0, 0)).1 = some (.code tY43.1 tY43.2.1 tM43.2.1 tY43.2.2) := rfl
theorem tk43 : eMok tCl lw_g tNs tMs tYs tM43 tY43 := kM_ok (q := (tWs[43]?).getD (0, 0, 0, 0)) (show ∀ ch ∈ tC43, _ from kE_ok (Y := tY43) td43 ta43) tw43 tm43
theorem ta44 : tC44.all (fun ch => ch.all (kFn tY44.1)) = true := kGa_ok tg_0 44 rfl
theorem tm44 : kM tM44 tY44 ((tWs[44]?).getD (0, 0, 0, 0)) = true := kGm_ok th_0 44 rfl
set_option maxRecDepth 20000 in
theorem tw44 : kW ((tWs[44]?).getD (0, 0, 0, 0)).1 = some (.code tY44.1 tY44.2.1 tM44.2.1 tY44.2.2) := rfl
theorem tk44 : eMok tCl lw_g tNs tMs tYs tM44 tY44 := kM_ok (q := (tWs[44]?).getD (0, 0, 0, 0)) (show ∀ ch ∈ tC44, _ from kE_ok (Y := tY44) td44 ta44) tw44 tm44
theorem ta45 : tC45.all (fun ch => ch.all (kFn tY45.1)) = true := kGa_ok tg_0 45 rfl
theorem tm45 : kM tM45 tY45 ((tWs[45]?).getD (0, 0, 0, 0)) = true := kGm_ok th_0 45 rfl
set_option maxRecDepth 20000 in
theorem tw45 : kW ((tWs[45]?).getD (0, 0, 0, 0)).1 = some (.code tY45.1 tY45.2.1 tM45.2.1 tY45.2.2) := rfl
theorem tk45 : eMok tCl lw_g tNs tMs tYs tM45 tY45 := kM_ok (q := (tWs[45]?).getD (0, 0, 0, 0)) (show ∀ ch ∈ tC45, _ from kE_ok (Y := tY45) td45 ta45) tw45 tm45
theorem ta46 : tC46.all (fun ch => ch.all (kFn tY46.1)) = true := kGa_ok tg_0 46 rfl
theorem tm46 : kM tM46 tY46 ((tWs[46]?).getD (0, 0, 0, 0)) = true := kGm_ok th_0 46 rfl
set_option maxRecDepth 20000 in
theorem tw46 : kW ((tWs[46]?).getD (0, 0, 0, 0)).1 = some (.code tY46.1 tY46.2.1 tM46.2.1 tY46.2.2) := rfl
theorem tk46 : eMok tCl lw_g tNs tMs tYs tM46 tY46 := kM_ok (q := (tWs[46]?).getD (0, 0, 0, 0)) (show ∀ ch ∈ tC46, _ from kE_ok (Y := tY46) td46 ta46) tw46 tm46
theorem ta47 : tC47.all (fun ch => ch.all (kFn tY47.1)) = true := kGa_ok tg_0 47 rfl
theorem tm47 : kM tM47 tY47 ((tWs[47]?).getD (0, 0, 0, 0)) = true := kGm_ok th_0 47 rfl
set_option maxRecDepth 20000 in
theorem tw47 : kW ((tWs[47]?).getD (0, 0, 0, 0)).1 = some (.code tY47.1 tY47.2.1 tM47.2.1 tY47.2.2) := rfl
theorem tk47 : eMok tCl lw_g tNs tMs tYs tM47 tY47 := kM_ok (q := (tWs[47]?).getD (0, 0, 0, 0)) (show ∀ ch ∈ tC47, _ from kE_ok (Y := tY47) td47 ta47) tw47 tm47
theorem ta48 : tC48.all (fun ch => ch.all (kFn tY48.1)) = true := kGa_ok tg_0 48 rfl
theorem tm48 : kM tM48 tY48 ((tWs[48]?).getD (0, 0, 0, 0)) = true := kGm_ok th_0 48 rfl
set_option maxRecDepth 20000 in
theorem tw48 : kW ((tWs[48]?).getD (0, 0, 0, 0)).1 = some (.code tY48.1 tY48.2.1 tM48.2.1 tY48.2.2) := rfl
theorem tk48 : eMok tCl lw_g tNs tMs tYs tM48 tY48 := kM_ok (q := (tWs[48]?).getD (0, 0, 0, 0)) (show ∀ ch ∈ tC48, _ from kE_ok (Y := tY48) td48 ta48) tw48 tm48
theorem ta49 : tC49.all (fun ch => ch.all (kFn tY49.1)) = true := kGa_ok tg_0 49 rfl
theorem tm49 : kM tM49 tY49 ((tWs[49]?).getD (0, 0, 0, 0)) = true := kGm_ok th_0 49 rfl
set_option maxRecDepth 20000 in
theorem tw49 : kW ((tWs[49]?).getD (0, 0, 0, 0)).1 = some (.code tY49.1 tY49.2.1 tM49.2.1 tY49.2.2) := rfl
theorem tk49 : eMok tCl lw_g tNs tMs tYs tM49 tY49 := kM_ok (q := (tWs[49]?).getD (0, 0, 0, 0)) (show ∀ ch ∈ tC49, _ from kE_ok (Y := tY49) td49 ta49) tw49 tm49
theorem ta50 : tC50.all (fun ch => ch.all (kFn tY50.1)) = true := kGa_ok tg_0 50 rfl
theorem tm50 : kM tM50 tY50 ((tWs[50]?).getD (0, 0, 0, 0)) = true := kGm_ok th_0 50 rfl
set_option maxRecDepth 20000 in
theorem tw50 : kW ((tWs[50]?).getD (0, 0, 0, 0)).1 = some (.code tY50.1 tY50.2.1 tM50.2.1 tY50.2.2) := rfl
theorem tk50 : eMok tCl lw_g tNs tMs tYs tM50 tY50 := kM_ok (q := (tWs[50]?).getD (0, 0, 0, 0)) (show ∀ ch ∈ tC50, _ from kE_ok (Y := tY50) td50 ta50) tw50 tm50
theorem ta51 : tC51.all (fun ch => ch.all (kFn tY51.1)) = true := kGa_ok tg_0 51 rfl
theorem tm51 : kM tM51 tY51 ((tWs[51]?).getD (0, 0, 0, 0)) = true := kGm_ok th_0 51 rfl
set_option maxRecDepth 20000 in
theorem tw51 : kW ((tWs[51]?).getD (0, 0, 0, 0)).1 = some (.code tY51.1 tY51.2.1 tM51.2.1 tY51.2.2) := rfl
theorem tk51 : eMok tCl lw_g tNs tMs tYs tM51 tY51 := kM_ok (q := (tWs[51]?).getD (0, 0, 0, 0)) (show ∀ ch ∈ tC51, _ from kE_ok (Y := tY51) td51 ta51) tw51 tm51
theorem ta52 : tC52.all (fun ch => ch.all (kFn tY52.1)) = true := kGa_ok tg_0 52 rfl
theorem tm52 : kM tM52 tY52 ((tWs[52]?).getD (0, 0, 0, 0)) = true := kGm_ok th_0 52 rfl
set_option maxRecDepth 20000 in
theorem tw52 : kW ((tWs[52]?).getD (0, 0, 0, 0)).1 = some (.code tY52.1 tY52.2.1 tM52.2.1 tY52.2.2) := rfl
theorem tk52 : eMok tCl lw_g tNs tMs tYs tM52 tY52 := kM_ok (q := (tWs[52]?).getD (0, 0, 0, 0)) (show ∀ ch ∈ tC52, _ from kE_ok (Y := tY52) td52 ta52) tw52 tm52
theorem ta53 : tC53.all (fun ch => ch.all (kFn tY53.1)) = true := kGa_ok tg_0 53 rfl
theorem tm53 : kM tM53 tY53 ((tWs[53]?).getD (0, 0, 0, 0)) = true := kGm_ok th_0 53 rfl
set_option maxRecDepth 20000 in
theorem tw53 : kW ((tWs[53]?).getD (0, 0, 0, 0)).1 = some (.code tY53.1 tY53.2.1 tM53.2.1 tY53.2.2) := rfl
theorem tk53 : eMok tCl lw_g tNs tMs tYs tM53 tY53 := kM_ok (q := (tWs[53]?).getD (0, 0, 0, 0)) (show ∀ ch ∈ tC53, _ from kE_ok (Y := tY53) td53 ta53) tw53 tm53
theorem ta54 : tC54.all (fun ch => ch.all (kFn tY54.1)) = true := kGa_ok tg_0 54 rfl
theorem tm54 : kM tM54 tY54 ((tWs[54]?).getD (0, 0, 0, 0)) = true := kGm_ok th_0 54 rfl
set_option maxRecDepth 20000 in
theorem tw54 : kW ((tWs[54]?).getD (0, 0, 0, 0)).1 = some (.code tY54.1 tY54.2.1 tM54.2.1 tY54.2.2) := rfl
theorem tk54 : eMok tCl lw_g tNs tMs tYs tM54 tY54 := kM_ok (q := (tWs[54]?).getD (0, 0, 0, 0)) (show ∀ ch ∈ tC54, _ from kE_ok (Y := tY54) td54 ta54) tw54 tm54
theorem ta55 : tC55.all (fun ch => ch.all (kFn tY55.1)) = true := kGa_ok tg_0 55 rfl
theorem tm55 : kM tM55 tY55 ((tWs[55]?).getD (0, 0, 0, 0)) = true := kGm_ok th_0 55 rfl
set_option maxRecDepth 20000 in
theorem tw55 : kW ((tWs[55]?).getD (0, 0, 0, 0)).1 = some (.code tY55.1 tY55.2.1 tM55.2.1 tY55.2.2) := rfl
theorem tk55 : eMok tCl lw_g tNs tMs tYs tM55 tY55 := kM_ok (q := (tWs[55]?).getD (0, 0, 0, 0)) (show ∀ ch ∈ tC55, _ from kE_ok (Y := tY55) td55 ta55) tw55 tm55
end
section
theorem td56 : tC56.all (fun ch => dCh tY56.2.1 (ch.map dTr)) = true := by decide +kernel
theorem td57 : tC57.all (fun ch => dCh tY57.2.1 (ch.map dTr)) = true := by decide +kernel
theorem td58 : tC58.all (fun ch => dCh tY58.2.1 (ch.map dTr)) = true := by decide +kernel
theorem td59 : tC59.all (fun ch => dCh tY59.2.1 (ch.map dTr)) = true := by decide +kernel
theorem td60 : tC60.all (fun ch => dCh tY60.2.1 (ch.map dTr)) = true := by decide +kernel
theorem td61 : tC61.all (fun ch => dCh tY61.2.1 (ch.map dTr)) = true := by decide +kernel
theorem td62 : tC62.all (fun ch => dCh tY62.2.1 (ch.map dTr)) = true := by decide +kernel
theorem td63 : tC63.all (fun ch => dCh tY63.2.1 (ch.map dTr)) = true := by decide +kernel
theorem td64 : tC64.all (fun ch => dCh tY64.2.1 (ch.map dTr)) = true := by decide +kernel
theorem td65 : tC65.all (fun ch => dCh tY65.2.1 (ch.map dTr)) = true := by decide +kernel
theorem td66 : tC66.all (fun ch => dCh tY66.2.1 (ch.map dTr)) = true := by decide +kernel
theorem td67 : tC67.all (fun ch => dCh tY67.2.1 (ch.map dTr)) = true := by decide +kernel
theorem td68 : tC68.all (fun ch => dCh tY68.2.1 (ch.map dTr)) = true := by decide +kernel
theorem td69 : tC69.all (fun ch => dCh tY69.2.1 (ch.map dTr)) = true := by decide +kernel
theorem td70 : tC70.all (fun ch => dCh tY70.2.1 (ch.map dTr)) = true := by decide +kernel
theorem td71 : tC71.all (fun ch => dCh tY71.2.1 (ch.map dTr)) = true := by decide +kernel
theorem td72 : tC72.all (fun ch => dCh tY72.2.1 (ch.map dTr)) = true := by decide +kernel
theorem td73 : tC73.all (fun ch => dCh tY73.2.1 (ch.map dTr)) = true := by decide +kernel
theorem td74 : tC74.all (fun ch => dCh tY74.2.1 (ch.map dTr)) = true := by decide +kernel
theorem td75 : tC75.all (fun ch => dCh tY75.2.1 (ch.map dTr)) = true := by decide +kernel
theorem td76 : tC76.all (fun ch => dCh tY76.2.1 (ch.map dTr)) = true := by decide +kernel
theorem td77 : tC77.all (fun ch => dCh tY77.2.1 (ch.map dTr)) = true := by decide +kernel
theorem td78 : tC78.all (fun ch => dCh tY78.2.1 (ch.map dTr)) = true := by decide +kernel
theorem td79 : tC79.all (fun ch => dCh tY79.2.1 (ch.map dTr)) = true := by decide +kernel
theorem td80 : tC80.all (fun ch => dCh tY80.2.1 (ch.map dTr)) = true := by decide +kernel
theorem td81 : tC81.all (fun ch => dCh tY81.2.1 (ch.map dTr)) = true := by decide +kernel
theorem td82 : tC82.all (fun ch => dCh tY82.2.1 (ch.map dTr)) = true := by decide +kernel
theorem td83 : tC83.all (fun ch => dCh tY83.2.1 (ch.map dTr)) = true := by decide +kernel
theorem ta56 : tC56.all (fun ch => ch.all (kFn tY56.1)) = true := kGa_ok tg_0 56 rfl
theorem tm56 : kM tM56 tY56 ((tWs[56]?).getD (0, 0, 0, 0)) = true := kGm_ok th_0 56 rfl
set_option maxRecDepth 20000 in
theorem tw56 : kW ((tWs[56]?).getD (0, 0, 0, 0)).1 = some (.code tY56.1 tY56.2.1 tM56.2.1 tY56.2.2) := rfl
theorem tk56 : eMok tCl lw_g tNs tMs tYs tM56 tY56 := kM_ok (q := (tWs[56]?).getD (0, 0, 0, 0)) (show ∀ ch ∈ tC56, _ from kE_ok (Y := tY56) td56 ta56) tw56 tm56
theorem ta57 : tC57.all (fun ch => ch.all (kFn tY57.1)) = true := kGa_ok tg_0 57 rfl
theorem tm57 : kM tM57 tY57 ((tWs[57]?).getD (0, 0, 0, 0)) = true := kGm_ok th_0 57 rfl
set_option maxRecDepth 20000 in
theorem tw57 : kW ((tWs[57]?).getD (0, 0, 0, 0)).1 = some (.code tY57.1 tY57.2.1 tM57.2.1 tY57.2.2) := rfl
theorem tk57 : eMok tCl lw_g tNs tMs tYs tM57 tY57 := kM_ok (q := (tWs[57]?).getD (0, 0, 0, 0)) (show ∀ ch ∈ tC57, _ from kE_ok (Y := tY57) td57 ta57) tw57 tm57
theorem ta58 : tC58.all (fun ch => ch.all (kFn tY58.1)) = true := kGa_ok tg_0 58 rfl
theorem tm58 : kM tM58 tY58 ((tWs[58]?).getD (0, 0, 0, 0)) = true := kGm_ok th_0 58 rfl
set_option maxRecDepth 20000 in
theorem tw58 : kW ((tWs[58]?).getD (0, 0, 0, 0)).1 = some (.code tY58.1 tY58.2.1 tM58.2.1 tY58.2.2) := rfl
theorem tk58 : eMok tCl lw_g tNs tMs tYs tM58 tY58 := kM_ok (q := (tWs[58]?).getD (0, 0, 0, 0)) (show ∀ ch ∈ tC58, _ from kE_ok (Y := tY58) td58 ta58) tw58 tm58
theorem ta59 : tC59.all (fun ch => ch.all (kFn tY59.1)) = true := kGa_ok tg_0 59 rfl
theorem tm59 : kM tM59 tY59 ((tWs[59]?).getD (0, 0, 0, 0)) = true := kGm_ok th_0 59 rfl
set_option maxRecDepth 20000 in
theorem tw59 : kW ((tWs[59]?).getD (0, 0, 0, 0)).1 = some (.code tY59.1 tY59.2.1 tM59.2.1 tY59.2.2) := rfl
theorem tk59 : eMok tCl lw_g tNs tMs tYs tM59 tY59 := kM_ok (q := (tWs[59]?).getD (0, 0, 0, 0)) (show ∀ ch ∈ tC59, _ from kE_ok (Y := tY59) td59 ta59) tw59 tm59
theorem ta60 : tC60.all (fun ch => ch.all (kFn tY60.1)) = true := kGa_ok tg_0 60 rfl
theorem tm60 : kM tM60 tY60 ((tWs[60]?).getD (0, 0, 0, 0)) = true := kGm_ok th_0 60 rfl
set_option maxRecDepth 20000 in
theorem tw60 : kW ((tWs[60]?).getD (0, 0, 0, 0)).1 = some (.code tY60.1 tY60.2.1 tM60.2.1 tY60.2.2) := rfl
theorem tk60 : eMok tCl lw_g tNs tMs tYs tM60 tY60 := kM_ok (q := (tWs[60]?).getD (0, 0, 0, 0)) (show ∀ ch ∈ tC60, _ from kE_ok (Y := tY60) td60 ta60) tw60 tm60
theorem ta61 : tC61.all (fun ch => ch.all (kFn tY61.1)) = true := kGa_ok tg_0 61 rfl
theorem tm61 : kM tM61 tY61 ((tWs[61]?).getD (0, 0, 0, 0)) = true := kGm_ok th_0 61 rfl
set_option maxRecDepth 20000 in
theorem tw61 : kW ((tWs[61]?).getD (0, 0, 0, 0)).1 = some (.code tY61.1 tY61.2.1 tM61.2.1 tY61.2.2) := rfl
theorem tk61 : eMok tCl lw_g tNs tMs tYs tM61 tY61 := kM_ok (q := (tWs[61]?).getD (0, 0, 0, 0)) (show ∀ ch ∈ tC61, _ from kE_ok (Y := tY61) td61 ta61) tw61 tm61
theorem ta62 : tC62.all (fun ch => ch.all (kFn tY62.1)) = true := kGa_ok tg_0 62 rfl
theorem tm62 : kM tM62 tY62 ((tWs[62]?).getD (0, 0, 0, 0)) = true := kGm_ok th_0 62 rfl
set_option maxRecDepth 20000 in
theorem tw62 : kW ((tWs[62]?).getD (0, 0, 0, 0)).1 = some (.code tY62.1 tY62.2.1 tM62.2.1 tY62.2.2) := rfl
theorem tk62 : eMok tCl lw_g tNs tMs tYs tM62 tY62 := kM_ok (q := (tWs[62]?).getD (0, 0, 0, 0)) (show ∀ ch ∈ tC62, _ from kE_ok (Y := tY62) td62 ta62) tw62 tm62
theorem ta63 : tC63.all (fun ch => ch.all (kFn tY63.1)) = true := kGa_ok tg_0 63 rfl
theorem tm63 : kM tM63 tY63 ((tWs[63]?).getD (0, 0, 0, 0)) = true := kGm_ok th_0 63 rfl
set_option maxRecDepth 20000 in
theorem tw63 : kW ((tWs[63]?).getD (0, 0, 0, 0)).1 = some (.code tY63.1 tY63.2.1 tM63.2.1 tY63.2.2) := rfl
theorem tk63 : eMok tCl lw_g tNs tMs tYs tM63 tY63 := kM_ok (q := (tWs[63]?).getD (0, 0, 0, 0)) (show ∀ ch ∈ tC63, _ from kE_ok (Y := tY63) td63 ta63) tw63 tm63
theorem ta64 : tC64.all (fun ch => ch.all (kFn tY64.1)) = true := kGa_ok tg_0 64 rfl
theorem tm64 : kM tM64 tY64 ((tWs[64]?).getD (0, 0, 0, 0)) = true := kGm_ok th_0 64 rfl
set_option maxRecDepth 20000 in
theorem tw64 : kW ((tWs[64]?).getD (0, 0, 0, 0)).1 = some (.code tY64.1 tY64.2.1 tM64.2.1 tY64.2.2) := rfl
theorem tk64 : eMok tCl lw_g tNs tMs tYs tM64 tY64 := kM_ok (q := (tWs[64]?).getD (0, 0, 0, 0)) (show ∀ ch ∈ tC64, _ from kE_ok (Y := tY64) td64 ta64) tw64 tm64
theorem ta65 : tC65.all (fun ch => ch.all (kFn tY65.1)) = true := kGa_ok tg_0 65 rfl
theorem tm65 : kM tM65 tY65 ((tWs[65]?).getD (0, 0, 0, 0)) = true := kGm_ok th_0 65 rfl
set_option maxRecDepth 20000 in
theorem tw65 : kW ((tWs[65]?).getD (0, 0, 0, 0)).1 = some (.code tY65.1 tY65.2.1 tM65.2.1 tY65.2.2) := rfl
theorem tk65 : eMok tCl lw_g tNs tMs tYs tM65 tY65 := kM_ok (q := (tWs[65]?).getD (0, 0, 0, 0)) (show ∀ ch ∈ tC65, _ from kE_ok (Y := tY65) td65 ta65) tw65 tm65
theorem ta66 : tC66.all (fun ch => ch.all (kFn tY66.1)) = true := kGa_ok tg_0 66 rfl
theorem tm66 : kM tM66 tY66 ((tWs[66]?).getD (0, 0, 0, 0)) = true := kGm_ok th_0 66 rfl
set_option maxRecDepth 20000 in
theorem tw66 : kW ((tWs[66]?).getD (0, 0, 0, 0)).1 = some (.code tY66.1 tY66.2.1 tM66.2.1 tY66.2.2) := rfl
theorem tk66 : eMok tCl lw_g tNs tMs tYs tM66 tY66 := kM_ok (q := (tWs[66]?).getD (0, 0, 0, 0)) (show ∀ ch ∈ tC66, _ from kE_ok (Y := tY66) td66 ta66) tw66 tm66
theorem ta67 : tC67.all (fun ch => ch.all (kFn tY67.1)) = true := kGa_ok tg_0 67 rfl
theorem tm67 : kM tM67 tY67 ((tWs[67]?).getD (0, 0, 0, 0)) = true := kGm_ok th_0 67 rfl
set_option maxRecDepth 20000 in
theorem tw67 : kW ((tWs[67]?).getD (0, 0, 0, 0)).1 = some (.code tY67.1 tY67.2.1 tM67.2.1 tY67.2.2) := rfl
theorem tk67 : eMok tCl lw_g tNs tMs tYs tM67 tY67 := kM_ok (q := (tWs[67]?).getD (0, 0, 0, 0)) (show ∀ ch ∈ tC67, _ from kE_ok (Y := tY67) td67 ta67) tw67 tm67
theorem ta68 : tC68.all (fun ch => ch.all (kFn tY68.1)) = true := kGa_ok tg_0 68 rfl
theorem tm68 : kM tM68 tY68 ((tWs[68]?).getD (0, 0, 0, 0)) = true := kGm_ok th_0 68 rfl
set_option maxRecDepth 20000 in
theorem tw68 : kW ((tWs[68]?).getD (0, 0, 0, 0)).1 = some (.code tY68.1 tY68.2.1 tM68.2.1 tY68.2.2) := rfl
theorem tk68 : eMok tCl lw_g tNs tMs tYs tM68 tY68 := kM_ok (q := (tWs[68]?).getD (0, 0, 0, 0)) (show ∀ ch ∈ tC68, _ from kE_ok (Y := tY68) td68 ta68) tw68 tm68
theorem ta69 : tC69.all (fun ch => ch.all (kFn tY69.1)) = true := kGa_ok tg_0 69 rfl
theorem tm69 : kM tM69 tY69 ((tWs[69]?).getD (0, 0, 0, 0)) = true := kGm_ok th_0 69 rfl
set_option maxRecDepth 20000 in
theorem tw69 : kW ((tWs[69]?).getD (0, 0, 0, 0)).1 = some (.code tY69.1 tY69.2.1 tM69.2.1 tY69.2.2) := rfl
theorem tk69 : eMok tCl lw_g tNs tMs tYs tM69 tY69 := kM_ok (q := (tWs[69]?).getD (0, 0, 0, 0)) (show ∀ ch ∈ tC69, _ from kE_ok (Y := tY69) td69 ta69) tw69 tm69
theorem ta70 : tC70.all (fun ch => ch.all (kFn tY70.1)) = true := kGa_ok tg_0 70 rfl
theorem tm70 : kM tM70 tY70 ((tWs[70]?).getD (0, 0, 0, 0)) = true := kGm_ok th_0 70 rfl
set_option maxRecDepth 20000 in
theorem tw70 : kW ((tWs[70]?).getD (0, 0, 0, 0)).1 = some (.code tY70.1 tY70.2.1 tM70.2.1 tY70.2.2) := rfl
theorem tk70 : eMok tCl lw_g tNs tMs tYs tM70 tY70 := kM_ok (q := (tWs[70]?).getD (0, 0, 0, 0)) (show ∀ ch ∈ tC70, _ from kE_ok (Y := tY70) td70 ta70) tw70 tm70
theorem ta71 : tC71.all (fun ch => ch.all (kFn tY71.1)) = true := kGa_ok tg_0 71 rfl
theorem tm71 : kM tM71 tY71 ((tWs[71]?).getD (0, 0, 0, 0)) = true := kGm_ok th_0 71 rfl
set_option maxRecDepth 20000 in
theorem tw71 : kW ((tWs[71]?).getD (0, 0, 0, 0)).1 = some (.code tY71.1 tY71.2.1 tM71.2.1 tY71.2.2) := rfl
theorem tk71 : eMok tCl lw_g tNs tMs tYs tM71 tY71 := kM_ok (q := (tWs[71]?).getD (0, 0, 0, 0)) (show ∀ ch ∈ tC71, _ from kE_ok (Y := tY71) td71 ta71) tw71 tm71
theorem ta72 : tC72.all (fun ch => ch.all (kFn tY72.1)) = true := kGa_ok tg_0 72 rfl
theorem tm72 : kM tM72 tY72 ((tWs[72]?).getD (0, 0, 0, 0)) = true := kGm_ok th_0 72 rfl
set_option maxRecDepth 20000 in
theorem tw72 : kW ((tWs[72]?).getD (0, 0, 0, 0)).1 = some (.code tY72.1 tY72.2.1 tM72.2.1 tY72.2.2) := rfl
theorem tk72 : eMok tCl lw_g tNs tMs tYs tM72 tY72 := kM_ok (q := (tWs[72]?).getD (0, 0, 0, 0)) (show ∀ ch ∈ tC72, _ from kE_ok (Y := tY72) td72 ta72) tw72 tm72
theorem ta73 : tC73.all (fun ch => ch.all (kFn tY73.1)) = true := kGa_ok tg_0 73 rfl
theorem tm73 : kM tM73 tY73 ((tWs[73]?).getD (0, 0, 0, 0)) = true := kGm_ok th_0 73 rfl
set_option maxRecDepth 20000 in
theorem tw73 : kW ((tWs[73]?).getD (0, 0, 0, 0)).1 = some (.code tY73.1 tY73.2.1 tM73.2.1 tY73.2.2) := rfl
theorem tk73 : eMok tCl lw_g tNs tMs tYs tM73 tY73 := kM_ok (q := (tWs[73]?).getD (0, 0, 0, 0)) (show ∀ ch ∈ tC73, _ from kE_ok (Y := tY73) td73 ta73) tw73 tm73
theorem ta74 : tC74.all (fun ch => ch.all (kFn tY74.1)) = true := kGa_ok tg_0 74 rfl
theorem tm74 : kM tM74 tY74 ((tWs[74]?).getD (0, 0, 0, 0)) = true := kGm_ok th_0 74 rfl
set_option maxRecDepth 20000 in
theorem tw74 : kW ((tWs[74]?).getD (0, 0, 0, 0)).1 = some (.code tY74.1 tY74.2.1 tM74.2.1 tY74.2.2) := rfl
theorem tk74 : eMok tCl lw_g tNs tMs tYs tM74 tY74 := kM_ok (q := (tWs[74]?).getD (0, 0, 0, 0)) (show ∀ ch ∈ tC74, _ from kE_ok (Y := tY74) td74 ta74) tw74 tm74
theorem ta75 : tC75.all (fun ch => ch.all (kFn tY75.1)) = true := kGa_ok tg_0 75 rfl
theorem tm75 : kM tM75 tY75 ((tWs[75]?).getD (0, 0, 0, 0)) = true := kGm_ok th_0 75 rfl
set_option maxRecDepth 20000 in
theorem tw75 : kW ((tWs[75]?).getD (0, 0, 0, 0)).1 = some (.code tY75.1 tY75.2.1 tM75.2.1 tY75.2.2) := rfl
theorem tk75 : eMok tCl lw_g tNs tMs tYs tM75 tY75 := kM_ok (q := (tWs[75]?).getD (0, 0, 0, 0)) (show ∀ ch ∈ tC75, _ from kE_ok (Y := tY75) td75 ta75) tw75 tm75
theorem ta76 : tC76.all (fun ch => ch.all (kFn tY76.1)) = true := kGa_ok tg_0 76 rfl
theorem tm76 : kM tM76 tY76 ((tWs[76]?).getD (0, 0, 0, 0)) = true := kGm_ok th_0 76 rfl
set_option maxRecDepth 20000 in
theorem tw76 : kW ((tWs[76]?).getD (0, 0, 0, 0)).1 = some (.code tY76.1 tY76.2.1 tM76.2.1 tY76.2.2) := rfl
theorem tk76 : eMok tCl lw_g tNs tMs tYs tM76 tY76 := kM_ok (q := (tWs[76]?).getD (0, 0, 0, 0)) (show ∀ ch ∈ tC76, _ from kE_ok (Y := tY76) td76 ta76) tw76 tm76
theorem ta77 : tC77.all (fun ch => ch.all (kFn tY77.1)) = true := kGa_ok tg_0 77 rfl
theorem tm77 : kM tM77 tY77 ((tWs[77]?).getD (0, 0, 0, 0)) = true := kGm_ok th_0 77 rfl
set_option maxRecDepth 20000 in
theorem tw77 : kW ((tWs[77]?).getD (0, 0, 0, 0)).1 = some (.code tY77.1 tY77.2.1 tM77.2.1 tY77.2.2) := rfl
theorem tk77 : eMok tCl lw_g tNs tMs tYs tM77 tY77 := kM_ok (q := (tWs[77]?).getD (0, 0, 0, 0)) (show ∀ ch ∈ tC77, _ from kE_ok (Y := tY77) td77 ta77) tw77 tm77
theorem ta78 : tC78.all (fun ch => ch.all (kFn tY78.1)) = true := kGa_ok tg_0 78 rfl
theorem tm78 : kM tM78 tY78 ((tWs[78]?).getD (0, 0, 0, 0)) = true := kGm_ok th_0 78 rfl
set_option maxRecDepth 20000 in
theorem tw78 : kW ((tWs[78]?).getD (0, 0, 0, 0)).1 = some (.code tY78.1 tY78.2.1 tM78.2.1 tY78.2.2) := rfl
theorem tk78 : eMok tCl lw_g tNs tMs tYs tM78 tY78 := kM_ok (q := (tWs[78]?).getD (0, 0, 0, 0)) (show ∀ ch ∈ tC78, _ from kE_ok (Y := tY78) td78 ta78) tw78 tm78
theorem ta79 : tC79.all (fun ch => ch.all (kFn tY79.1)) = true := kGa_ok tg_0 79 rfl
theorem tm79 : kM tM79 tY79 ((tWs[79]?).getD (0, 0, 0, 0)) = true := kGm_ok th_0 79 rfl
set_option maxRecDepth 20000 in
theorem tw79 : kW ((tWs[79]?).getD (0, 0, 0, 0)).1 = some (.code tY79.1 tY79.2.1 tM79.2.1 tY79.2.2) := rfl
theorem tk79 : eMok tCl lw_g tNs tMs tYs tM79 tY79 := kM_ok (q := (tWs[79]?).getD (0, 0, 0, 0)) (show ∀ ch ∈ tC79, _ from kE_ok (Y := tY79) td79 ta79) tw79 tm79
theorem ta80 : tC80.all (fun ch => ch.all (kFn tY80.1)) = true := kGa_ok tg_0 80 rfl
theorem tm80 : kM tM80 tY80 ((tWs[80]?).getD (0, 0, 0, 0)) = true := kGm_ok th_0 80 rfl
set_option maxRecDepth 20000 in
theorem tw80 : kW ((tWs[80]?).getD (0, 0, 0, 0)).1 = some (.code tY80.1 tY80.2.1 tM80.2.1 tY80.2.2) := rfl
theorem tk80 : eMok tCl lw_g tNs tMs tYs tM80 tY80 := kM_ok (q := (tWs[80]?).getD (0, 0, 0, 0)) (show ∀ ch ∈ tC80, _ from kE_ok (Y := tY80) td80 ta80) tw80 tm80
theorem ta81 : tC81.all (fun ch => ch.all (kFn tY81.1)) = true := kGa_ok tg_0 81 rfl
theorem tm81 : kM tM81 tY81 ((tWs[81]?).getD (0, 0, 0, 0)) = true := kGm_ok th_0 81 rfl
set_option maxRecDepth 20000 in
theorem tw81 : kW ((tWs[81]?).getD (0, 0, 0, 0)).1 = some (.code tY81.1 tY81.2.1 tM81.2.1 tY81.2.2) := rfl
theorem tk81 : eMok tCl lw_g tNs tMs tYs tM81 tY81 := kM_ok (q := (tWs[81]?).getD (0, 0, 0, 0)) (show ∀ ch ∈ tC81, _ from kE_ok (Y := tY81) td81 ta81) tw81 tm81
theorem ta82 : tC82.all (fun ch => ch.all (kFn tY82.1)) = true := kGa_ok tg_0 82 rfl
theorem tm82 : kM tM82 tY82 ((tWs[82]?).getD (0, 0, 0, 0)) = true := kGm_ok th_0 82 rfl
set_option maxRecDepth 20000 in
theorem tw82 : kW ((tWs[82]?).getD (0, 0, 0, 0)).1 = some (.code tY82.1 tY82.2.1 tM82.2.1 tY82.2.2) := rfl
theorem tk82 : eMok tCl lw_g tNs tMs tYs tM82 tY82 := kM_ok (q := (tWs[82]?).getD (0, 0, 0, 0)) (show ∀ ch ∈ tC82, _ from kE_ok (Y := tY82) td82 ta82) tw82 tm82
theorem ta83 : tC83.all (fun ch => ch.all (kFn tY83.1)) = true := kGa_ok tg_0 83 rfl
theorem tm83 : kM tM83 tY83 ((tWs[83]?).getD (0, 0, 0, 0)) = true := kGm_ok th_0 83 rfl
set_option maxRecDepth 20000 in
theorem tw83 : kW ((tWs[83]?).getD (0, 0, 0, 0)).1 = some (.code tY83.1 tY83.2.1 tM83.2.1 tY83.2.2) := rfl
theorem tk83 : eMok tCl lw_g tNs tMs tYs tM83 tY83 := kM_ok (q := (tWs[83]?).getD (0, 0, 0, 0)) (show ∀ ch ∈ tC83, _ from kE_ok (Y := tY83) td83 ta83) tw83 tm83
end
