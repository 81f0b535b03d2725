set_option maxRecDepth 100000 in
theorem gD136 : gC136.all (gDck cX9_arranged) = true := by decide +kernel
set_option maxRecDepth 100000 in
theorem gD137 : gC137.all (gDck cX9_image) = true := by decide +kernel
set_option maxRecDepth 100000 in
theorem gD138 : gC138.all (gDck cX9_restore) = true := by decide +kernel
set_option maxRecDepth 100000 in
theorem gD139 : gC139.all (gDck cX9_count) = true := by decide +kernel
set_option maxRecDepth 100000 in
theorem gD140 : gC140.all (gDck cX9_isLarge) = true := by decide +kernel
set_option maxRecDepth 100000 in
theorem gD141 : gC141.all (gDck cX9_isMoment) = true := by decide +kernel
set_option maxRecDepth 100000 in
theorem gD142 : gC142.all (gDck cX9_bitOf) = true := by decide +kernel
set_option maxRecDepth 100000 in
theorem gD143 : gC143.all (gDck cX9_withBit) = true := by decide +kernel
set_option maxRecDepth 100000 in
theorem gD144 : gC144.all (gDck cX9_withoutNth) = true := by decide +kernel
set_option maxRecDepth 100000 in
theorem gD145 : gC145.all (gDck cX10_throwsIf) = true := by decide +kernel
set_option maxRecDepth 100000 in
theorem gD146 : gC146.all (gDck cX10_throwsIf) = true := by decide +kernel
set_option maxRecDepth 100000 in
theorem gD147 : gC147.all (gDck cX10_feed) = true := by decide +kernel
set_option maxRecDepth 100000 in
theorem gD148 : gC148.all (gDck cX10_four) = true := by decide +kernel
set_option maxRecDepth 100000 in
theorem gD149 : gC149.all (gDck cX10_end) = true := by decide +kernel
set_option maxRecDepth 100000 in
theorem gD150 : gC150.all (gDck cX10_taken) = true := by decide +kernel
set_option maxRecDepth 100000 in
theorem gD151 : gC151.all (gDck cX10_isIn) = true := by decide +kernel
set_option maxRecDepth 100000 in
theorem gD152 : gC152.all (gDck cX10_has) = true := by decide +kernel
set_option maxRecDepth 100000 in
theorem gD153 : gC153.all (gDck cX10_holds) = true := by decide +kernel
set_option maxRecDepth 100000 in
theorem gD154 : gC154.all (gDck cX10_bits) = true := by decide +kernel
set_option maxRecDepth 100000 in
theorem gD155 : gC155.all (gDck cX10_octet) = true := by decide +kernel
set_option maxRecDepth 100000 in
theorem gD156_0 : ((gC156.drop 0).take 97).all (gDck cX10_init) = true := by decide +kernel
set_option maxRecDepth 100000 in
theorem gD156_1 : (gC156.drop 97).all (gDck cX10_init) = true := by decide +kernel
theorem gD156 : gC156.all (gDck cX10_init) = true := gCu0 (gCu 97 0 gD156_0 (gD156_1))
set_option maxRecDepth 100000 in
theorem gD157 : gC157.all (gDck cX10_plainHouse) = true := by decide +kernel
set_option maxRecDepth 100000 in
theorem gD158 : gC158.all (gDck cX10_peek) = true := by decide +kernel
set_option maxRecDepth 100000 in
theorem gD159 : gC159.all (gDck cX10_isSmall) = true := by decide +kernel
set_option maxRecDepth 100000 in
theorem gD160 : gC160.all (gDck cX10_isDigit) = true := by decide +kernel
set_option maxRecDepth 100000 in
theorem gD161_0 : ((gC161.drop 0).take 71).all (gDck cX10_next) = true := by decide +kernel
set_option maxRecDepth 100000 in
theorem gD161_1 : ((gC161.drop 71).take 71).all (gDck cX10_next) = true := by decide +kernel
set_option maxRecDepth 100000 in
theorem gD161_2 : (gC161.drop 142).all (gDck cX10_next) = true := by decide +kernel
theorem gD161 : gC161.all (gDck cX10_next) = true := gCu0 (gCu 71 0 gD161_0 (gCu 71 71 gD161_1 (gD161_2)))
set_option maxRecDepth 100000 in
theorem gD162 : gC162.all (gDck cX10_bad) = true := by decide +kernel
set_option maxRecDepth 100000 in
theorem gD163 : gC163.all (gDck cX10_isWord) = true := by decide +kernel
set_option maxRecDepth 100000 in
theorem gD164 : gC164.all (gDck cX10_isSign) = true := by decide +kernel
set_option maxRecDepth 100000 in
theorem gD165 : gC165.all (gDck cX10_sign) = true := by decide +kernel
set_option maxRecDepth 100000 in
theorem gD166 : gC166.all (gDck cX10_takes) = true := by decide +kernel
set_option maxRecDepth 100000 in
theorem gD167_0 : ((gC167.drop 0).take 85).all (gDck cX10_line) = true := by decide +kernel
set_option maxRecDepth 100000 in
theorem gD167_1 : (gC167.drop 85).all (gDck cX10_line) = true := by decide +kernel
theorem gD167 : gC167.all (gDck cX10_line) = true := gCu0 (gCu 85 0 gD167_0 (gD167_1))
set_option maxRecDepth 100000 in
theorem gD168 : gC168.all (gDck cX10_once) = true := by decide +kernel
set_option maxRecDepth 100000 in
theorem gD169 : gC169.all (gDck cX10_takesRow) = true := by decide +kernel
set_option maxRecDepth 100000 in
theorem gD170_0 : ((gC170.drop 0).take 100).all (gDck cX10_readRow) = true := by decide +kernel
set_option maxRecDepth 100000 in
theorem gD170_1 : (gC170.drop 100).all (gDck cX10_readRow) = true := by decide +kernel
theorem gD170 : gC170.all (gDck cX10_readRow) = true := gCu0 (gCu 100 0 gD170_0 (gD170_1))
set_option maxRecDepth 100000 in
theorem gD171 : gC171.all (gDck cX10_readLaw) = true := by decide +kernel
set_option maxRecDepth 100000 in
theorem gD172 : gC172.all (gDck cX10_write) = true := by decide +kernel
set_option maxRecDepth 100000 in
theorem gD173 : gC173.all (gDck cX10_writeDown) = true := by decide +kernel
set_option maxRecDepth 100000 in
theorem gD174 : gC174.all (gDck cX10_binds) = true := by decide +kernel
set_option maxRecDepth 100000 in
theorem gD175 : gC175.all (gDck cX10_opened) = true := by decide +kernel
set_option maxRecDepth 100000 in
theorem gD176 : gC176.all (gDck cX10_isOpen) = true := by decide +kernel
set_option maxRecDepth 100000 in
theorem gD177 : gC177.all (gDck cX10_cond) = true := by decide +kernel
set_option maxRecDepth 100000 in
theorem gD178 : gC178.all (gDck cX10_atom) = true := by decide +kernel
set_option maxRecDepth 100000 in
theorem gD179 : gC179.all (gDck cX10_one) = true := by decide +kernel
