set_option maxRecDepth 100000 in
theorem gD180 : gC180.all (gDck cX10_asks) = true := by decide +kernel
set_option maxRecDepth 100000 in
theorem gD181 : gC181.all (gDck cX10_house) = true := by decide +kernel
set_option maxRecDepth 100000 in
theorem gD182 : gC182.all (gDck cX10_fault) = true := by decide +kernel
set_option maxRecDepth 100000 in
theorem gD183 : gC183.all (gDck cX10_isSeat) = true := by decide +kernel
set_option maxRecDepth 100000 in
theorem gD184 : gC184.all (gDck cX10_isSeatAt) = true := by decide +kernel
set_option maxRecDepth 100000 in
theorem gD185 : gC185.all (gDck cX10_bitAt) = true := by decide +kernel
set_option maxRecDepth 100000 in
theorem gD186_0 : ((gC186.drop 0).take 65).all (gDck cX10_layOut) = true := by decide +kernel
set_option maxRecDepth 100000 in
theorem gD186_1 : ((gC186.drop 65).take 65).all (gDck cX10_layOut) = true := by decide +kernel
set_option maxRecDepth 100000 in
theorem gD186_2 : ((gC186.drop 130).take 65).all (gDck cX10_layOut) = true := by decide +kernel
set_option maxRecDepth 100000 in
theorem gD186_3 : (gC186.drop 195).all (gDck cX10_layOut) = true := by decide +kernel
theorem gD186 : gC186.all (gDck cX10_layOut) = true := gCu0 (gCu 65 0 gD186_0 (gCu 65 65 gD186_1 (gCu 65 130 gD186_2 (gD186_3))))
set_option maxRecDepth 100000 in
theorem gD187 : gC187.all (gDck cX10_seat) = true := by decide +kernel
set_option maxRecDepth 100000 in
theorem gD188 : gC188.all (gDck cX10_price) = true := by decide +kernel
set_option maxRecDepth 100000 in
theorem gD189 : gC189.all (gDck cX10_law) = true := by decide +kernel
set_option maxRecDepth 100000 in
theorem gD190 : gC190.all (gDck cX10_pay) = true := by decide +kernel
set_option maxRecDepth 100000 in
theorem gD191 : gC191.all (gDck cX10_hiss) = true := by decide +kernel
set_option maxRecDepth 100000 in
theorem gD192_0 : ((gC192.drop 0).take 91).all (gDck cX10_readCue) = true := by decide +kernel
set_option maxRecDepth 100000 in
theorem gD192_1 : (gC192.drop 91).all (gDck cX10_readCue) = true := by decide +kernel
theorem gD192 : gC192.all (gDck cX10_readCue) = true := gCu0 (gCu 91 0 gD192_0 (gD192_1))
set_option maxRecDepth 100000 in
theorem gD193 : gC193.all (gDck cX10_cues) = true := by decide +kernel
set_option maxRecDepth 100000 in
theorem gD194 : gC194.all (gDck cX10_cue) = true := by decide +kernel
set_option maxRecDepth 100000 in
theorem gD195_0 : ((gC195.drop 0).take 75).all (gDck cX10_isLaw) = true := by decide +kernel
set_option maxRecDepth 100000 in
theorem gD195_1 : ((gC195.drop 75).take 75).all (gDck cX10_isLaw) = true := by decide +kernel
set_option maxRecDepth 100000 in
theorem gD195_2 : (gC195.drop 150).all (gDck cX10_isLaw) = true := by decide +kernel
theorem gD195 : gC195.all (gDck cX10_isLaw) = true := gCu0 (gCu 75 0 gD195_0 (gCu 75 75 gD195_1 (gD195_2)))
set_option maxRecDepth 100000 in
theorem gD196 : gC196.all (gDck cX10_levelOf) = true := by decide +kernel
set_option maxRecDepth 100000 in
theorem gD197 : gC197.all (gDck cX10_heldOf) = true := by decide +kernel
set_option maxRecDepth 100000 in
theorem gD198 : gC198.all (gDck cX10_lawLevel) = true := by decide +kernel
set_option maxRecDepth 100000 in
theorem gD199 : gC199.all (gDck cX10_begin) = true := by decide +kernel
set_option maxRecDepth 100000 in
theorem gD200_0 : ((gC200.drop 0).take 35).all (gDck cX10_moment) = true := by decide +kernel
set_option maxRecDepth 100000 in
theorem gD200_1 : ((gC200.drop 35).take 35).all (gDck cX10_moment) = true := by decide +kernel
set_option maxRecDepth 100000 in
theorem gD200_2 : ((gC200.drop 70).take 35).all (gDck cX10_moment) = true := by decide +kernel
set_option maxRecDepth 100000 in
theorem gD200_3 : ((gC200.drop 105).take 35).all (gDck cX10_moment) = true := by decide +kernel
set_option maxRecDepth 100000 in
theorem gD200_4 : ((gC200.drop 140).take 35).all (gDck cX10_moment) = true := by decide +kernel
set_option maxRecDepth 100000 in
theorem gD200_5 : ((gC200.drop 175).take 35).all (gDck cX10_moment) = true := by decide +kernel
set_option maxRecDepth 100000 in
theorem gD200_6 : ((gC200.drop 210).take 35).all (gDck cX10_moment) = true := by decide +kernel
set_option maxRecDepth 100000 in
theorem gD200_7 : ((gC200.drop 245).take 35).all (gDck cX10_moment) = true := by decide +kernel
set_option maxRecDepth 100000 in
theorem gD200_8 : ((gC200.drop 280).take 35).all (gDck cX10_moment) = true := by decide +kernel
set_option maxRecDepth 100000 in
theorem gD200_9 : ((gC200.drop 315).take 35).all (gDck cX10_moment) = true := by decide +kernel
set_option maxRecDepth 100000 in
theorem gD200_10 : (gC200.drop 350).all (gDck cX10_moment) = true := by decide +kernel
theorem gD200 : gC200.all (gDck cX10_moment) = true := gCu0 (gCu 35 0 gD200_0 (gCu 35 35 gD200_1 (gCu 35 70 gD200_2 (gCu 35 105 gD200_3 (gCu 35 140 gD200_4 (gCu 35 175 gD200_5 (gCu 35 210 gD200_6 (gCu 35 245 gD200_7 (gCu 35 280 gD200_8 (gCu 35 315 gD200_9 (gD200_10)))))))))))
