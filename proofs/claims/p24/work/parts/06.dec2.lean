set_option maxRecDepth 100000 in
theorem gD23 : gC23.all (gDck cX3_cells) = true := by decide +kernel
set_option maxRecDepth 100000 in
theorem gD24 : gC24.all (gDck cX3_isSeat) = true := by decide +kernel
set_option maxRecDepth 100000 in
theorem gD25 : gC25.all (gDck cX3_rowOf) = true := by decide +kernel
set_option maxRecDepth 100000 in
theorem gD26 : gC26.all (gDck cX3_priceOf) = true := by decide +kernel
set_option maxRecDepth 100000 in
theorem gD27 : gC27.all (gDck cX3_leavesOf) = true := by decide +kernel
set_option maxRecDepth 100000 in
theorem gD28 : gC28.all (gDck cX3_rowSet) = true := by decide +kernel
set_option maxRecDepth 100000 in
theorem gD29 : gC29.all (gDck cX3_lastLeaves) = true := by decide +kernel
set_option maxRecDepth 100000 in
theorem gD30 : gC30.all (gDck cX3_exchangeKinds) = true := by decide +kernel
set_option maxRecDepth 100000 in
theorem gD31 : gC31.all (gDck cX3_setKind) = true := by decide +kernel
set_option maxRecDepth 100000 in
theorem gD32 : gC32.all (gDck cX3_survey) = true := by decide +kernel
set_option maxRecDepth 100000 in
theorem gD33_0 : ((gC33.drop 0).take 124).all (gDck cX3_surveyAreas) = true := by decide +kernel
set_option maxRecDepth 100000 in
theorem gD33_1 : (gC33.drop 124).all (gDck cX3_surveyAreas) = true := by decide +kernel
theorem gD33 : gC33.all (gDck cX3_surveyAreas) = true := gCu0 (gCu 124 0 gD33_0 (gD33_1))
set_option maxRecDepth 100000 in
theorem gD34 : gC34.all (gDck cX3_span) = true := by decide +kernel
set_option maxRecDepth 100000 in
theorem gD35 : gC35.all (gDck cX4_init) = true := by decide +kernel
set_option maxRecDepth 100000 in
theorem gD36 : gC36.all (gDck cX4_open) = true := by decide +kernel
set_option maxRecDepth 100000 in
theorem gD37 : gC37.all (gDck cX4_readLine) = true := by decide +kernel
set_option maxRecDepth 100000 in
theorem gD38 : gC38.all (gDck cX4_readRow) = true := by decide +kernel
set_option maxRecDepth 100000 in
theorem gD39 : gC39.all (gDck cX4_isKind) = true := by decide +kernel
set_option maxRecDepth 100000 in
theorem gD40 : gC40.all (gDck cX4_readLaw) = true := by decide +kernel
set_option maxRecDepth 100000 in
theorem gD41 : gC41.all (gDck cX4_readJoined) = true := by decide +kernel
set_option maxRecDepth 100000 in
theorem gD42_0 : ((gC42.drop 0).take 111).all (gDck cX4_readOne) = true := by decide +kernel
set_option maxRecDepth 100000 in
theorem gD42_1 : (gC42.drop 111).all (gDck cX4_readOne) = true := by decide +kernel
theorem gD42 : gC42.all (gDck cX4_readOne) = true := gCu0 (gCu 111 0 gD42_0 (gD42_1))
set_option maxRecDepth 100000 in
theorem gD43 : gC43.all (gDck cX4_readCompare) = true := by decide +kernel
set_option maxRecDepth 100000 in
theorem gD44 : gC44.all (gDck cX4_readPrice) = true := by decide +kernel
set_option maxRecDepth 100000 in
theorem gD45 : gC45.all (gDck cX4_readLeaves) = true := by decide +kernel
set_option maxRecDepth 100000 in
theorem gD46 : gC46.all (gDck cX4_readCarry) = true := by decide +kernel
set_option maxRecDepth 100000 in
theorem gD47 : gC47.all (gDck cX4_readPaid) = true := by decide +kernel
set_option maxRecDepth 100000 in
theorem gD48 : gC48.all (gDck cX4_readRowByRow) = true := by decide +kernel
set_option maxRecDepth 100000 in
theorem gD49 : gC49.all (gDck cX5_init) = true := by decide +kernel
set_option maxRecDepth 100000 in
theorem gD50 : gC50.all (gDck cX5_beAs) = true := by decide +kernel
set_option maxRecDepth 100000 in
theorem gD51 : gC51.all (gDck cX5_doesHold) = true := by decide +kernel
set_option maxRecDepth 100000 in
theorem gD52 : gC52.all (gDck cX5_begin) = true := by decide +kernel
set_option maxRecDepth 100000 in
theorem gD53 : gC53.all (gDck cX5_goTo) = true := by decide +kernel
set_option maxRecDepth 100000 in
theorem gD54 : gC54.all (gDck cX5_heightOf) = true := by decide +kernel
set_option maxRecDepth 100000 in
theorem gD55 : gC55.all (gDck cX5_step) = true := by decide +kernel
set_option maxRecDepth 100000 in
theorem gD56 : gC56.all (gDck cX5_doCues) = true := by decide +kernel
set_option maxRecDepth 100000 in
theorem gD57 : gC57.all (gDck cX5_seeRowsOff) = true := by decide +kernel
set_option maxRecDepth 100000 in
theorem gD58 : gC58.all (gDck cX5_standing) = true := by decide +kernel
set_option maxRecDepth 100000 in
theorem gD59_0 : ((gC59.drop 0).take 101).all (gDck cX5_move) = true := by decide +kernel
set_option maxRecDepth 100000 in
theorem gD59_1 : (gC59.drop 101).all (gDck cX5_move) = true := by decide +kernel
theorem gD59 : gC59.all (gDck cX5_move) = true := gCu0 (gCu 101 0 gD59_0 (gD59_1))
