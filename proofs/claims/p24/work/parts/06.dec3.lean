set_option maxRecDepth 100000 in
theorem gD60 : gC60.all (gDck cX5_hold) = true := by decide +kernel
set_option maxRecDepth 100000 in
theorem gD61 : gC61.all (gDck cX5_joined) = true := by decide +kernel
set_option maxRecDepth 100000 in
theorem gD62_0 : ((gC62.drop 0).take 72).all (gDck cX5_holding) = true := by decide +kernel
set_option maxRecDepth 100000 in
theorem gD62_1 : ((gC62.drop 72).take 72).all (gDck cX5_holding) = true := by decide +kernel
set_option maxRecDepth 100000 in
theorem gD62_2 : (gC62.drop 144).all (gDck cX5_holding) = true := by decide +kernel
theorem gD62 : gC62.all (gDck cX5_holding) = true := gCu0 (gCu 72 0 gD62_0 (gCu 72 72 gD62_1 (gD62_2)))
set_option maxRecDepth 100000 in
theorem gD63 : gC63.all (gDck cX5_levelWithin) = true := by decide +kernel
set_option maxRecDepth 100000 in
theorem gD64 : gC64.all (gDck cX5_heldWithin) = true := by decide +kernel
set_option maxRecDepth 100000 in
theorem gD65 : gC65.all (gDck cX6_init) = true := by decide +kernel
set_option maxRecDepth 100000 in
theorem gD66 : gC66.all (gDck cX6_put) = true := by decide +kernel
set_option maxRecDepth 100000 in
theorem gD67 : gC67.all (gDck cX6_take) = true := by decide +kernel
set_option maxRecDepth 100000 in
theorem gD68 : gC68.all (gDck cX7_init) = true := by decide +kernel
set_option maxRecDepth 100000 in
theorem gD69 : gC69.all (gDck cX7_open) = true := by decide +kernel
set_option maxRecDepth 100000 in
theorem gD70_0 : ((gC70.drop 0).take 71).all (gDck cX7_read) = true := by decide +kernel
set_option maxRecDepth 100000 in
theorem gD70_1 : ((gC70.drop 71).take 71).all (gDck cX7_read) = true := by decide +kernel
set_option maxRecDepth 100000 in
theorem gD70_2 : (gC70.drop 142).all (gDck cX7_read) = true := by decide +kernel
theorem gD70 : gC70.all (gDck cX7_read) = true := gCu0 (gCu 71 0 gD70_0 (gCu 71 71 gD70_1 (gD70_2)))
set_option maxRecDepth 100000 in
theorem gD71 : gC71.all (gDck cX7_size) = true := by decide +kernel
set_option maxRecDepth 100000 in
theorem gD72 : gC72.all (gDck cX7_sign) = true := by decide +kernel
set_option maxRecDepth 100000 in
theorem gD73 : gC73.all (gDck cX7_among) = true := by decide +kernel
set_option maxRecDepth 100000 in
theorem gD74 : gC74.all (gDck cX7_isSameWord) = true := by decide +kernel
set_option maxRecDepth 100000 in
theorem gD75 : gC75.all (gDck cX7_fail) = true := by decide +kernel
set_option maxRecDepth 100000 in
theorem gD76 : gC76.all (gDck cX7_isNumberWithin) = true := by decide +kernel
set_option maxRecDepth 100000 in
theorem gD77 : gC77.all (gDck cX7_takeNumber) = true := by decide +kernel
set_option maxRecDepth 100000 in
theorem gD78 : gC78.all (gDck cX7_pass) = true := by decide +kernel
set_option maxRecDepth 100000 in
theorem gD79 : gC79.all (gDck cX8_init) = true := by decide +kernel
set_option maxRecDepth 100000 in
theorem gD80 : gC80.all (gDck cX8_areHands) = true := by decide +kernel
set_option maxRecDepth 100000 in
theorem gD81 : gC81.all (gDck cX8_areUnlikeSeats) = true := by decide +kernel
set_option maxRecDepth 100000 in
theorem gD82 : gC82.all (gDck cX8_seatsOf) = true := by decide +kernel
set_option maxRecDepth 100000 in
theorem gD83 : gC83.all (gDck cX8_priceOfSet) = true := by decide +kernel
set_option maxRecDepth 100000 in
theorem gD84 : gC84.all (gDck cX8_cheapestOf) = true := by decide +kernel
set_option maxRecDepth 100000 in
theorem gD85 : gC85.all (gDck cX8_hushOf) = true := by decide +kernel
set_option maxRecDepth 100000 in
theorem gD86 : gC86.all (gDck cX8_coalitionsOf) = true := by decide +kernel
set_option maxRecDepth 100000 in
theorem gD87 : gC87.all (gDck cX8_hasFoundPart) = true := by decide +kernel
set_option maxRecDepth 100000 in
theorem gD88 : gC88.all (gDck cX8_worthOfAll) = true := by decide +kernel
set_option maxRecDepth 100000 in
theorem gD89 : gC89.all (gDck cX8_addsOf) = true := by decide +kernel
set_option maxRecDepth 100000 in
theorem gD90 : gC90.all (gDck cX8_factorial) = true := by decide +kernel
set_option maxRecDepth 100000 in
theorem gD91 : gC91.all (gDck cX8_commonDivisor) = true := by decide +kernel
set_option maxRecDepth 100000 in
theorem gD92_0 : ((gC92.drop 0).take 105).all (gDck cX8_sidesOf) = true := by decide +kernel
set_option maxRecDepth 100000 in
theorem gD92_1 : (gC92.drop 105).all (gDck cX8_sidesOf) = true := by decide +kernel
theorem gD92 : gC92.all (gDck cX8_sidesOf) = true := gCu0 (gCu 105 0 gD92_0 (gD92_1))
set_option maxRecDepth 100000 in
theorem gD93 : gC93.all (gDck cX8_readSketch) = true := by decide +kernel
