set_option maxRecDepth 100000 in
theorem gD201 : gC201.all (gDck cX10_night) = true := by decide +kernel
set_option maxRecDepth 100000 in
theorem gD202 : gC202.all (gDck cX10_height) = true := by decide +kernel
set_option maxRecDepth 100000 in
theorem gD203 : gC203.all (gDck cX10_isMoment) = true := by decide +kernel
set_option maxRecDepth 100000 in
theorem gD204 : gC204.all (gDck cX10_sees) = true := by decide +kernel
set_option maxRecDepth 100000 in
theorem gD205 : gC205.all (gDck cX10_at) = true := by decide +kernel
set_option maxRecDepth 100000 in
theorem gD206 : gC206.all (gDck cX10_many) = true := by decide +kernel
set_option maxRecDepth 100000 in
theorem gD207 : gC207.all (gDck cX10_would) = true := by decide +kernel
set_option maxRecDepth 100000 in
theorem gD208 : gC208.all (gDck cX10_stands) = true := by decide +kernel
set_option maxRecDepth 100000 in
theorem gD209 : gC209.all (gDck cX10_anyway) = true := by decide +kernel
set_option maxRecDepth 100000 in
theorem gD210 : gC210.all (gDck cX10_isUp) = true := by decide +kernel
set_option maxRecDepth 100000 in
theorem gD211 : gC211.all (gDck cX10_up) = true := by decide +kernel
set_option maxRecDepth 100000 in
theorem gD212 : gC212.all (gDck cX10_calls) = true := by decide +kernel
set_option maxRecDepth 100000 in
theorem gD213 : gC213.all (gDck cX10_areLike) = true := by decide +kernel
set_option maxRecDepth 100000 in
theorem gD214_0 : ((gC214.drop 0).take 85).all (gDck cX10_again) = true := by decide +kernel
set_option maxRecDepth 100000 in
theorem gD214_1 : (gC214.drop 85).all (gDck cX10_again) = true := by decide +kernel
theorem gD214 : gC214.all (gDck cX10_again) = true := gCu0 (gCu 85 0 gD214_0 (gD214_1))
set_option maxRecDepth 100000 in
theorem gD215 : gC215.all (gDck cX10_carries) = true := by decide +kernel
set_option maxRecDepth 100000 in
theorem gD216 : gC216.all (gDck cX10_takesSeats) = true := by decide +kernel
set_option maxRecDepth 100000 in
theorem gD217 : gC217.all (gDck cX10_areEight) = true := by decide +kernel
set_option maxRecDepth 100000 in
theorem gD218 : gC218.all (gDck cX10_bitsOf) = true := by decide +kernel
set_option maxRecDepth 100000 in
theorem gD219 : gC219.all (gDck cX10_cheapest) = true := by decide +kernel
set_option maxRecDepth 100000 in
theorem gD220 : gC220.all (gDck cX10_bought) = true := by decide +kernel
set_option maxRecDepth 100000 in
theorem gD221 : gC221.all (gDck cX10_hush) = true := by decide +kernel
set_option maxRecDepth 100000 in
theorem gD222 : gC222.all (gDck cX10_coalitions) = true := by decide +kernel
set_option maxRecDepth 100000 in
theorem gD223 : gC223.all (gDck cX10_orders) = true := by decide +kernel
set_option maxRecDepth 100000 in
theorem gD224 : gC224.all (gDck cX10_worth) = true := by decide +kernel
set_option maxRecDepth 100000 in
theorem gD225 : gC225.all (gDck cX10_worthOf) = true := by decide +kernel
set_option maxRecDepth 100000 in
theorem gD226_0 : ((gC226.drop 0).take 73).all (gDck cX10_sides) = true := by decide +kernel
set_option maxRecDepth 100000 in
theorem gD226_1 : ((gC226.drop 73).take 73).all (gDck cX10_sides) = true := by decide +kernel
set_option maxRecDepth 100000 in
theorem gD226_2 : (gC226.drop 146).all (gDck cX10_sides) = true := by decide +kernel
theorem gD226 : gC226.all (gDck cX10_sides) = true := gCu0 (gCu 73 0 gD226_0 (gCu 73 73 gD226_1 (gD226_2)))
set_option maxRecDepth 100000 in
theorem gD227 : gC227.all (gDck cX10_side) = true := by decide +kernel
set_option maxRecDepth 100000 in
theorem gD228 : gC228.all (gDck cX10_isSketch) = true := by decide +kernel
set_option maxRecDepth 100000 in
theorem gD229_0 : ((gC229.drop 0).take 79).all (gDck cX10_began) = true := by decide +kernel
set_option maxRecDepth 100000 in
theorem gD229_1 : ((gC229.drop 79).take 79).all (gDck cX10_began) = true := by decide +kernel
set_option maxRecDepth 100000 in
theorem gD229_2 : (gC229.drop 158).all (gDck cX10_began) = true := by decide +kernel
theorem gD229 : gC229.all (gDck cX10_began) = true := gCu0 (gCu 79 0 gD229_0 (gCu 79 79 gD229_1 (gD229_2)))
