set_option maxRecDepth 100000 in
theorem gD94 : gC94.all (gDck cX8_beganBy) = true := by decide +kernel
set_option maxRecDepth 100000 in
theorem gD95 : gC95.all (gDck cX8_isAsSketched) = true := by decide +kernel
set_option maxRecDepth 100000 in
theorem gD96 : gC96.all (gDck cX8_partOf) = true := by decide +kernel
set_option maxRecDepth 100000 in
theorem gD97 : gC97.all (gDck cX8_firstPairAbove) = true := by decide +kernel
set_option maxRecDepth 100000 in
theorem gD98 : gC98.all (gDck cX9_init) = true := by decide +kernel
set_option maxRecDepth 100000 in
theorem gD99 : gC99.all (gDck cX9_feed) = true := by decide +kernel
set_option maxRecDepth 100000 in
theorem gD100 : gC100.all (gDck cX9_end) = true := by decide +kernel
set_option maxRecDepth 100000 in
theorem gD101 : gC101.all (gDck cX9_house) = true := by decide +kernel
set_option maxRecDepth 100000 in
theorem gD102 : gC102.all (gDck cX9_fault) = true := by decide +kernel
set_option maxRecDepth 100000 in
theorem gD103 : gC103.all (gDck cX9_seat) = true := by decide +kernel
set_option maxRecDepth 100000 in
theorem gD104 : gC104.all (gDck cX9_law) = true := by decide +kernel
set_option maxRecDepth 100000 in
theorem gD105 : gC105.all (gDck cX9_pay) = true := by decide +kernel
set_option maxRecDepth 100000 in
theorem gD106 : gC106.all (gDck cX9_hiss) = true := by decide +kernel
set_option maxRecDepth 100000 in
theorem gD107 : gC107.all (gDck cX9_cues) = true := by decide +kernel
set_option maxRecDepth 100000 in
theorem gD108 : gC108.all (gDck cX9_cue) = true := by decide +kernel
set_option maxRecDepth 100000 in
theorem gD109 : gC109.all (gDck cX9_sees) = true := by decide +kernel
set_option maxRecDepth 100000 in
theorem gD110 : gC110.all (gDck cX9_at) = true := by decide +kernel
set_option maxRecDepth 100000 in
theorem gD111 : gC111.all (gDck cX9_many) = true := by decide +kernel
set_option maxRecDepth 100000 in
theorem gD112 : gC112.all (gDck cX9_would) = true := by decide +kernel
set_option maxRecDepth 100000 in
theorem gD113 : gC113.all (gDck cX9_stands) = true := by decide +kernel
set_option maxRecDepth 100000 in
theorem gD114 : gC114.all (gDck cX9_anyway) = true := by decide +kernel
set_option maxRecDepth 100000 in
theorem gD115 : gC115.all (gDck cX9_up) = true := by decide +kernel
set_option maxRecDepth 100000 in
theorem gD116 : gC116.all (gDck cX9_calls) = true := by decide +kernel
set_option maxRecDepth 100000 in
theorem gD117 : gC117.all (gDck cX9_again) = true := by decide +kernel
set_option maxRecDepth 100000 in
theorem gD118 : gC118.all (gDck cX9_carries) = true := by decide +kernel
set_option maxRecDepth 100000 in
theorem gD119 : gC119.all (gDck cX9_cheapest) = true := by decide +kernel
set_option maxRecDepth 100000 in
theorem gD120 : gC120.all (gDck cX9_bought) = true := by decide +kernel
set_option maxRecDepth 100000 in
theorem gD121 : gC121.all (gDck cX9_hush) = true := by decide +kernel
set_option maxRecDepth 100000 in
theorem gD122 : gC122.all (gDck cX9_coalitions) = true := by decide +kernel
set_option maxRecDepth 100000 in
theorem gD123 : gC123.all (gDck cX9_worth) = true := by decide +kernel
set_option maxRecDepth 100000 in
theorem gD124 : gC124.all (gDck cX9_worthOf) = true := by decide +kernel
set_option maxRecDepth 100000 in
theorem gD125 : gC125.all (gDck cX9_sides) = true := by decide +kernel
set_option maxRecDepth 100000 in
theorem gD126 : gC126.all (gDck cX9_side) = true := by decide +kernel
set_option maxRecDepth 100000 in
theorem gD127 : gC127.all (gDck cX9_began) = true := by decide +kernel
set_option maxRecDepth 100000 in
theorem gD128 : gC128.all (gDck cX9_beganAt) = true := by decide +kernel
set_option maxRecDepth 100000 in
theorem gD129 : gC129.all (gDck cX9_parts) = true := by decide +kernel
set_option maxRecDepth 100000 in
theorem gD130 : gC130.all (gDck cX9_exchanged) = true := by decide +kernel
set_option maxRecDepth 100000 in
theorem gD131 : gC131.all (gDck cX9_exchange) = true := by decide +kernel
set_option maxRecDepth 100000 in
theorem gD132 : gC132.all (gDck cX9_starts) = true := by decide +kernel
set_option maxRecDepth 100000 in
theorem gD133 : gC133.all (gDck cX9_leader) = true := by decide +kernel
set_option maxRecDepth 100000 in
theorem gD134 : gC134.all (gDck cX9_drawn) = true := by decide +kernel
set_option maxRecDepth 100000 in
theorem gD135 : gC135.all (gDck cX9_arrange) = true := by decide +kernel
