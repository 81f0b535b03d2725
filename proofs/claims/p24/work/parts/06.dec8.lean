set_option maxRecDepth 100000 in
theorem gD230 : gC230.all (gDck cX10_beganAt) = true := by decide +kernel
set_option maxRecDepth 100000 in
theorem gD231 : gC231.all (gDck cX10_parts) = true := by decide +kernel
set_option maxRecDepth 100000 in
theorem gD232 : gC232.all (gDck cX10_change) = true := by decide +kernel
set_option maxRecDepth 100000 in
theorem gD233 : gC233.all (gDck cX10_areUnlike) = true := by decide +kernel
set_option maxRecDepth 100000 in
theorem gD234 : gC234.all (gDck cX10_exchanged) = true := by decide +kernel
set_option maxRecDepth 100000 in
theorem gD235 : gC235.all (gDck cX10_exchange) = true := by decide +kernel
set_option maxRecDepth 100000 in
theorem gD236 : gC236.all (gDck cX10_arranges) = true := by decide +kernel
set_option maxRecDepth 100000 in
theorem gD237 : gC237.all (gDck cX10_arrange) = true := by decide +kernel
set_option maxRecDepth 100000 in
theorem gD238 : gC238.all (gDck cX10_arranged) = true := by decide +kernel
set_option maxRecDepth 100000 in
theorem gD239 : gC239.all (gDck cX10_starts) = true := by decide +kernel
set_option maxRecDepth 100000 in
theorem gD240 : gC240.all (gDck cX10_leader) = true := by decide +kernel
set_option maxRecDepth 100000 in
theorem gD241 : gC241.all (gDck cX10_draw) = true := by decide +kernel
set_option maxRecDepth 100000 in
theorem gD242 : gC242.all (gDck cX10_drawn) = true := by decide +kernel
set_option maxRecDepth 100000 in
theorem gD243 : gC243.all (gDck cX10_image) = true := by decide +kernel
set_option maxRecDepth 100000 in
theorem gD244 : gC244.all (gDck cX10_restore) = true := by decide +kernel
set_option maxRecDepth 100000 in
theorem gD245 : gC245.all (gDck cX10_count) = true := by decide +kernel
set_option maxRecDepth 100000 in
theorem gD246 : gC246.all (gDck cL_seat) = true := by decide +kernel
set_option maxRecDepth 100000 in
theorem gD247 : gC247.all (gDck cL_cue) = true := by decide +kernel
set_option maxRecDepth 100000 in
theorem gD248 : gC248.all (gDck cL_worthOf) = true := by decide +kernel
set_option maxRecDepth 100000 in
theorem gD249 : gC249.all (gDck cJ6_bitCount_0f7a4) = true := by decide +kernel
set_option maxRecDepth 100000 in
theorem gD250 : gC250.all (gDck cJ13_bitCount_95d88) = true := by decide +kernel
set_option maxRecDepth 100000 in
theorem gD251 : gC251.all (gDck cJ7_fill_d0a16) = true := by decide +kernel
set_option maxRecDepth 100000 in
theorem gD252 : gC252.all (gDck cJ7_fill_53178) = true := by decide +kernel
