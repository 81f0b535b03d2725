theorem gCu {α : Type} {f : α → Bool} {l : List α} (k q : Nat) (h1 : ((l.drop q).take k).all f = true) (h2 : (l.drop (q + k)).all f = true) : (l.drop q).all f = true := by
  rw [← List.take_append_drop k (l.drop q), List.all_append, h1, List.drop_drop]
  simpa using h2
theorem gCu0 {α : Type} {f : α → Bool} {l : List α} (h : (l.drop 0).all f = true) : l.all f = true := h
set_option maxRecDepth 100000 in
theorem gD0_0 : ((gC0.drop 0).take 17).all (gDck cL_law) = true := by decide +kernel
set_option maxRecDepth 100000 in
theorem gD0_1 : ((gC0.drop 17).take 17).all (gDck cL_law) = true := by decide +kernel
set_option maxRecDepth 100000 in
theorem gD0_2 : ((gC0.drop 34).take 17).all (gDck cL_law) = true := by decide +kernel
set_option maxRecDepth 100000 in
theorem gD0_3 : ((gC0.drop 51).take 17).all (gDck cL_law) = true := by decide +kernel
set_option maxRecDepth 100000 in
theorem gD0_4 : ((gC0.drop 68).take 17).all (gDck cL_law) = true := by decide +kernel
set_option maxRecDepth 100000 in
theorem gD0_5 : ((gC0.drop 85).take 17).all (gDck cL_law) = true := by decide +kernel
set_option maxRecDepth 100000 in
theorem gD0_6 : ((gC0.drop 102).take 17).all (gDck cL_law) = true := by decide +kernel
set_option maxRecDepth 100000 in
theorem gD0_7 : ((gC0.drop 119).take 17).all (gDck cL_law) = true := by decide +kernel
set_option maxRecDepth 100000 in
theorem gD0_8 : ((gC0.drop 136).take 17).all (gDck cL_law) = true := by decide +kernel
set_option maxRecDepth 100000 in
theorem gD0_9 : ((gC0.drop 153).take 17).all (gDck cL_law) = true := by decide +kernel
set_option maxRecDepth 100000 in
theorem gD0_10 : ((gC0.drop 170).take 17).all (gDck cL_law) = true := by decide +kernel
set_option maxRecDepth 100000 in
theorem gD0_11 : ((gC0.drop 187).take 17).all (gDck cL_law) = true := by decide +kernel
set_option maxRecDepth 100000 in
theorem gD0_12 : ((gC0.drop 204).take 17).all (gDck cL_law) = true := by decide +kernel
set_option maxRecDepth 100000 in
theorem gD0_13 : ((gC0.drop 221).take 17).all (gDck cL_law) = true := by decide +kernel
set_option maxRecDepth 100000 in
theorem gD0_14 : ((gC0.drop 238).take 17).all (gDck cL_law) = true := by decide +kernel
set_option maxRecDepth 100000 in
theorem gD0_15 : ((gC0.drop 255).take 17).all (gDck cL_law) = true := by decide +kernel
set_option maxRecDepth 100000 in
theorem gD0_16 : ((gC0.drop 272).take 17).all (gDck cL_law) = true := by decide +kernel
set_option maxRecDepth 100000 in
theorem gD0_17 : ((gC0.drop 289).take 17).all (gDck cL_law) = true := by decide +kernel
set_option maxRecDepth 100000 in
theorem gD0_18 : ((gC0.drop 306).take 17).all (gDck cL_law) = true := by decide +kernel
set_option maxRecDepth 100000 in
theorem gD0_19 : ((gC0.drop 323).take 17).all (gDck cL_law) = true := by decide +kernel
set_option maxRecDepth 100000 in
theorem gD0_20 : ((gC0.drop 340).take 17).all (gDck cL_law) = true := by decide +kernel
set_option maxRecDepth 100000 in
theorem gD0_21 : ((gC0.drop 357).take 17).all (gDck cL_law) = true := by decide +kernel
set_option maxRecDepth 100000 in
theorem gD0_22 : ((gC0.drop 374).take 17).all (gDck cL_law) = true := by decide +kernel
set_option maxRecDepth 100000 in
theorem gD0_23 : ((gC0.drop 391).take 17).all (gDck cL_law) = true := by decide +kernel
set_option maxRecDepth 100000 in
theorem gD0_24 : ((gC0.drop 408).take 17).all (gDck cL_law) = true := by decide +kernel
set_option maxRecDepth 100000 in
theorem gD0_25 : ((gC0.drop 425).take 17).all (gDck cL_law) = true := by decide +kernel
set_option maxRecDepth 100000 in
theorem gD0_26 : ((gC0.drop 442).take 17).all (gDck cL_law) = true := by decide +kernel
set_option maxRecDepth 100000 in
theorem gD0_27 : ((gC0.drop 459).take 17).all (gDck cL_law) = true := by decide +kernel
set_option maxRecDepth 100000 in
theorem gD0_28 : ((gC0.drop 476).take 17).all (gDck cL_law) = true := by decide +kernel
set_option maxRecDepth 100000 in
theorem gD0_29 : ((gC0.drop 493).take 17).all (gDck cL_law) = true := by decide +kernel
set_option maxRecDepth 100000 in
theorem gD0_30 : ((gC0.drop 510).take 17).all (gDck cL_law) = true := by decide +kernel
set_option maxRecDepth 100000 in
theorem gD0_31 : ((gC0.drop 527).take 17).all (gDck cL_law) = true := by decide +kernel
set_option maxRecDepth 100000 in
theorem gD0_32 : ((gC0.drop 544).take 17).all (gDck cL_law) = true := by decide +kernel
set_option maxRecDepth 100000 in
theorem gD0_33 : ((gC0.drop 561).take 17).all (gDck cL_law) = true := by decide +kernel
set_option maxRecDepth 100000 in
theorem gD0_34 : ((gC0.drop 578).take 17).all (gDck cL_law) = true := by decide +kernel
set_option maxRecDepth 100000 in
theorem gD0_35 : ((gC0.drop 595).take 17).all (gDck cL_law) = true := by decide +kernel
set_option maxRecDepth 100000 in
theorem gD0_36 : ((gC0.drop 612).take 17).all (gDck cL_law) = true := by decide +kernel
set_option maxRecDepth 100000 in
theorem gD0_37 : ((gC0.drop 629).take 17).all (gDck cL_law) = true := by decide +kernel
set_option maxRecDepth 100000 in
theorem gD0_38 : ((gC0.drop 646).take 17).all (gDck cL_law) = true := by decide +kernel
set_option maxRecDepth 100000 in
theorem gD0_39 : ((gC0.drop 663).take 17).all (gDck cL_law) = true := by decide +kernel
set_option maxRecDepth 100000 in
theorem gD0_40 : ((gC0.drop 680).take 17).all (gDck cL_law) = true := by decide +kernel
set_option maxRecDepth 100000 in
theorem gD0_41 : ((gC0.drop 697).take 17).all (gDck cL_law) = true := by decide +kernel
set_option maxRecDepth 100000 in
theorem gD0_42 : ((gC0.drop 714).take 17).all (gDck cL_law) = true := by decide +kernel
set_option maxRecDepth 100000 in
theorem gD0_43 : ((gC0.drop 731).take 17).all (gDck cL_law) = true := by decide +kernel
set_option maxRecDepth 100000 in
theorem gD0_44 : ((gC0.drop 748).take 17).all (gDck cL_law) = true := by decide +kernel
set_option maxRecDepth 100000 in
theorem gD0_45 : ((gC0.drop 765).take 17).all (gDck cL_law) = true := by decide +kernel
set_option maxRecDepth 100000 in
theorem gD0_46 : ((gC0.drop 782).take 17).all (gDck cL_law) = true := by decide +kernel
set_option maxRecDepth 100000 in
theorem gD0_47 : ((gC0.drop 799).take 17).all (gDck cL_law) = true := by decide +kernel
set_option maxRecDepth 100000 in
theorem gD0_48 : (gC0.drop 816).all (gDck cL_law) = true := by decide +kernel
theorem gD0 : gC0.all (gDck cL_law) = true := gCu0 (gCu 17 0 gD0_0 (gCu 17 17 gD0_1 (gCu 17 34 gD0_2 (gCu 17 51 gD0_3 (gCu 17 68 gD0_4 (gCu 17 85 gD0_5 (gCu 17 102 gD0_6 (gCu 17 119 gD0_7 (gCu 17 136 gD0_8 (gCu 17 153 gD0_9 (gCu 17 170 gD0_10 (gCu 17 187 gD0_11 (gCu 17 204 gD0_12 (gCu 17 221 gD0_13 (gCu 17 238 gD0_14 (gCu 17 255 gD0_15 (gCu 17 272 gD0_16 (gCu 17 289 gD0_17 (gCu 17 306 gD0_18 (gCu 17 323 gD0_19 (gCu 17 340 gD0_20 (gCu 17 357 gD0_21 (gCu 17 374 gD0_22 (gCu 17 391 gD0_23 (gCu 17 408 gD0_24 (gCu 17 425 gD0_25 (gCu 17 442 gD0_26 (gCu 17 459 gD0_27 (gCu 17 476 gD0_28 (gCu 17 493 gD0_29 (gCu 17 510 gD0_30 (gCu 17 527 gD0_31 (gCu 17 544 gD0_32 (gCu 17 561 gD0_33 (gCu 17 578 gD0_34 (gCu 17 595 gD0_35 (gCu 17 612 gD0_36 (gCu 17 629 gD0_37 (gCu 17 646 gD0_38 (gCu 17 663 gD0_39 (gCu 17 680 gD0_40 (gCu 17 697 gD0_41 (gCu 17 714 gD0_42 (gCu 17 731 gD0_43 (gCu 17 748 gD0_44 (gCu 17 765 gD0_45 (gCu 17 782 gD0_46 (gCu 17 799 gD0_47 (gD0_48)))))))))))))))))))))))))))))))))))))))))))))))))
set_option maxRecDepth 100000 in
theorem gD1 : gC1.all (gDck cX0_init) = true := by decide +kernel
set_option maxRecDepth 100000 in
theorem gD2 : gC2.all (gDck cX0_readCues) = true := by decide +kernel
set_option maxRecDepth 100000 in
theorem gD3 : gC3.all (gDck cX0_readCue) = true := by decide +kernel
set_option maxRecDepth 100000 in
theorem gD4 : gC4.all (gDck cX0_readSeat) = true := by decide +kernel
set_option maxRecDepth 100000 in
theorem gD5 : gC5.all (gDck cX1_init) = true := by decide +kernel
set_option maxRecDepth 100000 in
theorem gD6 : gC6.all (gDck cX1_forget) = true := by decide +kernel
set_option maxRecDepth 100000 in
theorem gD7 : gC7.all (gDck cX1_reach) = true := by decide +kernel
set_option maxRecDepth 100000 in
theorem gD8 : gC8.all (gDck cX1_keep) = true := by decide +kernel
set_option maxRecDepth 100000 in
theorem gD9 : gC9.all (gDck cX1_isUp) = true := by decide +kernel
set_option maxRecDepth 100000 in
theorem gD10 : gC10.all (gDck cX1_height) = true := by decide +kernel
set_option maxRecDepth 100000 in
theorem gD11 : gC11.all (gDck cX1_likeBehind) = true := by decide +kernel
set_option maxRecDepth 100000 in
theorem gD12 : gC12.all (gDck cX1_areAlike) = true := by decide +kernel
set_option maxRecDepth 100000 in
theorem gD13 : gC13.all (gDck cX2_init) = true := by decide +kernel
set_option maxRecDepth 100000 in
theorem gD14 : gC14.all (gDck cX2_clear) = true := by decide +kernel
set_option maxRecDepth 100000 in
theorem gD15 : gC15.all (gDck cX2_takeAll) = true := by decide +kernel
set_option maxRecDepth 100000 in
theorem gD16 : gC16.all (gDck cX2_takeCues) = true := by decide +kernel
set_option maxRecDepth 100000 in
theorem gD17 : gC17.all (gDck cX2_lastEvent) = true := by decide +kernel
set_option maxRecDepth 100000 in
theorem gD18 : gC18.all (gDck cX2_againFrom) = true := by decide +kernel
set_option maxRecDepth 100000 in
theorem gD19 : gC19.all (gDck cX2_isSomebodyPaid) = true := by decide +kernel
set_option maxRecDepth 100000 in
theorem gD20 : gC20.all (gDck cX3_init) = true := by decide +kernel
set_option maxRecDepth 100000 in
theorem gD21 : gC21.all (gDck cX3_clear) = true := by decide +kernel
set_option maxRecDepth 100000 in
theorem gD22 : gC22.all (gDck cX3_takeAll) = true := by decide +kernel
