theorem gCu {α : Type} {f : α → Bool} {l : List α} (k q : Nat) (h1 : ((l.drop q).take k).all f = true) (h2 : (l.drop (q + k)).all f = true) : (l.drop q).all f = true := by
  rw [← List.take_append_drop k (l.drop q), List.all_append, h1, List.drop_drop]
  simpa using h2
theorem gCu0 {α : Type} {f : α → Bool} {l : List α} (h : (l.drop 0).all f = true) : l.all f = true := h
set_option maxRecDepth 100000 in
theorem gD0_0 : ((gC0.drop 0).take 16).all (gDck cL_law) = true := by decide +kernel
set_option maxRecDepth 100000 in
theorem gD0_1 : ((gC0.drop 16).take 16).all (gDck cL_law) = true := by decide +kernel
set_option maxRecDepth 100000 in
theorem gD0_2 : ((gC0.drop 32).take 16).all (gDck cL_law) = true := by decide +kernel
set_option maxRecDepth 100000 in
theorem gD0_3 : ((gC0.drop 48).take 16).all (gDck cL_law) = true := by decide +kernel
set_option maxRecDepth 100000 in
theorem gD0_4 : ((gC0.drop 64).take 16).all (gDck cL_law) = true := by decide +kernel
set_option maxRecDepth 100000 in
theorem gD0_5 : ((gC0.drop 80).take 16).all (gDck cL_law) = true := by decide +kernel
set_option maxRecDepth 100000 in
theorem gD0_6 : ((gC0.drop 96).take 16).all (gDck cL_law) = true := by decide +kernel
set_option maxRecDepth 100000 in
theorem gD0_7 : ((gC0.drop 112).take 16).all (gDck cL_law) = true := by decide +kernel
set_option maxRecDepth 100000 in
theorem gD0_8 : ((gC0.drop 128).take 16).all (gDck cL_law) = true := by decide +kernel
set_option maxRecDepth 100000 in
theorem gD0_9 : ((gC0.drop 144).take 16).all (gDck cL_law) = true := by decide +kernel
set_option maxRecDepth 100000 in
theorem gD0_10 : ((gC0.drop 160).take 16).all (gDck cL_law) = true := by decide +kernel
set_option maxRecDepth 100000 in
theorem gD0_11 : ((gC0.drop 176).take 16).all (gDck cL_law) = true := by decide +kernel
set_option maxRecDepth 100000 in
theorem gD0_12 : ((gC0.drop 192).take 16).all (gDck cL_law) = true := by decide +kernel
set_option maxRecDepth 100000 in
theorem gD0_13 : ((gC0.drop 208).take 16).all (gDck cL_law) = true := by decide +kernel
set_option maxRecDepth 100000 in
theorem gD0_14 : ((gC0.drop 224).take 16).all (gDck cL_law) = true := by decide +kernel
set_option maxRecDepth 100000 in
theorem gD0_15 : ((gC0.drop 240).take 16).all (gDck cL_law) = true := by decide +kernel
set_option maxRecDepth 100000 in
theorem gD0_16 : ((gC0.drop 256).take 16).all (gDck cL_law) = true := by decide +kernel
set_option maxRecDepth 100000 in
theorem gD0_17 : ((gC0.drop 272).take 16).all (gDck cL_law) = true := by decide +kernel
set_option maxRecDepth 100000 in
theorem gD0_18 : ((gC0.drop 288).take 16).all (gDck cL_law) = true := by decide +kernel
set_option maxRecDepth 100000 in
theorem gD0_19 : ((gC0.drop 304).take 16).all (gDck cL_law) = true := by decide +kernel
set_option maxRecDepth 100000 in
theorem gD0_20 : ((gC0.drop 320).take 16).all (gDck cL_law) = true := by decide +kernel
set_option maxRecDepth 100000 in
theorem gD0_21 : ((gC0.drop 336).take 16).all (gDck cL_law) = true := by decide +kernel
set_option maxRecDepth 100000 in
theorem gD0_22 : ((gC0.drop 352).take 16).all (gDck cL_law) = true := by decide +kernel
set_option maxRecDepth 100000 in
theorem gD0_23 : ((gC0.drop 368).take 16).all (gDck cL_law) = true := by decide +kernel
set_option maxRecDepth 100000 in
theorem gD0_24 : ((gC0.drop 384).take 16).all (gDck cL_law) = true := by decide +kernel
set_option maxRecDepth 100000 in
theorem gD0_25 : ((gC0.drop 400).take 16).all (gDck cL_law) = true := by decide +kernel
set_option maxRecDepth 100000 in
theorem gD0_26 : ((gC0.drop 416).take 16).all (gDck cL_law) = true := by decide +kernel
set_option maxRecDepth 100000 in
theorem gD0_27 : ((gC0.drop 432).take 16).all (gDck cL_law) = true := by decide +kernel
set_option maxRecDepth 100000 in
theorem gD0_28 : ((gC0.drop 448).take 16).all (gDck cL_law) = true := by decide +kernel
set_option maxRecDepth 100000 in
theorem gD0_29 : ((gC0.drop 464).take 16).all (gDck cL_law) = true := by decide +kernel
set_option maxRecDepth 100000 in
theorem gD0_30 : ((gC0.drop 480).take 16).all (gDck cL_law) = true := by decide +kernel
set_option maxRecDepth 100000 in
theorem gD0_31 : ((gC0.drop 496).take 16).all (gDck cL_law) = true := by decide +kernel
set_option maxRecDepth 100000 in
theorem gD0_32 : ((gC0.drop 512).take 16).all (gDck cL_law) = true := by decide +kernel
set_option maxRecDepth 100000 in
theorem gD0_33 : ((gC0.drop 528).take 16).all (gDck cL_law) = true := by decide +kernel
set_option maxRecDepth 100000 in
theorem gD0_34 : ((gC0.drop 544).take 16).all (gDck cL_law) = true := by decide +kernel
set_option maxRecDepth 100000 in
theorem gD0_35 : ((gC0.drop 560).take 16).all (gDck cL_law) = true := by decide +kernel
set_option maxRecDepth 100000 in
theorem gD0_36 : ((gC0.drop 576).take 16).all (gDck cL_law) = true := by decide +kernel
set_option maxRecDepth 100000 in
theorem gD0_37 : ((gC0.drop 592).take 16).all (gDck cL_law) = true := by decide +kernel
set_option maxRecDepth 100000 in
theorem gD0_38 : ((gC0.drop 608).take 16).all (gDck cL_law) = true := by decide +kernel
set_option maxRecDepth 100000 in
theorem gD0_39 : ((gC0.drop 624).take 16).all (gDck cL_law) = true := by decide +kernel
set_option maxRecDepth 100000 in
theorem gD0_40 : ((gC0.drop 640).take 16).all (gDck cL_law) = true := by decide +kernel
set_option maxRecDepth 100000 in
theorem gD0_41 : ((gC0.drop 656).take 16).all (gDck cL_law) = true := by decide +kernel
set_option maxRecDepth 100000 in
theorem gD0_42 : ((gC0.drop 672).take 16).all (gDck cL_law) = true := by decide +kernel
set_option maxRecDepth 100000 in
theorem gD0_43 : ((gC0.drop 688).take 16).all (gDck cL_law) = true := by decide +kernel
set_option maxRecDepth 100000 in
theorem gD0_44 : ((gC0.drop 704).take 16).all (gDck cL_law) = true := by decide +kernel
set_option maxRecDepth 100000 in
theorem gD0_45 : ((gC0.drop 720).take 16).all (gDck cL_law) = true := by decide +kernel
set_option maxRecDepth 100000 in
theorem gD0_46 : ((gC0.drop 736).take 16).all (gDck cL_law) = true := by decide +kernel
set_option maxRecDepth 100000 in
theorem gD0_47 : ((gC0.drop 752).take 16).all (gDck cL_law) = true := by decide +kernel
set_option maxRecDepth 100000 in
theorem gD0_48 : ((gC0.drop 768).take 16).all (gDck cL_law) = true := by decide +kernel
set_option maxRecDepth 100000 in
theorem gD0_49 : ((gC0.drop 784).take 16).all (gDck cL_law) = true := by decide +kernel
set_option maxRecDepth 100000 in
theorem gD0_50 : ((gC0.drop 800).take 16).all (gDck cL_law) = true := by decide +kernel
set_option maxRecDepth 100000 in
theorem gD0_51 : ((gC0.drop 816).take 16).all (gDck cL_law) = true := by decide +kernel
set_option maxRecDepth 100000 in
theorem gD0_52 : ((gC0.drop 832).take 16).all (gDck cL_law) = true := by decide +kernel
set_option maxRecDepth 100000 in
theorem gD0_53 : ((gC0.drop 848).take 16).all (gDck cL_law) = true := by decide +kernel
set_option maxRecDepth 100000 in
theorem gD0_54 : (gC0.drop 864).all (gDck cL_law) = true := by decide +kernel
theorem gD0 : gC0.all (gDck cL_law) = true := gCu0 (gCu 16 0 gD0_0 (gCu 16 16 gD0_1 (gCu 16 32 gD0_2 (gCu 16 48 gD0_3 (gCu 16 64 gD0_4 (gCu 16 80 gD0_5 (gCu 16 96 gD0_6 (gCu 16 112 gD0_7 (gCu 16 128 gD0_8 (gCu 16 144 gD0_9 (gCu 16 160 gD0_10 (gCu 16 176 gD0_11 (gCu 16 192 gD0_12 (gCu 16 208 gD0_13 (gCu 16 224 gD0_14 (gCu 16 240 gD0_15 (gCu 16 256 gD0_16 (gCu 16 272 gD0_17 (gCu 16 288 gD0_18 (gCu 16 304 gD0_19 (gCu 16 320 gD0_20 (gCu 16 336 gD0_21 (gCu 16 352 gD0_22 (gCu 16 368 gD0_23 (gCu 16 384 gD0_24 (gCu 16 400 gD0_25 (gCu 16 416 gD0_26 (gCu 16 432 gD0_27 (gCu 16 448 gD0_28 (gCu 16 464 gD0_29 (gCu 16 480 gD0_30 (gCu 16 496 gD0_31 (gCu 16 512 gD0_32 (gCu 16 528 gD0_33 (gCu 16 544 gD0_34 (gCu 16 560 gD0_35 (gCu 16 576 gD0_36 (gCu 16 592 gD0_37 (gCu 16 608 gD0_38 (gCu 16 624 gD0_39 (gCu 16 640 gD0_40 (gCu 16 656 gD0_41 (gCu 16 672 gD0_42 (gCu 16 688 gD0_43 (gCu 16 704 gD0_44 (gCu 16 720 gD0_45 (gCu 16 736 gD0_46 (gCu 16 752 gD0_47 (gCu 16 768 gD0_48 (gCu 16 784 gD0_49 (gCu 16 800 gD0_50 (gCu 16 816 gD0_51 (gCu 16 832 gD0_52 (gCu 16 848 gD0_53 (gD0_54)))))))))))))))))))))))))))))))))))))))))))))))))))))))
set_option maxRecDepth 100000 in
theorem gD1 : gC1.all (gDck cX0_init) = true := by decide +kernel
set_option maxRecDepth 100000 in
theorem gD2 : gC2.all (gDck cX0_readCues) = true := by decide +kernel
set_option maxRecDepth 100000 in
theorem gD3 : gC3.all (gDck cX0_readCue) = true := by decide +kernel
set_option maxRecDepth 100000 in
theorem gD4 : gC4.all (gDck cX0_readSeat) = true := by decide +kernel
set_option maxRecDepth 100000 in
theorem gD5 : gC5.all (gDck cX1_init) = true := by decide +kernel
set_option maxRecDepth 100000 in
theorem gD6 : gC6.all (gDck cX1_forget) = true := by decide +kernel
set_option maxRecDepth 100000 in
theorem gD7 : gC7.all (gDck cX1_reach) = true := by decide +kernel
set_option maxRecDepth 100000 in
theorem gD8 : gC8.all (gDck cX1_keep) = true := by decide +kernel
set_option maxRecDepth 100000 in
theorem gD9 : gC9.all (gDck cX1_isUp) = true := by decide +kernel
set_option maxRecDepth 100000 in
theorem gD10 : gC10.all (gDck cX1_height) = true := by decide +kernel
set_option maxRecDepth 100000 in
theorem gD11 : gC11.all (gDck cX1_likeBehind) = true := by decide +kernel
set_option maxRecDepth 100000 in
theorem gD12 : gC12.all (gDck cX1_areAlike) = true := by decide +kernel
set_option maxRecDepth 100000 in
theorem gD13 : gC13.all (gDck cX2_init) = true := by decide +kernel
set_option maxRecDepth 100000 in
theorem gD14 : gC14.all (gDck cX2_clear) = true := by decide +kernel
set_option maxRecDepth 100000 in
theorem gD15 : gC15.all (gDck cX2_takeAll) = true := by decide +kernel
set_option maxRecDepth 100000 in
theorem gD16 : gC16.all (gDck cX2_takeCues) = true := by decide +kernel
set_option maxRecDepth 100000 in
theorem gD17 : gC17.all (gDck cX2_lastEvent) = true := by decide +kernel
set_option maxRecDepth 100000 in
theorem gD18 : gC18.all (gDck cX2_againFrom) = true := by decide +kernel
set_option maxRecDepth 100000 in
theorem gD19 : gC19.all (gDck cX2_isSomebodyPaid) = true := by decide +kernel
set_option maxRecDepth 100000 in
theorem gD20 : gC20.all (gDck cX3_init) = true := by decide +kernel
set_option maxRecDepth 100000 in
theorem gD21 : gC21.all (gDck cX3_clear) = true := by decide +kernel
