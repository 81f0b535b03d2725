set_option maxRecDepth 20000 in
theorem L_23 {S : Nat × (Nat → Int32)} {d : Nat} {x : mX} {I : rI0} {J : rJ0} {l4 : Int32} {Q : mO → mW → Prop} (k : ((((Int32.ofNat S.1) - (6 : Int32)) < l4 → Q (some (some (.int (1 : Int32)))) (wv x I J)) ∧ (¬ ((Int32.ofNat S.1) - (6 : Int32)) < l4 → (¬ mOut l4 S.1 ∧ ((S.2 l4.toNatClampNeg &&& (63 : Int32)).toInt < 0 ∨ 40 < (S.2 l4.toNatClampNeg &&& (63 : Int32)).toInt → wp S (d + 8) 0 1390 [some (.ref mScr), some (.ref 0), some (.ref 43), some (.ref 67), some (.int l4), none, none] [] (wv x I J) Q) ∧ ((S.2 l4.toNatClampNeg &&& (63 : Int32)).toInt = 0 → wp S (d + 8) 0 220 [some (.ref mScr), some (.ref 0), some (.ref 43), some (.ref 67), some (.int l4), none, none] [] (wv x I J) Q) ∧ ((S.2 l4.toNatClampNeg &&& (63 : Int32)).toInt = 1 → wp S (d + 8) 0 293 [some (.ref mScr), some (.ref 0), some (.ref 43), some (.ref 67), some (.int l4), none, none] [] (wv x I J) Q) ∧ ((S.2 l4.toNatClampNeg &&& (63 : Int32)).toInt = 2 → wp S (d + 8) 0 318 [some (.ref mScr), some (.ref 0), some (.ref 43), some (.ref 67), some (.int l4), none, none] [] (wv x I J) Q) ∧ ((S.2 l4.toNatClampNeg &&& (63 : Int32)).toInt = 3 → wp S (d + 8) 0 331 [some (.ref mScr), some (.ref 0), some (.ref 43), some (.ref 67), some (.int l4), none, none] [] (wv x I J) Q) ∧ ((S.2 l4.toNatClampNeg &&& (63 : Int32)).toInt = 4 → wp S (d + 8) 0 344 [some (.ref mScr), some (.ref 0), some (.ref 43), some (.ref 67), some (.int l4), none, none] [] (wv x I J) Q) ∧ ((S.2 l4.toNatClampNeg &&& (63 : Int32)).toInt = 5 → wp S (d + 8) 0 384 [some (.ref mScr), some (.ref 0), some (.ref 43), some (.ref 67), some (.int l4), none, none] [] (wv x I J) Q) ∧ ((S.2 l4.toNatClampNeg &&& (63 : Int32)).toInt = 6 → wp S (d + 8) 0 421 [some (.ref mScr), some (.ref 0), some (.ref 43), some (.ref 67), some (.int l4), none, none] [] (wv x I J) Q) ∧ ((S.2 l4.toNatClampNeg &&& (63 : Int32)).toInt = 7 → wp S (d + 8) 0 458 [some (.ref mScr), some (.ref 0), some (.ref 43), some (.ref 67), some (.int l4), none, none] [] (wv x I J) Q) ∧ ((S.2 l4.toNatClampNeg &&& (63 : Int32)).toInt = 8 → wp S (d + 8) 0 495 [some (.ref mScr), some (.ref 0), some (.ref 43), some (.ref 67), some (.int l4), none, none] [] (wv x I J) Q) ∧ ((S.2 l4.toNatClampNeg &&& (63 : Int32)).toInt = 9 → wp S (d + 8) 0 508 [some (.ref mScr), some (.ref 0), some (.ref 43), some (.ref 67), some (.int l4), none, none] [] (wv x I J) Q) ∧ ((S.2 l4.toNatClampNeg &&& (63 : Int32)).toInt = 10 → wp S (d + 8) 0 576 [some (.ref mScr), some (.ref 0), some (.ref 43), some (.ref 67), some (.int l4), none, none] [] (wv x I J) Q) ∧ ((S.2 l4.toNatClampNeg &&& (63 : Int32)).toInt = 11 → wp S (d + 8) 0 637 [some (.ref mScr), some (.ref 0), some (.ref 43), some (.ref 67), some (.int l4), none, none] [] (wv x I J) Q) ∧ ((S.2 l4.toNatClampNeg &&& (63 : Int32)).toInt = 12 → wp S (d + 8) 0 686 [some (.ref mScr), some (.ref 0), some (.ref 43), some (.ref 67), some (.int l4), none, none] [] (wv x I J) Q) ∧ ((S.2 l4.toNatClampNeg &&& (63 : Int32)).toInt = 13 → wp S (d + 8) 0 723 [some (.ref mScr), some (.ref 0), some (.ref 43), some (.ref 67), some (.int l4), none, none] [] (wv x I J) Q) ∧ ((S.2 l4.toNatClampNeg &&& (63 : Int32)).toInt = 14 → wp S (d + 8) 0 772 [some (.ref mScr), some (.ref 0), some (.ref 43), some (.ref 67), some (.int l4), none, none] [] (wv x I J) Q) ∧ ((S.2 l4.toNatClampNeg &&& (63 : Int32)).toInt = 15 → wp S (d + 8) 0 797 [some (.ref mScr), some (.ref 0), some (.ref 43), some (.ref 67), some (.int l4), none, none] [] (wv x I J) Q) ∧ ((S.2 l4.toNatClampNeg &&& (63 : Int32)).toInt = 16 → wp S (d + 8) 0 822 [some (.ref mScr), some (.ref 0), some (.ref 43), some (.ref 67), some (.int l4), none, none] [] (wv x I J) Q) ∧ ((S.2 l4.toNatClampNeg &&& (63 : Int32)).toInt = 17 → wp S (d + 8) 0 835 [some (.ref mScr), some (.ref 0), some (.ref 43), some (.ref 67), some (.int l4), none, none] [] (wv x I J) Q) ∧ ((S.2 l4.toNatClampNeg &&& (63 : Int32)).toInt = 18 → wp S (d + 8) 0 860 [some (.ref mScr), some (.ref 0), some (.ref 43), some (.ref 67), some (.int l4), none, none] [] (wv x I J) Q) ∧ ((S.2 l4.toNatClampNeg &&& (63 : Int32)).toInt = 19 → wp S (d + 8) 0 885 [some (.ref mScr), some (.ref 0), some (.ref 43), some (.ref 67), some (.int l4), none, none] [] (wv x I J) Q) ∧ ((S.2 l4.toNatClampNeg &&& (63 : Int32)).toInt = 20 → wp S (d + 8) 0 910 [some (.ref mScr), some (.ref 0), some (.ref 43), some (.ref 67), some (.int l4), none, none] [] (wv x I J) Q) ∧ ((S.2 l4.toNatClampNeg &&& (63 : Int32)).toInt = 21 → wp S (d + 8) 0 923 [some (.ref mScr), some (.ref 0), some (.ref 43), some (.ref 67), some (.int l4), none, none] [] (wv x I J) Q) ∧ ((S.2 l4.toNatClampNeg &&& (63 : Int32)).toInt = 22 → wp S (d + 8) 0 936 [some (.ref mScr), some (.ref 0), some (.ref 43), some (.ref 67), some (.int l4), none, none] [] (wv x I J) Q) ∧ ((S.2 l4.toNatClampNeg &&& (63 : Int32)).toInt = 23 → wp S (d + 8) 0 949 [some (.ref mScr), some (.ref 0), some (.ref 43), some (.ref 67), some (.int l4), none, none] [] (wv x I J) Q) ∧ ((S.2 l4.toNatClampNeg &&& (63 : Int32)).toInt = 24 → wp S (d + 8) 0 974 [some (.ref mScr), some (.ref 0), some (.ref 43), some (.ref 67), some (.int l4), none, none] [] (wv x I J) Q) ∧ ((S.2 l4.toNatClampNeg &&& (63 : Int32)).toInt = 25 → wp S (d + 8) 0 987 [some (.ref mScr), some (.ref 0), some (.ref 43), some (.ref 67), some (.int l4), none, none] [] (wv x I J) Q) ∧ ((S.2 l4.toNatClampNeg &&& (63 : Int32)).toInt = 26 → wp S (d + 8) 0 1027 [some (.ref mScr), some (.ref 0), some (.ref 43), some (.ref 67), some (.int l4), none, none] [] (wv x I J) Q) ∧ ((S.2 l4.toNatClampNeg &&& (63 : Int32)).toInt = 27 → wp S (d + 8) 0 1040 [some (.ref mScr), some (.ref 0), some (.ref 43), some (.ref 67), some (.int l4), none, none] [] (wv x I J) Q) ∧ ((S.2 l4.toNatClampNeg &&& (63 : Int32)).toInt = 28 → wp S (d + 8) 0 1065 [some (.ref mScr), some (.ref 0), some (.ref 43), some (.ref 67), some (.int l4), none, none] [] (wv x I J) Q) ∧ ((S.2 l4.toNatClampNeg &&& (63 : Int32)).toInt = 29 → wp S (d + 8) 0 1090 [some (.ref mScr), some (.ref 0), some (.ref 43), some (.ref 67), some (.int l4), none, none] [] (wv x I J) Q) ∧ ((S.2 l4.toNatClampNeg &&& (63 : Int32)).toInt = 30 → wp S (d + 8) 0 1115 [some (.ref mScr), some (.ref 0), some (.ref 43), some (.ref 67), some (.int l4), none, none] [] (wv x I J) Q) ∧ ((S.2 l4.toNatClampNeg &&& (63 : Int32)).toInt = 31 → wp S (d + 8) 0 1152 [some (.ref mScr), some (.ref 0), some (.ref 43), some (.ref 67), some (.int l4), none, none] [] (wv x I J) Q) ∧ ((S.2 l4.toNatClampNeg &&& (63 : Int32)).toInt = 32 → wp S (d + 8) 0 1165 [some (.ref mScr), some (.ref 0), some (.ref 43), some (.ref 67), some (.int l4), none, none] [] (wv x I J) Q) ∧ ((S.2 l4.toNatClampNeg &&& (63 : Int32)).toInt = 33 → wp S (d + 8) 0 1202 [some (.ref mScr), some (.ref 0), some (.ref 43), some (.ref 67), some (.int l4), none, none] [] (wv x I J) Q) ∧ ((S.2 l4.toNatClampNeg &&& (63 : Int32)).toInt = 34 → wp S (d + 8) 0 1227 [some (.ref mScr), some (.ref 0), some (.ref 43), some (.ref 67), some (.int l4), none, none] [] (wv x I J) Q) ∧ ((S.2 l4.toNatClampNeg &&& (63 : Int32)).toInt = 35 → wp S (d + 8) 0 1252 [some (.ref mScr), some (.ref 0), some (.ref 43), some (.ref 67), some (.int l4), none, none] [] (wv x I J) Q) ∧ ((S.2 l4.toNatClampNeg &&& (63 : Int32)).toInt = 36 → wp S (d + 8) 0 1289 [some (.ref mScr), some (.ref 0), some (.ref 43), some (.ref 67), some (.int l4), none, none] [] (wv x I J) Q) ∧ ((S.2 l4.toNatClampNeg &&& (63 : Int32)).toInt = 37 → wp S (d + 8) 0 1302 [some (.ref mScr), some (.ref 0), some (.ref 43), some (.ref 67), some (.int l4), none, none] [] (wv x I J) Q) ∧ ((S.2 l4.toNatClampNeg &&& (63 : Int32)).toInt = 38 → wp S (d + 8) 0 1315 [some (.ref mScr), some (.ref 0), some (.ref 43), some (.ref 67), some (.int l4), none, none] [] (wv x I J) Q) ∧ ((S.2 l4.toNatClampNeg &&& (63 : Int32)).toInt = 39 → wp S (d + 8) 0 1340 [some (.ref mScr), some (.ref 0), some (.ref 43), some (.ref 67), some (.int l4), none, none] [] (wv x I J) Q) ∧ ((S.2 l4.toNatClampNeg &&& (63 : Int32)).toInt = 40 → wp S (d + 8) 0 1365 [some (.ref mScr), some (.ref 0), some (.ref 43), some (.ref 67), some (.int l4), none, none] [] (wv x I J) Q))))) : wp S (d + 8) 0 23 [some (.ref mScr), some (.ref 0), some (.ref 43), some (.ref 67), some (.int l4), none, none] [] (wv x I J) Q := by
  refine wp_seg (C := gC0) (pc1 := 26) (Lo1 := [some (.ref mScr), some (.ref 0), some (.ref 43), some (.ref 67), some (.int l4), none, none]) (st1' := [.ref mScr, .int l4]) (w1 := (wv x I J)) rfl 2 rfl ?_
  refine wl_len rfl ?_
  refine wp_seg (C := gC0) (pc1 := 30) (Lo1 := [some (.ref mScr), some (.ref 0), some (.ref 43), some (.ref 67), some (.int l4), none, none]) (st1' := [.int ((Int32.ofNat S.1) - (6 : Int32)), .int l4]) (w1 := (wv x I J)) rfl 2 rfl ?_
  refine wj_gt (tgt := 1396) rfl rfl (fun h => ?_) (fun h => ?_)
  · have k := k.1 h
    refine wp_seg (C := gC0) (pc1 := 1397) (Lo1 := [some (.ref mScr), some (.ref 0), some (.ref 43), some (.ref 67), some (.int l4), none, none]) (st1' := [.int (1 : Int32)]) (w1 := (wv x I J)) rfl 1 rfl ?_
    exact wp_iret rfl (Or.inr ⟨rfl, Or.inr rfl⟩) k
  · obtain ⟨k1, k2, k⟩ := k.2 h
    refine wp_seg (C := gC0) (pc1 := 36) (Lo1 := [some (.ref mScr), some (.ref 0), some (.ref 43), some (.ref 67), some (.int l4), none, none]) (st1' := [.int l4, .ref mScr]) (w1 := (wv x I J)) rfl 2 rfl ?_
    refine wa_s rfl k1 ?_
    refine wp_seg (C := gC0) (pc1 := 40) (Lo1 := [some (.ref mScr), some (.ref 0), some (.ref 43), some (.ref 67), some (.int l4), none, none]) (st1' := [.int (S.2 l4.toNatClampNeg &&& (63 : Int32))]) (w1 := (wv x I J)) rfl 2 rfl ?_
    refine wt_tab (nn := 41) rfl ⟨rfl, rfl⟩ (fun h => ?_) (fun i hi hx => ?_)
    · exact k2 h
    · rcases (by omega : i = 0 ∨ i = 1 ∨ i = 2 ∨ i = 3 ∨ i = 4 ∨ i = 5 ∨ i = 6 ∨ i = 7 ∨ i = 8 ∨ i = 9 ∨ i = 10 ∨ i = 11 ∨ i = 12 ∨ i = 13 ∨ i = 14 ∨ i = 15 ∨ i = 16 ∨ i = 17 ∨ i = 18 ∨ i = 19 ∨ i = 20 ∨ i = 21 ∨ i = 22 ∨ i = 23 ∨ i = 24 ∨ i = 25 ∨ i = 26 ∨ i = 27 ∨ i = 28 ∨ i = 29 ∨ i = 30 ∨ i = 31 ∨ i = 32 ∨ i = 33 ∨ i = 34 ∨ i = 35 ∨ i = 36 ∨ i = 37 ∨ i = 38 ∨ i = 39 ∨ i = 40) with rfl | rfl | rfl | rfl | rfl | rfl | rfl | rfl | rfl | rfl | rfl | rfl | rfl | rfl | rfl | rfl | rfl | rfl | rfl | rfl | rfl | rfl | rfl | rfl | rfl | rfl | rfl | rfl | rfl | rfl | rfl | rfl | rfl | rfl | rfl | rfl | rfl | rfl | rfl | rfl | rfl
      · exact k.1 (by omega)
      · exact k.2.1 (by omega)
      · exact k.2.2.1 (by omega)
      · exact k.2.2.2.1 (by omega)
      · exact k.2.2.2.2.1 (by omega)
      · exact k.2.2.2.2.2.1 (by omega)
      · exact k.2.2.2.2.2.2.1 (by omega)
      · exact k.2.2.2.2.2.2.2.1 (by omega)
      · exact k.2.2.2.2.2.2.2.2.1 (by omega)
      · exact k.2.2.2.2.2.2.2.2.2.1 (by omega)
      · exact k.2.2.2.2.2.2.2.2.2.2.1 (by omega)
      · exact k.2.2.2.2.2.2.2.2.2.2.2.1 (by omega)
      · exact k.2.2.2.2.2.2.2.2.2.2.2.2.1 (by omega)
      · exact k.2.2.2.2.2.2.2.2.2.2.2.2.2.1 (by omega)
      · exact k.2.2.2.2.2.2.2.2.2.2.2.2.2.2.1 (by omega)
      · exact k.2.2.2.2.2.2.2.2.2.2.2.2.2.2.2.1 (by omega)
      · exact k.2.2.2.2.2.2.2.2.2.2.2.2.2.2.2.2.1 (by omega)
      · exact k.2.2.2.2.2.2.2.2.2.2.2.2.2.2.2.2.2.1 (by omega)
      · exact k.2.2.2.2.2.2.2.2.2.2.2.2.2.2.2.2.2.2.1 (by omega)
      · exact k.2.2.2.2.2.2.2.2.2.2.2.2.2.2.2.2.2.2.2.1 (by omega)
      · exact k.2.2.2.2.2.2.2.2.2.2.2.2.2.2.2.2.2.2.2.2.1 (by omega)
      · exact k.2.2.2.2.2.2.2.2.2.2.2.2.2.2.2.2.2.2.2.2.2.1 (by omega)
      · exact k.2.2.2.2.2.2.2.2.2.2.2.2.2.2.2.2.2.2.2.2.2.2.1 (by omega)
      · exact k.2.2.2.2.2.2.2.2.2.2.2.2.2.2.2.2.2.2.2.2.2.2.2.1 (by omega)
      · exact k.2.2.2.2.2.2.2.2.2.2.2.2.2.2.2.2.2.2.2.2.2.2.2.2.1 (by omega)
      · exact k.2.2.2.2.2.2.2.2.2.2.2.2.2.2.2.2.2.2.2.2.2.2.2.2.2.1 (by omega)
      · exact k.2.2.2.2.2.2.2.2.2.2.2.2.2.2.2.2.2.2.2.2.2.2.2.2.2.2.1 (by omega)
      · exact k.2.2.2.2.2.2.2.2.2.2.2.2.2.2.2.2.2.2.2.2.2.2.2.2.2.2.2.1 (by omega)
      · exact k.2.2.2.2.2.2.2.2.2.2.2.2.2.2.2.2.2.2.2.2.2.2.2.2.2.2.2.2.1 (by omega)
      · exact k.2.2.2.2.2.2.2.2.2.2.2.2.2.2.2.2.2.2.2.2.2.2.2.2.2.2.2.2.2.1 (by omega)
      · exact k.2.2.2.2.2.2.2.2.2.2.2.2.2.2.2.2.2.2.2.2.2.2.2.2.2.2.2.2.2.2.1 (by omega)
      · exact k.2.2.2.2.2.2.2.2.2.2.2.2.2.2.2.2.2.2.2.2.2.2.2.2.2.2.2.2.2.2.2.1 (by omega)
      · exact k.2.2.2.2.2.2.2.2.2.2.2.2.2.2.2.2.2.2.2.2.2.2.2.2.2.2.2.2.2.2.2.2.1 (by omega)
      · exact k.2.2.2.2.2.2.2.2.2.2.2.2.2.2.2.2.2.2.2.2.2.2.2.2.2.2.2.2.2.2.2.2.2.1 (by omega)
      · exact k.2.2.2.2.2.2.2.2.2.2.2.2.2.2.2.2.2.2.2.2.2.2.2.2.2.2.2.2.2.2.2.2.2.2.1 (by omega)
      · exact k.2.2.2.2.2.2.2.2.2.2.2.2.2.2.2.2.2.2.2.2.2.2.2.2.2.2.2.2.2.2.2.2.2.2.2.1 (by omega)
      · exact k.2.2.2.2.2.2.2.2.2.2.2.2.2.2.2.2.2.2.2.2.2.2.2.2.2.2.2.2.2.2.2.2.2.2.2.2.1 (by omega)
      · exact k.2.2.2.2.2.2.2.2.2.2.2.2.2.2.2.2.2.2.2.2.2.2.2.2.2.2.2.2.2.2.2.2.2.2.2.2.2.1 (by omega)
      · exact k.2.2.2.2.2.2.2.2.2.2.2.2.2.2.2.2.2.2.2.2.2.2.2.2.2.2.2.2.2.2.2.2.2.2.2.2.2.2.1 (by omega)
      · exact k.2.2.2.2.2.2.2.2.2.2.2.2.2.2.2.2.2.2.2.2.2.2.2.2.2.2.2.2.2.2.2.2.2.2.2.2.2.2.2.1 (by omega)
      · exact k.2.2.2.2.2.2.2.2.2.2.2.2.2.2.2.2.2.2.2.2.2.2.2.2.2.2.2.2.2.2.2.2.2.2.2.2.2.2.2.2 (by omega)
set_option maxRecDepth 20000 in
theorem L_1390 {S : Nat × (Nat → Int32)} {d : Nat} {x : mX} {I : rI0} {J : rJ0} {l4 : Int32} {Q : mO → mW → Prop} (k : wp S (d + 8) 0 23 [some (.ref mScr), some (.ref 0), some (.ref 43), some (.ref 67), some (.int (l4 + (6 : Int32))), none, none] [] (wv x I J) Q) : wp S (d + 8) 0 1390 [some (.ref mScr), some (.ref 0), some (.ref 43), some (.ref 67), some (.int l4), none, none] [] (wv x I J) Q := by
  refine wp_seg (C := gC0) (pc1 := 23) (Lo1 := [some (.ref mScr), some (.ref 0), some (.ref 43), some (.ref 67), some (.int (l4 + (6 : Int32))), none, none]) (st1' := []) (w1 := (wv x I J)) rfl 2 rfl ?_
  exact k
set_option maxRecDepth 20000 in
theorem L_220 {S : Nat × (Nat → Int32)} {d : Nat} {x : mX} {I : rI0} {J : rJ0} {l4 : Int32} {Q : mO → mW → Prop} (k : (¬ mOut (l4 + (1 : Int32)) S.1 ∧ (¬ mOut (l4 + (2 : Int32)) S.1 ∧ (¬ mOut (l4 + (3 : Int32)) S.1 ∧ (¬ mOut (l4 + (4 : Int32)) S.1 ∧ (¬ mOut (l4 + (5 : Int32)) S.1 ∧ (wcI S (d + 7) 99 [.ref 0, .int (S.2 (l4 + (1 : Int32)).toNatClampNeg), .int (S.2 (l4 + (2 : Int32)).toNatClampNeg), .int (S.2 (l4 + (3 : Int32)).toNatClampNeg), .int (S.2 (l4 + (4 : Int32)).toNatClampNeg), .int (S.2 (l4 + (5 : Int32)).toNatClampNeg)] x I J (fun r1 I1 J1 => (¬ mOut (l4 + (1 : Int32)) S.1 ∧ (¬ mOut (l4 + (2 : Int32)) S.1 ∧ (¬ mOut (l4 + (3 : Int32)) S.1 ∧ (¬ mOut (l4 + (4 : Int32)) S.1 ∧ (¬ mOut (l4 + (5 : Int32)) S.1 ∧ (wcI S (d + 7) 147 [.ref 43, .int (S.2 (l4 + (1 : Int32)).toNatClampNeg), .int (S.2 (l4 + (2 : Int32)).toNatClampNeg), .int (S.2 (l4 + (3 : Int32)).toNatClampNeg), .int (S.2 (l4 + (4 : Int32)).toNatClampNeg), .int (S.2 (l4 + (5 : Int32)).toNatClampNeg)] x I1 J1 (fun r2 I2 J2 => wp S (d + 8) 0 1390 [some (.ref mScr), some (.ref 0), some (.ref 43), some (.ref 67), some (.int l4), none, none] [] (wv x I2 J2) Q))))))))))))))) : wp S (d + 8) 0 220 [some (.ref mScr), some (.ref 0), some (.ref 43), some (.ref 67), some (.int l4), none, none] [] (wv x I J) Q := by
  refine wp_seg (C := gC0) (pc1 := 226) (Lo1 := [some (.ref mScr), some (.ref 0), some (.ref 43), some (.ref 67), some (.int l4), none, none]) (st1' := [.int (l4 + (1 : Int32)), .ref mScr, .ref 0]) (w1 := (wv x I J)) rfl 5 rfl ?_
  refine wa_s rfl k.1 ?_
  have k := k.2
  refine wp_seg (C := gC0) (pc1 := 232) (Lo1 := [some (.ref mScr), some (.ref 0), some (.ref 43), some (.ref 67), some (.int l4), none, none]) (st1' := [.int (l4 + (2 : Int32)), .ref mScr, .int (S.2 (l4 + (1 : Int32)).toNatClampNeg), .ref 0]) (w1 := (wv x I J)) rfl 4 rfl ?_
  refine wa_s rfl k.1 ?_
  have k := k.2
  refine wp_seg (C := gC0) (pc1 := 238) (Lo1 := [some (.ref mScr), some (.ref 0), some (.ref 43), some (.ref 67), some (.int l4), none, none]) (st1' := [.int (l4 + (3 : Int32)), .ref mScr, .int (S.2 (l4 + (2 : Int32)).toNatClampNeg), .int (S.2 (l4 + (1 : Int32)).toNatClampNeg), .ref 0]) (w1 := (wv x I J)) rfl 4 rfl ?_
  refine wa_s rfl k.1 ?_
  have k := k.2
  refine wp_seg (C := gC0) (pc1 := 244) (Lo1 := [some (.ref mScr), some (.ref 0), some (.ref 43), some (.ref 67), some (.int l4), none, none]) (st1' := [.int (l4 + (4 : Int32)), .ref mScr, .int (S.2 (l4 + (3 : Int32)).toNatClampNeg), .int (S.2 (l4 + (2 : Int32)).toNatClampNeg), .int (S.2 (l4 + (1 : Int32)).toNatClampNeg), .ref 0]) (w1 := (wv x I J)) rfl 4 rfl ?_
  refine wa_s rfl k.1 ?_
  have k := k.2
  refine wp_seg (C := gC0) (pc1 := 250) (Lo1 := [some (.ref mScr), some (.ref 0), some (.ref 43), some (.ref 67), some (.int l4), none, none]) (st1' := [.int (l4 + (5 : Int32)), .ref mScr, .int (S.2 (l4 + (4 : Int32)).toNatClampNeg), .int (S.2 (l4 + (3 : Int32)).toNatClampNeg), .int (S.2 (l4 + (2 : Int32)).toNatClampNeg), .int (S.2 (l4 + (1 : Int32)).toNatClampNeg), .ref 0]) (w1 := (wv x I J)) rfl 4 rfl ?_
  refine wa_s rfl k.1 ?_
  have k := k.2
  refine cv_I (mj := 99) (a := 0) (as := [.int (S.2 (l4 + (1 : Int32)).toNatClampNeg), .int (S.2 (l4 + (2 : Int32)).toNatClampNeg), .int (S.2 (l4 + (3 : Int32)).toNatClampNeg), .int (S.2 (l4 + (4 : Int32)).toNatClampNeg), .int (S.2 (l4 + (5 : Int32)).toNatClampNeg)]) (r := []) rfl rfl rfl ⟨rfl, by decide, Nat.le_of_ble_eq_true rfl, Nat.le_of_ble_eq_true rfl⟩ rfl (wcI_mono k (fun r1 I1 J1 k => ?_))
  refine wp_seg (C := gC0) (pc1 := 261) (Lo1 := [some (.ref mScr), some (.ref 0), some (.ref 43), some (.ref 67), some (.int l4), none, none]) (st1' := [.int (l4 + (1 : Int32)), .ref mScr, .ref 43]) (w1 := (wv x I1 J1)) rfl 6 rfl ?_
  refine wa_s rfl k.1 ?_
  have k := k.2
  refine wp_seg (C := gC0) (pc1 := 267) (Lo1 := [some (.ref mScr), some (.ref 0), some (.ref 43), some (.ref 67), some (.int l4), none, none]) (st1' := [.int (l4 + (2 : Int32)), .ref mScr, .int (S.2 (l4 + (1 : Int32)).toNatClampNeg), .ref 43]) (w1 := (wv x I1 J1)) rfl 4 rfl ?_
  refine wa_s rfl k.1 ?_
  have k := k.2
  refine wp_seg (C := gC0) (pc1 := 273) (Lo1 := [some (.ref mScr), some (.ref 0), some (.ref 43), some (.ref 67), some (.int l4), none, none]) (st1' := [.int (l4 + (3 : Int32)), .ref mScr, .int (S.2 (l4 + (2 : Int32)).toNatClampNeg), .int (S.2 (l4 + (1 : Int32)).toNatClampNeg), .ref 43]) (w1 := (wv x I1 J1)) rfl 4 rfl ?_
  refine wa_s rfl k.1 ?_
  have k := k.2
  refine wp_seg (C := gC0) (pc1 := 279) (Lo1 := [some (.ref mScr), some (.ref 0), some (.ref 43), some (.ref 67), some (.int l4), none, none]) (st1' := [.int (l4 + (4 : Int32)), .ref mScr, .int (S.2 (l4 + (3 : Int32)).toNatClampNeg), .int (S.2 (l4 + (2 : Int32)).toNatClampNeg), .int (S.2 (l4 + (1 : Int32)).toNatClampNeg), .ref 43]) (w1 := (wv x I1 J1)) rfl 4 rfl ?_
  refine wa_s rfl k.1 ?_
  have k := k.2
  refine wp_seg (C := gC0) (pc1 := 285) (Lo1 := [some (.ref mScr), some (.ref 0), some (.ref 43), some (.ref 67), some (.int l4), none, none]) (st1' := [.int (l4 + (5 : Int32)), .ref mScr, .int (S.2 (l4 + (4 : Int32)).toNatClampNeg), .int (S.2 (l4 + (3 : Int32)).toNatClampNeg), .int (S.2 (l4 + (2 : Int32)).toNatClampNeg), .int (S.2 (l4 + (1 : Int32)).toNatClampNeg), .ref 43]) (w1 := (wv x I1 J1)) rfl 4 rfl ?_
  refine wa_s rfl k.1 ?_
  have k := k.2
  refine cv_I (mj := 147) (a := 43) (as := [.int (S.2 (l4 + (1 : Int32)).toNatClampNeg), .int (S.2 (l4 + (2 : Int32)).toNatClampNeg), .int (S.2 (l4 + (3 : Int32)).toNatClampNeg), .int (S.2 (l4 + (4 : Int32)).toNatClampNeg), .int (S.2 (l4 + (5 : Int32)).toNatClampNeg)]) (r := []) rfl rfl rfl ⟨rfl, by decide, Nat.le_of_ble_eq_true rfl, Nat.le_of_ble_eq_true rfl⟩ rfl (wcI_mono k (fun r2 I2 J2 k => ?_))
  refine wp_seg (C := gC0) (pc1 := 1390) (Lo1 := [some (.ref mScr), some (.ref 0), some (.ref 43), some (.ref 67), some (.int l4), none, none]) (st1' := []) (w1 := (wv x I2 J2)) rfl 2 rfl ?_
  exact k
set_option maxRecDepth 20000 in
theorem L_293 {S : Nat × (Nat → Int32)} {d : Nat} {x : mX} {I : rI0} {J : rJ0} {l4 : Int32} {Q : mO → mW → Prop} (k : (¬ mOut (l4 + (1 : Int32)) S.1 ∧ (wcI S (d + 7) 100 [.ref 0, .int (S.2 (l4 + (1 : Int32)).toNatClampNeg)] x I J (fun r1 I1 J1 => (¬ mOut (l4 + (1 : Int32)) S.1 ∧ (wcI S (d + 7) 149 [.ref 43, .int (S.2 (l4 + (1 : Int32)).toNatClampNeg)] x I1 J1 (fun r2 I2 J2 => wp S (d + 8) 0 1390 [some (.ref mScr), some (.ref 0), some (.ref 43), some (.ref 67), some (.int l4), none, none] [] (wv x I2 J2) Q))))))) : wp S (d + 8) 0 293 [some (.ref mScr), some (.ref 0), some (.ref 43), some (.ref 67), some (.int l4), none, none] [] (wv x I J) Q := by
  refine wp_seg (C := gC0) (pc1 := 299) (Lo1 := [some (.ref mScr), some (.ref 0), some (.ref 43), some (.ref 67), some (.int l4), none, none]) (st1' := [.int (l4 + (1 : Int32)), .ref mScr, .ref 0]) (w1 := (wv x I J)) rfl 5 rfl ?_
  refine wa_s rfl k.1 ?_
  have k := k.2
  refine cv_I (mj := 100) (a := 0) (as := [.int (S.2 (l4 + (1 : Int32)).toNatClampNeg)]) (r := []) rfl rfl rfl ⟨rfl, by decide, Nat.le_of_ble_eq_true rfl, Nat.le_of_ble_eq_true rfl⟩ rfl (wcI_mono k (fun r1 I1 J1 k => ?_))
  refine wp_seg (C := gC0) (pc1 := 310) (Lo1 := [some (.ref mScr), some (.ref 0), some (.ref 43), some (.ref 67), some (.int l4), none, none]) (st1' := [.int (l4 + (1 : Int32)), .ref mScr, .ref 43]) (w1 := (wv x I1 J1)) rfl 6 rfl ?_
  refine wa_s rfl k.1 ?_
  have k := k.2
  refine cv_I (mj := 149) (a := 43) (as := [.int (S.2 (l4 + (1 : Int32)).toNatClampNeg)]) (r := []) rfl rfl rfl ⟨rfl, by decide, Nat.le_of_ble_eq_true rfl, Nat.le_of_ble_eq_true rfl⟩ rfl (wcI_mono k (fun r2 I2 J2 k => ?_))
  refine wp_seg (C := gC0) (pc1 := 1390) (Lo1 := [some (.ref mScr), some (.ref 0), some (.ref 43), some (.ref 67), some (.int l4), none, none]) (st1' := []) (w1 := (wv x I2 J2)) rfl 2 rfl ?_
  exact k
set_option maxRecDepth 20000 in
theorem L_318 {S : Nat × (Nat → Int32)} {d : Nat} {x : mX} {I : rI0} {J : rJ0} {l4 : Int32} {Q : mO → mW → Prop} (k : (wcI S (d + 7) 101 [.ref 0] x I J (fun r1 I1 J1 => (wcI S (d + 7) 181 [.ref 43] x I1 J1 (fun r2 I2 J2 => wp S (d + 8) 0 1390 [some (.ref mScr), some (.ref 0), some (.ref 43), some (.ref 67), some (.int l4), none, none] [] (wv x I2 J2) Q))))) : wp S (d + 8) 0 318 [some (.ref mScr), some (.ref 0), some (.ref 43), some (.ref 67), some (.int l4), none, none] [] (wv x I J) Q := by
  refine wp_seg (C := gC0) (pc1 := 319) (Lo1 := [some (.ref mScr), some (.ref 0), some (.ref 43), some (.ref 67), some (.int l4), none, none]) (st1' := [.ref 0]) (w1 := (wv x I J)) rfl 1 rfl ?_
  refine cv_I (mj := 101) (a := 0) (as := []) (r := []) rfl rfl rfl ⟨rfl, by decide, Nat.le_of_ble_eq_true rfl, Nat.le_of_ble_eq_true rfl⟩ rfl (wcI_mono k (fun r1 I1 J1 k => ?_))
  refine wp_seg (C := gC0) (pc1 := 324) (Lo1 := [some (.ref mScr), some (.ref 0), some (.ref 43), some (.ref 67), some (.int l4), none, none]) (st1' := [.ref 43]) (w1 := (wv x I1 J1)) rfl 2 rfl ?_
  refine cv_I (mj := 181) (a := 43) (as := []) (r := []) rfl rfl rfl ⟨rfl, by decide, Nat.le_of_ble_eq_true rfl, Nat.le_of_ble_eq_true rfl⟩ rfl (wcI_mono k (fun r2 I2 J2 k => ?_))
  refine wp_seg (C := gC0) (pc1 := 1390) (Lo1 := [some (.ref mScr), some (.ref 0), some (.ref 43), some (.ref 67), some (.int l4), none, none]) (st1' := []) (w1 := (wv x I2 J2)) rfl 2 rfl ?_
  exact k
set_option maxRecDepth 20000 in
theorem L_331 {S : Nat × (Nat → Int32)} {d : Nat} {x : mX} {I : rI0} {J : rJ0} {l4 : Int32} {Q : mO → mW → Prop} (k : (wcI S (d + 7) 102 [.ref 0] x I J (fun r1 I1 J1 => (wcI S (d + 7) 182 [.ref 43] x I1 J1 (fun r2 I2 J2 => wp S (d + 8) 0 1390 [some (.ref mScr), some (.ref 0), some (.ref 43), some (.ref 67), some (.int l4), none, none] [] (wv x I2 J2) Q))))) : wp S (d + 8) 0 331 [some (.ref mScr), some (.ref 0), some (.ref 43), some (.ref 67), some (.int l4), none, none] [] (wv x I J) Q := by
  refine wp_seg (C := gC0) (pc1 := 332) (Lo1 := [some (.ref mScr), some (.ref 0), some (.ref 43), some (.ref 67), some (.int l4), none, none]) (st1' := [.ref 0]) (w1 := (wv x I J)) rfl 1 rfl ?_
  refine cv_I (mj := 102) (a := 0) (as := []) (r := []) rfl rfl rfl ⟨rfl, by decide, Nat.le_of_ble_eq_true rfl, Nat.le_of_ble_eq_true rfl⟩ rfl (wcI_mono k (fun r1 I1 J1 k => ?_))
  refine wp_seg (C := gC0) (pc1 := 337) (Lo1 := [some (.ref mScr), some (.ref 0), some (.ref 43), some (.ref 67), some (.int l4), none, none]) (st1' := [.ref 43]) (w1 := (wv x I1 J1)) rfl 2 rfl ?_
  refine cv_I (mj := 182) (a := 43) (as := []) (r := []) rfl rfl rfl ⟨rfl, by decide, Nat.le_of_ble_eq_true rfl, Nat.le_of_ble_eq_true rfl⟩ rfl (wcI_mono k (fun r2 I2 J2 k => ?_))
  refine wp_seg (C := gC0) (pc1 := 1390) (Lo1 := [some (.ref mScr), some (.ref 0), some (.ref 43), some (.ref 67), some (.int l4), none, none]) (st1' := []) (w1 := (wv x I2 J2)) rfl 2 rfl ?_
  exact k
set_option maxRecDepth 20000 in
theorem L_344 {S : Nat × (Nat → Int32)} {d : Nat} {x : mX} {I : rI0} {J : rJ0} {l4 : Int32} {Q : mO → mW → Prop} (k : (¬ mOut (l4 + (1 : Int32)) S.1 ∧ (¬ mOut (l4 + (2 : Int32)) S.1 ∧ (wcT S (d + 6) 103 [.ref 0, .int (S.2 (l4 + (1 : Int32)).toNatClampNeg), .int (S.2 (l4 + (2 : Int32)).toNatClampNeg)] x I J (fun x1 I1 J1 => (¬ mOut (l4 + (1 : Int32)) S.1 ∧ (¬ mOut (l4 + (2 : Int32)) S.1 ∧ (wcI S (d + 7) 187 [.ref 43, .int (S.2 (l4 + (1 : Int32)).toNatClampNeg), .int (S.2 (l4 + (2 : Int32)).toNatClampNeg)] x1 I1 J1 (fun r2 I2 J2 => wp S (d + 8) 0 1390 [some (.ref mScr), some (.ref 0), some (.ref 43), some (.ref 67), some (.int l4), none, none] [] (wv x1 I2 J2) Q))))) (fun r1 I1 J1 => (¬ mOut (l4 + (1 : Int32)) S.1 ∧ (¬ mOut (l4 + (2 : Int32)) S.1 ∧ (wcI S (d + 7) 187 [.ref 43, .int (S.2 (l4 + (1 : Int32)).toNatClampNeg), .int (S.2 (l4 + (2 : Int32)).toNatClampNeg)] x I1 (mSet J1 67 0 r1.toInt64) (fun r3 I3 J3 => wp S (d + 8) 0 1390 [some (.ref mScr), some (.ref 0), some (.ref 43), some (.ref 67), some (.int l4), none, none] [] (wv x I3 J3) Q))))))))) : wp S (d + 8) 0 344 [some (.ref mScr), some (.ref 0), some (.ref 43), some (.ref 67), some (.int l4), none, none] [] (wv x I J) Q := by
  refine wp_seg (C := gC0) (pc1 := 350) (Lo1 := [some (.ref mScr), some (.ref 0), some (.ref 43), some (.ref 67), some (.int l4), none, none]) (st1' := [.int (l4 + (1 : Int32)), .ref mScr, .ref 0]) (w1 := (wv x I J)) rfl 5 rfl ?_
  refine wa_s rfl k.1 ?_
  have k := k.2
  refine wp_seg (C := gC0) (pc1 := 356) (Lo1 := [some (.ref mScr), some (.ref 0), some (.ref 43), some (.ref 67), some (.int l4), none, none]) (st1' := [.int (l4 + (2 : Int32)), .ref mScr, .int (S.2 (l4 + (1 : Int32)).toNatClampNeg), .ref 0]) (w1 := (wv x I J)) rfl 4 rfl ?_
  refine wa_s rfl k.1 ?_
  have k := k.2
  refine wp_seg (C := gC0) (pc1 := 358) (Lo1 := [some (.ref mScr), some (.ref 0), some (.ref 43), some (.ref 67), some (.int l4), none, none]) (st1' := [.ref 67, .int (S.2 (l4 + (2 : Int32)).toNatClampNeg), .int (S.2 (l4 + (1 : Int32)).toNatClampNeg), .ref 0]) (w1 := (wv x I J)) rfl 1 rfl ?_
  refine ch_T (mj := 246) (r := []) rfl rfl rfl ⟨rfl, by decide, Nat.le_of_ble_eq_true rfl, Nat.le_of_ble_eq_true rfl⟩ ⟨by decide, by decide⟩ (wc_mono k ?_)
  rintro o w (⟨r1, I1, J1, h1, h2, k⟩ | ⟨x1, I1, J1, h1, h2, k⟩)
  · refine Or.inl ⟨r1, I1, J1, h1, h2, ?_⟩
    refine wp_seg (C := gC0) (pc1 := 369) (Lo1 := [some (.ref mScr), some (.ref 0), some (.ref 43), some (.ref 67), some (.int l4), some (.int (0 : Int32)), none]) (st1' := [.int (l4 + (1 : Int32)), .ref mScr, .ref 43]) (w1 := (wv x I1 (mSet J1 67 0 r1.toInt64))) rfl 6 rfl ?_
    refine wa_s rfl k.1 ?_
    have k := k.2
    refine wp_seg (C := gC0) (pc1 := 375) (Lo1 := [some (.ref mScr), some (.ref 0), some (.ref 43), some (.ref 67), some (.int l4), some (.int (0 : Int32)), none]) (st1' := [.int (l4 + (2 : Int32)), .ref mScr, .int (S.2 (l4 + (1 : Int32)).toNatClampNeg), .ref 43]) (w1 := (wv x I1 (mSet J1 67 0 r1.toInt64))) rfl 4 rfl ?_
    refine wa_s rfl k.1 ?_
    have k := k.2
    refine cv_I (mj := 187) (a := 43) (as := [.int (S.2 (l4 + (1 : Int32)).toNatClampNeg), .int (S.2 (l4 + (2 : Int32)).toNatClampNeg)]) (r := []) rfl rfl rfl ⟨rfl, by decide, Nat.le_of_ble_eq_true rfl, Nat.le_of_ble_eq_true rfl⟩ rfl (wcI_mono k (fun r3 I3 J3 k => ?_))
    refine wp_seg (C := gC0) (pc1 := 1390) (Lo1 := [some (.ref mScr), some (.ref 0), some (.ref 43), some (.ref 67), some (.int l4), some (.int (0 : Int32)), some (.int r3)]) (st1' := []) (w1 := (wv x I3 J3)) rfl 2 rfl ?_
    exact wp_sub (Lo := [some (.ref mScr), some (.ref 0), some (.ref 43), some (.ref 67), some (.int l4), none, none]) (And.intro rfl (And.intro rfl (And.intro rfl (And.intro rfl (And.intro rfl (trivial)))))) k
  · refine Or.inr ⟨x1, I1, J1, h1, h2, ?_⟩
    refine wp_seg (C := gC0) (pc1 := 369) (Lo1 := [some (.ref mScr), some (.ref 0), some (.ref 43), some (.ref 67), some (.int l4), some (.int (1 : Int32)), none]) (st1' := [.int (l4 + (1 : Int32)), .ref mScr, .ref 43]) (w1 := (wv x1 I1 J1)) rfl 6 rfl ?_
    refine wa_s rfl k.1 ?_
    have k := k.2
    refine wp_seg (C := gC0) (pc1 := 375) (Lo1 := [some (.ref mScr), some (.ref 0), some (.ref 43), some (.ref 67), some (.int l4), some (.int (1 : Int32)), none]) (st1' := [.int (l4 + (2 : Int32)), .ref mScr, .int (S.2 (l4 + (1 : Int32)).toNatClampNeg), .ref 43]) (w1 := (wv x1 I1 J1)) rfl 4 rfl ?_
    refine wa_s rfl k.1 ?_
    have k := k.2
    refine cv_I (mj := 187) (a := 43) (as := [.int (S.2 (l4 + (1 : Int32)).toNatClampNeg), .int (S.2 (l4 + (2 : Int32)).toNatClampNeg)]) (r := []) rfl rfl rfl ⟨rfl, by decide, Nat.le_of_ble_eq_true rfl, Nat.le_of_ble_eq_true rfl⟩ rfl (wcI_mono k (fun r2 I2 J2 k => ?_))
    refine wp_seg (C := gC0) (pc1 := 1390) (Lo1 := [some (.ref mScr), some (.ref 0), some (.ref 43), some (.ref 67), some (.int l4), some (.int (1 : Int32)), some (.int r2)]) (st1' := []) (w1 := (wv x1 I2 J2)) rfl 2 rfl ?_
    exact wp_sub (Lo := [some (.ref mScr), some (.ref 0), some (.ref 43), some (.ref 67), some (.int l4), none, none]) (And.intro rfl (And.intro rfl (And.intro rfl (And.intro rfl (And.intro rfl (trivial)))))) k
set_option maxRecDepth 20000 in
theorem L_384 {S : Nat × (Nat → Int32)} {d : Nat} {x : mX} {I : rI0} {J : rJ0} {l4 : Int32} {Q : mO → mW → Prop} (k : (¬ mOut (l4 + (1 : Int32)) S.1 ∧ (¬ mOut (l4 + (2 : Int32)) S.1 ∧ (wcI S (d + 7) 104 [.ref 0, .int (S.2 (l4 + (1 : Int32)).toNatClampNeg), .int (S.2 (l4 + (2 : Int32)).toNatClampNeg)] x I J (fun r1 I1 J1 => (¬ mOut (l4 + (1 : Int32)) S.1 ∧ (¬ mOut (l4 + (2 : Int32)) S.1 ∧ (wcI S (d + 7) 189 [.ref 43, .int (S.2 (l4 + (1 : Int32)).toNatClampNeg), .int (S.2 (l4 + (2 : Int32)).toNatClampNeg)] x I1 J1 (fun r2 I2 J2 => wp S (d + 8) 0 1390 [some (.ref mScr), some (.ref 0), some (.ref 43), some (.ref 67), some (.int l4), none, none] [] (wv x I2 J2) Q))))))))) : wp S (d + 8) 0 384 [some (.ref mScr), some (.ref 0), some (.ref 43), some (.ref 67), some (.int l4), none, none] [] (wv x I J) Q := by
  refine wp_seg (C := gC0) (pc1 := 390) (Lo1 := [some (.ref mScr), some (.ref 0), some (.ref 43), some (.ref 67), some (.int l4), none, none]) (st1' := [.int (l4 + (1 : Int32)), .ref mScr, .ref 0]) (w1 := (wv x I J)) rfl 5 rfl ?_
  refine wa_s rfl k.1 ?_
  have k := k.2
  refine wp_seg (C := gC0) (pc1 := 396) (Lo1 := [some (.ref mScr), some (.ref 0), some (.ref 43), some (.ref 67), some (.int l4), none, none]) (st1' := [.int (l4 + (2 : Int32)), .ref mScr, .int (S.2 (l4 + (1 : Int32)).toNatClampNeg), .ref 0]) (w1 := (wv x I J)) rfl 4 rfl ?_
  refine wa_s rfl k.1 ?_
  have k := k.2
  refine cv_I (mj := 104) (a := 0) (as := [.int (S.2 (l4 + (1 : Int32)).toNatClampNeg), .int (S.2 (l4 + (2 : Int32)).toNatClampNeg)]) (r := []) rfl rfl rfl ⟨rfl, by decide, Nat.le_of_ble_eq_true rfl, Nat.le_of_ble_eq_true rfl⟩ rfl (wcI_mono k (fun r1 I1 J1 k => ?_))
  refine wp_seg (C := gC0) (pc1 := 407) (Lo1 := [some (.ref mScr), some (.ref 0), some (.ref 43), some (.ref 67), some (.int l4), none, none]) (st1' := [.int (l4 + (1 : Int32)), .ref mScr, .ref 43]) (w1 := (wv x I1 J1)) rfl 6 rfl ?_
  refine wa_s rfl k.1 ?_
  have k := k.2
  refine wp_seg (C := gC0) (pc1 := 413) (Lo1 := [some (.ref mScr), some (.ref 0), some (.ref 43), some (.ref 67), some (.int l4), none, none]) (st1' := [.int (l4 + (2 : Int32)), .ref mScr, .int (S.2 (l4 + (1 : Int32)).toNatClampNeg), .ref 43]) (w1 := (wv x I1 J1)) rfl 4 rfl ?_
  refine wa_s rfl k.1 ?_
  have k := k.2
  refine cv_I (mj := 189) (a := 43) (as := [.int (S.2 (l4 + (1 : Int32)).toNatClampNeg), .int (S.2 (l4 + (2 : Int32)).toNatClampNeg)]) (r := []) rfl rfl rfl ⟨rfl, by decide, Nat.le_of_ble_eq_true rfl, Nat.le_of_ble_eq_true rfl⟩ rfl (wcI_mono k (fun r2 I2 J2 k => ?_))
  refine wp_seg (C := gC0) (pc1 := 1390) (Lo1 := [some (.ref mScr), some (.ref 0), some (.ref 43), some (.ref 67), some (.int l4), none, none]) (st1' := []) (w1 := (wv x I2 J2)) rfl 2 rfl ?_
  exact k
set_option maxRecDepth 20000 in
theorem L_421 {S : Nat × (Nat → Int32)} {d : Nat} {x : mX} {I : rI0} {J : rJ0} {l4 : Int32} {Q : mO → mW → Prop} (k : (¬ mOut (l4 + (1 : Int32)) S.1 ∧ (¬ mOut (l4 + (2 : Int32)) S.1 ∧ (wcI S (d + 7) 105 [.ref 0, .int (S.2 (l4 + (1 : Int32)).toNatClampNeg), .int (S.2 (l4 + (2 : Int32)).toNatClampNeg)] x I J (fun r1 I1 J1 => (¬ mOut (l4 + (1 : Int32)) S.1 ∧ (¬ mOut (l4 + (2 : Int32)) S.1 ∧ (wcI S (d + 7) 190 [.ref 43, .int (S.2 (l4 + (1 : Int32)).toNatClampNeg), .int (S.2 (l4 + (2 : Int32)).toNatClampNeg)] x I1 J1 (fun r2 I2 J2 => wp S (d + 8) 0 1390 [some (.ref mScr), some (.ref 0), some (.ref 43), some (.ref 67), some (.int l4), none, none] [] (wv x I2 J2) Q))))))))) : wp S (d + 8) 0 421 [some (.ref mScr), some (.ref 0), some (.ref 43), some (.ref 67), some (.int l4), none, none] [] (wv x I J) Q := by
  refine wp_seg (C := gC0) (pc1 := 427) (Lo1 := [some (.ref mScr), some (.ref 0), some (.ref 43), some (.ref 67), some (.int l4), none, none]) (st1' := [.int (l4 + (1 : Int32)), .ref mScr, .ref 0]) (w1 := (wv x I J)) rfl 5 rfl ?_
  refine wa_s rfl k.1 ?_
  have k := k.2
  refine wp_seg (C := gC0) (pc1 := 433) (Lo1 := [some (.ref mScr), some (.ref 0), some (.ref 43), some (.ref 67), some (.int l4), none, none]) (st1' := [.int (l4 + (2 : Int32)), .ref mScr, .int (S.2 (l4 + (1 : Int32)).toNatClampNeg), .ref 0]) (w1 := (wv x I J)) rfl 4 rfl ?_
  refine wa_s rfl k.1 ?_
  have k := k.2
  refine cv_I (mj := 105) (a := 0) (as := [.int (S.2 (l4 + (1 : Int32)).toNatClampNeg), .int (S.2 (l4 + (2 : Int32)).toNatClampNeg)]) (r := []) rfl rfl rfl ⟨rfl, by decide, Nat.le_of_ble_eq_true rfl, Nat.le_of_ble_eq_true rfl⟩ rfl (wcI_mono k (fun r1 I1 J1 k => ?_))
  refine wp_seg (C := gC0) (pc1 := 444) (Lo1 := [some (.ref mScr), some (.ref 0), some (.ref 43), some (.ref 67), some (.int l4), none, none]) (st1' := [.int (l4 + (1 : Int32)), .ref mScr, .ref 43]) (w1 := (wv x I1 J1)) rfl 6 rfl ?_
  refine wa_s rfl k.1 ?_
  have k := k.2
  refine wp_seg (C := gC0) (pc1 := 450) (Lo1 := [some (.ref mScr), some (.ref 0), some (.ref 43), some (.ref 67), some (.int l4), none, none]) (st1' := [.int (l4 + (2 : Int32)), .ref mScr, .int (S.2 (l4 + (1 : Int32)).toNatClampNeg), .ref 43]) (w1 := (wv x I1 J1)) rfl 4 rfl ?_
  refine wa_s rfl k.1 ?_
  have k := k.2
  refine cv_I (mj := 190) (a := 43) (as := [.int (S.2 (l4 + (1 : Int32)).toNatClampNeg), .int (S.2 (l4 + (2 : Int32)).toNatClampNeg)]) (r := []) rfl rfl rfl ⟨rfl, by decide, Nat.le_of_ble_eq_true rfl, Nat.le_of_ble_eq_true rfl⟩ rfl (wcI_mono k (fun r2 I2 J2 k => ?_))
  refine wp_seg (C := gC0) (pc1 := 1390) (Lo1 := [some (.ref mScr), some (.ref 0), some (.ref 43), some (.ref 67), some (.int l4), none, none]) (st1' := []) (w1 := (wv x I2 J2)) rfl 2 rfl ?_
  exact k
set_option maxRecDepth 20000 in
theorem L_458 {S : Nat × (Nat → Int32)} {d : Nat} {x : mX} {I : rI0} {J : rJ0} {l4 : Int32} {Q : mO → mW → Prop} (k : (¬ mOut (l4 + (1 : Int32)) S.1 ∧ (¬ mOut (l4 + (2 : Int32)) S.1 ∧ (wcI S (d + 7) 106 [.ref 0, .int (S.2 (l4 + (1 : Int32)).toNatClampNeg), .int (S.2 (l4 + (2 : Int32)).toNatClampNeg)] x I J (fun r1 I1 J1 => (¬ mOut (l4 + (1 : Int32)) S.1 ∧ (¬ mOut (l4 + (2 : Int32)) S.1 ∧ (wcI S (d + 7) 191 [.ref 43, .int (S.2 (l4 + (1 : Int32)).toNatClampNeg), .int (S.2 (l4 + (2 : Int32)).toNatClampNeg)] x I1 J1 (fun r2 I2 J2 => wp S (d + 8) 0 1390 [some (.ref mScr), some (.ref 0), some (.ref 43), some (.ref 67), some (.int l4), none, none] [] (wv x I2 J2) Q))))))))) : wp S (d + 8) 0 458 [some (.ref mScr), some (.ref 0), some (.ref 43), some (.ref 67), some (.int l4), none, none] [] (wv x I J) Q := by
  refine wp_seg (C := gC0) (pc1 := 464) (Lo1 := [some (.ref mScr), some (.ref 0), some (.ref 43), some (.ref 67), some (.int l4), none, none]) (st1' := [.int (l4 + (1 : Int32)), .ref mScr, .ref 0]) (w1 := (wv x I J)) rfl 5 rfl ?_
  refine wa_s rfl k.1 ?_
  have k := k.2
  refine wp_seg (C := gC0) (pc1 := 470) (Lo1 := [some (.ref mScr), some (.ref 0), some (.ref 43), some (.ref 67), some (.int l4), none, none]) (st1' := [.int (l4 + (2 : Int32)), .ref mScr, .int (S.2 (l4 + (1 : Int32)).toNatClampNeg), .ref 0]) (w1 := (wv x I J)) rfl 4 rfl ?_
  refine wa_s rfl k.1 ?_
  have k := k.2
  refine cv_I (mj := 106) (a := 0) (as := [.int (S.2 (l4 + (1 : Int32)).toNatClampNeg), .int (S.2 (l4 + (2 : Int32)).toNatClampNeg)]) (r := []) rfl rfl rfl ⟨rfl, by decide, Nat.le_of_ble_eq_true rfl, Nat.le_of_ble_eq_true rfl⟩ rfl (wcI_mono k (fun r1 I1 J1 k => ?_))
  refine wp_seg (C := gC0) (pc1 := 481) (Lo1 := [some (.ref mScr), some (.ref 0), some (.ref 43), some (.ref 67), some (.int l4), none, none]) (st1' := [.int (l4 + (1 : Int32)), .ref mScr, .ref 43]) (w1 := (wv x I1 J1)) rfl 6 rfl ?_
  refine wa_s rfl k.1 ?_
  have k := k.2
  refine wp_seg (C := gC0) (pc1 := 487) (Lo1 := [some (.ref mScr), some (.ref 0), some (.ref 43), some (.ref 67), some (.int l4), none, none]) (st1' := [.int (l4 + (2 : Int32)), .ref mScr, .int (S.2 (l4 + (1 : Int32)).toNatClampNeg), .ref 43]) (w1 := (wv x I1 J1)) rfl 4 rfl ?_
  refine wa_s rfl k.1 ?_
  have k := k.2
  refine cv_I (mj := 191) (a := 43) (as := [.int (S.2 (l4 + (1 : Int32)).toNatClampNeg), .int (S.2 (l4 + (2 : Int32)).toNatClampNeg)]) (r := []) rfl rfl rfl ⟨rfl, by decide, Nat.le_of_ble_eq_true rfl, Nat.le_of_ble_eq_true rfl⟩ rfl (wcI_mono k (fun r2 I2 J2 k => ?_))
  refine wp_seg (C := gC0) (pc1 := 1390) (Lo1 := [some (.ref mScr), some (.ref 0), some (.ref 43), some (.ref 67), some (.int l4), none, none]) (st1' := []) (w1 := (wv x I2 J2)) rfl 2 rfl ?_
  exact k
set_option maxRecDepth 20000 in
theorem L_495 {S : Nat × (Nat → Int32)} {d : Nat} {x : mX} {I : rI0} {J : rJ0} {l4 : Int32} {Q : mO → mW → Prop} (k : (wcI S (d + 7) 107 [.ref 0] x I J (fun r1 I1 J1 => (wcI S (d + 7) 193 [.ref 43] x I1 J1 (fun r2 I2 J2 => wp S (d + 8) 0 1390 [some (.ref mScr), some (.ref 0), some (.ref 43), some (.ref 67), some (.int l4), none, none] [] (wv x I2 J2) Q))))) : wp S (d + 8) 0 495 [some (.ref mScr), some (.ref 0), some (.ref 43), some (.ref 67), some (.int l4), none, none] [] (wv x I J) Q := by
  refine wp_seg (C := gC0) (pc1 := 496) (Lo1 := [some (.ref mScr), some (.ref 0), some (.ref 43), some (.ref 67), some (.int l4), none, none]) (st1' := [.ref 0]) (w1 := (wv x I J)) rfl 1 rfl ?_
  refine cv_I (mj := 107) (a := 0) (as := []) (r := []) rfl rfl rfl ⟨rfl, by decide, Nat.le_of_ble_eq_true rfl, Nat.le_of_ble_eq_true rfl⟩ rfl (wcI_mono k (fun r1 I1 J1 k => ?_))
  refine wp_seg (C := gC0) (pc1 := 501) (Lo1 := [some (.ref mScr), some (.ref 0), some (.ref 43), some (.ref 67), some (.int l4), none, none]) (st1' := [.ref 43]) (w1 := (wv x I1 J1)) rfl 2 rfl ?_
  refine cv_I (mj := 193) (a := 43) (as := []) (r := []) rfl rfl rfl ⟨rfl, by decide, Nat.le_of_ble_eq_true rfl, Nat.le_of_ble_eq_true rfl⟩ rfl (wcI_mono k (fun r2 I2 J2 k => ?_))
  refine wp_seg (C := gC0) (pc1 := 1390) (Lo1 := [some (.ref mScr), some (.ref 0), some (.ref 43), some (.ref 67), some (.int l4), none, none]) (st1' := []) (w1 := (wv x I2 J2)) rfl 2 rfl ?_
  exact k
set_option maxRecDepth 20000 in
theorem L_508 {S : Nat × (Nat → Int32)} {d : Nat} {x : mX} {I : rI0} {J : rJ0} {l4 : Int32} {Q : mO → mW → Prop} (k : (¬ mOut (l4 + (1 : Int32)) S.1 ∧ (¬ mOut (l4 + (2 : Int32)) S.1 ∧ (wcT S (d + 6) 108 [.ref 0, .int (S.2 (l4 + (1 : Int32)).toNatClampNeg), .int (S.2 (l4 + (2 : Int32)).toNatClampNeg)] x I J (fun x1 I1 J1 => (¬ mOut (l4 + (1 : Int32)) S.1 ∧ (¬ mOut (l4 + (2 : Int32)) S.1 ∧ (wcI S (d + 7) 194 [.ref 43, .int (S.2 (l4 + (1 : Int32)).toNatClampNeg), .int (S.2 (l4 + (2 : Int32)).toNatClampNeg)] x1 I1 J1 (fun r2 I2 J2 => (wcI S (d + 7) 145 [.ref 43] x1 I2 J2 (fun r3 I3 J3 => ((r3 = (1 : Int32) → (((1 : Int32) = (0 : Int32) → (¬ mOut (0 : Int32) 1 ∧ (((lg_cmp (J3 67 (0 : Int32).toNatClampNeg) r2.toInt64) = (0 : Int32) → wp S (d + 8) 0 1390 [some (.ref mScr), some (.ref 0), some (.ref 43), some (.ref 67), some (.int l4), none, none] [] (wv x1 I3 J3) Q) ∧ (¬ (lg_cmp (J3 67 (0 : Int32).toNatClampNeg) r2.toInt64) = (0 : Int32) → Q (some (some (.int (0 : Int32)))) (wv x1 I3 J3))))) ∧ (¬ (1 : Int32) = (0 : Int32) → wp S (d + 8) 0 1390 [some (.ref mScr), some (.ref 0), some (.ref 43), some (.ref 67), some (.int l4), none, none] [] (wv x1 I3 J3) Q))) ∧ (¬ r3 = (1 : Int32) → Q (some (some (.int (0 : Int32)))) (wv x1 I3 J3)))))))))) (fun r1 I1 J1 => (¬ mOut (l4 + (1 : Int32)) S.1 ∧ (¬ mOut (l4 + (2 : Int32)) S.1 ∧ (wcI S (d + 7) 194 [.ref 43, .int (S.2 (l4 + (1 : Int32)).toNatClampNeg), .int (S.2 (l4 + (2 : Int32)).toNatClampNeg)] x I1 (mSet J1 67 0 r1.toInt64) (fun r4 I4 J4 => (wcI S (d + 7) 145 [.ref 43] x I4 J4 (fun r5 I5 J5 => ((r5 = (0 : Int32) → (((0 : Int32) = (0 : Int32) → (¬ mOut (0 : Int32) 1 ∧ (((lg_cmp (J5 67 (0 : Int32).toNatClampNeg) r4.toInt64) = (0 : Int32) → wp S (d + 8) 0 1390 [some (.ref mScr), some (.ref 0), some (.ref 43), some (.ref 67), some (.int l4), none, none] [] (wv x I5 J5) Q) ∧ (¬ (lg_cmp (J5 67 (0 : Int32).toNatClampNeg) r4.toInt64) = (0 : Int32) → Q (some (some (.int (0 : Int32)))) (wv x I5 J5))))) ∧ (¬ (0 : Int32) = (0 : Int32) → wp S (d + 8) 0 1390 [some (.ref mScr), some (.ref 0), some (.ref 43), some (.ref 67), some (.int l4), none, none] [] (wv x I5 J5) Q))) ∧ (¬ r5 = (0 : Int32) → Q (some (some (.int (0 : Int32)))) (wv x I5 J5)))))))))))))) : wp S (d + 8) 0 508 [some (.ref mScr), some (.ref 0), some (.ref 43), some (.ref 67), some (.int l4), none, none] [] (wv x I J) Q := by
  refine wp_seg (C := gC0) (pc1 := 514) (Lo1 := [some (.ref mScr), some (.ref 0), some (.ref 43), some (.ref 67), some (.int l4), none, none]) (st1' := [.int (l4 + (1 : Int32)), .ref mScr, .ref 0]) (w1 := (wv x I J)) rfl 5 rfl ?_
  refine wa_s rfl k.1 ?_
  have k := k.2
  refine wp_seg (C := gC0) (pc1 := 520) (Lo1 := [some (.ref mScr), some (.ref 0), some (.ref 43), some (.ref 67), some (.int l4), none, none]) (st1' := [.int (l4 + (2 : Int32)), .ref mScr, .int (S.2 (l4 + (1 : Int32)).toNatClampNeg), .ref 0]) (w1 := (wv x I J)) rfl 4 rfl ?_
  refine wa_s rfl k.1 ?_
  have k := k.2
  refine wp_seg (C := gC0) (pc1 := 522) (Lo1 := [some (.ref mScr), some (.ref 0), some (.ref 43), some (.ref 67), some (.int l4), none, none]) (st1' := [.ref 67, .int (S.2 (l4 + (2 : Int32)).toNatClampNeg), .int (S.2 (l4 + (1 : Int32)).toNatClampNeg), .ref 0]) (w1 := (wv x I J)) rfl 1 rfl ?_
  refine ch_T (mj := 247) (r := []) rfl rfl rfl ⟨rfl, by decide, Nat.le_of_ble_eq_true rfl, Nat.le_of_ble_eq_true rfl⟩ ⟨by decide, by decide⟩ (wc_mono k ?_)
  rintro o w (⟨r1, I1, J1, h1, h2, k⟩ | ⟨x1, I1, J1, h1, h2, k⟩)
  · refine Or.inl ⟨r1, I1, J1, h1, h2, ?_⟩
    refine wp_seg (C := gC0) (pc1 := 533) (Lo1 := [some (.ref mScr), some (.ref 0), some (.ref 43), some (.ref 67), some (.int l4), some (.int (0 : Int32)), none]) (st1' := [.int (l4 + (1 : Int32)), .ref mScr, .ref 43]) (w1 := (wv x I1 (mSet J1 67 0 r1.toInt64))) rfl 6 rfl ?_
    refine wa_s rfl k.1 ?_
    have k := k.2
    refine wp_seg (C := gC0) (pc1 := 539) (Lo1 := [some (.ref mScr), some (.ref 0), some (.ref 43), some (.ref 67), some (.int l4), some (.int (0 : Int32)), none]) (st1' := [.int (l4 + (2 : Int32)), .ref mScr, .int (S.2 (l4 + (1 : Int32)).toNatClampNeg), .ref 43]) (w1 := (wv x I1 (mSet J1 67 0 r1.toInt64))) rfl 4 rfl ?_
    refine wa_s rfl k.1 ?_
    have k := k.2
    refine cv_I (mj := 194) (a := 43) (as := [.int (S.2 (l4 + (1 : Int32)).toNatClampNeg), .int (S.2 (l4 + (2 : Int32)).toNatClampNeg)]) (r := []) rfl rfl rfl ⟨rfl, by decide, Nat.le_of_ble_eq_true rfl, Nat.le_of_ble_eq_true rfl⟩ rfl (wcI_mono k (fun r4 I4 J4 k => ?_))
    refine wp_seg (C := gC0) (pc1 := 546) (Lo1 := [some (.ref mScr), some (.ref 0), some (.ref 43), some (.ref 67), some (.int l4), some (.int (0 : Int32)), some (.int r4)]) (st1' := [.ref 43]) (w1 := (wv x I4 J4)) rfl 2 rfl ?_
    refine cv_I (mj := 145) (a := 43) (as := []) (r := []) rfl rfl rfl ⟨rfl, by decide, Nat.le_of_ble_eq_true rfl, Nat.le_of_ble_eq_true rfl⟩ rfl (wcI_mono k (fun r5 I5 J5 k => ?_))
    refine wp_seg (C := gC0) (pc1 := 551) (Lo1 := [some (.ref mScr), some (.ref 0), some (.ref 43), some (.ref 67), some (.int l4), some (.int (0 : Int32)), some (.int r4)]) (st1' := [.int (0 : Int32), .int r5]) (w1 := (wv x I5 J5)) rfl 1 rfl ?_
    refine wj_eq (tgt := 556) rfl rfl (fun h => ?_) (fun h => ?_)
    · have k := k.1 h
      refine wp_seg (C := gC0) (pc1 := 558) (Lo1 := [some (.ref mScr), some (.ref 0), some (.ref 43), some (.ref 67), some (.int l4), some (.int (0 : Int32)), some (.int r4)]) (st1' := [.int (0 : Int32)]) (w1 := (wv x I5 J5)) rfl 1 rfl ?_
      refine wi_ne (tgt := 573) rfl rfl (fun h => ?_) (fun h => ?_)
      · have k := k.1 h
        refine wp_seg (C := gC0) (pc1 := 563) (Lo1 := [some (.ref mScr), some (.ref 0), some (.ref 43), some (.ref 67), some (.int l4), some (.int (0 : Int32)), some (.int r4)]) (st1' := [.int (0 : Int32), .ref 67]) (w1 := (wv x I5 J5)) rfl 2 rfl ?_
        refine wa_l (n := 1) rfl rfl k.1 ?_
        have k := k.2
        refine wp_seg (C := gC0) (pc1 := 568) (Lo1 := [some (.ref mScr), some (.ref 0), some (.ref 43), some (.ref 67), some (.int l4), some (.int (0 : Int32)), some (.int r4)]) (st1' := [.int (lg_cmp (J5 67 (0 : Int32).toNatClampNeg) r4.toInt64)]) (w1 := (wv x I5 J5)) rfl 3 rfl ?_
        refine wi_eq (tgt := 573) rfl rfl (fun h => ?_) (fun h => ?_)
        · have k := k.1 h
          refine wp_seg (C := gC0) (pc1 := 1390) (Lo1 := [some (.ref mScr), some (.ref 0), some (.ref 43), some (.ref 67), some (.int l4), some (.int (0 : Int32)), some (.int r4)]) (st1' := []) (w1 := (wv x I5 J5)) rfl 1 rfl ?_
          exact wp_sub (Lo := [some (.ref mScr), some (.ref 0), some (.ref 43), some (.ref 67), some (.int l4), none, none]) (And.intro rfl (And.intro rfl (And.intro rfl (And.intro rfl (And.intro rfl (trivial)))))) k
        · have k := k.2 h
          refine wp_seg (C := gC0) (pc1 := 572) (Lo1 := [some (.ref mScr), some (.ref 0), some (.ref 43), some (.ref 67), some (.int l4), some (.int (0 : Int32)), some (.int r4)]) (st1' := [.int (0 : Int32)]) (w1 := (wv x I5 J5)) rfl 1 rfl ?_
          exact wp_iret rfl (Or.inr ⟨rfl, Or.inl rfl⟩) k
      · have k := k.2 h
        refine wp_seg (C := gC0) (pc1 := 1390) (Lo1 := [some (.ref mScr), some (.ref 0), some (.ref 43), some (.ref 67), some (.int l4), some (.int (0 : Int32)), some (.int r4)]) (st1' := []) (w1 := (wv x I5 J5)) rfl 1 rfl ?_
        exact wp_sub (Lo := [some (.ref mScr), some (.ref 0), some (.ref 43), some (.ref 67), some (.int l4), none, none]) (And.intro rfl (And.intro rfl (And.intro rfl (And.intro rfl (And.intro rfl (trivial)))))) k
    · have k := k.2 h
      refine wp_seg (C := gC0) (pc1 := 555) (Lo1 := [some (.ref mScr), some (.ref 0), some (.ref 43), some (.ref 67), some (.int l4), some (.int (0 : Int32)), some (.int r4)]) (st1' := [.int (0 : Int32)]) (w1 := (wv x I5 J5)) rfl 1 rfl ?_
      exact wp_iret rfl (Or.inr ⟨rfl, Or.inl rfl⟩) k
  · refine Or.inr ⟨x1, I1, J1, h1, h2, ?_⟩
    refine wp_seg (C := gC0) (pc1 := 533) (Lo1 := [some (.ref mScr), some (.ref 0), some (.ref 43), some (.ref 67), some (.int l4), some (.int (1 : Int32)), none]) (st1' := [.int (l4 + (1 : Int32)), .ref mScr, .ref 43]) (w1 := (wv x1 I1 J1)) rfl 6 rfl ?_
    refine wa_s rfl k.1 ?_
    have k := k.2
    refine wp_seg (C := gC0) (pc1 := 539) (Lo1 := [some (.ref mScr), some (.ref 0), some (.ref 43), some (.ref 67), some (.int l4), some (.int (1 : Int32)), none]) (st1' := [.int (l4 + (2 : Int32)), .ref mScr, .int (S.2 (l4 + (1 : Int32)).toNatClampNeg), .ref 43]) (w1 := (wv x1 I1 J1)) rfl 4 rfl ?_
    refine wa_s rfl k.1 ?_
    have k := k.2
    refine cv_I (mj := 194) (a := 43) (as := [.int (S.2 (l4 + (1 : Int32)).toNatClampNeg), .int (S.2 (l4 + (2 : Int32)).toNatClampNeg)]) (r := []) rfl rfl rfl ⟨rfl, by decide, Nat.le_of_ble_eq_true rfl, Nat.le_of_ble_eq_true rfl⟩ rfl (wcI_mono k (fun r2 I2 J2 k => ?_))
    refine wp_seg (C := gC0) (pc1 := 546) (Lo1 := [some (.ref mScr), some (.ref 0), some (.ref 43), some (.ref 67), some (.int l4), some (.int (1 : Int32)), some (.int r2)]) (st1' := [.ref 43]) (w1 := (wv x1 I2 J2)) rfl 2 rfl ?_
    refine cv_I (mj := 145) (a := 43) (as := []) (r := []) rfl rfl rfl ⟨rfl, by decide, Nat.le_of_ble_eq_true rfl, Nat.le_of_ble_eq_true rfl⟩ rfl (wcI_mono k (fun r3 I3 J3 k => ?_))
    refine wp_seg (C := gC0) (pc1 := 551) (Lo1 := [some (.ref mScr), some (.ref 0), some (.ref 43), some (.ref 67), some (.int l4), some (.int (1 : Int32)), some (.int r2)]) (st1' := [.int (1 : Int32), .int r3]) (w1 := (wv x1 I3 J3)) rfl 1 rfl ?_
    refine wj_eq (tgt := 556) rfl rfl (fun h => ?_) (fun h => ?_)
    · have k := k.1 h
      refine wp_seg (C := gC0) (pc1 := 558) (Lo1 := [some (.ref mScr), some (.ref 0), some (.ref 43), some (.ref 67), some (.int l4), some (.int (1 : Int32)), some (.int r2)]) (st1' := [.int (1 : Int32)]) (w1 := (wv x1 I3 J3)) rfl 1 rfl ?_
      refine wi_ne (tgt := 573) rfl rfl (fun h => ?_) (fun h => ?_)
      · have k := k.1 h
        refine wp_seg (C := gC0) (pc1 := 563) (Lo1 := [some (.ref mScr), some (.ref 0), some (.ref 43), some (.ref 67), some (.int l4), some (.int (1 : Int32)), some (.int r2)]) (st1' := [.int (0 : Int32), .ref 67]) (w1 := (wv x1 I3 J3)) rfl 2 rfl ?_
        refine wa_l (n := 1) rfl rfl k.1 ?_
        have k := k.2
        refine wp_seg (C := gC0) (pc1 := 568) (Lo1 := [some (.ref mScr), some (.ref 0), some (.ref 43), some (.ref 67), some (.int l4), some (.int (1 : Int32)), some (.int r2)]) (st1' := [.int (lg_cmp (J3 67 (0 : Int32).toNatClampNeg) r2.toInt64)]) (w1 := (wv x1 I3 J3)) rfl 3 rfl ?_
        refine wi_eq (tgt := 573) rfl rfl (fun h => ?_) (fun h => ?_)
        · have k := k.1 h
          refine wp_seg (C := gC0) (pc1 := 1390) (Lo1 := [some (.ref mScr), some (.ref 0), some (.ref 43), some (.ref 67), some (.int l4), some (.int (1 : Int32)), some (.int r2)]) (st1' := []) (w1 := (wv x1 I3 J3)) rfl 1 rfl ?_
          exact wp_sub (Lo := [some (.ref mScr), some (.ref 0), some (.ref 43), some (.ref 67), some (.int l4), none, none]) (And.intro rfl (And.intro rfl (And.intro rfl (And.intro rfl (And.intro rfl (trivial)))))) k
        · have k := k.2 h
          refine wp_seg (C := gC0) (pc1 := 572) (Lo1 := [some (.ref mScr), some (.ref 0), some (.ref 43), some (.ref 67), some (.int l4), some (.int (1 : Int32)), some (.int r2)]) (st1' := [.int (0 : Int32)]) (w1 := (wv x1 I3 J3)) rfl 1 rfl ?_
          exact wp_iret rfl (Or.inr ⟨rfl, Or.inl rfl⟩) k
      · have k := k.2 h
        refine wp_seg (C := gC0) (pc1 := 1390) (Lo1 := [some (.ref mScr), some (.ref 0), some (.ref 43), some (.ref 67), some (.int l4), some (.int (1 : Int32)), some (.int r2)]) (st1' := []) (w1 := (wv x1 I3 J3)) rfl 1 rfl ?_
        exact wp_sub (Lo := [some (.ref mScr), some (.ref 0), some (.ref 43), some (.ref 67), some (.int l4), none, none]) (And.intro rfl (And.intro rfl (And.intro rfl (And.intro rfl (And.intro rfl (trivial)))))) k
    · have k := k.2 h
      refine wp_seg (C := gC0) (pc1 := 555) (Lo1 := [some (.ref mScr), some (.ref 0), some (.ref 43), some (.ref 67), some (.int l4), some (.int (1 : Int32)), some (.int r2)]) (st1' := [.int (0 : Int32)]) (w1 := (wv x1 I3 J3)) rfl 1 rfl ?_
      exact wp_iret rfl (Or.inr ⟨rfl, Or.inl rfl⟩) k
set_option maxRecDepth 20000 in
theorem L_576 {S : Nat × (Nat → Int32)} {d : Nat} {x : mX} {I : rI0} {J : rJ0} {l4 : Int32} {Q : mO → mW → Prop} (k : (¬ mOut (l4 + (1 : Int32)) S.1 ∧ (¬ mOut (l4 + (2 : Int32)) S.1 ∧ (¬ mOut (l4 + (3 : Int32)) S.1 ∧ (¬ mOut (l4 + (4 : Int32)) S.1 ∧ (wcI S (d + 7) 109 [.ref 0, .int (S.2 (l4 + (1 : Int32)).toNatClampNeg), .int (S.2 (l4 + (2 : Int32)).toNatClampNeg), .int (S.2 (l4 + (3 : Int32)).toNatClampNeg), .int (S.2 (l4 + (4 : Int32)).toNatClampNeg)] x I J (fun r1 I1 J1 => (¬ mOut (l4 + (1 : Int32)) S.1 ∧ (¬ mOut (l4 + (2 : Int32)) S.1 ∧ (¬ mOut (l4 + (3 : Int32)) S.1 ∧ (¬ mOut (l4 + (4 : Int32)) S.1 ∧ (wcI S (d + 7) 204 [.ref 43, .int (S.2 (l4 + (1 : Int32)).toNatClampNeg), .int (S.2 (l4 + (2 : Int32)).toNatClampNeg), .int (S.2 (l4 + (3 : Int32)).toNatClampNeg), .int (S.2 (l4 + (4 : Int32)).toNatClampNeg)] x I1 J1 (fun r2 I2 J2 => wp S (d + 8) 0 1390 [some (.ref mScr), some (.ref 0), some (.ref 43), some (.ref 67), some (.int l4), none, none] [] (wv x I2 J2) Q))))))))))))) : wp S (d + 8) 0 576 [some (.ref mScr), some (.ref 0), some (.ref 43), some (.ref 67), some (.int l4), none, none] [] (wv x I J) Q := by
  refine wp_seg (C := gC0) (pc1 := 582) (Lo1 := [some (.ref mScr), some (.ref 0), some (.ref 43), some (.ref 67), some (.int l4), none, none]) (st1' := [.int (l4 + (1 : Int32)), .ref mScr, .ref 0]) (w1 := (wv x I J)) rfl 5 rfl ?_
  refine wa_s rfl k.1 ?_
  have k := k.2
  refine wp_seg (C := gC0) (pc1 := 588) (Lo1 := [some (.ref mScr), some (.ref 0), some (.ref 43), some (.ref 67), some (.int l4), none, none]) (st1' := [.int (l4 + (2 : Int32)), .ref mScr, .int (S.2 (l4 + (1 : Int32)).toNatClampNeg), .ref 0]) (w1 := (wv x I J)) rfl 4 rfl ?_
  refine wa_s rfl k.1 ?_
  have k := k.2
  refine wp_seg (C := gC0) (pc1 := 594) (Lo1 := [some (.ref mScr), some (.ref 0), some (.ref 43), some (.ref 67), some (.int l4), none, none]) (st1' := [.int (l4 + (3 : Int32)), .ref mScr, .int (S.2 (l4 + (2 : Int32)).toNatClampNeg), .int (S.2 (l4 + (1 : Int32)).toNatClampNeg), .ref 0]) (w1 := (wv x I J)) rfl 4 rfl ?_
  refine wa_s rfl k.1 ?_
  have k := k.2
  refine wp_seg (C := gC0) (pc1 := 600) (Lo1 := [some (.ref mScr), some (.ref 0), some (.ref 43), some (.ref 67), some (.int l4), none, none]) (st1' := [.int (l4 + (4 : Int32)), .ref mScr, .int (S.2 (l4 + (3 : Int32)).toNatClampNeg), .int (S.2 (l4 + (2 : Int32)).toNatClampNeg), .int (S.2 (l4 + (1 : Int32)).toNatClampNeg), .ref 0]) (w1 := (wv x I J)) rfl 4 rfl ?_
  refine wa_s rfl k.1 ?_
  have k := k.2
  refine cv_I (mj := 109) (a := 0) (as := [.int (S.2 (l4 + (1 : Int32)).toNatClampNeg), .int (S.2 (l4 + (2 : Int32)).toNatClampNeg), .int (S.2 (l4 + (3 : Int32)).toNatClampNeg), .int (S.2 (l4 + (4 : Int32)).toNatClampNeg)]) (r := []) rfl rfl rfl ⟨rfl, by decide, Nat.le_of_ble_eq_true rfl, Nat.le_of_ble_eq_true rfl⟩ rfl (wcI_mono k (fun r1 I1 J1 k => ?_))
  refine wp_seg (C := gC0) (pc1 := 611) (Lo1 := [some (.ref mScr), some (.ref 0), some (.ref 43), some (.ref 67), some (.int l4), none, none]) (st1' := [.int (l4 + (1 : Int32)), .ref mScr, .ref 43]) (w1 := (wv x I1 J1)) rfl 6 rfl ?_
  refine wa_s rfl k.1 ?_
  have k := k.2
  refine wp_seg (C := gC0) (pc1 := 617) (Lo1 := [some (.ref mScr), some (.ref 0), some (.ref 43), some (.ref 67), some (.int l4), none, none]) (st1' := [.int (l4 + (2 : Int32)), .ref mScr, .int (S.2 (l4 + (1 : Int32)).toNatClampNeg), .ref 43]) (w1 := (wv x I1 J1)) rfl 4 rfl ?_
  refine wa_s rfl k.1 ?_
  have k := k.2
  refine wp_seg (C := gC0) (pc1 := 623) (Lo1 := [some (.ref mScr), some (.ref 0), some (.ref 43), some (.ref 67), some (.int l4), none, none]) (st1' := [.int (l4 + (3 : Int32)), .ref mScr, .int (S.2 (l4 + (2 : Int32)).toNatClampNeg), .int (S.2 (l4 + (1 : Int32)).toNatClampNeg), .ref 43]) (w1 := (wv x I1 J1)) rfl 4 rfl ?_
  refine wa_s rfl k.1 ?_
  have k := k.2
  refine wp_seg (C := gC0) (pc1 := 629) (Lo1 := [some (.ref mScr), some (.ref 0), some (.ref 43), some (.ref 67), some (.int l4), none, none]) (st1' := [.int (l4 + (4 : Int32)), .ref mScr, .int (S.2 (l4 + (3 : Int32)).toNatClampNeg), .int (S.2 (l4 + (2 : Int32)).toNatClampNeg), .int (S.2 (l4 + (1 : Int32)).toNatClampNeg), .ref 43]) (w1 := (wv x I1 J1)) rfl 4 rfl ?_
  refine wa_s rfl k.1 ?_
  have k := k.2
  refine cv_I (mj := 204) (a := 43) (as := [.int (S.2 (l4 + (1 : Int32)).toNatClampNeg), .int (S.2 (l4 + (2 : Int32)).toNatClampNeg), .int (S.2 (l4 + (3 : Int32)).toNatClampNeg), .int (S.2 (l4 + (4 : Int32)).toNatClampNeg)]) (r := []) rfl rfl rfl ⟨rfl, by decide, Nat.le_of_ble_eq_true rfl, Nat.le_of_ble_eq_true rfl⟩ rfl (wcI_mono k (fun r2 I2 J2 k => ?_))
  refine wp_seg (C := gC0) (pc1 := 1390) (Lo1 := [some (.ref mScr), some (.ref 0), some (.ref 43), some (.ref 67), some (.int l4), none, none]) (st1' := []) (w1 := (wv x I2 J2)) rfl 2 rfl ?_
  exact k
set_option maxRecDepth 20000 in
theorem L_637 {S : Nat × (Nat → Int32)} {d : Nat} {x : mX} {I : rI0} {J : rJ0} {l4 : Int32} {Q : mO → mW → Prop} (k : (¬ mOut (l4 + (1 : Int32)) S.1 ∧ (¬ mOut (l4 + (2 : Int32)) S.1 ∧ (¬ mOut (l4 + (3 : Int32)) S.1 ∧ (wcI S (d + 7) 110 [.ref 0, .int (S.2 (l4 + (1 : Int32)).toNatClampNeg), .int (S.2 (l4 + (2 : Int32)).toNatClampNeg), .int (S.2 (l4 + (3 : Int32)).toNatClampNeg)] x I J (fun r1 I1 J1 => (¬ mOut (l4 + (1 : Int32)) S.1 ∧ (¬ mOut (l4 + (2 : Int32)) S.1 ∧ (¬ mOut (l4 + (3 : Int32)) S.1 ∧ (wcI S (d + 7) 205 [.ref 43, .int (S.2 (l4 + (1 : Int32)).toNatClampNeg), .int (S.2 (l4 + (2 : Int32)).toNatClampNeg), .int (S.2 (l4 + (3 : Int32)).toNatClampNeg)] x I1 J1 (fun r2 I2 J2 => wp S (d + 8) 0 1390 [some (.ref mScr), some (.ref 0), some (.ref 43), some (.ref 67), some (.int l4), none, none] [] (wv x I2 J2) Q))))))))))) : wp S (d + 8) 0 637 [some (.ref mScr), some (.ref 0), some (.ref 43), some (.ref 67), some (.int l4), none, none] [] (wv x I J) Q := by
  refine wp_seg (C := gC0) (pc1 := 643) (Lo1 := [some (.ref mScr), some (.ref 0), some (.ref 43), some (.ref 67), some (.int l4), none, none]) (st1' := [.int (l4 + (1 : Int32)), .ref mScr, .ref 0]) (w1 := (wv x I J)) rfl 5 rfl ?_
  refine wa_s rfl k.1 ?_
  have k := k.2
  refine wp_seg (C := gC0) (pc1 := 649) (Lo1 := [some (.ref mScr), some (.ref 0), some (.ref 43), some (.ref 67), some (.int l4), none, none]) (st1' := [.int (l4 + (2 : Int32)), .ref mScr, .int (S.2 (l4 + (1 : Int32)).toNatClampNeg), .ref 0]) (w1 := (wv x I J)) rfl 4 rfl ?_
  refine wa_s rfl k.1 ?_
  have k := k.2
  refine wp_seg (C := gC0) (pc1 := 655) (Lo1 := [some (.ref mScr), some (.ref 0), some (.ref 43), some (.ref 67), some (.int l4), none, none]) (st1' := [.int (l4 + (3 : Int32)), .ref mScr, .int (S.2 (l4 + (2 : Int32)).toNatClampNeg), .int (S.2 (l4 + (1 : Int32)).toNatClampNeg), .ref 0]) (w1 := (wv x I J)) rfl 4 rfl ?_
  refine wa_s rfl k.1 ?_
  have k := k.2
  refine cv_I (mj := 110) (a := 0) (as := [.int (S.2 (l4 + (1 : Int32)).toNatClampNeg), .int (S.2 (l4 + (2 : Int32)).toNatClampNeg), .int (S.2 (l4 + (3 : Int32)).toNatClampNeg)]) (r := []) rfl rfl rfl ⟨rfl, by decide, Nat.le_of_ble_eq_true rfl, Nat.le_of_ble_eq_true rfl⟩ rfl (wcI_mono k (fun r1 I1 J1 k => ?_))
  refine wp_seg (C := gC0) (pc1 := 666) (Lo1 := [some (.ref mScr), some (.ref 0), some (.ref 43), some (.ref 67), some (.int l4), none, none]) (st1' := [.int (l4 + (1 : Int32)), .ref mScr, .ref 43]) (w1 := (wv x I1 J1)) rfl 6 rfl ?_
  refine wa_s rfl k.1 ?_
  have k := k.2
  refine wp_seg (C := gC0) (pc1 := 672) (Lo1 := [some (.ref mScr), some (.ref 0), some (.ref 43), some (.ref 67), some (.int l4), none, none]) (st1' := [.int (l4 + (2 : Int32)), .ref mScr, .int (S.2 (l4 + (1 : Int32)).toNatClampNeg), .ref 43]) (w1 := (wv x I1 J1)) rfl 4 rfl ?_
  refine wa_s rfl k.1 ?_
  have k := k.2
  refine wp_seg (C := gC0) (pc1 := 678) (Lo1 := [some (.ref mScr), some (.ref 0), some (.ref 43), some (.ref 67), some (.int l4), none, none]) (st1' := [.int (l4 + (3 : Int32)), .ref mScr, .int (S.2 (l4 + (2 : Int32)).toNatClampNeg), .int (S.2 (l4 + (1 : Int32)).toNatClampNeg), .ref 43]) (w1 := (wv x I1 J1)) rfl 4 rfl ?_
  refine wa_s rfl k.1 ?_
  have k := k.2
  refine cv_I (mj := 205) (a := 43) (as := [.int (S.2 (l4 + (1 : Int32)).toNatClampNeg), .int (S.2 (l4 + (2 : Int32)).toNatClampNeg), .int (S.2 (l4 + (3 : Int32)).toNatClampNeg)]) (r := []) rfl rfl rfl ⟨rfl, by decide, Nat.le_of_ble_eq_true rfl, Nat.le_of_ble_eq_true rfl⟩ rfl (wcI_mono k (fun r2 I2 J2 k => ?_))
  refine wp_seg (C := gC0) (pc1 := 1390) (Lo1 := [some (.ref mScr), some (.ref 0), some (.ref 43), some (.ref 67), some (.int l4), none, none]) (st1' := []) (w1 := (wv x I2 J2)) rfl 2 rfl ?_
  exact k
set_option maxRecDepth 20000 in
theorem L_686 {S : Nat × (Nat → Int32)} {d : Nat} {x : mX} {I : rI0} {J : rJ0} {l4 : Int32} {Q : mO → mW → Prop} (k : (¬ mOut (l4 + (1 : Int32)) S.1 ∧ (¬ mOut (l4 + (2 : Int32)) S.1 ∧ (wcI S (d + 7) 111 [.ref 0, .int (S.2 (l4 + (1 : Int32)).toNatClampNeg), .int (S.2 (l4 + (2 : Int32)).toNatClampNeg)] x I J (fun r1 I1 J1 => (¬ mOut (l4 + (1 : Int32)) S.1 ∧ (¬ mOut (l4 + (2 : Int32)) S.1 ∧ (wcI S (d + 7) 206 [.ref 43, .int (S.2 (l4 + (1 : Int32)).toNatClampNeg), .int (S.2 (l4 + (2 : Int32)).toNatClampNeg)] x I1 J1 (fun r2 I2 J2 => wp S (d + 8) 0 1390 [some (.ref mScr), some (.ref 0), some (.ref 43), some (.ref 67), some (.int l4), none, none] [] (wv x I2 J2) Q))))))))) : wp S (d + 8) 0 686 [some (.ref mScr), some (.ref 0), some (.ref 43), some (.ref 67), some (.int l4), none, none] [] (wv x I J) Q := by
  refine wp_seg (C := gC0) (pc1 := 692) (Lo1 := [some (.ref mScr), some (.ref 0), some (.ref 43), some (.ref 67), some (.int l4), none, none]) (st1' := [.int (l4 + (1 : Int32)), .ref mScr, .ref 0]) (w1 := (wv x I J)) rfl 5 rfl ?_
  refine wa_s rfl k.1 ?_
  have k := k.2
  refine wp_seg (C := gC0) (pc1 := 698) (Lo1 := [some (.ref mScr), some (.ref 0), some (.ref 43), some (.ref 67), some (.int l4), none, none]) (st1' := [.int (l4 + (2 : Int32)), .ref mScr, .int (S.2 (l4 + (1 : Int32)).toNatClampNeg), .ref 0]) (w1 := (wv x I J)) rfl 4 rfl ?_
  refine wa_s rfl k.1 ?_
  have k := k.2
  refine cv_I (mj := 111) (a := 0) (as := [.int (S.2 (l4 + (1 : Int32)).toNatClampNeg), .int (S.2 (l4 + (2 : Int32)).toNatClampNeg)]) (r := []) rfl rfl rfl ⟨rfl, by decide, Nat.le_of_ble_eq_true rfl, Nat.le_of_ble_eq_true rfl⟩ rfl (wcI_mono k (fun r1 I1 J1 k => ?_))
  refine wp_seg (C := gC0) (pc1 := 709) (Lo1 := [some (.ref mScr), some (.ref 0), some (.ref 43), some (.ref 67), some (.int l4), none, none]) (st1' := [.int (l4 + (1 : Int32)), .ref mScr, .ref 43]) (w1 := (wv x I1 J1)) rfl 6 rfl ?_
  refine wa_s rfl k.1 ?_
  have k := k.2
  refine wp_seg (C := gC0) (pc1 := 715) (Lo1 := [some (.ref mScr), some (.ref 0), some (.ref 43), some (.ref 67), some (.int l4), none, none]) (st1' := [.int (l4 + (2 : Int32)), .ref mScr, .int (S.2 (l4 + (1 : Int32)).toNatClampNeg), .ref 43]) (w1 := (wv x I1 J1)) rfl 4 rfl ?_
  refine wa_s rfl k.1 ?_
  have k := k.2
  refine cv_I (mj := 206) (a := 43) (as := [.int (S.2 (l4 + (1 : Int32)).toNatClampNeg), .int (S.2 (l4 + (2 : Int32)).toNatClampNeg)]) (r := []) rfl rfl rfl ⟨rfl, by decide, Nat.le_of_ble_eq_true rfl, Nat.le_of_ble_eq_true rfl⟩ rfl (wcI_mono k (fun r2 I2 J2 k => ?_))
  refine wp_seg (C := gC0) (pc1 := 1390) (Lo1 := [some (.ref mScr), some (.ref 0), some (.ref 43), some (.ref 67), some (.int l4), none, none]) (st1' := []) (w1 := (wv x I2 J2)) rfl 2 rfl ?_
  exact k
set_option maxRecDepth 20000 in
theorem L_723 {S : Nat × (Nat → Int32)} {d : Nat} {x : mX} {I : rI0} {J : rJ0} {l4 : Int32} {Q : mO → mW → Prop} (k : (¬ mOut (l4 + (1 : Int32)) S.1 ∧ (¬ mOut (l4 + (2 : Int32)) S.1 ∧ (¬ mOut (l4 + (3 : Int32)) S.1 ∧ (wcI S (d + 7) 112 [.ref 0, .int (S.2 (l4 + (1 : Int32)).toNatClampNeg), .int (S.2 (l4 + (2 : Int32)).toNatClampNeg), .int (S.2 (l4 + (3 : Int32)).toNatClampNeg)] x I J (fun r1 I1 J1 => (¬ mOut (l4 + (1 : Int32)) S.1 ∧ (¬ mOut (l4 + (2 : Int32)) S.1 ∧ (¬ mOut (l4 + (3 : Int32)) S.1 ∧ (wcI S (d + 7) 207 [.ref 43, .int (S.2 (l4 + (1 : Int32)).toNatClampNeg), .int (S.2 (l4 + (2 : Int32)).toNatClampNeg), .int (S.2 (l4 + (3 : Int32)).toNatClampNeg)] x I1 J1 (fun r2 I2 J2 => wp S (d + 8) 0 1390 [some (.ref mScr), some (.ref 0), some (.ref 43), some (.ref 67), some (.int l4), none, none] [] (wv x I2 J2) Q))))))))))) : wp S (d + 8) 0 723 [some (.ref mScr), some (.ref 0), some (.ref 43), some (.ref 67), some (.int l4), none, none] [] (wv x I J) Q := by
  refine wp_seg (C := gC0) (pc1 := 729) (Lo1 := [some (.ref mScr), some (.ref 0), some (.ref 43), some (.ref 67), some (.int l4), none, none]) (st1' := [.int (l4 + (1 : Int32)), .ref mScr, .ref 0]) (w1 := (wv x I J)) rfl 5 rfl ?_
  refine wa_s rfl k.1 ?_
  have k := k.2
  refine wp_seg (C := gC0) (pc1 := 735) (Lo1 := [some (.ref mScr), some (.ref 0), some (.ref 43), some (.ref 67), some (.int l4), none, none]) (st1' := [.int (l4 + (2 : Int32)), .ref mScr, .int (S.2 (l4 + (1 : Int32)).toNatClampNeg), .ref 0]) (w1 := (wv x I J)) rfl 4 rfl ?_
  refine wa_s rfl k.1 ?_
  have k := k.2
  refine wp_seg (C := gC0) (pc1 := 741) (Lo1 := [some (.ref mScr), some (.ref 0), some (.ref 43), some (.ref 67), some (.int l4), none, none]) (st1' := [.int (l4 + (3 : Int32)), .ref mScr, .int (S.2 (l4 + (2 : Int32)).toNatClampNeg), .int (S.2 (l4 + (1 : Int32)).toNatClampNeg), .ref 0]) (w1 := (wv x I J)) rfl 4 rfl ?_
  refine wa_s rfl k.1 ?_
  have k := k.2
  refine cv_I (mj := 112) (a := 0) (as := [.int (S.2 (l4 + (1 : Int32)).toNatClampNeg), .int (S.2 (l4 + (2 : Int32)).toNatClampNeg), .int (S.2 (l4 + (3 : Int32)).toNatClampNeg)]) (r := []) rfl rfl rfl ⟨rfl, by decide, Nat.le_of_ble_eq_true rfl, Nat.le_of_ble_eq_true rfl⟩ rfl (wcI_mono k (fun r1 I1 J1 k => ?_))
  refine wp_seg (C := gC0) (pc1 := 752) (Lo1 := [some (.ref mScr), some (.ref 0), some (.ref 43), some (.ref 67), some (.int l4), none, none]) (st1' := [.int (l4 + (1 : Int32)), .ref mScr, .ref 43]) (w1 := (wv x I1 J1)) rfl 6 rfl ?_
  refine wa_s rfl k.1 ?_
  have k := k.2
  refine wp_seg (C := gC0) (pc1 := 758) (Lo1 := [some (.ref mScr), some (.ref 0), some (.ref 43), some (.ref 67), some (.int l4), none, none]) (st1' := [.int (l4 + (2 : Int32)), .ref mScr, .int (S.2 (l4 + (1 : Int32)).toNatClampNeg), .ref 43]) (w1 := (wv x I1 J1)) rfl 4 rfl ?_
  refine wa_s rfl k.1 ?_
  have k := k.2
  refine wp_seg (C := gC0) (pc1 := 764) (Lo1 := [some (.ref mScr), some (.ref 0), some (.ref 43), some (.ref 67), some (.int l4), none, none]) (st1' := [.int (l4 + (3 : Int32)), .ref mScr, .int (S.2 (l4 + (2 : Int32)).toNatClampNeg), .int (S.2 (l4 + (1 : Int32)).toNatClampNeg), .ref 43]) (w1 := (wv x I1 J1)) rfl 4 rfl ?_
  refine wa_s rfl k.1 ?_
  have k := k.2
  refine cv_I (mj := 207) (a := 43) (as := [.int (S.2 (l4 + (1 : Int32)).toNatClampNeg), .int (S.2 (l4 + (2 : Int32)).toNatClampNeg), .int (S.2 (l4 + (3 : Int32)).toNatClampNeg)]) (r := []) rfl rfl rfl ⟨rfl, by decide, Nat.le_of_ble_eq_true rfl, Nat.le_of_ble_eq_true rfl⟩ rfl (wcI_mono k (fun r2 I2 J2 k => ?_))
  refine wp_seg (C := gC0) (pc1 := 1390) (Lo1 := [some (.ref mScr), some (.ref 0), some (.ref 43), some (.ref 67), some (.int l4), none, none]) (st1' := []) (w1 := (wv x I2 J2)) rfl 2 rfl ?_
  exact k
set_option maxRecDepth 20000 in
theorem L_772 {S : Nat × (Nat → Int32)} {d : Nat} {x : mX} {I : rI0} {J : rJ0} {l4 : Int32} {Q : mO → mW → Prop} (k : (¬ mOut (l4 + (1 : Int32)) S.1 ∧ (wcI S (d + 7) 113 [.ref 0, .int (S.2 (l4 + (1 : Int32)).toNatClampNeg)] x I J (fun r1 I1 J1 => (¬ mOut (l4 + (1 : Int32)) S.1 ∧ (wcI S (d + 7) 208 [.ref 43, .int (S.2 (l4 + (1 : Int32)).toNatClampNeg)] x I1 J1 (fun r2 I2 J2 => wp S (d + 8) 0 1390 [some (.ref mScr), some (.ref 0), some (.ref 43), some (.ref 67), some (.int l4), none, none] [] (wv x I2 J2) Q))))))) : wp S (d + 8) 0 772 [some (.ref mScr), some (.ref 0), some (.ref 43), some (.ref 67), some (.int l4), none, none] [] (wv x I J) Q := by
  refine wp_seg (C := gC0) (pc1 := 778) (Lo1 := [some (.ref mScr), some (.ref 0), some (.ref 43), some (.ref 67), some (.int l4), none, none]) (st1' := [.int (l4 + (1 : Int32)), .ref mScr, .ref 0]) (w1 := (wv x I J)) rfl 5 rfl ?_
  refine wa_s rfl k.1 ?_
  have k := k.2
  refine cv_I (mj := 113) (a := 0) (as := [.int (S.2 (l4 + (1 : Int32)).toNatClampNeg)]) (r := []) rfl rfl rfl ⟨rfl, by decide, Nat.le_of_ble_eq_true rfl, Nat.le_of_ble_eq_true rfl⟩ rfl (wcI_mono k (fun r1 I1 J1 k => ?_))
  refine wp_seg (C := gC0) (pc1 := 789) (Lo1 := [some (.ref mScr), some (.ref 0), some (.ref 43), some (.ref 67), some (.int l4), none, none]) (st1' := [.int (l4 + (1 : Int32)), .ref mScr, .ref 43]) (w1 := (wv x I1 J1)) rfl 6 rfl ?_
  refine wa_s rfl k.1 ?_
  have k := k.2
  refine cv_I (mj := 208) (a := 43) (as := [.int (S.2 (l4 + (1 : Int32)).toNatClampNeg)]) (r := []) rfl rfl rfl ⟨rfl, by decide, Nat.le_of_ble_eq_true rfl, Nat.le_of_ble_eq_true rfl⟩ rfl (wcI_mono k (fun r2 I2 J2 k => ?_))
  refine wp_seg (C := gC0) (pc1 := 1390) (Lo1 := [some (.ref mScr), some (.ref 0), some (.ref 43), some (.ref 67), some (.int l4), none, none]) (st1' := []) (w1 := (wv x I2 J2)) rfl 2 rfl ?_
  exact k
set_option maxRecDepth 20000 in
theorem L_797 {S : Nat × (Nat → Int32)} {d : Nat} {x : mX} {I : rI0} {J : rJ0} {l4 : Int32} {Q : mO → mW → Prop} (k : (¬ mOut (l4 + (1 : Int32)) S.1 ∧ (wcI S (d + 7) 114 [.ref 0, .int (S.2 (l4 + (1 : Int32)).toNatClampNeg)] x I J (fun r1 I1 J1 => (¬ mOut (l4 + (1 : Int32)) S.1 ∧ (wcI S (d + 7) 209 [.ref 43, .int (S.2 (l4 + (1 : Int32)).toNatClampNeg)] x I1 J1 (fun r2 I2 J2 => wp S (d + 8) 0 1390 [some (.ref mScr), some (.ref 0), some (.ref 43), some (.ref 67), some (.int l4), none, none] [] (wv x I2 J2) Q))))))) : wp S (d + 8) 0 797 [some (.ref mScr), some (.ref 0), some (.ref 43), some (.ref 67), some (.int l4), none, none] [] (wv x I J) Q := by
  refine wp_seg (C := gC0) (pc1 := 803) (Lo1 := [some (.ref mScr), some (.ref 0), some (.ref 43), some (.ref 67), some (.int l4), none, none]) (st1' := [.int (l4 + (1 : Int32)), .ref mScr, .ref 0]) (w1 := (wv x I J)) rfl 5 rfl ?_
  refine wa_s rfl k.1 ?_
  have k := k.2
  refine cv_I (mj := 114) (a := 0) (as := [.int (S.2 (l4 + (1 : Int32)).toNatClampNeg)]) (r := []) rfl rfl rfl ⟨rfl, by decide, Nat.le_of_ble_eq_true rfl, Nat.le_of_ble_eq_true rfl⟩ rfl (wcI_mono k (fun r1 I1 J1 k => ?_))
  refine wp_seg (C := gC0) (pc1 := 814) (Lo1 := [some (.ref mScr), some (.ref 0), some (.ref 43), some (.ref 67), some (.int l4), none, none]) (st1' := [.int (l4 + (1 : Int32)), .ref mScr, .ref 43]) (w1 := (wv x I1 J1)) rfl 6 rfl ?_
  refine wa_s rfl k.1 ?_
  have k := k.2
  refine cv_I (mj := 209) (a := 43) (as := [.int (S.2 (l4 + (1 : Int32)).toNatClampNeg)]) (r := []) rfl rfl rfl ⟨rfl, by decide, Nat.le_of_ble_eq_true rfl, Nat.le_of_ble_eq_true rfl⟩ rfl (wcI_mono k (fun r2 I2 J2 k => ?_))
  refine wp_seg (C := gC0) (pc1 := 1390) (Lo1 := [some (.ref mScr), some (.ref 0), some (.ref 43), some (.ref 67), some (.int l4), none, none]) (st1' := []) (w1 := (wv x I2 J2)) rfl 2 rfl ?_
  exact k
set_option maxRecDepth 20000 in
theorem L_822 {S : Nat × (Nat → Int32)} {d : Nat} {x : mX} {I : rI0} {J : rJ0} {l4 : Int32} {Q : mO → mW → Prop} (k : (wcI S (d + 7) 115 [.ref 0] x I J (fun r1 I1 J1 => (wcI S (d + 7) 211 [.ref 43] x I1 J1 (fun r2 I2 J2 => wp S (d + 8) 0 1390 [some (.ref mScr), some (.ref 0), some (.ref 43), some (.ref 67), some (.int l4), none, none] [] (wv x I2 J2) Q))))) : wp S (d + 8) 0 822 [some (.ref mScr), some (.ref 0), some (.ref 43), some (.ref 67), some (.int l4), none, none] [] (wv x I J) Q := by
  refine wp_seg (C := gC0) (pc1 := 823) (Lo1 := [some (.ref mScr), some (.ref 0), some (.ref 43), some (.ref 67), some (.int l4), none, none]) (st1' := [.ref 0]) (w1 := (wv x I J)) rfl 1 rfl ?_
  refine cv_I (mj := 115) (a := 0) (as := []) (r := []) rfl rfl rfl ⟨rfl, by decide, Nat.le_of_ble_eq_true rfl, Nat.le_of_ble_eq_true rfl⟩ rfl (wcI_mono k (fun r1 I1 J1 k => ?_))
  refine wp_seg (C := gC0) (pc1 := 828) (Lo1 := [some (.ref mScr), some (.ref 0), some (.ref 43), some (.ref 67), some (.int l4), none, none]) (st1' := [.ref 43]) (w1 := (wv x I1 J1)) rfl 2 rfl ?_
  refine cv_I (mj := 211) (a := 43) (as := []) (r := []) rfl rfl rfl ⟨rfl, by decide, Nat.le_of_ble_eq_true rfl, Nat.le_of_ble_eq_true rfl⟩ rfl (wcI_mono k (fun r2 I2 J2 k => ?_))
  refine wp_seg (C := gC0) (pc1 := 1390) (Lo1 := [some (.ref mScr), some (.ref 0), some (.ref 43), some (.ref 67), some (.int l4), none, none]) (st1' := []) (w1 := (wv x I2 J2)) rfl 2 rfl ?_
  exact k
set_option maxRecDepth 20000 in
theorem L_835 {S : Nat × (Nat → Int32)} {d : Nat} {x : mX} {I : rI0} {J : rJ0} {l4 : Int32} {Q : mO → mW → Prop} (k : (¬ mOut (l4 + (1 : Int32)) S.1 ∧ (wcI S (d + 7) 116 [.ref 0, .int (S.2 (l4 + (1 : Int32)).toNatClampNeg)] x I J (fun r1 I1 J1 => (¬ mOut (l4 + (1 : Int32)) S.1 ∧ (wcI S (d + 7) 212 [.ref 43, .int (S.2 (l4 + (1 : Int32)).toNatClampNeg)] x I1 J1 (fun r2 I2 J2 => wp S (d + 8) 0 1390 [some (.ref mScr), some (.ref 0), some (.ref 43), some (.ref 67), some (.int l4), none, none] [] (wv x I2 J2) Q))))))) : wp S (d + 8) 0 835 [some (.ref mScr), some (.ref 0), some (.ref 43), some (.ref 67), some (.int l4), none, none] [] (wv x I J) Q := by
  refine wp_seg (C := gC0) (pc1 := 841) (Lo1 := [some (.ref mScr), some (.ref 0), some (.ref 43), some (.ref 67), some (.int l4), none, none]) (st1' := [.int (l4 + (1 : Int32)), .ref mScr, .ref 0]) (w1 := (wv x I J)) rfl 5 rfl ?_
  refine wa_s rfl k.1 ?_
  have k := k.2
  refine cv_I (mj := 116) (a := 0) (as := [.int (S.2 (l4 + (1 : Int32)).toNatClampNeg)]) (r := []) rfl rfl rfl ⟨rfl, by decide, Nat.le_of_ble_eq_true rfl, Nat.le_of_ble_eq_true rfl⟩ rfl (wcI_mono k (fun r1 I1 J1 k => ?_))
  refine wp_seg (C := gC0) (pc1 := 852) (Lo1 := [some (.ref mScr), some (.ref 0), some (.ref 43), some (.ref 67), some (.int l4), none, none]) (st1' := [.int (l4 + (1 : Int32)), .ref mScr, .ref 43]) (w1 := (wv x I1 J1)) rfl 6 rfl ?_
  refine wa_s rfl k.1 ?_
  have k := k.2
  refine cv_I (mj := 212) (a := 43) (as := [.int (S.2 (l4 + (1 : Int32)).toNatClampNeg)]) (r := []) rfl rfl rfl ⟨rfl, by decide, Nat.le_of_ble_eq_true rfl, Nat.le_of_ble_eq_true rfl⟩ rfl (wcI_mono k (fun r2 I2 J2 k => ?_))
  refine wp_seg (C := gC0) (pc1 := 1390) (Lo1 := [some (.ref mScr), some (.ref 0), some (.ref 43), some (.ref 67), some (.int l4), none, none]) (st1' := []) (w1 := (wv x I2 J2)) rfl 2 rfl ?_
  exact k
set_option maxRecDepth 20000 in
theorem L_860 {S : Nat × (Nat → Int32)} {d : Nat} {x : mX} {I : rI0} {J : rJ0} {l4 : Int32} {Q : mO → mW → Prop} (k : (¬ mOut (l4 + (1 : Int32)) S.1 ∧ (wcI S (d + 7) 117 [.ref 0, .int (S.2 (l4 + (1 : Int32)).toNatClampNeg)] x I J (fun r1 I1 J1 => (¬ mOut (l4 + (1 : Int32)) S.1 ∧ (wcI S (d + 7) 214 [.ref 43, .int (S.2 (l4 + (1 : Int32)).toNatClampNeg)] x I1 J1 (fun r2 I2 J2 => wp S (d + 8) 0 1390 [some (.ref mScr), some (.ref 0), some (.ref 43), some (.ref 67), some (.int l4), none, none] [] (wv x I2 J2) Q))))))) : wp S (d + 8) 0 860 [some (.ref mScr), some (.ref 0), some (.ref 43), some (.ref 67), some (.int l4), none, none] [] (wv x I J) Q := by
  refine wp_seg (C := gC0) (pc1 := 866) (Lo1 := [some (.ref mScr), some (.ref 0), some (.ref 43), some (.ref 67), some (.int l4), none, none]) (st1' := [.int (l4 + (1 : Int32)), .ref mScr, .ref 0]) (w1 := (wv x I J)) rfl 5 rfl ?_
  refine wa_s rfl k.1 ?_
  have k := k.2
  refine cv_I (mj := 117) (a := 0) (as := [.int (S.2 (l4 + (1 : Int32)).toNatClampNeg)]) (r := []) rfl rfl rfl ⟨rfl, by decide, Nat.le_of_ble_eq_true rfl, Nat.le_of_ble_eq_true rfl⟩ rfl (wcI_mono k (fun r1 I1 J1 k => ?_))
  refine wp_seg (C := gC0) (pc1 := 877) (Lo1 := [some (.ref mScr), some (.ref 0), some (.ref 43), some (.ref 67), some (.int l4), none, none]) (st1' := [.int (l4 + (1 : Int32)), .ref mScr, .ref 43]) (w1 := (wv x I1 J1)) rfl 6 rfl ?_
  refine wa_s rfl k.1 ?_
  have k := k.2
  refine cv_I (mj := 214) (a := 43) (as := [.int (S.2 (l4 + (1 : Int32)).toNatClampNeg)]) (r := []) rfl rfl rfl ⟨rfl, by decide, Nat.le_of_ble_eq_true rfl, Nat.le_of_ble_eq_true rfl⟩ rfl (wcI_mono k (fun r2 I2 J2 k => ?_))
  refine wp_seg (C := gC0) (pc1 := 1390) (Lo1 := [some (.ref mScr), some (.ref 0), some (.ref 43), some (.ref 67), some (.int l4), none, none]) (st1' := []) (w1 := (wv x I2 J2)) rfl 2 rfl ?_
  exact k
set_option maxRecDepth 20000 in
theorem L_885 {S : Nat × (Nat → Int32)} {d : Nat} {x : mX} {I : rI0} {J : rJ0} {l4 : Int32} {Q : mO → mW → Prop} (k : (¬ mOut (l4 + (1 : Int32)) S.1 ∧ (wcI S (d + 7) 118 [.ref 0, .int (S.2 (l4 + (1 : Int32)).toNatClampNeg)] x I J (fun r1 I1 J1 => (¬ mOut (l4 + (1 : Int32)) S.1 ∧ (wcI S (d + 7) 215 [.ref 43, .int (S.2 (l4 + (1 : Int32)).toNatClampNeg)] x I1 J1 (fun r2 I2 J2 => wp S (d + 8) 0 1390 [some (.ref mScr), some (.ref 0), some (.ref 43), some (.ref 67), some (.int l4), none, none] [] (wv x I2 J2) Q))))))) : wp S (d + 8) 0 885 [some (.ref mScr), some (.ref 0), some (.ref 43), some (.ref 67), some (.int l4), none, none] [] (wv x I J) Q := by
  refine wp_seg (C := gC0) (pc1 := 891) (Lo1 := [some (.ref mScr), some (.ref 0), some (.ref 43), some (.ref 67), some (.int l4), none, none]) (st1' := [.int (l4 + (1 : Int32)), .ref mScr, .ref 0]) (w1 := (wv x I J)) rfl 5 rfl ?_
  refine wa_s rfl k.1 ?_
  have k := k.2
  refine cv_I (mj := 118) (a := 0) (as := [.int (S.2 (l4 + (1 : Int32)).toNatClampNeg)]) (r := []) rfl rfl rfl ⟨rfl, by decide, Nat.le_of_ble_eq_true rfl, Nat.le_of_ble_eq_true rfl⟩ rfl (wcI_mono k (fun r1 I1 J1 k => ?_))
  refine wp_seg (C := gC0) (pc1 := 902) (Lo1 := [some (.ref mScr), some (.ref 0), some (.ref 43), some (.ref 67), some (.int l4), none, none]) (st1' := [.int (l4 + (1 : Int32)), .ref mScr, .ref 43]) (w1 := (wv x I1 J1)) rfl 6 rfl ?_
  refine wa_s rfl k.1 ?_
  have k := k.2
  refine cv_I (mj := 215) (a := 43) (as := [.int (S.2 (l4 + (1 : Int32)).toNatClampNeg)]) (r := []) rfl rfl rfl ⟨rfl, by decide, Nat.le_of_ble_eq_true rfl, Nat.le_of_ble_eq_true rfl⟩ rfl (wcI_mono k (fun r2 I2 J2 k => ?_))
  refine wp_seg (C := gC0) (pc1 := 1390) (Lo1 := [some (.ref mScr), some (.ref 0), some (.ref 43), some (.ref 67), some (.int l4), none, none]) (st1' := []) (w1 := (wv x I2 J2)) rfl 2 rfl ?_
  exact k
set_option maxRecDepth 20000 in
theorem L_910 {S : Nat × (Nat → Int32)} {d : Nat} {x : mX} {I : rI0} {J : rJ0} {l4 : Int32} {Q : mO → mW → Prop} (k : (wcI S (d + 7) 119 [.ref 0] x I J (fun r1 I1 J1 => (wcI S (d + 7) 219 [.ref 43] x I1 J1 (fun r2 I2 J2 => wp S (d + 8) 0 1390 [some (.ref mScr), some (.ref 0), some (.ref 43), some (.ref 67), some (.int l4), none, none] [] (wv x I2 J2) Q))))) : wp S (d + 8) 0 910 [some (.ref mScr), some (.ref 0), some (.ref 43), some (.ref 67), some (.int l4), none, none] [] (wv x I J) Q := by
  refine wp_seg (C := gC0) (pc1 := 911) (Lo1 := [some (.ref mScr), some (.ref 0), some (.ref 43), some (.ref 67), some (.int l4), none, none]) (st1' := [.ref 0]) (w1 := (wv x I J)) rfl 1 rfl ?_
  refine cv_I (mj := 119) (a := 0) (as := []) (r := []) rfl rfl rfl ⟨rfl, by decide, Nat.le_of_ble_eq_true rfl, Nat.le_of_ble_eq_true rfl⟩ rfl (wcI_mono k (fun r1 I1 J1 k => ?_))
  refine wp_seg (C := gC0) (pc1 := 916) (Lo1 := [some (.ref mScr), some (.ref 0), some (.ref 43), some (.ref 67), some (.int l4), none, none]) (st1' := [.ref 43]) (w1 := (wv x I1 J1)) rfl 2 rfl ?_
  refine cv_I (mj := 219) (a := 43) (as := []) (r := []) rfl rfl rfl ⟨rfl, by decide, Nat.le_of_ble_eq_true rfl, Nat.le_of_ble_eq_true rfl⟩ rfl (wcI_mono k (fun r2 I2 J2 k => ?_))
  refine wp_seg (C := gC0) (pc1 := 1390) (Lo1 := [some (.ref mScr), some (.ref 0), some (.ref 43), some (.ref 67), some (.int l4), none, none]) (st1' := []) (w1 := (wv x I2 J2)) rfl 2 rfl ?_
  exact k
set_option maxRecDepth 20000 in
theorem L_923 {S : Nat × (Nat → Int32)} {d : Nat} {x : mX} {I : rI0} {J : rJ0} {l4 : Int32} {Q : mO → mW → Prop} (k : (wcI S (d + 7) 120 [.ref 0] x I J (fun r1 I1 J1 => (wcI S (d + 7) 220 [.ref 43] x I1 J1 (fun r2 I2 J2 => wp S (d + 8) 0 1390 [some (.ref mScr), some (.ref 0), some (.ref 43), some (.ref 67), some (.int l4), none, none] [] (wv x I2 J2) Q))))) : wp S (d + 8) 0 923 [some (.ref mScr), some (.ref 0), some (.ref 43), some (.ref 67), some (.int l4), none, none] [] (wv x I J) Q := by
  refine wp_seg (C := gC0) (pc1 := 924) (Lo1 := [some (.ref mScr), some (.ref 0), some (.ref 43), some (.ref 67), some (.int l4), none, none]) (st1' := [.ref 0]) (w1 := (wv x I J)) rfl 1 rfl ?_
  refine cv_I (mj := 120) (a := 0) (as := []) (r := []) rfl rfl rfl ⟨rfl, by decide, Nat.le_of_ble_eq_true rfl, Nat.le_of_ble_eq_true rfl⟩ rfl (wcI_mono k (fun r1 I1 J1 k => ?_))
  refine wp_seg (C := gC0) (pc1 := 929) (Lo1 := [some (.ref mScr), some (.ref 0), some (.ref 43), some (.ref 67), some (.int l4), none, none]) (st1' := [.ref 43]) (w1 := (wv x I1 J1)) rfl 2 rfl ?_
  refine cv_I (mj := 220) (a := 43) (as := []) (r := []) rfl rfl rfl ⟨rfl, by decide, Nat.le_of_ble_eq_true rfl, Nat.le_of_ble_eq_true rfl⟩ rfl (wcI_mono k (fun r2 I2 J2 k => ?_))
  refine wp_seg (C := gC0) (pc1 := 1390) (Lo1 := [some (.ref mScr), some (.ref 0), some (.ref 43), some (.ref 67), some (.int l4), none, none]) (st1' := []) (w1 := (wv x I2 J2)) rfl 2 rfl ?_
  exact k
set_option maxRecDepth 20000 in
theorem L_936 {S : Nat × (Nat → Int32)} {d : Nat} {x : mX} {I : rI0} {J : rJ0} {l4 : Int32} {Q : mO → mW → Prop} (k : (wcI S (d + 7) 121 [.ref 0] x I J (fun r1 I1 J1 => (wcI S (d + 7) 221 [.ref 43] x I1 J1 (fun r2 I2 J2 => wp S (d + 8) 0 1390 [some (.ref mScr), some (.ref 0), some (.ref 43), some (.ref 67), some (.int l4), none, none] [] (wv x I2 J2) Q))))) : wp S (d + 8) 0 936 [some (.ref mScr), some (.ref 0), some (.ref 43), some (.ref 67), some (.int l4), none, none] [] (wv x I J) Q := by
  refine wp_seg (C := gC0) (pc1 := 937) (Lo1 := [some (.ref mScr), some (.ref 0), some (.ref 43), some (.ref 67), some (.int l4), none, none]) (st1' := [.ref 0]) (w1 := (wv x I J)) rfl 1 rfl ?_
  refine cv_I (mj := 121) (a := 0) (as := []) (r := []) rfl rfl rfl ⟨rfl, by decide, Nat.le_of_ble_eq_true rfl, Nat.le_of_ble_eq_true rfl⟩ rfl (wcI_mono k (fun r1 I1 J1 k => ?_))
  refine wp_seg (C := gC0) (pc1 := 942) (Lo1 := [some (.ref mScr), some (.ref 0), some (.ref 43), some (.ref 67), some (.int l4), none, none]) (st1' := [.ref 43]) (w1 := (wv x I1 J1)) rfl 2 rfl ?_
  refine cv_I (mj := 221) (a := 43) (as := []) (r := []) rfl rfl rfl ⟨rfl, by decide, Nat.le_of_ble_eq_true rfl, Nat.le_of_ble_eq_true rfl⟩ rfl (wcI_mono k (fun r2 I2 J2 k => ?_))
  refine wp_seg (C := gC0) (pc1 := 1390) (Lo1 := [some (.ref mScr), some (.ref 0), some (.ref 43), some (.ref 67), some (.int l4), none, none]) (st1' := []) (w1 := (wv x I2 J2)) rfl 2 rfl ?_
  exact k
set_option maxRecDepth 20000 in
theorem L_949 {S : Nat × (Nat → Int32)} {d : Nat} {x : mX} {I : rI0} {J : rJ0} {l4 : Int32} {Q : mO → mW → Prop} (k : (¬ mOut (l4 + (1 : Int32)) S.1 ∧ (wcI S (d + 7) 122 [.ref 0, .int (S.2 (l4 + (1 : Int32)).toNatClampNeg)] x I J (fun r1 I1 J1 => (¬ mOut (l4 + (1 : Int32)) S.1 ∧ (wcI S (d + 7) 222 [.ref 43, .int (S.2 (l4 + (1 : Int32)).toNatClampNeg)] x I1 J1 (fun r2 I2 J2 => wp S (d + 8) 0 1390 [some (.ref mScr), some (.ref 0), some (.ref 43), some (.ref 67), some (.int l4), none, none] [] (wv x I2 J2) Q))))))) : wp S (d + 8) 0 949 [some (.ref mScr), some (.ref 0), some (.ref 43), some (.ref 67), some (.int l4), none, none] [] (wv x I J) Q := by
  refine wp_seg (C := gC0) (pc1 := 955) (Lo1 := [some (.ref mScr), some (.ref 0), some (.ref 43), some (.ref 67), some (.int l4), none, none]) (st1' := [.int (l4 + (1 : Int32)), .ref mScr, .ref 0]) (w1 := (wv x I J)) rfl 5 rfl ?_
  refine wa_s rfl k.1 ?_
  have k := k.2
  refine cv_I (mj := 122) (a := 0) (as := [.int (S.2 (l4 + (1 : Int32)).toNatClampNeg)]) (r := []) rfl rfl rfl ⟨rfl, by decide, Nat.le_of_ble_eq_true rfl, Nat.le_of_ble_eq_true rfl⟩ rfl (wcI_mono k (fun r1 I1 J1 k => ?_))
  refine wp_seg (C := gC0) (pc1 := 966) (Lo1 := [some (.ref mScr), some (.ref 0), some (.ref 43), some (.ref 67), some (.int l4), none, none]) (st1' := [.int (l4 + (1 : Int32)), .ref mScr, .ref 43]) (w1 := (wv x I1 J1)) rfl 6 rfl ?_
  refine wa_s rfl k.1 ?_
  have k := k.2
  refine cv_I (mj := 222) (a := 43) (as := [.int (S.2 (l4 + (1 : Int32)).toNatClampNeg)]) (r := []) rfl rfl rfl ⟨rfl, by decide, Nat.le_of_ble_eq_true rfl, Nat.le_of_ble_eq_true rfl⟩ rfl (wcI_mono k (fun r2 I2 J2 k => ?_))
  refine wp_seg (C := gC0) (pc1 := 1390) (Lo1 := [some (.ref mScr), some (.ref 0), some (.ref 43), some (.ref 67), some (.int l4), none, none]) (st1' := []) (w1 := (wv x I2 J2)) rfl 2 rfl ?_
  exact k
set_option maxRecDepth 20000 in
theorem L_974 {S : Nat × (Nat → Int32)} {d : Nat} {x : mX} {I : rI0} {J : rJ0} {l4 : Int32} {Q : mO → mW → Prop} (k : (wcI S (d + 7) 123 [.ref 0] x I J (fun r1 I1 J1 => (wcI S (d + 7) 224 [.ref 43] x I1 J1 (fun r2 I2 J2 => wp S (d + 8) 0 1390 [some (.ref mScr), some (.ref 0), some (.ref 43), some (.ref 67), some (.int l4), none, none] [] (wv x I2 J2) Q))))) : wp S (d + 8) 0 974 [some (.ref mScr), some (.ref 0), some (.ref 43), some (.ref 67), some (.int l4), none, none] [] (wv x I J) Q := by
  refine wp_seg (C := gC0) (pc1 := 975) (Lo1 := [some (.ref mScr), some (.ref 0), some (.ref 43), some (.ref 67), some (.int l4), none, none]) (st1' := [.ref 0]) (w1 := (wv x I J)) rfl 1 rfl ?_
  refine cv_I (mj := 123) (a := 0) (as := []) (r := []) rfl rfl rfl ⟨rfl, by decide, Nat.le_of_ble_eq_true rfl, Nat.le_of_ble_eq_true rfl⟩ rfl (wcI_mono k (fun r1 I1 J1 k => ?_))
  refine wp_seg (C := gC0) (pc1 := 980) (Lo1 := [some (.ref mScr), some (.ref 0), some (.ref 43), some (.ref 67), some (.int l4), none, none]) (st1' := [.ref 43]) (w1 := (wv x I1 J1)) rfl 2 rfl ?_
  refine cv_I (mj := 224) (a := 43) (as := []) (r := []) rfl rfl rfl ⟨rfl, by decide, Nat.le_of_ble_eq_true rfl, Nat.le_of_ble_eq_true rfl⟩ rfl (wcI_mono k (fun r2 I2 J2 k => ?_))
  refine wp_seg (C := gC0) (pc1 := 1390) (Lo1 := [some (.ref mScr), some (.ref 0), some (.ref 43), some (.ref 67), some (.int l4), none, none]) (st1' := []) (w1 := (wv x I2 J2)) rfl 2 rfl ?_
  exact k
set_option maxRecDepth 20000 in
theorem L_987 {S : Nat × (Nat → Int32)} {d : Nat} {x : mX} {I : rI0} {J : rJ0} {l4 : Int32} {Q : mO → mW → Prop} (k : (¬ mOut (l4 + (1 : Int32)) S.1 ∧ (¬ mOut (l4 + (2 : Int32)) S.1 ∧ (wcT S (d + 6) 124 [.ref 0, .int (S.2 (l4 + (1 : Int32)).toNatClampNeg), .int (S.2 (l4 + (2 : Int32)).toNatClampNeg)] x I J (fun x1 I1 J1 => (¬ mOut (l4 + (1 : Int32)) S.1 ∧ (¬ mOut (l4 + (2 : Int32)) S.1 ∧ (wcI S (d + 7) 225 [.ref 43, .int (S.2 (l4 + (1 : Int32)).toNatClampNeg), .int (S.2 (l4 + (2 : Int32)).toNatClampNeg)] x1 I1 J1 (fun r2 I2 J2 => wp S (d + 8) 0 1390 [some (.ref mScr), some (.ref 0), some (.ref 43), some (.ref 67), some (.int l4), none, none] [] (wv x1 I2 J2) Q))))) (fun r1 I1 J1 => (¬ mOut (l4 + (1 : Int32)) S.1 ∧ (¬ mOut (l4 + (2 : Int32)) S.1 ∧ (wcI S (d + 7) 225 [.ref 43, .int (S.2 (l4 + (1 : Int32)).toNatClampNeg), .int (S.2 (l4 + (2 : Int32)).toNatClampNeg)] x I1 (mSet J1 67 0 r1.toInt64) (fun r3 I3 J3 => wp S (d + 8) 0 1390 [some (.ref mScr), some (.ref 0), some (.ref 43), some (.ref 67), some (.int l4), none, none] [] (wv x I3 J3) Q))))))))) : wp S (d + 8) 0 987 [some (.ref mScr), some (.ref 0), some (.ref 43), some (.ref 67), some (.int l4), none, none] [] (wv x I J) Q := by
  refine wp_seg (C := gC0) (pc1 := 993) (Lo1 := [some (.ref mScr), some (.ref 0), some (.ref 43), some (.ref 67), some (.int l4), none, none]) (st1' := [.int (l4 + (1 : Int32)), .ref mScr, .ref 0]) (w1 := (wv x I J)) rfl 5 rfl ?_
  refine wa_s rfl k.1 ?_
  have k := k.2
  refine wp_seg (C := gC0) (pc1 := 999) (Lo1 := [some (.ref mScr), some (.ref 0), some (.ref 43), some (.ref 67), some (.int l4), none, none]) (st1' := [.int (l4 + (2 : Int32)), .ref mScr, .int (S.2 (l4 + (1 : Int32)).toNatClampNeg), .ref 0]) (w1 := (wv x I J)) rfl 4 rfl ?_
  refine wa_s rfl k.1 ?_
  have k := k.2
  refine wp_seg (C := gC0) (pc1 := 1001) (Lo1 := [some (.ref mScr), some (.ref 0), some (.ref 43), some (.ref 67), some (.int l4), none, none]) (st1' := [.ref 67, .int (S.2 (l4 + (2 : Int32)).toNatClampNeg), .int (S.2 (l4 + (1 : Int32)).toNatClampNeg), .ref 0]) (w1 := (wv x I J)) rfl 1 rfl ?_
  refine ch_T (mj := 248) (r := []) rfl rfl rfl ⟨rfl, by decide, Nat.le_of_ble_eq_true rfl, Nat.le_of_ble_eq_true rfl⟩ ⟨by decide, by decide⟩ (wc_mono k ?_)
  rintro o w (⟨r1, I1, J1, h1, h2, k⟩ | ⟨x1, I1, J1, h1, h2, k⟩)
  · refine Or.inl ⟨r1, I1, J1, h1, h2, ?_⟩
    refine wp_seg (C := gC0) (pc1 := 1012) (Lo1 := [some (.ref mScr), some (.ref 0), some (.ref 43), some (.ref 67), some (.int l4), some (.int (0 : Int32)), none]) (st1' := [.int (l4 + (1 : Int32)), .ref mScr, .ref 43]) (w1 := (wv x I1 (mSet J1 67 0 r1.toInt64))) rfl 6 rfl ?_
    refine wa_s rfl k.1 ?_
    have k := k.2
    refine wp_seg (C := gC0) (pc1 := 1018) (Lo1 := [some (.ref mScr), some (.ref 0), some (.ref 43), some (.ref 67), some (.int l4), some (.int (0 : Int32)), none]) (st1' := [.int (l4 + (2 : Int32)), .ref mScr, .int (S.2 (l4 + (1 : Int32)).toNatClampNeg), .ref 43]) (w1 := (wv x I1 (mSet J1 67 0 r1.toInt64))) rfl 4 rfl ?_
    refine wa_s rfl k.1 ?_
    have k := k.2
    refine cv_I (mj := 225) (a := 43) (as := [.int (S.2 (l4 + (1 : Int32)).toNatClampNeg), .int (S.2 (l4 + (2 : Int32)).toNatClampNeg)]) (r := []) rfl rfl rfl ⟨rfl, by decide, Nat.le_of_ble_eq_true rfl, Nat.le_of_ble_eq_true rfl⟩ rfl (wcI_mono k (fun r3 I3 J3 k => ?_))
    refine wp_seg (C := gC0) (pc1 := 1390) (Lo1 := [some (.ref mScr), some (.ref 0), some (.ref 43), some (.ref 67), some (.int l4), some (.int (0 : Int32)), some (.int r3)]) (st1' := []) (w1 := (wv x I3 J3)) rfl 2 rfl ?_
    exact wp_sub (Lo := [some (.ref mScr), some (.ref 0), some (.ref 43), some (.ref 67), some (.int l4), none, none]) (And.intro rfl (And.intro rfl (And.intro rfl (And.intro rfl (And.intro rfl (trivial)))))) k
  · refine Or.inr ⟨x1, I1, J1, h1, h2, ?_⟩
    refine wp_seg (C := gC0) (pc1 := 1012) (Lo1 := [some (.ref mScr), some (.ref 0), some (.ref 43), some (.ref 67), some (.int l4), some (.int (1 : Int32)), none]) (st1' := [.int (l4 + (1 : Int32)), .ref mScr, .ref 43]) (w1 := (wv x1 I1 J1)) rfl 6 rfl ?_
    refine wa_s rfl k.1 ?_
    have k := k.2
    refine wp_seg (C := gC0) (pc1 := 1018) (Lo1 := [some (.ref mScr), some (.ref 0), some (.ref 43), some (.ref 67), some (.int l4), some (.int (1 : Int32)), none]) (st1' := [.int (l4 + (2 : Int32)), .ref mScr, .int (S.2 (l4 + (1 : Int32)).toNatClampNeg), .ref 43]) (w1 := (wv x1 I1 J1)) rfl 4 rfl ?_
    refine wa_s rfl k.1 ?_
    have k := k.2
    refine cv_I (mj := 225) (a := 43) (as := [.int (S.2 (l4 + (1 : Int32)).toNatClampNeg), .int (S.2 (l4 + (2 : Int32)).toNatClampNeg)]) (r := []) rfl rfl rfl ⟨rfl, by decide, Nat.le_of_ble_eq_true rfl, Nat.le_of_ble_eq_true rfl⟩ rfl (wcI_mono k (fun r2 I2 J2 k => ?_))
    refine wp_seg (C := gC0) (pc1 := 1390) (Lo1 := [some (.ref mScr), some (.ref 0), some (.ref 43), some (.ref 67), some (.int l4), some (.int (1 : Int32)), some (.int r2)]) (st1' := []) (w1 := (wv x1 I2 J2)) rfl 2 rfl ?_
    exact wp_sub (Lo := [some (.ref mScr), some (.ref 0), some (.ref 43), some (.ref 67), some (.int l4), none, none]) (And.intro rfl (And.intro rfl (And.intro rfl (And.intro rfl (And.intro rfl (trivial)))))) k
set_option maxRecDepth 20000 in
theorem L_1027 {S : Nat × (Nat → Int32)} {d : Nat} {x : mX} {I : rI0} {J : rJ0} {l4 : Int32} {Q : mO → mW → Prop} (k : (wcI S (d + 7) 125 [.ref 0] x I J (fun r1 I1 J1 => (wcI S (d + 7) 226 [.ref 43] x I1 J1 (fun r2 I2 J2 => wp S (d + 8) 0 1390 [some (.ref mScr), some (.ref 0), some (.ref 43), some (.ref 67), some (.int l4), none, none] [] (wv x I2 J2) Q))))) : wp S (d + 8) 0 1027 [some (.ref mScr), some (.ref 0), some (.ref 43), some (.ref 67), some (.int l4), none, none] [] (wv x I J) Q := by
  refine wp_seg (C := gC0) (pc1 := 1028) (Lo1 := [some (.ref mScr), some (.ref 0), some (.ref 43), some (.ref 67), some (.int l4), none, none]) (st1' := [.ref 0]) (w1 := (wv x I J)) rfl 1 rfl ?_
  refine cv_I (mj := 125) (a := 0) (as := []) (r := []) rfl rfl rfl ⟨rfl, by decide, Nat.le_of_ble_eq_true rfl, Nat.le_of_ble_eq_true rfl⟩ rfl (wcI_mono k (fun r1 I1 J1 k => ?_))
  refine wp_seg (C := gC0) (pc1 := 1033) (Lo1 := [some (.ref mScr), some (.ref 0), some (.ref 43), some (.ref 67), some (.int l4), none, none]) (st1' := [.ref 43]) (w1 := (wv x I1 J1)) rfl 2 rfl ?_
  refine cv_I (mj := 226) (a := 43) (as := []) (r := []) rfl rfl rfl ⟨rfl, by decide, Nat.le_of_ble_eq_true rfl, Nat.le_of_ble_eq_true rfl⟩ rfl (wcI_mono k (fun r2 I2 J2 k => ?_))
  refine wp_seg (C := gC0) (pc1 := 1390) (Lo1 := [some (.ref mScr), some (.ref 0), some (.ref 43), some (.ref 67), some (.int l4), none, none]) (st1' := []) (w1 := (wv x I2 J2)) rfl 2 rfl ?_
  exact k
set_option maxRecDepth 20000 in
theorem L_1040 {S : Nat × (Nat → Int32)} {d : Nat} {x : mX} {I : rI0} {J : rJ0} {l4 : Int32} {Q : mO → mW → Prop} (k : (¬ mOut (l4 + (1 : Int32)) S.1 ∧ (wcI S (d + 7) 126 [.ref 0, .int (S.2 (l4 + (1 : Int32)).toNatClampNeg)] x I J (fun r1 I1 J1 => (¬ mOut (l4 + (1 : Int32)) S.1 ∧ (wcI S (d + 7) 227 [.ref 43, .int (S.2 (l4 + (1 : Int32)).toNatClampNeg)] x I1 J1 (fun r2 I2 J2 => wp S (d + 8) 0 1390 [some (.ref mScr), some (.ref 0), some (.ref 43), some (.ref 67), some (.int l4), none, none] [] (wv x I2 J2) Q))))))) : wp S (d + 8) 0 1040 [some (.ref mScr), some (.ref 0), some (.ref 43), some (.ref 67), some (.int l4), none, none] [] (wv x I J) Q := by
  refine wp_seg (C := gC0) (pc1 := 1046) (Lo1 := [some (.ref mScr), some (.ref 0), some (.ref 43), some (.ref 67), some (.int l4), none, none]) (st1' := [.int (l4 + (1 : Int32)), .ref mScr, .ref 0]) (w1 := (wv x I J)) rfl 5 rfl ?_
  refine wa_s rfl k.1 ?_
  have k := k.2
  refine cv_I (mj := 126) (a := 0) (as := [.int (S.2 (l4 + (1 : Int32)).toNatClampNeg)]) (r := []) rfl rfl rfl ⟨rfl, by decide, Nat.le_of_ble_eq_true rfl, Nat.le_of_ble_eq_true rfl⟩ rfl (wcI_mono k (fun r1 I1 J1 k => ?_))
  refine wp_seg (C := gC0) (pc1 := 1057) (Lo1 := [some (.ref mScr), some (.ref 0), some (.ref 43), some (.ref 67), some (.int l4), none, none]) (st1' := [.int (l4 + (1 : Int32)), .ref mScr, .ref 43]) (w1 := (wv x I1 J1)) rfl 6 rfl ?_
  refine wa_s rfl k.1 ?_
  have k := k.2
  refine cv_I (mj := 227) (a := 43) (as := [.int (S.2 (l4 + (1 : Int32)).toNatClampNeg)]) (r := []) rfl rfl rfl ⟨rfl, by decide, Nat.le_of_ble_eq_true rfl, Nat.le_of_ble_eq_true rfl⟩ rfl (wcI_mono k (fun r2 I2 J2 k => ?_))
  refine wp_seg (C := gC0) (pc1 := 1390) (Lo1 := [some (.ref mScr), some (.ref 0), some (.ref 43), some (.ref 67), some (.int l4), none, none]) (st1' := []) (w1 := (wv x I2 J2)) rfl 2 rfl ?_
  exact k
set_option maxRecDepth 20000 in
theorem L_1065 {S : Nat × (Nat → Int32)} {d : Nat} {x : mX} {I : rI0} {J : rJ0} {l4 : Int32} {Q : mO → mW → Prop} (k : (¬ mOut (l4 + (1 : Int32)) S.1 ∧ (wcI S (d + 7) 127 [.ref 0, .int (S.2 (l4 + (1 : Int32)).toNatClampNeg)] x I J (fun r1 I1 J1 => (¬ mOut (l4 + (1 : Int32)) S.1 ∧ (wcI S (d + 7) 229 [.ref 43, .int (S.2 (l4 + (1 : Int32)).toNatClampNeg)] x I1 J1 (fun r2 I2 J2 => wp S (d + 8) 0 1390 [some (.ref mScr), some (.ref 0), some (.ref 43), some (.ref 67), some (.int l4), none, none] [] (wv x I2 J2) Q))))))) : wp S (d + 8) 0 1065 [some (.ref mScr), some (.ref 0), some (.ref 43), some (.ref 67), some (.int l4), none, none] [] (wv x I J) Q := by
  refine wp_seg (C := gC0) (pc1 := 1071) (Lo1 := [some (.ref mScr), some (.ref 0), some (.ref 43), some (.ref 67), some (.int l4), none, none]) (st1' := [.int (l4 + (1 : Int32)), .ref mScr, .ref 0]) (w1 := (wv x I J)) rfl 5 rfl ?_
  refine wa_s rfl k.1 ?_
  have k := k.2
  refine cv_I (mj := 127) (a := 0) (as := [.int (S.2 (l4 + (1 : Int32)).toNatClampNeg)]) (r := []) rfl rfl rfl ⟨rfl, by decide, Nat.le_of_ble_eq_true rfl, Nat.le_of_ble_eq_true rfl⟩ rfl (wcI_mono k (fun r1 I1 J1 k => ?_))
  refine wp_seg (C := gC0) (pc1 := 1082) (Lo1 := [some (.ref mScr), some (.ref 0), some (.ref 43), some (.ref 67), some (.int l4), none, none]) (st1' := [.int (l4 + (1 : Int32)), .ref mScr, .ref 43]) (w1 := (wv x I1 J1)) rfl 6 rfl ?_
  refine wa_s rfl k.1 ?_
  have k := k.2
  refine cv_I (mj := 229) (a := 43) (as := [.int (S.2 (l4 + (1 : Int32)).toNatClampNeg)]) (r := []) rfl rfl rfl ⟨rfl, by decide, Nat.le_of_ble_eq_true rfl, Nat.le_of_ble_eq_true rfl⟩ rfl (wcI_mono k (fun r2 I2 J2 k => ?_))
  refine wp_seg (C := gC0) (pc1 := 1390) (Lo1 := [some (.ref mScr), some (.ref 0), some (.ref 43), some (.ref 67), some (.int l4), none, none]) (st1' := []) (w1 := (wv x I2 J2)) rfl 2 rfl ?_
  exact k
set_option maxRecDepth 20000 in
theorem L_1090 {S : Nat × (Nat → Int32)} {d : Nat} {x : mX} {I : rI0} {J : rJ0} {l4 : Int32} {Q : mO → mW → Prop} (k : (¬ mOut (l4 + (1 : Int32)) S.1 ∧ (wcI S (d + 7) 128 [.ref 0, .int (S.2 (l4 + (1 : Int32)).toNatClampNeg)] x I J (fun r1 I1 J1 => (¬ mOut (l4 + (1 : Int32)) S.1 ∧ (wcI S (d + 7) 230 [.ref 43, .int (S.2 (l4 + (1 : Int32)).toNatClampNeg)] x I1 J1 (fun r2 I2 J2 => wp S (d + 8) 0 1390 [some (.ref mScr), some (.ref 0), some (.ref 43), some (.ref 67), some (.int l4), none, none] [] (wv x I2 J2) Q))))))) : wp S (d + 8) 0 1090 [some (.ref mScr), some (.ref 0), some (.ref 43), some (.ref 67), some (.int l4), none, none] [] (wv x I J) Q := by
  refine wp_seg (C := gC0) (pc1 := 1096) (Lo1 := [some (.ref mScr), some (.ref 0), some (.ref 43), some (.ref 67), some (.int l4), none, none]) (st1' := [.int (l4 + (1 : Int32)), .ref mScr, .ref 0]) (w1 := (wv x I J)) rfl 5 rfl ?_
  refine wa_s rfl k.1 ?_
  have k := k.2
  refine cv_I (mj := 128) (a := 0) (as := [.int (S.2 (l4 + (1 : Int32)).toNatClampNeg)]) (r := []) rfl rfl rfl ⟨rfl, by decide, Nat.le_of_ble_eq_true rfl, Nat.le_of_ble_eq_true rfl⟩ rfl (wcI_mono k (fun r1 I1 J1 k => ?_))
  refine wp_seg (C := gC0) (pc1 := 1107) (Lo1 := [some (.ref mScr), some (.ref 0), some (.ref 43), some (.ref 67), some (.int l4), none, none]) (st1' := [.int (l4 + (1 : Int32)), .ref mScr, .ref 43]) (w1 := (wv x I1 J1)) rfl 6 rfl ?_
  refine wa_s rfl k.1 ?_
  have k := k.2
  refine cv_I (mj := 230) (a := 43) (as := [.int (S.2 (l4 + (1 : Int32)).toNatClampNeg)]) (r := []) rfl rfl rfl ⟨rfl, by decide, Nat.le_of_ble_eq_true rfl, Nat.le_of_ble_eq_true rfl⟩ rfl (wcI_mono k (fun r2 I2 J2 k => ?_))
  refine wp_seg (C := gC0) (pc1 := 1390) (Lo1 := [some (.ref mScr), some (.ref 0), some (.ref 43), some (.ref 67), some (.int l4), none, none]) (st1' := []) (w1 := (wv x I2 J2)) rfl 2 rfl ?_
  exact k
set_option maxRecDepth 20000 in
theorem L_1115 {S : Nat × (Nat → Int32)} {d : Nat} {x : mX} {I : rI0} {J : rJ0} {l4 : Int32} {Q : mO → mW → Prop} (k : (¬ mOut (l4 + (1 : Int32)) S.1 ∧ (¬ mOut (l4 + (2 : Int32)) S.1 ∧ (wcI S (d + 7) 129 [.ref 0, .int (S.2 (l4 + (1 : Int32)).toNatClampNeg), .int (S.2 (l4 + (2 : Int32)).toNatClampNeg)] x I J (fun r1 I1 J1 => (¬ mOut (l4 + (1 : Int32)) S.1 ∧ (¬ mOut (l4 + (2 : Int32)) S.1 ∧ (wcI S (d + 7) 231 [.ref 43, .int (S.2 (l4 + (1 : Int32)).toNatClampNeg), .int (S.2 (l4 + (2 : Int32)).toNatClampNeg)] x I1 J1 (fun r2 I2 J2 => wp S (d + 8) 0 1390 [some (.ref mScr), some (.ref 0), some (.ref 43), some (.ref 67), some (.int l4), none, none] [] (wv x I2 J2) Q))))))))) : wp S (d + 8) 0 1115 [some (.ref mScr), some (.ref 0), some (.ref 43), some (.ref 67), some (.int l4), none, none] [] (wv x I J) Q := by
  refine wp_seg (C := gC0) (pc1 := 1121) (Lo1 := [some (.ref mScr), some (.ref 0), some (.ref 43), some (.ref 67), some (.int l4), none, none]) (st1' := [.int (l4 + (1 : Int32)), .ref mScr, .ref 0]) (w1 := (wv x I J)) rfl 5 rfl ?_
  refine wa_s rfl k.1 ?_
  have k := k.2
  refine wp_seg (C := gC0) (pc1 := 1127) (Lo1 := [some (.ref mScr), some (.ref 0), some (.ref 43), some (.ref 67), some (.int l4), none, none]) (st1' := [.int (l4 + (2 : Int32)), .ref mScr, .int (S.2 (l4 + (1 : Int32)).toNatClampNeg), .ref 0]) (w1 := (wv x I J)) rfl 4 rfl ?_
  refine wa_s rfl k.1 ?_
  have k := k.2
  refine cv_I (mj := 129) (a := 0) (as := [.int (S.2 (l4 + (1 : Int32)).toNatClampNeg), .int (S.2 (l4 + (2 : Int32)).toNatClampNeg)]) (r := []) rfl rfl rfl ⟨rfl, by decide, Nat.le_of_ble_eq_true rfl, Nat.le_of_ble_eq_true rfl⟩ rfl (wcI_mono k (fun r1 I1 J1 k => ?_))
  refine wp_seg (C := gC0) (pc1 := 1138) (Lo1 := [some (.ref mScr), some (.ref 0), some (.ref 43), some (.ref 67), some (.int l4), none, none]) (st1' := [.int (l4 + (1 : Int32)), .ref mScr, .ref 43]) (w1 := (wv x I1 J1)) rfl 6 rfl ?_
  refine wa_s rfl k.1 ?_
  have k := k.2
  refine wp_seg (C := gC0) (pc1 := 1144) (Lo1 := [some (.ref mScr), some (.ref 0), some (.ref 43), some (.ref 67), some (.int l4), none, none]) (st1' := [.int (l4 + (2 : Int32)), .ref mScr, .int (S.2 (l4 + (1 : Int32)).toNatClampNeg), .ref 43]) (w1 := (wv x I1 J1)) rfl 4 rfl ?_
  refine wa_s rfl k.1 ?_
  have k := k.2
  refine cv_I (mj := 231) (a := 43) (as := [.int (S.2 (l4 + (1 : Int32)).toNatClampNeg), .int (S.2 (l4 + (2 : Int32)).toNatClampNeg)]) (r := []) rfl rfl rfl ⟨rfl, by decide, Nat.le_of_ble_eq_true rfl, Nat.le_of_ble_eq_true rfl⟩ rfl (wcI_mono k (fun r2 I2 J2 k => ?_))
  refine wp_seg (C := gC0) (pc1 := 1390) (Lo1 := [some (.ref mScr), some (.ref 0), some (.ref 43), some (.ref 67), some (.int l4), none, none]) (st1' := []) (w1 := (wv x I2 J2)) rfl 2 rfl ?_
  exact k
set_option maxRecDepth 20000 in
theorem L_1152 {S : Nat × (Nat → Int32)} {d : Nat} {x : mX} {I : rI0} {J : rJ0} {l4 : Int32} {Q : mO → mW → Prop} (k : (wcI S (d + 7) 130 [.ref 0] x I J (fun r1 I1 J1 => (wcI S (d + 7) 234 [.ref 43] x I1 J1 (fun r2 I2 J2 => wp S (d + 8) 0 1390 [some (.ref mScr), some (.ref 0), some (.ref 43), some (.ref 67), some (.int l4), none, none] [] (wv x I2 J2) Q))))) : wp S (d + 8) 0 1152 [some (.ref mScr), some (.ref 0), some (.ref 43), some (.ref 67), some (.int l4), none, none] [] (wv x I J) Q := by
  refine wp_seg (C := gC0) (pc1 := 1153) (Lo1 := [some (.ref mScr), some (.ref 0), some (.ref 43), some (.ref 67), some (.int l4), none, none]) (st1' := [.ref 0]) (w1 := (wv x I J)) rfl 1 rfl ?_
  refine cv_I (mj := 130) (a := 0) (as := []) (r := []) rfl rfl rfl ⟨rfl, by decide, Nat.le_of_ble_eq_true rfl, Nat.le_of_ble_eq_true rfl⟩ rfl (wcI_mono k (fun r1 I1 J1 k => ?_))
  refine wp_seg (C := gC0) (pc1 := 1158) (Lo1 := [some (.ref mScr), some (.ref 0), some (.ref 43), some (.ref 67), some (.int l4), none, none]) (st1' := [.ref 43]) (w1 := (wv x I1 J1)) rfl 2 rfl ?_
  refine cv_I (mj := 234) (a := 43) (as := []) (r := []) rfl rfl rfl ⟨rfl, by decide, Nat.le_of_ble_eq_true rfl, Nat.le_of_ble_eq_true rfl⟩ rfl (wcI_mono k (fun r2 I2 J2 k => ?_))
  refine wp_seg (C := gC0) (pc1 := 1390) (Lo1 := [some (.ref mScr), some (.ref 0), some (.ref 43), some (.ref 67), some (.int l4), none, none]) (st1' := []) (w1 := (wv x I2 J2)) rfl 2 rfl ?_
  exact k
set_option maxRecDepth 20000 in
theorem L_1165 {S : Nat × (Nat → Int32)} {d : Nat} {x : mX} {I : rI0} {J : rJ0} {l4 : Int32} {Q : mO → mW → Prop} (k : (¬ mOut (l4 + (1 : Int32)) S.1 ∧ (¬ mOut (l4 + (2 : Int32)) S.1 ∧ (wcI S (d + 7) 131 [.ref 0, .int (S.2 (l4 + (1 : Int32)).toNatClampNeg), .int (S.2 (l4 + (2 : Int32)).toNatClampNeg)] x I J (fun r1 I1 J1 => (¬ mOut (l4 + (1 : Int32)) S.1 ∧ (¬ mOut (l4 + (2 : Int32)) S.1 ∧ (wcI S (d + 7) 235 [.ref 43, .int (S.2 (l4 + (1 : Int32)).toNatClampNeg), .int (S.2 (l4 + (2 : Int32)).toNatClampNeg)] x I1 J1 (fun r2 I2 J2 => wp S (d + 8) 0 1390 [some (.ref mScr), some (.ref 0), some (.ref 43), some (.ref 67), some (.int l4), none, none] [] (wv x I2 J2) Q))))))))) : wp S (d + 8) 0 1165 [some (.ref mScr), some (.ref 0), some (.ref 43), some (.ref 67), some (.int l4), none, none] [] (wv x I J) Q := by
  refine wp_seg (C := gC0) (pc1 := 1171) (Lo1 := [some (.ref mScr), some (.ref 0), some (.ref 43), some (.ref 67), some (.int l4), none, none]) (st1' := [.int (l4 + (1 : Int32)), .ref mScr, .ref 0]) (w1 := (wv x I J)) rfl 5 rfl ?_
  refine wa_s rfl k.1 ?_
  have k := k.2
  refine wp_seg (C := gC0) (pc1 := 1177) (Lo1 := [some (.ref mScr), some (.ref 0), some (.ref 43), some (.ref 67), some (.int l4), none, none]) (st1' := [.int (l4 + (2 : Int32)), .ref mScr, .int (S.2 (l4 + (1 : Int32)).toNatClampNeg), .ref 0]) (w1 := (wv x I J)) rfl 4 rfl ?_
  refine wa_s rfl k.1 ?_
  have k := k.2
  refine cv_I (mj := 131) (a := 0) (as := [.int (S.2 (l4 + (1 : Int32)).toNatClampNeg), .int (S.2 (l4 + (2 : Int32)).toNatClampNeg)]) (r := []) rfl rfl rfl ⟨rfl, by decide, Nat.le_of_ble_eq_true rfl, Nat.le_of_ble_eq_true rfl⟩ rfl (wcI_mono k (fun r1 I1 J1 k => ?_))
  refine wp_seg (C := gC0) (pc1 := 1188) (Lo1 := [some (.ref mScr), some (.ref 0), some (.ref 43), some (.ref 67), some (.int l4), none, none]) (st1' := [.int (l4 + (1 : Int32)), .ref mScr, .ref 43]) (w1 := (wv x I1 J1)) rfl 6 rfl ?_
  refine wa_s rfl k.1 ?_
  have k := k.2
  refine wp_seg (C := gC0) (pc1 := 1194) (Lo1 := [some (.ref mScr), some (.ref 0), some (.ref 43), some (.ref 67), some (.int l4), none, none]) (st1' := [.int (l4 + (2 : Int32)), .ref mScr, .int (S.2 (l4 + (1 : Int32)).toNatClampNeg), .ref 43]) (w1 := (wv x I1 J1)) rfl 4 rfl ?_
  refine wa_s rfl k.1 ?_
  have k := k.2
  refine cv_I (mj := 235) (a := 43) (as := [.int (S.2 (l4 + (1 : Int32)).toNatClampNeg), .int (S.2 (l4 + (2 : Int32)).toNatClampNeg)]) (r := []) rfl rfl rfl ⟨rfl, by decide, Nat.le_of_ble_eq_true rfl, Nat.le_of_ble_eq_true rfl⟩ rfl (wcI_mono k (fun r2 I2 J2 k => ?_))
  refine wp_seg (C := gC0) (pc1 := 1390) (Lo1 := [some (.ref mScr), some (.ref 0), some (.ref 43), some (.ref 67), some (.int l4), none, none]) (st1' := []) (w1 := (wv x I2 J2)) rfl 2 rfl ?_
  exact k
set_option maxRecDepth 20000 in
theorem L_1202 {S : Nat × (Nat → Int32)} {d : Nat} {x : mX} {I : rI0} {J : rJ0} {l4 : Int32} {Q : mO → mW → Prop} (k : (¬ mOut (l4 + (1 : Int32)) S.1 ∧ (wcI S (d + 7) 132 [.ref 0, .int (S.2 (l4 + (1 : Int32)).toNatClampNeg)] x I J (fun r1 I1 J1 => (¬ mOut (l4 + (1 : Int32)) S.1 ∧ (wcI S (d + 7) 239 [.ref 43, .int (S.2 (l4 + (1 : Int32)).toNatClampNeg)] x I1 J1 (fun r2 I2 J2 => wp S (d + 8) 0 1390 [some (.ref mScr), some (.ref 0), some (.ref 43), some (.ref 67), some (.int l4), none, none] [] (wv x I2 J2) Q))))))) : wp S (d + 8) 0 1202 [some (.ref mScr), some (.ref 0), some (.ref 43), some (.ref 67), some (.int l4), none, none] [] (wv x I J) Q := by
  refine wp_seg (C := gC0) (pc1 := 1208) (Lo1 := [some (.ref mScr), some (.ref 0), some (.ref 43), some (.ref 67), some (.int l4), none, none]) (st1' := [.int (l4 + (1 : Int32)), .ref mScr, .ref 0]) (w1 := (wv x I J)) rfl 5 rfl ?_
  refine wa_s rfl k.1 ?_
  have k := k.2
  refine cv_I (mj := 132) (a := 0) (as := [.int (S.2 (l4 + (1 : Int32)).toNatClampNeg)]) (r := []) rfl rfl rfl ⟨rfl, by decide, Nat.le_of_ble_eq_true rfl, Nat.le_of_ble_eq_true rfl⟩ rfl (wcI_mono k (fun r1 I1 J1 k => ?_))
  refine wp_seg (C := gC0) (pc1 := 1219) (Lo1 := [some (.ref mScr), some (.ref 0), some (.ref 43), some (.ref 67), some (.int l4), none, none]) (st1' := [.int (l4 + (1 : Int32)), .ref mScr, .ref 43]) (w1 := (wv x I1 J1)) rfl 6 rfl ?_
  refine wa_s rfl k.1 ?_
  have k := k.2
  refine cv_I (mj := 239) (a := 43) (as := [.int (S.2 (l4 + (1 : Int32)).toNatClampNeg)]) (r := []) rfl rfl rfl ⟨rfl, by decide, Nat.le_of_ble_eq_true rfl, Nat.le_of_ble_eq_true rfl⟩ rfl (wcI_mono k (fun r2 I2 J2 k => ?_))
  refine wp_seg (C := gC0) (pc1 := 1390) (Lo1 := [some (.ref mScr), some (.ref 0), some (.ref 43), some (.ref 67), some (.int l4), none, none]) (st1' := []) (w1 := (wv x I2 J2)) rfl 2 rfl ?_
  exact k
set_option maxRecDepth 20000 in
theorem L_1227 {S : Nat × (Nat → Int32)} {d : Nat} {x : mX} {I : rI0} {J : rJ0} {l4 : Int32} {Q : mO → mW → Prop} (k : (¬ mOut (l4 + (1 : Int32)) S.1 ∧ (wcI S (d + 7) 133 [.ref 0, .int (S.2 (l4 + (1 : Int32)).toNatClampNeg)] x I J (fun r1 I1 J1 => (¬ mOut (l4 + (1 : Int32)) S.1 ∧ (wcI S (d + 7) 240 [.ref 43, .int (S.2 (l4 + (1 : Int32)).toNatClampNeg)] x I1 J1 (fun r2 I2 J2 => wp S (d + 8) 0 1390 [some (.ref mScr), some (.ref 0), some (.ref 43), some (.ref 67), some (.int l4), none, none] [] (wv x I2 J2) Q))))))) : wp S (d + 8) 0 1227 [some (.ref mScr), some (.ref 0), some (.ref 43), some (.ref 67), some (.int l4), none, none] [] (wv x I J) Q := by
  refine wp_seg (C := gC0) (pc1 := 1233) (Lo1 := [some (.ref mScr), some (.ref 0), some (.ref 43), some (.ref 67), some (.int l4), none, none]) (st1' := [.int (l4 + (1 : Int32)), .ref mScr, .ref 0]) (w1 := (wv x I J)) rfl 5 rfl ?_
  refine wa_s rfl k.1 ?_
  have k := k.2
  refine cv_I (mj := 133) (a := 0) (as := [.int (S.2 (l4 + (1 : Int32)).toNatClampNeg)]) (r := []) rfl rfl rfl ⟨rfl, by decide, Nat.le_of_ble_eq_true rfl, Nat.le_of_ble_eq_true rfl⟩ rfl (wcI_mono k (fun r1 I1 J1 k => ?_))
  refine wp_seg (C := gC0) (pc1 := 1244) (Lo1 := [some (.ref mScr), some (.ref 0), some (.ref 43), some (.ref 67), some (.int l4), none, none]) (st1' := [.int (l4 + (1 : Int32)), .ref mScr, .ref 43]) (w1 := (wv x I1 J1)) rfl 6 rfl ?_
  refine wa_s rfl k.1 ?_
  have k := k.2
  refine cv_I (mj := 240) (a := 43) (as := [.int (S.2 (l4 + (1 : Int32)).toNatClampNeg)]) (r := []) rfl rfl rfl ⟨rfl, by decide, Nat.le_of_ble_eq_true rfl, Nat.le_of_ble_eq_true rfl⟩ rfl (wcI_mono k (fun r2 I2 J2 k => ?_))
  refine wp_seg (C := gC0) (pc1 := 1390) (Lo1 := [some (.ref mScr), some (.ref 0), some (.ref 43), some (.ref 67), some (.int l4), none, none]) (st1' := []) (w1 := (wv x I2 J2)) rfl 2 rfl ?_
  exact k
set_option maxRecDepth 20000 in
theorem L_1252 {S : Nat × (Nat → Int32)} {d : Nat} {x : mX} {I : rI0} {J : rJ0} {l4 : Int32} {Q : mO → mW → Prop} (k : (¬ mOut (l4 + (1 : Int32)) S.1 ∧ (¬ mOut (l4 + (2 : Int32)) S.1 ∧ (wcI S (d + 7) 134 [.ref 0, .int (S.2 (l4 + (1 : Int32)).toNatClampNeg), .int (S.2 (l4 + (2 : Int32)).toNatClampNeg)] x I J (fun r1 I1 J1 => (¬ mOut (l4 + (1 : Int32)) S.1 ∧ (¬ mOut (l4 + (2 : Int32)) S.1 ∧ (wcI S (d + 7) 242 [.ref 43, .int (S.2 (l4 + (1 : Int32)).toNatClampNeg), .int (S.2 (l4 + (2 : Int32)).toNatClampNeg)] x I1 J1 (fun r2 I2 J2 => wp S (d + 8) 0 1390 [some (.ref mScr), some (.ref 0), some (.ref 43), some (.ref 67), some (.int l4), none, none] [] (wv x I2 J2) Q))))))))) : wp S (d + 8) 0 1252 [some (.ref mScr), some (.ref 0), some (.ref 43), some (.ref 67), some (.int l4), none, none] [] (wv x I J) Q := by
  refine wp_seg (C := gC0) (pc1 := 1258) (Lo1 := [some (.ref mScr), some (.ref 0), some (.ref 43), some (.ref 67), some (.int l4), none, none]) (st1' := [.int (l4 + (1 : Int32)), .ref mScr, .ref 0]) (w1 := (wv x I J)) rfl 5 rfl ?_
  refine wa_s rfl k.1 ?_
  have k := k.2
  refine wp_seg (C := gC0) (pc1 := 1264) (Lo1 := [some (.ref mScr), some (.ref 0), some (.ref 43), some (.ref 67), some (.int l4), none, none]) (st1' := [.int (l4 + (2 : Int32)), .ref mScr, .int (S.2 (l4 + (1 : Int32)).toNatClampNeg), .ref 0]) (w1 := (wv x I J)) rfl 4 rfl ?_
  refine wa_s rfl k.1 ?_
  have k := k.2
  refine cv_I (mj := 134) (a := 0) (as := [.int (S.2 (l4 + (1 : Int32)).toNatClampNeg), .int (S.2 (l4 + (2 : Int32)).toNatClampNeg)]) (r := []) rfl rfl rfl ⟨rfl, by decide, Nat.le_of_ble_eq_true rfl, Nat.le_of_ble_eq_true rfl⟩ rfl (wcI_mono k (fun r1 I1 J1 k => ?_))
  refine wp_seg (C := gC0) (pc1 := 1275) (Lo1 := [some (.ref mScr), some (.ref 0), some (.ref 43), some (.ref 67), some (.int l4), none, none]) (st1' := [.int (l4 + (1 : Int32)), .ref mScr, .ref 43]) (w1 := (wv x I1 J1)) rfl 6 rfl ?_
  refine wa_s rfl k.1 ?_
  have k := k.2
  refine wp_seg (C := gC0) (pc1 := 1281) (Lo1 := [some (.ref mScr), some (.ref 0), some (.ref 43), some (.ref 67), some (.int l4), none, none]) (st1' := [.int (l4 + (2 : Int32)), .ref mScr, .int (S.2 (l4 + (1 : Int32)).toNatClampNeg), .ref 43]) (w1 := (wv x I1 J1)) rfl 4 rfl ?_
  refine wa_s rfl k.1 ?_
  have k := k.2
  refine cv_I (mj := 242) (a := 43) (as := [.int (S.2 (l4 + (1 : Int32)).toNatClampNeg), .int (S.2 (l4 + (2 : Int32)).toNatClampNeg)]) (r := []) rfl rfl rfl ⟨rfl, by decide, Nat.le_of_ble_eq_true rfl, Nat.le_of_ble_eq_true rfl⟩ rfl (wcI_mono k (fun r2 I2 J2 k => ?_))
  refine wp_seg (C := gC0) (pc1 := 1390) (Lo1 := [some (.ref mScr), some (.ref 0), some (.ref 43), some (.ref 67), some (.int l4), none, none]) (st1' := []) (w1 := (wv x I2 J2)) rfl 2 rfl ?_
  exact k
set_option maxRecDepth 20000 in
theorem L_1289 {S : Nat × (Nat → Int32)} {d : Nat} {x : mX} {I : rI0} {J : rJ0} {l4 : Int32} {Q : mO → mW → Prop} (k : (wcI S (d + 7) 135 [.ref 0] x I J (fun r1 I1 J1 => (wcI S (d + 7) 237 [.ref 43] x I1 J1 (fun r2 I2 J2 => wp S (d + 8) 0 1390 [some (.ref mScr), some (.ref 0), some (.ref 43), some (.ref 67), some (.int l4), none, none] [] (wv x I2 J2) Q))))) : wp S (d + 8) 0 1289 [some (.ref mScr), some (.ref 0), some (.ref 43), some (.ref 67), some (.int l4), none, none] [] (wv x I J) Q := by
  refine wp_seg (C := gC0) (pc1 := 1290) (Lo1 := [some (.ref mScr), some (.ref 0), some (.ref 43), some (.ref 67), some (.int l4), none, none]) (st1' := [.ref 0]) (w1 := (wv x I J)) rfl 1 rfl ?_
  refine cv_I (mj := 135) (a := 0) (as := []) (r := []) rfl rfl rfl ⟨rfl, by decide, Nat.le_of_ble_eq_true rfl, Nat.le_of_ble_eq_true rfl⟩ rfl (wcI_mono k (fun r1 I1 J1 k => ?_))
  refine wp_seg (C := gC0) (pc1 := 1295) (Lo1 := [some (.ref mScr), some (.ref 0), some (.ref 43), some (.ref 67), some (.int l4), none, none]) (st1' := [.ref 43]) (w1 := (wv x I1 J1)) rfl 2 rfl ?_
  refine cv_I (mj := 237) (a := 43) (as := []) (r := []) rfl rfl rfl ⟨rfl, by decide, Nat.le_of_ble_eq_true rfl, Nat.le_of_ble_eq_true rfl⟩ rfl (wcI_mono k (fun r2 I2 J2 k => ?_))
  refine wp_seg (C := gC0) (pc1 := 1390) (Lo1 := [some (.ref mScr), some (.ref 0), some (.ref 43), some (.ref 67), some (.int l4), none, none]) (st1' := []) (w1 := (wv x I2 J2)) rfl 2 rfl ?_
  exact k
set_option maxRecDepth 20000 in
theorem L_1302 {S : Nat × (Nat → Int32)} {d : Nat} {x : mX} {I : rI0} {J : rJ0} {l4 : Int32} {Q : mO → mW → Prop} (k : (wcI S (d + 7) 136 [.ref 0] x I J (fun r1 I1 J1 => (wcI S (d + 7) 238 [.ref 43] x I1 J1 (fun r2 I2 J2 => wp S (d + 8) 0 1390 [some (.ref mScr), some (.ref 0), some (.ref 43), some (.ref 67), some (.int l4), none, none] [] (wv x I2 J2) Q))))) : wp S (d + 8) 0 1302 [some (.ref mScr), some (.ref 0), some (.ref 43), some (.ref 67), some (.int l4), none, none] [] (wv x I J) Q := by
  refine wp_seg (C := gC0) (pc1 := 1303) (Lo1 := [some (.ref mScr), some (.ref 0), some (.ref 43), some (.ref 67), some (.int l4), none, none]) (st1' := [.ref 0]) (w1 := (wv x I J)) rfl 1 rfl ?_
  refine cv_I (mj := 136) (a := 0) (as := []) (r := []) rfl rfl rfl ⟨rfl, by decide, Nat.le_of_ble_eq_true rfl, Nat.le_of_ble_eq_true rfl⟩ rfl (wcI_mono k (fun r1 I1 J1 k => ?_))
  refine wp_seg (C := gC0) (pc1 := 1308) (Lo1 := [some (.ref mScr), some (.ref 0), some (.ref 43), some (.ref 67), some (.int l4), none, none]) (st1' := [.ref 43]) (w1 := (wv x I1 J1)) rfl 2 rfl ?_
  refine cv_I (mj := 238) (a := 43) (as := []) (r := []) rfl rfl rfl ⟨rfl, by decide, Nat.le_of_ble_eq_true rfl, Nat.le_of_ble_eq_true rfl⟩ rfl (wcI_mono k (fun r2 I2 J2 k => ?_))
  refine wp_seg (C := gC0) (pc1 := 1390) (Lo1 := [some (.ref mScr), some (.ref 0), some (.ref 43), some (.ref 67), some (.int l4), none, none]) (st1' := []) (w1 := (wv x I2 J2)) rfl 2 rfl ?_
  exact k
set_option maxRecDepth 20000 in
theorem L_1315 {S : Nat × (Nat → Int32)} {d : Nat} {x : mX} {I : rI0} {J : rJ0} {l4 : Int32} {Q : mO → mW → Prop} (k : (¬ mOut (l4 + (1 : Int32)) S.1 ∧ (wcX S (d + 7) 137 [.ref 0, .int (S.2 (l4 + (1 : Int32)).toNatClampNeg)] x I J (fun x1 r1 I1 J1 => (¬ mOut (l4 + (1 : Int32)) S.1 ∧ (wcI S (d + 7) 243 [.ref 43, .int (S.2 (l4 + (1 : Int32)).toNatClampNeg)] x1 I1 J1 (fun r2 I2 J2 => wp S (d + 8) 0 1390 [some (.ref mScr), some (.ref 0), some (.ref 43), some (.ref 67), some (.int l4), none, none] [] (wv x1 I2 J2) Q))))))) : wp S (d + 8) 0 1315 [some (.ref mScr), some (.ref 0), some (.ref 43), some (.ref 67), some (.int l4), none, none] [] (wv x I J) Q := by
  refine wp_seg (C := gC0) (pc1 := 1321) (Lo1 := [some (.ref mScr), some (.ref 0), some (.ref 43), some (.ref 67), some (.int l4), none, none]) (st1' := [.int (l4 + (1 : Int32)), .ref mScr, .ref 0]) (w1 := (wv x I J)) rfl 5 rfl ?_
  refine wa_s rfl k.1 ?_
  have k := k.2
  refine cv_X (mj := 137) (a := 0) (as := [.int (S.2 (l4 + (1 : Int32)).toNatClampNeg)]) (r := []) rfl rfl rfl ⟨rfl, by decide, Nat.le_of_ble_eq_true rfl, Nat.le_of_ble_eq_true rfl⟩ rfl (wc_mono k ?_)
  rintro o w ⟨x1, r1, I1, J1, h1, h2, k⟩
  refine ⟨x1, r1, I1, J1, h1, h2, ?_⟩
  refine wp_seg (C := gC0) (pc1 := 1332) (Lo1 := [some (.ref mScr), some (.ref 0), some (.ref 43), some (.ref 67), some (.int l4), none, none]) (st1' := [.int (l4 + (1 : Int32)), .ref mScr, .ref 43]) (w1 := (wv x1 I1 J1)) rfl 6 rfl ?_
  refine wa_s rfl k.1 ?_
  have k := k.2
  refine cv_I (mj := 243) (a := 43) (as := [.int (S.2 (l4 + (1 : Int32)).toNatClampNeg)]) (r := []) rfl rfl rfl ⟨rfl, by decide, Nat.le_of_ble_eq_true rfl, Nat.le_of_ble_eq_true rfl⟩ rfl (wcI_mono k (fun r2 I2 J2 k => ?_))
  refine wp_seg (C := gC0) (pc1 := 1390) (Lo1 := [some (.ref mScr), some (.ref 0), some (.ref 43), some (.ref 67), some (.int l4), none, none]) (st1' := []) (w1 := (wv x1 I2 J2)) rfl 2 rfl ?_
  exact k
set_option maxRecDepth 20000 in
theorem L_1340 {S : Nat × (Nat → Int32)} {d : Nat} {x : mX} {I : rI0} {J : rJ0} {l4 : Int32} {Q : mO → mW → Prop} (k : (¬ mOut (l4 + (1 : Int32)) S.1 ∧ (wcI S (d + 7) 138 [.ref 0, .int (S.2 (l4 + (1 : Int32)).toNatClampNeg)] x I J (fun r1 I1 J1 => (¬ mOut (l4 + (1 : Int32)) S.1 ∧ (wcI S (d + 7) 244 [.ref 43, .int (S.2 (l4 + (1 : Int32)).toNatClampNeg)] x I1 J1 (fun r2 I2 J2 => wp S (d + 8) 0 1390 [some (.ref mScr), some (.ref 0), some (.ref 43), some (.ref 67), some (.int l4), none, none] [] (wv x I2 J2) Q))))))) : wp S (d + 8) 0 1340 [some (.ref mScr), some (.ref 0), some (.ref 43), some (.ref 67), some (.int l4), none, none] [] (wv x I J) Q := by
  refine wp_seg (C := gC0) (pc1 := 1346) (Lo1 := [some (.ref mScr), some (.ref 0), some (.ref 43), some (.ref 67), some (.int l4), none, none]) (st1' := [.int (l4 + (1 : Int32)), .ref mScr, .ref 0]) (w1 := (wv x I J)) rfl 5 rfl ?_
  refine wa_s rfl k.1 ?_
  have k := k.2
  refine cv_I (mj := 138) (a := 0) (as := [.int (S.2 (l4 + (1 : Int32)).toNatClampNeg)]) (r := []) rfl rfl rfl ⟨rfl, by decide, Nat.le_of_ble_eq_true rfl, Nat.le_of_ble_eq_true rfl⟩ rfl (wcI_mono k (fun r1 I1 J1 k => ?_))
  refine wp_seg (C := gC0) (pc1 := 1357) (Lo1 := [some (.ref mScr), some (.ref 0), some (.ref 43), some (.ref 67), some (.int l4), none, none]) (st1' := [.int (l4 + (1 : Int32)), .ref mScr, .ref 43]) (w1 := (wv x I1 J1)) rfl 6 rfl ?_
  refine wa_s rfl k.1 ?_
  have k := k.2
  refine cv_I (mj := 244) (a := 43) (as := [.int (S.2 (l4 + (1 : Int32)).toNatClampNeg)]) (r := []) rfl rfl rfl ⟨rfl, by decide, Nat.le_of_ble_eq_true rfl, Nat.le_of_ble_eq_true rfl⟩ rfl (wcI_mono k (fun r2 I2 J2 k => ?_))
  refine wp_seg (C := gC0) (pc1 := 1390) (Lo1 := [some (.ref mScr), some (.ref 0), some (.ref 43), some (.ref 67), some (.int l4), none, none]) (st1' := []) (w1 := (wv x I2 J2)) rfl 2 rfl ?_
  exact k
set_option maxRecDepth 20000 in
theorem L_1365 {S : Nat × (Nat → Int32)} {d : Nat} {x : mX} {I : rI0} {J : rJ0} {l4 : Int32} {Q : mO → mW → Prop} (k : (¬ mOut (l4 + (1 : Int32)) S.1 ∧ (wcI S (d + 7) 139 [.ref 0, .int (S.2 (l4 + (1 : Int32)).toNatClampNeg)] x I J (fun r1 I1 J1 => (¬ mOut (l4 + (1 : Int32)) S.1 ∧ (wcI S (d + 7) 245 [.ref 43, .int (S.2 (l4 + (1 : Int32)).toNatClampNeg)] x I1 J1 (fun r2 I2 J2 => wp S (d + 8) 0 1390 [some (.ref mScr), some (.ref 0), some (.ref 43), some (.ref 67), some (.int l4), none, none] [] (wv x I2 J2) Q))))))) : wp S (d + 8) 0 1365 [some (.ref mScr), some (.ref 0), some (.ref 43), some (.ref 67), some (.int l4), none, none] [] (wv x I J) Q := by
  refine wp_seg (C := gC0) (pc1 := 1371) (Lo1 := [some (.ref mScr), some (.ref 0), some (.ref 43), some (.ref 67), some (.int l4), none, none]) (st1' := [.int (l4 + (1 : Int32)), .ref mScr, .ref 0]) (w1 := (wv x I J)) rfl 5 rfl ?_
  refine wa_s rfl k.1 ?_
  have k := k.2
  refine cv_I (mj := 139) (a := 0) (as := [.int (S.2 (l4 + (1 : Int32)).toNatClampNeg)]) (r := []) rfl rfl rfl ⟨rfl, by decide, Nat.le_of_ble_eq_true rfl, Nat.le_of_ble_eq_true rfl⟩ rfl (wcI_mono k (fun r1 I1 J1 k => ?_))
  refine wp_seg (C := gC0) (pc1 := 1382) (Lo1 := [some (.ref mScr), some (.ref 0), some (.ref 43), some (.ref 67), some (.int l4), none, none]) (st1' := [.int (l4 + (1 : Int32)), .ref mScr, .ref 43]) (w1 := (wv x I1 J1)) rfl 6 rfl ?_
  refine wa_s rfl k.1 ?_
  have k := k.2
  refine cv_I (mj := 245) (a := 43) (as := [.int (S.2 (l4 + (1 : Int32)).toNatClampNeg)]) (r := []) rfl rfl rfl ⟨rfl, by decide, Nat.le_of_ble_eq_true rfl, Nat.le_of_ble_eq_true rfl⟩ rfl (wcI_mono k (fun r2 I2 J2 k => ?_))
  refine wp_seg (C := gC0) (pc1 := 1390) (Lo1 := [some (.ref mScr), some (.ref 0), some (.ref 43), some (.ref 67), some (.int l4), none, none]) (st1' := []) (w1 := (wv x I2 J2)) rfl 2 rfl ?_
  exact k
