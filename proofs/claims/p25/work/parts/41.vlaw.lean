set_option maxRecDepth 20000 in
theorem L_23 {S : Nat × (Nat → Int32)} {d : Nat} {x : mX} {I : rI0} {J : rJ0} {l4 : Int32} {Q : mO → mW → Prop} (k : ((((Int32.ofNat S.1) - (6 : Int32)) < l4 → Q (some (some (.int (1 : Int32)))) (wv x I J)) ∧ (¬ ((Int32.ofNat S.1) - (6 : Int32)) < l4 → (¬ mOut l4 S.1 ∧ ((S.2 l4.toNatClampNeg &&& (63 : Int32)).toInt < 0 ∨ 40 < (S.2 l4.toNatClampNeg &&& (63 : Int32)).toInt → wp S (d + 8) 0 1362 [some (.ref mScr), some (.ref 0), some (.ref 43), some (.ref 67), some (.int l4), none, none] [] (wv x I J) Q) ∧ ((S.2 l4.toNatClampNeg &&& (63 : Int32)).toInt = 0 → wp S (d + 8) 0 220 [some (.ref mScr), some (.ref 0), some (.ref 43), some (.ref 67), some (.int l4), none, none] [] (wv x I J) Q) ∧ ((S.2 l4.toNatClampNeg &&& (63 : Int32)).toInt = 1 → wp S (d + 8) 0 293 [some (.ref mScr), some (.ref 0), some (.ref 43), some (.ref 67), some (.int l4), none, none] [] (wv x I J) Q) ∧ ((S.2 l4.toNatClampNeg &&& (63 : Int32)).toInt = 2 → wp S (d + 8) 0 318 [some (.ref mScr), some (.ref 0), some (.ref 43), some (.ref 67), some (.int l4), none, none] [] (wv x I J) Q) ∧ ((S.2 l4.toNatClampNeg &&& (63 : Int32)).toInt = 3 → wp S (d + 8) 0 331 [some (.ref mScr), some (.ref 0), some (.ref 43), some (.ref 67), some (.int l4), none, none] [] (wv x I J) Q) ∧ ((S.2 l4.toNatClampNeg &&& (63 : Int32)).toInt = 4 → wp S (d + 8) 0 344 [some (.ref mScr), some (.ref 0), some (.ref 43), some (.ref 67), some (.int l4), none, none] [] (wv x I J) Q) ∧ ((S.2 l4.toNatClampNeg &&& (63 : Int32)).toInt = 5 → wp S (d + 8) 0 384 [some (.ref mScr), some (.ref 0), some (.ref 43), some (.ref 67), some (.int l4), none, none] [] (wv x I J) Q) ∧ ((S.2 l4.toNatClampNeg &&& (63 : Int32)).toInt = 6 → wp S (d + 8) 0 421 [some (.ref mScr), some (.ref 0), some (.ref 43), some (.ref 67), some (.int l4), none, none] [] (wv x I J) Q) ∧ ((S.2 l4.toNatClampNeg &&& (63 : Int32)).toInt = 7 → wp S (d + 8) 0 458 [some (.ref mScr), some (.ref 0), some (.ref 43), some (.ref 67), some (.int l4), none, none] [] (wv x I J) Q) ∧ ((S.2 l4.toNatClampNeg &&& (63 : Int32)).toInt = 8 → wp S (d + 8) 0 495 [some (.ref mScr), some (.ref 0), some (.ref 43), some (.ref 67), some (.int l4), none, none] [] (wv x I J) Q) ∧ ((S.2 l4.toNatClampNeg &&& (63 : Int32)).toInt = 9 → wp S (d + 8) 0 508 [some (.ref mScr), some (.ref 0), some (.ref 43), some (.ref 67), some (.int l4), none, none] [] (wv x I J) Q) ∧ ((S.2 l4.toNatClampNeg &&& (63 : Int32)).toInt = 10 → wp S (d + 8) 0 548 [some (.ref mScr), some (.ref 0), some (.ref 43), some (.ref 67), some (.int l4), none, none] [] (wv x I J) Q) ∧ ((S.2 l4.toNatClampNeg &&& (63 : Int32)).toInt = 11 → wp S (d + 8) 0 609 [some (.ref mScr), some (.ref 0), some (.ref 43), some (.ref 67), some (.int l4), none, none] [] (wv x I J) Q) ∧ ((S.2 l4.toNatClampNeg &&& (63 : Int32)).toInt = 12 → wp S (d + 8) 0 658 [some (.ref mScr), some (.ref 0), some (.ref 43), some (.ref 67), some (.int l4), none, none] [] (wv x I J) Q) ∧ ((S.2 l4.toNatClampNeg &&& (63 : Int32)).toInt = 13 → wp S (d + 8) 0 695 [some (.ref mScr), some (.ref 0), some (.ref 43), some (.ref 67), some (.int l4), none, none] [] (wv x I J) Q) ∧ ((S.2 l4.toNatClampNeg &&& (63 : Int32)).toInt = 14 → wp S (d + 8) 0 744 [some (.ref mScr), some (.ref 0), some (.ref 43), some (.ref 67), some (.int l4), none, none] [] (wv x I J) Q) ∧ ((S.2 l4.toNatClampNeg &&& (63 : Int32)).toInt = 15 → wp S (d + 8) 0 769 [some (.ref mScr), some (.ref 0), some (.ref 43), some (.ref 67), some (.int l4), none, none] [] (wv x I J) Q) ∧ ((S.2 l4.toNatClampNeg &&& (63 : Int32)).toInt = 16 → wp S (d + 8) 0 794 [some (.ref mScr), some (.ref 0), some (.ref 43), some (.ref 67), some (.int l4), none, none] [] (wv x I J) Q) ∧ ((S.2 l4.toNatClampNeg &&& (63 : Int32)).toInt = 17 → wp S (d + 8) 0 807 [some (.ref mScr), some (.ref 0), some (.ref 43), some (.ref 67), some (.int l4), none, none] [] (wv x I J) Q) ∧ ((S.2 l4.toNatClampNeg &&& (63 : Int32)).toInt = 18 → wp S (d + 8) 0 832 [some (.ref mScr), some (.ref 0), some (.ref 43), some (.ref 67), some (.int l4), none, none] [] (wv x I J) Q) ∧ ((S.2 l4.toNatClampNeg &&& (63 : Int32)).toInt = 19 → wp S (d + 8) 0 857 [some (.ref mScr), some (.ref 0), some (.ref 43), some (.ref 67), some (.int l4), none, none] [] (wv x I J) Q) ∧ ((S.2 l4.toNatClampNeg &&& (63 : Int32)).toInt = 20 → wp S (d + 8) 0 882 [some (.ref mScr), some (.ref 0), some (.ref 43), some (.ref 67), some (.int l4), none, none] [] (wv x I J) Q) ∧ ((S.2 l4.toNatClampNeg &&& (63 : Int32)).toInt = 21 → wp S (d + 8) 0 895 [some (.ref mScr), some (.ref 0), some (.ref 43), some (.ref 67), some (.int l4), none, none] [] (wv x I J) Q) ∧ ((S.2 l4.toNatClampNeg &&& (63 : Int32)).toInt = 22 → wp S (d + 8) 0 908 [some (.ref mScr), some (.ref 0), some (.ref 43), some (.ref 67), some (.int l4), none, none] [] (wv x I J) Q) ∧ ((S.2 l4.toNatClampNeg &&& (63 : Int32)).toInt = 23 → wp S (d + 8) 0 921 [some (.ref mScr), some (.ref 0), some (.ref 43), some (.ref 67), some (.int l4), none, none] [] (wv x I J) Q) ∧ ((S.2 l4.toNatClampNeg &&& (63 : Int32)).toInt = 24 → wp S (d + 8) 0 946 [some (.ref mScr), some (.ref 0), some (.ref 43), some (.ref 67), some (.int l4), none, none] [] (wv x I J) Q) ∧ ((S.2 l4.toNatClampNeg &&& (63 : Int32)).toInt = 25 → wp S (d + 8) 0 959 [some (.ref mScr), some (.ref 0), some (.ref 43), some (.ref 67), some (.int l4), none, none] [] (wv x I J) Q) ∧ ((S.2 l4.toNatClampNeg &&& (63 : Int32)).toInt = 26 → wp S (d + 8) 0 999 [some (.ref mScr), some (.ref 0), some (.ref 43), some (.ref 67), some (.int l4), none, none] [] (wv x I J) Q) ∧ ((S.2 l4.toNatClampNeg &&& (63 : Int32)).toInt = 27 → wp S (d + 8) 0 1012 [some (.ref mScr), some (.ref 0), some (.ref 43), some (.ref 67), some (.int l4), none, none] [] (wv x I J) Q) ∧ ((S.2 l4.toNatClampNeg &&& (63 : Int32)).toInt = 28 → wp S (d + 8) 0 1037 [some (.ref mScr), some (.ref 0), some (.ref 43), some (.ref 67), some (.int l4), none, none] [] (wv x I J) Q) ∧ ((S.2 l4.toNatClampNeg &&& (63 : Int32)).toInt = 29 → wp S (d + 8) 0 1062 [some (.ref mScr), some (.ref 0), some (.ref 43), some (.ref 67), some (.int l4), none, none] [] (wv x I J) Q) ∧ ((S.2 l4.toNatClampNeg &&& (63 : Int32)).toInt = 30 → wp S (d + 8) 0 1087 [some (.ref mScr), some (.ref 0), some (.ref 43), some (.ref 67), some (.int l4), none, none] [] (wv x I J) Q) ∧ ((S.2 l4.toNatClampNeg &&& (63 : Int32)).toInt = 31 → wp S (d + 8) 0 1124 [some (.ref mScr), some (.ref 0), some (.ref 43), some (.ref 67), some (.int l4), none, none] [] (wv x I J) Q) ∧ ((S.2 l4.toNatClampNeg &&& (63 : Int32)).toInt = 32 → wp S (d + 8) 0 1137 [some (.ref mScr), some (.ref 0), some (.ref 43), some (.ref 67), some (.int l4), none, none] [] (wv x I J) Q) ∧ ((S.2 l4.toNatClampNeg &&& (63 : Int32)).toInt = 33 → wp S (d + 8) 0 1174 [some (.ref mScr), some (.ref 0), some (.ref 43), some (.ref 67), some (.int l4), none, none] [] (wv x I J) Q) ∧ ((S.2 l4.toNatClampNeg &&& (63 : Int32)).toInt = 34 → wp S (d + 8) 0 1199 [some (.ref mScr), some (.ref 0), some (.ref 43), some (.ref 67), some (.int l4), none, none] [] (wv x I J) Q) ∧ ((S.2 l4.toNatClampNeg &&& (63 : Int32)).toInt = 35 → wp S (d + 8) 0 1224 [some (.ref mScr), some (.ref 0), some (.ref 43), some (.ref 67), some (.int l4), none, none] [] (wv x I J) Q) ∧ ((S.2 l4.toNatClampNeg &&& (63 : Int32)).toInt = 36 → wp S (d + 8) 0 1261 [some (.ref mScr), some (.ref 0), some (.ref 43), some (.ref 67), some (.int l4), none, none] [] (wv x I J) Q) ∧ ((S.2 l4.toNatClampNeg &&& (63 : Int32)).toInt = 37 → wp S (d + 8) 0 1274 [some (.ref mScr), some (.ref 0), some (.ref 43), some (.ref 67), some (.int l4), none, none] [] (wv x I J) Q) ∧ ((S.2 l4.toNatClampNeg &&& (63 : Int32)).toInt = 38 → wp S (d + 8) 0 1287 [some (.ref mScr), some (.ref 0), some (.ref 43), some (.ref 67), some (.int l4), none, none] [] (wv x I J) Q) ∧ ((S.2 l4.toNatClampNeg &&& (63 : Int32)).toInt = 39 → wp S (d + 8) 0 1312 [some (.ref mScr), some (.ref 0), some (.ref 43), some (.ref 67), some (.int l4), none, none] [] (wv x I J) Q) ∧ ((S.2 l4.toNatClampNeg &&& (63 : Int32)).toInt = 40 → wp S (d + 8) 0 1337 [some (.ref mScr), some (.ref 0), some (.ref 43), some (.ref 67), some (.int l4), none, none] [] (wv x I J) Q))))) : wp S (d + 8) 0 23 [some (.ref mScr), some (.ref 0), some (.ref 43), some (.ref 67), some (.int l4), none, none] [] (wv x I J) Q := by
  refine wp_seg (C := gC0) (pc1 := 26) (Lo1 := [some (.ref mScr), some (.ref 0), some (.ref 43), some (.ref 67), some (.int l4), none, none]) (st1' := [.ref mScr, .int l4]) (w1 := (wv x I J)) rfl 2 rfl ?_
  refine wl_len rfl ?_
  refine wp_seg (C := gC0) (pc1 := 30) (Lo1 := [some (.ref mScr), some (.ref 0), some (.ref 43), some (.ref 67), some (.int l4), none, none]) (st1' := [.int ((Int32.ofNat S.1) - (6 : Int32)), .int l4]) (w1 := (wv x I J)) rfl 2 rfl ?_
  refine wj_gt (tgt := 1368) rfl rfl (fun h => ?_) (fun h => ?_)
  · have k := k.1 h
    refine wp_seg (C := gC0) (pc1 := 1369) (Lo1 := [some (.ref mScr), some (.ref 0), some (.ref 43), some (.ref 67), some (.int l4), none, none]) (st1' := [.int (1 : Int32)]) (w1 := (wv x I J)) rfl 1 rfl ?_
    exact wp_iret rfl (Or.inr ⟨rfl, Or.inr rfl⟩) k
  · obtain ⟨k1, k2, k⟩ := k.2 h
    refine wp_seg (C := gC0) (pc1 := 36) (Lo1 := [some (.ref mScr), some (.ref 0), some (.ref 43), some (.ref 67), some (.int l4), none, none]) (st1' := [.int l4, .ref mScr]) (w1 := (wv x I J)) rfl 2 rfl ?_
    refine wa_s rfl k1 ?_
    refine wp_seg (C := gC0) (pc1 := 40) (Lo1 := [some (.ref mScr), some (.ref 0), some (.ref 43), some (.ref 67), some (.int l4), none, none]) (st1' := [.int (S.2 l4.toNatClampNeg &&& (63 : Int32))]) (w1 := (wv x I J)) rfl 2 rfl ?_
    refine wt_tab (nn := 41) rfl ⟨rfl, rfl⟩ (fun h => ?_) (fun i hi hx => ?_)
    · exact k2 h
    · have h0 : 0 ≤ i := Nat.zero_le i
      obtain ⟨c, k⟩ := k
      rcases Nat.eq_or_lt_of_le (show 0 ≤ i from h0) with rfl | h0
      · exact c (by omega)
      clear c
      obtain ⟨c, k⟩ := k
      rcases Nat.eq_or_lt_of_le (show 1 ≤ i from h0) with rfl | h0
      · exact c (by omega)
      clear c
      obtain ⟨c, k⟩ := k
      rcases Nat.eq_or_lt_of_le (show 2 ≤ i from h0) with rfl | h0
      · exact c (by omega)
      clear c
      obtain ⟨c, k⟩ := k
      rcases Nat.eq_or_lt_of_le (show 3 ≤ i from h0) with rfl | h0
      · exact c (by omega)
      clear c
      obtain ⟨c, k⟩ := k
      rcases Nat.eq_or_lt_of_le (show 4 ≤ i from h0) with rfl | h0
      · exact c (by omega)
      clear c
      obtain ⟨c, k⟩ := k
      rcases Nat.eq_or_lt_of_le (show 5 ≤ i from h0) with rfl | h0
      · exact c (by omega)
      clear c
      obtain ⟨c, k⟩ := k
      rcases Nat.eq_or_lt_of_le (show 6 ≤ i from h0) with rfl | h0
      · exact c (by omega)
      clear c
      obtain ⟨c, k⟩ := k
      rcases Nat.eq_or_lt_of_le (show 7 ≤ i from h0) with rfl | h0
      · exact c (by omega)
      clear c
      obtain ⟨c, k⟩ := k
      rcases Nat.eq_or_lt_of_le (show 8 ≤ i from h0) with rfl | h0
      · exact c (by omega)
      clear c
      obtain ⟨c, k⟩ := k
      rcases Nat.eq_or_lt_of_le (show 9 ≤ i from h0) with rfl | h0
      · exact c (by omega)
      clear c
      obtain ⟨c, k⟩ := k
      rcases Nat.eq_or_lt_of_le (show 10 ≤ i from h0) with rfl | h0
      · exact c (by omega)
      clear c
      obtain ⟨c, k⟩ := k
      rcases Nat.eq_or_lt_of_le (show 11 ≤ i from h0) with rfl | h0
      · exact c (by omega)
      clear c
      obtain ⟨c, k⟩ := k
      rcases Nat.eq_or_lt_of_le (show 12 ≤ i from h0) with rfl | h0
      · exact c (by omega)
      clear c
      obtain ⟨c, k⟩ := k
      rcases Nat.eq_or_lt_of_le (show 13 ≤ i from h0) with rfl | h0
      · exact c (by omega)
      clear c
      obtain ⟨c, k⟩ := k
      rcases Nat.eq_or_lt_of_le (show 14 ≤ i from h0) with rfl | h0
      · exact c (by omega)
      clear c
      obtain ⟨c, k⟩ := k
      rcases Nat.eq_or_lt_of_le (show 15 ≤ i from h0) with rfl | h0
      · exact c (by omega)
      clear c
      obtain ⟨c, k⟩ := k
      rcases Nat.eq_or_lt_of_le (show 16 ≤ i from h0) with rfl | h0
      · exact c (by omega)
      clear c
      obtain ⟨c, k⟩ := k
      rcases Nat.eq_or_lt_of_le (show 17 ≤ i from h0) with rfl | h0
      · exact c (by omega)
      clear c
      obtain ⟨c, k⟩ := k
      rcases Nat.eq_or_lt_of_le (show 18 ≤ i from h0) with rfl | h0
      · exact c (by omega)
      clear c
      obtain ⟨c, k⟩ := k
      rcases Nat.eq_or_lt_of_le (show 19 ≤ i from h0) with rfl | h0
      · exact c (by omega)
      clear c
      obtain ⟨c, k⟩ := k
      rcases Nat.eq_or_lt_of_le (show 20 ≤ i from h0) with rfl | h0
      · exact c (by omega)
      clear c
      obtain ⟨c, k⟩ := k
      rcases Nat.eq_or_lt_of_le (show 21 ≤ i from h0) with rfl | h0
      · exact c (by omega)
      clear c
      obtain ⟨c, k⟩ := k
      rcases Nat.eq_or_lt_of_le (show 22 ≤ i from h0) with rfl | h0
      · exact c (by omega)
      clear c
      obtain ⟨c, k⟩ := k
      rcases Nat.eq_or_lt_of_le (show 23 ≤ i from h0) with rfl | h0
      · exact c (by omega)
      clear c
      obtain ⟨c, k⟩ := k
      rcases Nat.eq_or_lt_of_le (show 24 ≤ i from h0) with rfl | h0
      · exact c (by omega)
      clear c
      obtain ⟨c, k⟩ := k
      rcases Nat.eq_or_lt_of_le (show 25 ≤ i from h0) with rfl | h0
      · exact c (by omega)
      clear c
      obtain ⟨c, k⟩ := k
      rcases Nat.eq_or_lt_of_le (show 26 ≤ i from h0) with rfl | h0
      · exact c (by omega)
      clear c
      obtain ⟨c, k⟩ := k
      rcases Nat.eq_or_lt_of_le (show 27 ≤ i from h0) with rfl | h0
      · exact c (by omega)
      clear c
      obtain ⟨c, k⟩ := k
      rcases Nat.eq_or_lt_of_le (show 28 ≤ i from h0) with rfl | h0
      · exact c (by omega)
      clear c
      obtain ⟨c, k⟩ := k
      rcases Nat.eq_or_lt_of_le (show 29 ≤ i from h0) with rfl | h0
      · exact c (by omega)
      clear c
      obtain ⟨c, k⟩ := k
      rcases Nat.eq_or_lt_of_le (show 30 ≤ i from h0) with rfl | h0
      · exact c (by omega)
      clear c
      obtain ⟨c, k⟩ := k
      rcases Nat.eq_or_lt_of_le (show 31 ≤ i from h0) with rfl | h0
      · exact c (by omega)
      clear c
      obtain ⟨c, k⟩ := k
      rcases Nat.eq_or_lt_of_le (show 32 ≤ i from h0) with rfl | h0
      · exact c (by omega)
      clear c
      obtain ⟨c, k⟩ := k
      rcases Nat.eq_or_lt_of_le (show 33 ≤ i from h0) with rfl | h0
      · exact c (by omega)
      clear c
      obtain ⟨c, k⟩ := k
      rcases Nat.eq_or_lt_of_le (show 34 ≤ i from h0) with rfl | h0
      · exact c (by omega)
      clear c
      obtain ⟨c, k⟩ := k
      rcases Nat.eq_or_lt_of_le (show 35 ≤ i from h0) with rfl | h0
      · exact c (by omega)
      clear c
      obtain ⟨c, k⟩ := k
      rcases Nat.eq_or_lt_of_le (show 36 ≤ i from h0) with rfl | h0
      · exact c (by omega)
      clear c
      obtain ⟨c, k⟩ := k
      rcases Nat.eq_or_lt_of_le (show 37 ≤ i from h0) with rfl | h0
      · exact c (by omega)
      clear c
      obtain ⟨c, k⟩ := k
      rcases Nat.eq_or_lt_of_le (show 38 ≤ i from h0) with rfl | h0
      · exact c (by omega)
      clear c
      obtain ⟨c, k⟩ := k
      rcases Nat.eq_or_lt_of_le (show 39 ≤ i from h0) with rfl | h0
      · exact c (by omega)
      clear c
      have e : i = 40 := by omega
      subst e
      exact k (by omega)
set_option maxRecDepth 20000 in
theorem L_1362 {S : Nat × (Nat → Int32)} {d : Nat} {x : mX} {I : rI0} {J : rJ0} {l4 : Int32} {Q : mO → mW → Prop} (k : wp S (d + 8) 0 23 [some (.ref mScr), some (.ref 0), some (.ref 43), some (.ref 67), some (.int (l4 + (6 : Int32))), none, none] [] (wv x I J) Q) : wp S (d + 8) 0 1362 [some (.ref mScr), some (.ref 0), some (.ref 43), some (.ref 67), some (.int l4), none, none] [] (wv x I J) Q := by
  refine wp_seg (C := gC0) (pc1 := 23) (Lo1 := [some (.ref mScr), some (.ref 0), some (.ref 43), some (.ref 67), some (.int (l4 + (6 : Int32))), none, none]) (st1' := []) (w1 := (wv x I J)) rfl 2 rfl ?_
  exact k
set_option maxRecDepth 20000 in
theorem L_220 {S : Nat × (Nat → Int32)} {d : Nat} {x : mX} {I : rI0} {J : rJ0} {l4 : Int32} {Q : mO → mW → Prop} (k : (¬ mOut (l4 + (1 : Int32)) S.1 ∧ (¬ mOut (l4 + (2 : Int32)) S.1 ∧ (¬ mOut (l4 + (3 : Int32)) S.1 ∧ (¬ mOut (l4 + (4 : Int32)) S.1 ∧ (¬ mOut (l4 + (5 : Int32)) S.1 ∧ (wcI S (d + 7) 99 [.ref 0, .int (S.2 (l4 + (1 : Int32)).toNatClampNeg), .int (S.2 (l4 + (2 : Int32)).toNatClampNeg), .int (S.2 (l4 + (3 : Int32)).toNatClampNeg), .int (S.2 (l4 + (4 : Int32)).toNatClampNeg), .int (S.2 (l4 + (5 : Int32)).toNatClampNeg)] x I J (fun r1 I1 J1 => (¬ mOut (l4 + (1 : Int32)) S.1 ∧ (¬ mOut (l4 + (2 : Int32)) S.1 ∧ (¬ mOut (l4 + (3 : Int32)) S.1 ∧ (¬ mOut (l4 + (4 : Int32)) S.1 ∧ (¬ mOut (l4 + (5 : Int32)) S.1 ∧ (wcI S (d + 7) 147 [.ref 43, .int (S.2 (l4 + (1 : Int32)).toNatClampNeg), .int (S.2 (l4 + (2 : Int32)).toNatClampNeg), .int (S.2 (l4 + (3 : Int32)).toNatClampNeg), .int (S.2 (l4 + (4 : Int32)).toNatClampNeg), .int (S.2 (l4 + (5 : Int32)).toNatClampNeg)] x I1 J1 (fun r2 I2 J2 => wp S (d + 8) 0 1362 [some (.ref mScr), some (.ref 0), some (.ref 43), some (.ref 67), some (.int l4), none, none] [] (wv x I2 J2) Q))))))))))))))) : wp S (d + 8) 0 220 [some (.ref mScr), some (.ref 0), some (.ref 43), some (.ref 67), some (.int l4), none, none] [] (wv x I J) Q := by
  refine wp_seg (C := gC0) (pc1 := 226) (Lo1 := [some (.ref mScr), some (.ref 0), some (.ref 43), some (.ref 67), some (.int l4), none, none]) (st1' := [.int (l4 + (1 : Int32)), .ref mScr, .ref 0]) (w1 := (wv x I J)) rfl 5 rfl ?_
  refine wa_s rfl k.1 ?_
  have k := k.2
  refine wp_seg (C := gC0) (pc1 := 232) (Lo1 := [some (.ref mScr), some (.ref 0), some (.ref 43), some (.ref 67), some (.int l4), none, none]) (st1' := [.int (l4 + (2 : Int32)), .ref mScr, .int (S.2 (l4 + (1 : Int32)).toNatClampNeg), .ref 0]) (w1 := (wv x I J)) rfl 4 rfl ?_
  refine wa_s rfl k.1 ?_
  have k := k.2
  refine wp_seg (C := gC0) (pc1 := 238) (Lo1 := [some (.ref mScr), some (.ref 0), some (.ref 43), some (.ref 67), some (.int l4), none, none]) (st1' := [.int (l4 + (3 : Int32)), .ref mScr, .int (S.2 (l4 + (2 : Int32)).toNatClampNeg), .int (S.2 (l4 + (1 : Int32)).toNatClampNeg), .ref 0]) (w1 := (wv x I J)) rfl 4 rfl ?_
  refine wa_s rfl k.1 ?_
  have k := k.2
  refine wp_seg (C := gC0) (pc1 := 244) (Lo1 := [some (.ref mScr), some (.ref 0), some (.ref 43), some (.ref 67), some (.int l4), none, none]) (st1' := [.int (l4 + (4 : Int32)), .ref mScr, .int (S.2 (l4 + (3 : Int32)).toNatClampNeg), .int (S.2 (l4 + (2 : Int32)).toNatClampNeg), .int (S.2 (l4 + (1 : Int32)).toNatClampNeg), .ref 0]) (w1 := (wv x I J)) rfl 4 rfl ?_
  refine wa_s rfl k.1 ?_
  have k := k.2
  refine wp_seg (C := gC0) (pc1 := 250) (Lo1 := [some (.ref mScr), some (.ref 0), some (.ref 43), some (.ref 67), some (.int l4), none, none]) (st1' := [.int (l4 + (5 : Int32)), .ref mScr, .int (S.2 (l4 + (4 : Int32)).toNatClampNeg), .int (S.2 (l4 + (3 : Int32)).toNatClampNeg), .int (S.2 (l4 + (2 : Int32)).toNatClampNeg), .int (S.2 (l4 + (1 : Int32)).toNatClampNeg), .ref 0]) (w1 := (wv x I J)) rfl 4 rfl ?_
  refine wa_s rfl k.1 ?_
  have k := k.2
  refine cv_I (mj := 99) (a := 0) (as := [.int (S.2 (l4 + (1 : Int32)).toNatClampNeg), .int (S.2 (l4 + (2 : Int32)).toNatClampNeg), .int (S.2 (l4 + (3 : Int32)).toNatClampNeg), .int (S.2 (l4 + (4 : Int32)).toNatClampNeg), .int (S.2 (l4 + (5 : Int32)).toNatClampNeg)]) (r := []) rfl rfl rfl ⟨rfl, by decide, Nat.le_of_ble_eq_true rfl, Nat.le_of_ble_eq_true rfl⟩ rfl (wcI_mono k (fun r1 I1 J1 k => ?_))
  refine wp_seg (C := gC0) (pc1 := 261) (Lo1 := [some (.ref mScr), some (.ref 0), some (.ref 43), some (.ref 67), some (.int l4), none, none]) (st1' := [.int (l4 + (1 : Int32)), .ref mScr, .ref 43]) (w1 := (wv x I1 J1)) rfl 6 rfl ?_
  refine wa_s rfl k.1 ?_
  have k := k.2
  refine wp_seg (C := gC0) (pc1 := 267) (Lo1 := [some (.ref mScr), some (.ref 0), some (.ref 43), some (.ref 67), some (.int l4), none, none]) (st1' := [.int (l4 + (2 : Int32)), .ref mScr, .int (S.2 (l4 + (1 : Int32)).toNatClampNeg), .ref 43]) (w1 := (wv x I1 J1)) rfl 4 rfl ?_
  refine wa_s rfl k.1 ?_
  have k := k.2
  refine wp_seg (C := gC0) (pc1 := 273) (Lo1 := [some (.ref mScr), some (.ref 0), some (.ref 43), some (.ref 67), some (.int l4), none, none]) (st1' := [.int (l4 + (3 : Int32)), .ref mScr, .int (S.2 (l4 + (2 : Int32)).toNatClampNeg), .int (S.2 (l4 + (1 : Int32)).toNatClampNeg), .ref 43]) (w1 := (wv x I1 J1)) rfl 4 rfl ?_
  refine wa_s rfl k.1 ?_
  have k := k.2
  refine wp_seg (C := gC0) (pc1 := 279) (Lo1 := [some (.ref mScr), some (.ref 0), some (.ref 43), some (.ref 67), some (.int l4), none, none]) (st1' := [.int (l4 + (4 : Int32)), .ref mScr, .int (S.2 (l4 + (3 : Int32)).toNatClampNeg), .int (S.2 (l4 + (2 : Int32)).toNatClampNeg), .int (S.2 (l4 + (1 : Int32)).toNatClampNeg), .ref 43]) (w1 := (wv x I1 J1)) rfl 4 rfl ?_
  refine wa_s rfl k.1 ?_
  have k := k.2
  refine wp_seg (C := gC0) (pc1 := 285) (Lo1 := [some (.ref mScr), some (.ref 0), some (.ref 43), some (.ref 67), some (.int l4), none, none]) (st1' := [.int (l4 + (5 : Int32)), .ref mScr, .int (S.2 (l4 + (4 : Int32)).toNatClampNeg), .int (S.2 (l4 + (3 : Int32)).toNatClampNeg), .int (S.2 (l4 + (2 : Int32)).toNatClampNeg), .int (S.2 (l4 + (1 : Int32)).toNatClampNeg), .ref 43]) (w1 := (wv x I1 J1)) rfl 4 rfl ?_
  refine wa_s rfl k.1 ?_
  have k := k.2
  refine cv_I (mj := 147) (a := 43) (as := [.int (S.2 (l4 + (1 : Int32)).toNatClampNeg), .int (S.2 (l4 + (2 : Int32)).toNatClampNeg), .int (S.2 (l4 + (3 : Int32)).toNatClampNeg), .int (S.2 (l4 + (4 : Int32)).toNatClampNeg), .int (S.2 (l4 + (5 : Int32)).toNatClampNeg)]) (r := []) rfl rfl rfl ⟨rfl, by decide, Nat.le_of_ble_eq_true rfl, Nat.le_of_ble_eq_true rfl⟩ rfl (wcI_mono k (fun r2 I2 J2 k => ?_))
  refine wp_seg (C := gC0) (pc1 := 1362) (Lo1 := [some (.ref mScr), some (.ref 0), some (.ref 43), some (.ref 67), some (.int l4), none, none]) (st1' := []) (w1 := (wv x I2 J2)) rfl 2 rfl ?_
  exact k
set_option maxRecDepth 20000 in
theorem L_293 {S : Nat × (Nat → Int32)} {d : Nat} {x : mX} {I : rI0} {J : rJ0} {l4 : Int32} {Q : mO → mW → Prop} (k : (¬ mOut (l4 + (1 : Int32)) S.1 ∧ (wcI S (d + 7) 100 [.ref 0, .int (S.2 (l4 + (1 : Int32)).toNatClampNeg)] x I J (fun r1 I1 J1 => (¬ mOut (l4 + (1 : Int32)) S.1 ∧ (wcI S (d + 7) 149 [.ref 43, .int (S.2 (l4 + (1 : Int32)).toNatClampNeg)] x I1 J1 (fun r2 I2 J2 => wp S (d + 8) 0 1362 [some (.ref mScr), some (.ref 0), some (.ref 43), some (.ref 67), some (.int l4), none, none] [] (wv x I2 J2) Q))))))) : wp S (d + 8) 0 293 [some (.ref mScr), some (.ref 0), some (.ref 43), some (.ref 67), some (.int l4), none, none] [] (wv x I J) Q := by
  refine wp_seg (C := gC0) (pc1 := 299) (Lo1 := [some (.ref mScr), some (.ref 0), some (.ref 43), some (.ref 67), some (.int l4), none, none]) (st1' := [.int (l4 + (1 : Int32)), .ref mScr, .ref 0]) (w1 := (wv x I J)) rfl 5 rfl ?_
  refine wa_s rfl k.1 ?_
  have k := k.2
  refine cv_I (mj := 100) (a := 0) (as := [.int (S.2 (l4 + (1 : Int32)).toNatClampNeg)]) (r := []) rfl rfl rfl ⟨rfl, by decide, Nat.le_of_ble_eq_true rfl, Nat.le_of_ble_eq_true rfl⟩ rfl (wcI_mono k (fun r1 I1 J1 k => ?_))
  refine wp_seg (C := gC0) (pc1 := 310) (Lo1 := [some (.ref mScr), some (.ref 0), some (.ref 43), some (.ref 67), some (.int l4), none, none]) (st1' := [.int (l4 + (1 : Int32)), .ref mScr, .ref 43]) (w1 := (wv x I1 J1)) rfl 6 rfl ?_
  refine wa_s rfl k.1 ?_
  have k := k.2
  refine cv_I (mj := 149) (a := 43) (as := [.int (S.2 (l4 + (1 : Int32)).toNatClampNeg)]) (r := []) rfl rfl rfl ⟨rfl, by decide, Nat.le_of_ble_eq_true rfl, Nat.le_of_ble_eq_true rfl⟩ rfl (wcI_mono k (fun r2 I2 J2 k => ?_))
  refine wp_seg (C := gC0) (pc1 := 1362) (Lo1 := [some (.ref mScr), some (.ref 0), some (.ref 43), some (.ref 67), some (.int l4), none, none]) (st1' := []) (w1 := (wv x I2 J2)) rfl 2 rfl ?_
  exact k
set_option maxRecDepth 20000 in
theorem L_318 {S : Nat × (Nat → Int32)} {d : Nat} {x : mX} {I : rI0} {J : rJ0} {l4 : Int32} {Q : mO → mW → Prop} (k : (wcI S (d + 7) 101 [.ref 0] x I J (fun r1 I1 J1 => (wcI S (d + 7) 181 [.ref 43] x I1 J1 (fun r2 I2 J2 => wp S (d + 8) 0 1362 [some (.ref mScr), some (.ref 0), some (.ref 43), some (.ref 67), some (.int l4), none, none] [] (wv x I2 J2) Q))))) : wp S (d + 8) 0 318 [some (.ref mScr), some (.ref 0), some (.ref 43), some (.ref 67), some (.int l4), none, none] [] (wv x I J) Q := by
  refine wp_seg (C := gC0) (pc1 := 319) (Lo1 := [some (.ref mScr), some (.ref 0), some (.ref 43), some (.ref 67), some (.int l4), none, none]) (st1' := [.ref 0]) (w1 := (wv x I J)) rfl 1 rfl ?_
  refine cv_I (mj := 101) (a := 0) (as := []) (r := []) rfl rfl rfl ⟨rfl, by decide, Nat.le_of_ble_eq_true rfl, Nat.le_of_ble_eq_true rfl⟩ rfl (wcI_mono k (fun r1 I1 J1 k => ?_))
  refine wp_seg (C := gC0) (pc1 := 324) (Lo1 := [some (.ref mScr), some (.ref 0), some (.ref 43), some (.ref 67), some (.int l4), none, none]) (st1' := [.ref 43]) (w1 := (wv x I1 J1)) rfl 2 rfl ?_
  refine cv_I (mj := 181) (a := 43) (as := []) (r := []) rfl rfl rfl ⟨rfl, by decide, Nat.le_of_ble_eq_true rfl, Nat.le_of_ble_eq_true rfl⟩ rfl (wcI_mono k (fun r2 I2 J2 k => ?_))
  refine wp_seg (C := gC0) (pc1 := 1362) (Lo1 := [some (.ref mScr), some (.ref 0), some (.ref 43), some (.ref 67), some (.int l4), none, none]) (st1' := []) (w1 := (wv x I2 J2)) rfl 2 rfl ?_
  exact k
set_option maxRecDepth 20000 in
theorem L_331 {S : Nat × (Nat → Int32)} {d : Nat} {x : mX} {I : rI0} {J : rJ0} {l4 : Int32} {Q : mO → mW → Prop} (k : (wcI S (d + 7) 102 [.ref 0] x I J (fun r1 I1 J1 => (wcI S (d + 7) 182 [.ref 43] x I1 J1 (fun r2 I2 J2 => wp S (d + 8) 0 1362 [some (.ref mScr), some (.ref 0), some (.ref 43), some (.ref 67), some (.int l4), none, none] [] (wv x I2 J2) Q))))) : wp S (d + 8) 0 331 [some (.ref mScr), some (.ref 0), some (.ref 43), some (.ref 67), some (.int l4), none, none] [] (wv x I J) Q := by
  refine wp_seg (C := gC0) (pc1 := 332) (Lo1 := [some (.ref mScr), some (.ref 0), some (.ref 43), some (.ref 67), some (.int l4), none, none]) (st1' := [.ref 0]) (w1 := (wv x I J)) rfl 1 rfl ?_
  refine cv_I (mj := 102) (a := 0) (as := []) (r := []) rfl rfl rfl ⟨rfl, by decide, Nat.le_of_ble_eq_true rfl, Nat.le_of_ble_eq_true rfl⟩ rfl (wcI_mono k (fun r1 I1 J1 k => ?_))
  refine wp_seg (C := gC0) (pc1 := 337) (Lo1 := [some (.ref mScr), some (.ref 0), some (.ref 43), some (.ref 67), some (.int l4), none, none]) (st1' := [.ref 43]) (w1 := (wv x I1 J1)) rfl 2 rfl ?_
  refine cv_I (mj := 182) (a := 43) (as := []) (r := []) rfl rfl rfl ⟨rfl, by decide, Nat.le_of_ble_eq_true rfl, Nat.le_of_ble_eq_true rfl⟩ rfl (wcI_mono k (fun r2 I2 J2 k => ?_))
  refine wp_seg (C := gC0) (pc1 := 1362) (Lo1 := [some (.ref mScr), some (.ref 0), some (.ref 43), some (.ref 67), some (.int l4), none, none]) (st1' := []) (w1 := (wv x I2 J2)) rfl 2 rfl ?_
  exact k
set_option maxRecDepth 20000 in
theorem L_344 {S : Nat × (Nat → Int32)} {d : Nat} {x : mX} {I : rI0} {J : rJ0} {l4 : Int32} {Q : mO → mW → Prop} (k : (¬ mOut (l4 + (1 : Int32)) S.1 ∧ (¬ mOut (l4 + (2 : Int32)) S.1 ∧ (wcT S (d + 6) 103 [.ref 0, .int (S.2 (l4 + (1 : Int32)).toNatClampNeg), .int (S.2 (l4 + (2 : Int32)).toNatClampNeg)] x I J (fun x1 I1 J1 => (¬ mOut (l4 + (1 : Int32)) S.1 ∧ (¬ mOut (l4 + (2 : Int32)) S.1 ∧ (wcI S (d + 7) 187 [.ref 43, .int (S.2 (l4 + (1 : Int32)).toNatClampNeg), .int (S.2 (l4 + (2 : Int32)).toNatClampNeg)] x1 I1 J1 (fun r2 I2 J2 => wp S (d + 8) 0 1362 [some (.ref mScr), some (.ref 0), some (.ref 43), some (.ref 67), some (.int l4), none, none] [] (wv x1 I2 J2) Q))))) (fun r1 I1 J1 => (¬ mOut (l4 + (1 : Int32)) S.1 ∧ (¬ mOut (l4 + (2 : Int32)) S.1 ∧ (wcI S (d + 7) 187 [.ref 43, .int (S.2 (l4 + (1 : Int32)).toNatClampNeg), .int (S.2 (l4 + (2 : Int32)).toNatClampNeg)] x I1 (mSet J1 67 0 r1.toInt64) (fun r3 I3 J3 => wp S (d + 8) 0 1362 [some (.ref mScr), some (.ref 0), some (.ref 43), some (.ref 67), some (.int l4), none, none] [] (wv x I3 J3) Q))))))))) : wp S (d + 8) 0 344 [some (.ref mScr), some (.ref 0), some (.ref 43), some (.ref 67), some (.int l4), none, none] [] (wv x I J) Q := by
  refine wp_seg (C := gC0) (pc1 := 350) (Lo1 := [some (.ref mScr), some (.ref 0), some (.ref 43), some (.ref 67), some (.int l4), none, none]) (st1' := [.int (l4 + (1 : Int32)), .ref mScr, .ref 0]) (w1 := (wv x I J)) rfl 5 rfl ?_
  refine wa_s rfl k.1 ?_
  have k := k.2
  refine wp_seg (C := gC0) (pc1 := 356) (Lo1 := [some (.ref mScr), some (.ref 0), some (.ref 43), some (.ref 67), some (.int l4), none, none]) (st1' := [.int (l4 + (2 : Int32)), .ref mScr, .int (S.2 (l4 + (1 : Int32)).toNatClampNeg), .ref 0]) (w1 := (wv x I J)) rfl 4 rfl ?_
  refine wa_s rfl k.1 ?_
  have k := k.2
  refine wp_seg (C := gC0) (pc1 := 358) (Lo1 := [some (.ref mScr), some (.ref 0), some (.ref 43), some (.ref 67), some (.int l4), none, none]) (st1' := [.ref 67, .int (S.2 (l4 + (2 : Int32)).toNatClampNeg), .int (S.2 (l4 + (1 : Int32)).toNatClampNeg), .ref 0]) (w1 := (wv x I J)) rfl 1 rfl ?_
  refine ch_T (mj := 246) (r := []) rfl rfl rfl ⟨rfl, by decide, Nat.le_of_ble_eq_true rfl, Nat.le_of_ble_eq_true rfl⟩ ⟨by decide, by decide⟩ (wc_mono k ?_)
  rintro o w (⟨r1, I1, J1, h1, h2, k⟩ | ⟨x1, I1, J1, h1, h2, k⟩)
  · refine Or.inl ⟨r1, I1, J1, h1, h2, ?_⟩
    refine wp_seg (C := gC0) (pc1 := 369) (Lo1 := [some (.ref mScr), some (.ref 0), some (.ref 43), some (.ref 67), some (.int l4), some (.int (0 : Int32)), none]) (st1' := [.int (l4 + (1 : Int32)), .ref mScr, .ref 43]) (w1 := (wv x I1 (mSet J1 67 0 r1.toInt64))) rfl 6 rfl ?_
    refine wa_s rfl k.1 ?_
    have k := k.2
    refine wp_seg (C := gC0) (pc1 := 375) (Lo1 := [some (.ref mScr), some (.ref 0), some (.ref 43), some (.ref 67), some (.int l4), some (.int (0 : Int32)), none]) (st1' := [.int (l4 + (2 : Int32)), .ref mScr, .int (S.2 (l4 + (1 : Int32)).toNatClampNeg), .ref 43]) (w1 := (wv x I1 (mSet J1 67 0 r1.toInt64))) rfl 4 rfl ?_
    refine wa_s rfl k.1 ?_
    have k := k.2
    refine cv_I (mj := 187) (a := 43) (as := [.int (S.2 (l4 + (1 : Int32)).toNatClampNeg), .int (S.2 (l4 + (2 : Int32)).toNatClampNeg)]) (r := []) rfl rfl rfl ⟨rfl, by decide, Nat.le_of_ble_eq_true rfl, Nat.le_of_ble_eq_true rfl⟩ rfl (wcI_mono k (fun r3 I3 J3 k => ?_))
    refine wp_seg (C := gC0) (pc1 := 1362) (Lo1 := [some (.ref mScr), some (.ref 0), some (.ref 43), some (.ref 67), some (.int l4), some (.int (0 : Int32)), some (.int r3)]) (st1' := []) (w1 := (wv x I3 J3)) rfl 2 rfl ?_
    exact wp_sub (Lo := [some (.ref mScr), some (.ref 0), some (.ref 43), some (.ref 67), some (.int l4), none, none]) (And.intro rfl (And.intro rfl (And.intro rfl (And.intro rfl (And.intro rfl (trivial)))))) k
  · refine Or.inr ⟨x1, I1, J1, h1, h2, ?_⟩
    refine wp_seg (C := gC0) (pc1 := 369) (Lo1 := [some (.ref mScr), some (.ref 0), some (.ref 43), some (.ref 67), some (.int l4), some (.int (1 : Int32)), none]) (st1' := [.int (l4 + (1 : Int32)), .ref mScr, .ref 43]) (w1 := (wv x1 I1 J1)) rfl 6 rfl ?_
    refine wa_s rfl k.1 ?_
    have k := k.2
    refine wp_seg (C := gC0) (pc1 := 375) (Lo1 := [some (.ref mScr), some (.ref 0), some (.ref 43), some (.ref 67), some (.int l4), some (.int (1 : Int32)), none]) (st1' := [.int (l4 + (2 : Int32)), .ref mScr, .int (S.2 (l4 + (1 : Int32)).toNatClampNeg), .ref 43]) (w1 := (wv x1 I1 J1)) rfl 4 rfl ?_
    refine wa_s rfl k.1 ?_
    have k := k.2
    refine cv_I (mj := 187) (a := 43) (as := [.int (S.2 (l4 + (1 : Int32)).toNatClampNeg), .int (S.2 (l4 + (2 : Int32)).toNatClampNeg)]) (r := []) rfl rfl rfl ⟨rfl, by decide, Nat.le_of_ble_eq_true rfl, Nat.le_of_ble_eq_true rfl⟩ rfl (wcI_mono k (fun r2 I2 J2 k => ?_))
    refine wp_seg (C := gC0) (pc1 := 1362) (Lo1 := [some (.ref mScr), some (.ref 0), some (.ref 43), some (.ref 67), some (.int l4), some (.int (1 : Int32)), some (.int r2)]) (st1' := []) (w1 := (wv x1 I2 J2)) rfl 2 rfl ?_
    exact wp_sub (Lo := [some (.ref mScr), some (.ref 0), some (.ref 43), some (.ref 67), some (.int l4), none, none]) (And.intro rfl (And.intro rfl (And.intro rfl (And.intro rfl (And.intro rfl (trivial)))))) k
set_option maxRecDepth 20000 in
theorem L_384 {S : Nat × (Nat → Int32)} {d : Nat} {x : mX} {I : rI0} {J : rJ0} {l4 : Int32} {Q : mO → mW → Prop} (k : (¬ mOut (l4 + (1 : Int32)) S.1 ∧ (¬ mOut (l4 + (2 : Int32)) S.1 ∧ (wcI S (d + 7) 104 [.ref 0, .int (S.2 (l4 + (1 : Int32)).toNatClampNeg), .int (S.2 (l4 + (2 : Int32)).toNatClampNeg)] x I J (fun r1 I1 J1 => (¬ mOut (l4 + (1 : Int32)) S.1 ∧ (¬ mOut (l4 + (2 : Int32)) S.1 ∧ (wcI S (d + 7) 189 [.ref 43, .int (S.2 (l4 + (1 : Int32)).toNatClampNeg), .int (S.2 (l4 + (2 : Int32)).toNatClampNeg)] x I1 J1 (fun r2 I2 J2 => wp S (d + 8) 0 1362 [some (.ref mScr), some (.ref 0), some (.ref 43), some (.ref 67), some (.int l4), none, none] [] (wv x I2 J2) Q))))))))) : wp S (d + 8) 0 384 [some (.ref mScr), some (.ref 0), some (.ref 43), some (.ref 67), some (.int l4), none, none] [] (wv x I J) Q := by
  refine wp_seg (C := gC0) (pc1 := 390) (Lo1 := [some (.ref mScr), some (.ref 0), some (.ref 43), some (.ref 67), some (.int l4), none, none]) (st1' := [.int (l4 + (1 : Int32)), .ref mScr, .ref 0]) (w1 := (wv x I J)) rfl 5 rfl ?_
  refine wa_s rfl k.1 ?_
  have k := k.2
  refine wp_seg (C := gC0) (pc1 := 396) (Lo1 := [some (.ref mScr), some (.ref 0), some (.ref 43), some (.ref 67), some (.int l4), none, none]) (st1' := [.int (l4 + (2 : Int32)), .ref mScr, .int (S.2 (l4 + (1 : Int32)).toNatClampNeg), .ref 0]) (w1 := (wv x I J)) rfl 4 rfl ?_
  refine wa_s rfl k.1 ?_
  have k := k.2
  refine cv_I (mj := 104) (a := 0) (as := [.int (S.2 (l4 + (1 : Int32)).toNatClampNeg), .int (S.2 (l4 + (2 : Int32)).toNatClampNeg)]) (r := []) rfl rfl rfl ⟨rfl, by decide, Nat.le_of_ble_eq_true rfl, Nat.le_of_ble_eq_true rfl⟩ rfl (wcI_mono k (fun r1 I1 J1 k => ?_))
  refine wp_seg (C := gC0) (pc1 := 407) (Lo1 := [some (.ref mScr), some (.ref 0), some (.ref 43), some (.ref 67), some (.int l4), none, none]) (st1' := [.int (l4 + (1 : Int32)), .ref mScr, .ref 43]) (w1 := (wv x I1 J1)) rfl 6 rfl ?_
  refine wa_s rfl k.1 ?_
  have k := k.2
  refine wp_seg (C := gC0) (pc1 := 413) (Lo1 := [some (.ref mScr), some (.ref 0), some (.ref 43), some (.ref 67), some (.int l4), none, none]) (st1' := [.int (l4 + (2 : Int32)), .ref mScr, .int (S.2 (l4 + (1 : Int32)).toNatClampNeg), .ref 43]) (w1 := (wv x I1 J1)) rfl 4 rfl ?_
  refine wa_s rfl k.1 ?_
  have k := k.2
  refine cv_I (mj := 189) (a := 43) (as := [.int (S.2 (l4 + (1 : Int32)).toNatClampNeg), .int (S.2 (l4 + (2 : Int32)).toNatClampNeg)]) (r := []) rfl rfl rfl ⟨rfl, by decide, Nat.le_of_ble_eq_true rfl, Nat.le_of_ble_eq_true rfl⟩ rfl (wcI_mono k (fun r2 I2 J2 k => ?_))
  refine wp_seg (C := gC0) (pc1 := 1362) (Lo1 := [some (.ref mScr), some (.ref 0), some (.ref 43), some (.ref 67), some (.int l4), none, none]) (st1' := []) (w1 := (wv x I2 J2)) rfl 2 rfl ?_
  exact k
set_option maxRecDepth 20000 in
theorem L_421 {S : Nat × (Nat → Int32)} {d : Nat} {x : mX} {I : rI0} {J : rJ0} {l4 : Int32} {Q : mO → mW → Prop} (k : (¬ mOut (l4 + (1 : Int32)) S.1 ∧ (¬ mOut (l4 + (2 : Int32)) S.1 ∧ (wcI S (d + 7) 105 [.ref 0, .int (S.2 (l4 + (1 : Int32)).toNatClampNeg), .int (S.2 (l4 + (2 : Int32)).toNatClampNeg)] x I J (fun r1 I1 J1 => (¬ mOut (l4 + (1 : Int32)) S.1 ∧ (¬ mOut (l4 + (2 : Int32)) S.1 ∧ (wcI S (d + 7) 190 [.ref 43, .int (S.2 (l4 + (1 : Int32)).toNatClampNeg), .int (S.2 (l4 + (2 : Int32)).toNatClampNeg)] x I1 J1 (fun r2 I2 J2 => wp S (d + 8) 0 1362 [some (.ref mScr), some (.ref 0), some (.ref 43), some (.ref 67), some (.int l4), none, none] [] (wv x I2 J2) Q))))))))) : wp S (d + 8) 0 421 [some (.ref mScr), some (.ref 0), some (.ref 43), some (.ref 67), some (.int l4), none, none] [] (wv x I J) Q := by
  refine wp_seg (C := gC0) (pc1 := 427) (Lo1 := [some (.ref mScr), some (.ref 0), some (.ref 43), some (.ref 67), some (.int l4), none, none]) (st1' := [.int (l4 + (1 : Int32)), .ref mScr, .ref 0]) (w1 := (wv x I J)) rfl 5 rfl ?_
  refine wa_s rfl k.1 ?_
  have k := k.2
  refine wp_seg (C := gC0) (pc1 := 433) (Lo1 := [some (.ref mScr), some (.ref 0), some (.ref 43), some (.ref 67), some (.int l4), none, none]) (st1' := [.int (l4 + (2 : Int32)), .ref mScr, .int (S.2 (l4 + (1 : Int32)).toNatClampNeg), .ref 0]) (w1 := (wv x I J)) rfl 4 rfl ?_
  refine wa_s rfl k.1 ?_
  have k := k.2
  refine cv_I (mj := 105) (a := 0) (as := [.int (S.2 (l4 + (1 : Int32)).toNatClampNeg), .int (S.2 (l4 + (2 : Int32)).toNatClampNeg)]) (r := []) rfl rfl rfl ⟨rfl, by decide, Nat.le_of_ble_eq_true rfl, Nat.le_of_ble_eq_true rfl⟩ rfl (wcI_mono k (fun r1 I1 J1 k => ?_))
  refine wp_seg (C := gC0) (pc1 := 444) (Lo1 := [some (.ref mScr), some (.ref 0), some (.ref 43), some (.ref 67), some (.int l4), none, none]) (st1' := [.int (l4 + (1 : Int32)), .ref mScr, .ref 43]) (w1 := (wv x I1 J1)) rfl 6 rfl ?_
  refine wa_s rfl k.1 ?_
  have k := k.2
  refine wp_seg (C := gC0) (pc1 := 450) (Lo1 := [some (.ref mScr), some (.ref 0), some (.ref 43), some (.ref 67), some (.int l4), none, none]) (st1' := [.int (l4 + (2 : Int32)), .ref mScr, .int (S.2 (l4 + (1 : Int32)).toNatClampNeg), .ref 43]) (w1 := (wv x I1 J1)) rfl 4 rfl ?_
  refine wa_s rfl k.1 ?_
  have k := k.2
  refine cv_I (mj := 190) (a := 43) (as := [.int (S.2 (l4 + (1 : Int32)).toNatClampNeg), .int (S.2 (l4 + (2 : Int32)).toNatClampNeg)]) (r := []) rfl rfl rfl ⟨rfl, by decide, Nat.le_of_ble_eq_true rfl, Nat.le_of_ble_eq_true rfl⟩ rfl (wcI_mono k (fun r2 I2 J2 k => ?_))
  refine wp_seg (C := gC0) (pc1 := 1362) (Lo1 := [some (.ref mScr), some (.ref 0), some (.ref 43), some (.ref 67), some (.int l4), none, none]) (st1' := []) (w1 := (wv x I2 J2)) rfl 2 rfl ?_
  exact k
set_option maxRecDepth 20000 in
theorem L_458 {S : Nat × (Nat → Int32)} {d : Nat} {x : mX} {I : rI0} {J : rJ0} {l4 : Int32} {Q : mO → mW → Prop} (k : (¬ mOut (l4 + (1 : Int32)) S.1 ∧ (¬ mOut (l4 + (2 : Int32)) S.1 ∧ (wcI S (d + 7) 106 [.ref 0, .int (S.2 (l4 + (1 : Int32)).toNatClampNeg), .int (S.2 (l4 + (2 : Int32)).toNatClampNeg)] x I J (fun r1 I1 J1 => (¬ mOut (l4 + (1 : Int32)) S.1 ∧ (¬ mOut (l4 + (2 : Int32)) S.1 ∧ (wcI S (d + 7) 191 [.ref 43, .int (S.2 (l4 + (1 : Int32)).toNatClampNeg), .int (S.2 (l4 + (2 : Int32)).toNatClampNeg)] x I1 J1 (fun r2 I2 J2 => wp S (d + 8) 0 1362 [some (.ref mScr), some (.ref 0), some (.ref 43), some (.ref 67), some (.int l4), none, none] [] (wv x I2 J2) Q))))))))) : wp S (d + 8) 0 458 [some (.ref mScr), some (.ref 0), some (.ref 43), some (.ref 67), some (.int l4), none, none] [] (wv x I J) Q := by
  refine wp_seg (C := gC0) (pc1 := 464) (Lo1 := [some (.ref mScr), some (.ref 0), some (.ref 43), some (.ref 67), some (.int l4), none, none]) (st1' := [.int (l4 + (1 : Int32)), .ref mScr, .ref 0]) (w1 := (wv x I J)) rfl 5 rfl ?_
  refine wa_s rfl k.1 ?_
  have k := k.2
  refine wp_seg (C := gC0) (pc1 := 470) (Lo1 := [some (.ref mScr), some (.ref 0), some (.ref 43), some (.ref 67), some (.int l4), none, none]) (st1' := [.int (l4 + (2 : Int32)), .ref mScr, .int (S.2 (l4 + (1 : Int32)).toNatClampNeg), .ref 0]) (w1 := (wv x I J)) rfl 4 rfl ?_
  refine wa_s rfl k.1 ?_
  have k := k.2
  refine cv_I (mj := 106) (a := 0) (as := [.int (S.2 (l4 + (1 : Int32)).toNatClampNeg), .int (S.2 (l4 + (2 : Int32)).toNatClampNeg)]) (r := []) rfl rfl rfl ⟨rfl, by decide, Nat.le_of_ble_eq_true rfl, Nat.le_of_ble_eq_true rfl⟩ rfl (wcI_mono k (fun r1 I1 J1 k => ?_))
  refine wp_seg (C := gC0) (pc1 := 481) (Lo1 := [some (.ref mScr), some (.ref 0), some (.ref 43), some (.ref 67), some (.int l4), none, none]) (st1' := [.int (l4 + (1 : Int32)), .ref mScr, .ref 43]) (w1 := (wv x I1 J1)) rfl 6 rfl ?_
  refine wa_s rfl k.1 ?_
  have k := k.2
  refine wp_seg (C := gC0) (pc1 := 487) (Lo1 := [some (.ref mScr), some (.ref 0), some (.ref 43), some (.ref 67), some (.int l4), none, none]) (st1' := [.int (l4 + (2 : Int32)), .ref mScr, .int (S.2 (l4 + (1 : Int32)).toNatClampNeg), .ref 43]) (w1 := (wv x I1 J1)) rfl 4 rfl ?_
  refine wa_s rfl k.1 ?_
  have k := k.2
  refine cv_I (mj := 191) (a := 43) (as := [.int (S.2 (l4 + (1 : Int32)).toNatClampNeg), .int (S.2 (l4 + (2 : Int32)).toNatClampNeg)]) (r := []) rfl rfl rfl ⟨rfl, by decide, Nat.le_of_ble_eq_true rfl, Nat.le_of_ble_eq_true rfl⟩ rfl (wcI_mono k (fun r2 I2 J2 k => ?_))
  refine wp_seg (C := gC0) (pc1 := 1362) (Lo1 := [some (.ref mScr), some (.ref 0), some (.ref 43), some (.ref 67), some (.int l4), none, none]) (st1' := []) (w1 := (wv x I2 J2)) rfl 2 rfl ?_
  exact k
set_option maxRecDepth 20000 in
theorem L_495 {S : Nat × (Nat → Int32)} {d : Nat} {x : mX} {I : rI0} {J : rJ0} {l4 : Int32} {Q : mO → mW → Prop} (k : (wcI S (d + 7) 107 [.ref 0] x I J (fun r1 I1 J1 => (wcI S (d + 7) 193 [.ref 43] x I1 J1 (fun r2 I2 J2 => wp S (d + 8) 0 1362 [some (.ref mScr), some (.ref 0), some (.ref 43), some (.ref 67), some (.int l4), none, none] [] (wv x I2 J2) Q))))) : wp S (d + 8) 0 495 [some (.ref mScr), some (.ref 0), some (.ref 43), some (.ref 67), some (.int l4), none, none] [] (wv x I J) Q := by
  refine wp_seg (C := gC0) (pc1 := 496) (Lo1 := [some (.ref mScr), some (.ref 0), some (.ref 43), some (.ref 67), some (.int l4), none, none]) (st1' := [.ref 0]) (w1 := (wv x I J)) rfl 1 rfl ?_
  refine cv_I (mj := 107) (a := 0) (as := []) (r := []) rfl rfl rfl ⟨rfl, by decide, Nat.le_of_ble_eq_true rfl, Nat.le_of_ble_eq_true rfl⟩ rfl (wcI_mono k (fun r1 I1 J1 k => ?_))
  refine wp_seg (C := gC0) (pc1 := 501) (Lo1 := [some (.ref mScr), some (.ref 0), some (.ref 43), some (.ref 67), some (.int l4), none, none]) (st1' := [.ref 43]) (w1 := (wv x I1 J1)) rfl 2 rfl ?_
  refine cv_I (mj := 193) (a := 43) (as := []) (r := []) rfl rfl rfl ⟨rfl, by decide, Nat.le_of_ble_eq_true rfl, Nat.le_of_ble_eq_true rfl⟩ rfl (wcI_mono k (fun r2 I2 J2 k => ?_))
  refine wp_seg (C := gC0) (pc1 := 1362) (Lo1 := [some (.ref mScr), some (.ref 0), some (.ref 43), some (.ref 67), some (.int l4), none, none]) (st1' := []) (w1 := (wv x I2 J2)) rfl 2 rfl ?_
  exact k
set_option maxRecDepth 20000 in
theorem L_508 {S : Nat × (Nat → Int32)} {d : Nat} {x : mX} {I : rI0} {J : rJ0} {l4 : Int32} {Q : mO → mW → Prop} (k : (¬ mOut (l4 + (1 : Int32)) S.1 ∧ (¬ mOut (l4 + (2 : Int32)) S.1 ∧ (wcT S (d + 6) 108 [.ref 0, .int (S.2 (l4 + (1 : Int32)).toNatClampNeg), .int (S.2 (l4 + (2 : Int32)).toNatClampNeg)] x I J (fun x1 I1 J1 => (¬ mOut (l4 + (1 : Int32)) S.1 ∧ (¬ mOut (l4 + (2 : Int32)) S.1 ∧ (wcI S (d + 7) 194 [.ref 43, .int (S.2 (l4 + (1 : Int32)).toNatClampNeg), .int (S.2 (l4 + (2 : Int32)).toNatClampNeg)] x1 I1 J1 (fun r2 I2 J2 => wp S (d + 8) 0 1362 [some (.ref mScr), some (.ref 0), some (.ref 43), some (.ref 67), some (.int l4), none, none] [] (wv x1 I2 J2) Q))))) (fun r1 I1 J1 => (¬ mOut (l4 + (1 : Int32)) S.1 ∧ (¬ mOut (l4 + (2 : Int32)) S.1 ∧ (wcI S (d + 7) 194 [.ref 43, .int (S.2 (l4 + (1 : Int32)).toNatClampNeg), .int (S.2 (l4 + (2 : Int32)).toNatClampNeg)] x I1 (mSet J1 67 0 r1.toInt64) (fun r3 I3 J3 => wp S (d + 8) 0 1362 [some (.ref mScr), some (.ref 0), some (.ref 43), some (.ref 67), some (.int l4), none, none] [] (wv x I3 J3) Q))))))))) : wp S (d + 8) 0 508 [some (.ref mScr), some (.ref 0), some (.ref 43), some (.ref 67), some (.int l4), none, none] [] (wv x I J) Q := by
  refine wp_seg (C := gC0) (pc1 := 514) (Lo1 := [some (.ref mScr), some (.ref 0), some (.ref 43), some (.ref 67), some (.int l4), none, none]) (st1' := [.int (l4 + (1 : Int32)), .ref mScr, .ref 0]) (w1 := (wv x I J)) rfl 5 rfl ?_
  refine wa_s rfl k.1 ?_
  have k := k.2
  refine wp_seg (C := gC0) (pc1 := 520) (Lo1 := [some (.ref mScr), some (.ref 0), some (.ref 43), some (.ref 67), some (.int l4), none, none]) (st1' := [.int (l4 + (2 : Int32)), .ref mScr, .int (S.2 (l4 + (1 : Int32)).toNatClampNeg), .ref 0]) (w1 := (wv x I J)) rfl 4 rfl ?_
  refine wa_s rfl k.1 ?_
  have k := k.2
  refine wp_seg (C := gC0) (pc1 := 522) (Lo1 := [some (.ref mScr), some (.ref 0), some (.ref 43), some (.ref 67), some (.int l4), none, none]) (st1' := [.ref 67, .int (S.2 (l4 + (2 : Int32)).toNatClampNeg), .int (S.2 (l4 + (1 : Int32)).toNatClampNeg), .ref 0]) (w1 := (wv x I J)) rfl 1 rfl ?_
  refine ch_T (mj := 247) (r := []) rfl rfl rfl ⟨rfl, by decide, Nat.le_of_ble_eq_true rfl, Nat.le_of_ble_eq_true rfl⟩ ⟨by decide, by decide⟩ (wc_mono k ?_)
  rintro o w (⟨r1, I1, J1, h1, h2, k⟩ | ⟨x1, I1, J1, h1, h2, k⟩)
  · refine Or.inl ⟨r1, I1, J1, h1, h2, ?_⟩
    refine wp_seg (C := gC0) (pc1 := 533) (Lo1 := [some (.ref mScr), some (.ref 0), some (.ref 43), some (.ref 67), some (.int l4), some (.int (0 : Int32)), none]) (st1' := [.int (l4 + (1 : Int32)), .ref mScr, .ref 43]) (w1 := (wv x I1 (mSet J1 67 0 r1.toInt64))) rfl 6 rfl ?_
    refine wa_s rfl k.1 ?_
    have k := k.2
    refine wp_seg (C := gC0) (pc1 := 539) (Lo1 := [some (.ref mScr), some (.ref 0), some (.ref 43), some (.ref 67), some (.int l4), some (.int (0 : Int32)), none]) (st1' := [.int (l4 + (2 : Int32)), .ref mScr, .int (S.2 (l4 + (1 : Int32)).toNatClampNeg), .ref 43]) (w1 := (wv x I1 (mSet J1 67 0 r1.toInt64))) rfl 4 rfl ?_
    refine wa_s rfl k.1 ?_
    have k := k.2
    refine cv_I (mj := 194) (a := 43) (as := [.int (S.2 (l4 + (1 : Int32)).toNatClampNeg), .int (S.2 (l4 + (2 : Int32)).toNatClampNeg)]) (r := []) rfl rfl rfl ⟨rfl, by decide, Nat.le_of_ble_eq_true rfl, Nat.le_of_ble_eq_true rfl⟩ rfl (wcI_mono k (fun r3 I3 J3 k => ?_))
    refine wp_seg (C := gC0) (pc1 := 1362) (Lo1 := [some (.ref mScr), some (.ref 0), some (.ref 43), some (.ref 67), some (.int l4), some (.int (0 : Int32)), some (.int r3)]) (st1' := []) (w1 := (wv x I3 J3)) rfl 2 rfl ?_
    exact wp_sub (Lo := [some (.ref mScr), some (.ref 0), some (.ref 43), some (.ref 67), some (.int l4), none, none]) (And.intro rfl (And.intro rfl (And.intro rfl (And.intro rfl (And.intro rfl (trivial)))))) k
  · refine Or.inr ⟨x1, I1, J1, h1, h2, ?_⟩
    refine wp_seg (C := gC0) (pc1 := 533) (Lo1 := [some (.ref mScr), some (.ref 0), some (.ref 43), some (.ref 67), some (.int l4), some (.int (1 : Int32)), none]) (st1' := [.int (l4 + (1 : Int32)), .ref mScr, .ref 43]) (w1 := (wv x1 I1 J1)) rfl 6 rfl ?_
    refine wa_s rfl k.1 ?_
    have k := k.2
    refine wp_seg (C := gC0) (pc1 := 539) (Lo1 := [some (.ref mScr), some (.ref 0), some (.ref 43), some (.ref 67), some (.int l4), some (.int (1 : Int32)), none]) (st1' := [.int (l4 + (2 : Int32)), .ref mScr, .int (S.2 (l4 + (1 : Int32)).toNatClampNeg), .ref 43]) (w1 := (wv x1 I1 J1)) rfl 4 rfl ?_
    refine wa_s rfl k.1 ?_
    have k := k.2
    refine cv_I (mj := 194) (a := 43) (as := [.int (S.2 (l4 + (1 : Int32)).toNatClampNeg), .int (S.2 (l4 + (2 : Int32)).toNatClampNeg)]) (r := []) rfl rfl rfl ⟨rfl, by decide, Nat.le_of_ble_eq_true rfl, Nat.le_of_ble_eq_true rfl⟩ rfl (wcI_mono k (fun r2 I2 J2 k => ?_))
    refine wp_seg (C := gC0) (pc1 := 1362) (Lo1 := [some (.ref mScr), some (.ref 0), some (.ref 43), some (.ref 67), some (.int l4), some (.int (1 : Int32)), some (.int r2)]) (st1' := []) (w1 := (wv x1 I2 J2)) rfl 2 rfl ?_
    exact wp_sub (Lo := [some (.ref mScr), some (.ref 0), some (.ref 43), some (.ref 67), some (.int l4), none, none]) (And.intro rfl (And.intro rfl (And.intro rfl (And.intro rfl (And.intro rfl (trivial)))))) k
set_option maxRecDepth 20000 in
theorem L_548 {S : Nat × (Nat → Int32)} {d : Nat} {x : mX} {I : rI0} {J : rJ0} {l4 : Int32} {Q : mO → mW → Prop} (k : (¬ mOut (l4 + (1 : Int32)) S.1 ∧ (¬ mOut (l4 + (2 : Int32)) S.1 ∧ (¬ mOut (l4 + (3 : Int32)) S.1 ∧ (¬ mOut (l4 + (4 : Int32)) S.1 ∧ (wcI S (d + 7) 109 [.ref 0, .int (S.2 (l4 + (1 : Int32)).toNatClampNeg), .int (S.2 (l4 + (2 : Int32)).toNatClampNeg), .int (S.2 (l4 + (3 : Int32)).toNatClampNeg), .int (S.2 (l4 + (4 : Int32)).toNatClampNeg)] x I J (fun r1 I1 J1 => (¬ mOut (l4 + (1 : Int32)) S.1 ∧ (¬ mOut (l4 + (2 : Int32)) S.1 ∧ (¬ mOut (l4 + (3 : Int32)) S.1 ∧ (¬ mOut (l4 + (4 : Int32)) S.1 ∧ (wcI S (d + 7) 204 [.ref 43, .int (S.2 (l4 + (1 : Int32)).toNatClampNeg), .int (S.2 (l4 + (2 : Int32)).toNatClampNeg), .int (S.2 (l4 + (3 : Int32)).toNatClampNeg), .int (S.2 (l4 + (4 : Int32)).toNatClampNeg)] x I1 J1 (fun r2 I2 J2 => wp S (d + 8) 0 1362 [some (.ref mScr), some (.ref 0), some (.ref 43), some (.ref 67), some (.int l4), none, none] [] (wv x I2 J2) Q))))))))))))) : wp S (d + 8) 0 548 [some (.ref mScr), some (.ref 0), some (.ref 43), some (.ref 67), some (.int l4), none, none] [] (wv x I J) Q := by
  refine wp_seg (C := gC0) (pc1 := 554) (Lo1 := [some (.ref mScr), some (.ref 0), some (.ref 43), some (.ref 67), some (.int l4), none, none]) (st1' := [.int (l4 + (1 : Int32)), .ref mScr, .ref 0]) (w1 := (wv x I J)) rfl 5 rfl ?_
  refine wa_s rfl k.1 ?_
  have k := k.2
  refine wp_seg (C := gC0) (pc1 := 560) (Lo1 := [some (.ref mScr), some (.ref 0), some (.ref 43), some (.ref 67), some (.int l4), none, none]) (st1' := [.int (l4 + (2 : Int32)), .ref mScr, .int (S.2 (l4 + (1 : Int32)).toNatClampNeg), .ref 0]) (w1 := (wv x I J)) rfl 4 rfl ?_
  refine wa_s rfl k.1 ?_
  have k := k.2
  refine wp_seg (C := gC0) (pc1 := 566) (Lo1 := [some (.ref mScr), some (.ref 0), some (.ref 43), some (.ref 67), some (.int l4), none, none]) (st1' := [.int (l4 + (3 : Int32)), .ref mScr, .int (S.2 (l4 + (2 : Int32)).toNatClampNeg), .int (S.2 (l4 + (1 : Int32)).toNatClampNeg), .ref 0]) (w1 := (wv x I J)) rfl 4 rfl ?_
  refine wa_s rfl k.1 ?_
  have k := k.2
  refine wp_seg (C := gC0) (pc1 := 572) (Lo1 := [some (.ref mScr), some (.ref 0), some (.ref 43), some (.ref 67), some (.int l4), none, none]) (st1' := [.int (l4 + (4 : Int32)), .ref mScr, .int (S.2 (l4 + (3 : Int32)).toNatClampNeg), .int (S.2 (l4 + (2 : Int32)).toNatClampNeg), .int (S.2 (l4 + (1 : Int32)).toNatClampNeg), .ref 0]) (w1 := (wv x I J)) rfl 4 rfl ?_
  refine wa_s rfl k.1 ?_
  have k := k.2
  refine cv_I (mj := 109) (a := 0) (as := [.int (S.2 (l4 + (1 : Int32)).toNatClampNeg), .int (S.2 (l4 + (2 : Int32)).toNatClampNeg), .int (S.2 (l4 + (3 : Int32)).toNatClampNeg), .int (S.2 (l4 + (4 : Int32)).toNatClampNeg)]) (r := []) rfl rfl rfl ⟨rfl, by decide, Nat.le_of_ble_eq_true rfl, Nat.le_of_ble_eq_true rfl⟩ rfl (wcI_mono k (fun r1 I1 J1 k => ?_))
  refine wp_seg (C := gC0) (pc1 := 583) (Lo1 := [some (.ref mScr), some (.ref 0), some (.ref 43), some (.ref 67), some (.int l4), none, none]) (st1' := [.int (l4 + (1 : Int32)), .ref mScr, .ref 43]) (w1 := (wv x I1 J1)) rfl 6 rfl ?_
  refine wa_s rfl k.1 ?_
  have k := k.2
  refine wp_seg (C := gC0) (pc1 := 589) (Lo1 := [some (.ref mScr), some (.ref 0), some (.ref 43), some (.ref 67), some (.int l4), none, none]) (st1' := [.int (l4 + (2 : Int32)), .ref mScr, .int (S.2 (l4 + (1 : Int32)).toNatClampNeg), .ref 43]) (w1 := (wv x I1 J1)) rfl 4 rfl ?_
  refine wa_s rfl k.1 ?_
  have k := k.2
  refine wp_seg (C := gC0) (pc1 := 595) (Lo1 := [some (.ref mScr), some (.ref 0), some (.ref 43), some (.ref 67), some (.int l4), none, none]) (st1' := [.int (l4 + (3 : Int32)), .ref mScr, .int (S.2 (l4 + (2 : Int32)).toNatClampNeg), .int (S.2 (l4 + (1 : Int32)).toNatClampNeg), .ref 43]) (w1 := (wv x I1 J1)) rfl 4 rfl ?_
  refine wa_s rfl k.1 ?_
  have k := k.2
  refine wp_seg (C := gC0) (pc1 := 601) (Lo1 := [some (.ref mScr), some (.ref 0), some (.ref 43), some (.ref 67), some (.int l4), none, none]) (st1' := [.int (l4 + (4 : Int32)), .ref mScr, .int (S.2 (l4 + (3 : Int32)).toNatClampNeg), .int (S.2 (l4 + (2 : Int32)).toNatClampNeg), .int (S.2 (l4 + (1 : Int32)).toNatClampNeg), .ref 43]) (w1 := (wv x I1 J1)) rfl 4 rfl ?_
  refine wa_s rfl k.1 ?_
  have k := k.2
  refine cv_I (mj := 204) (a := 43) (as := [.int (S.2 (l4 + (1 : Int32)).toNatClampNeg), .int (S.2 (l4 + (2 : Int32)).toNatClampNeg), .int (S.2 (l4 + (3 : Int32)).toNatClampNeg), .int (S.2 (l4 + (4 : Int32)).toNatClampNeg)]) (r := []) rfl rfl rfl ⟨rfl, by decide, Nat.le_of_ble_eq_true rfl, Nat.le_of_ble_eq_true rfl⟩ rfl (wcI_mono k (fun r2 I2 J2 k => ?_))
  refine wp_seg (C := gC0) (pc1 := 1362) (Lo1 := [some (.ref mScr), some (.ref 0), some (.ref 43), some (.ref 67), some (.int l4), none, none]) (st1' := []) (w1 := (wv x I2 J2)) rfl 2 rfl ?_
  exact k
set_option maxRecDepth 20000 in
theorem L_609 {S : Nat × (Nat → Int32)} {d : Nat} {x : mX} {I : rI0} {J : rJ0} {l4 : Int32} {Q : mO → mW → Prop} (k : (¬ mOut (l4 + (1 : Int32)) S.1 ∧ (¬ mOut (l4 + (2 : Int32)) S.1 ∧ (¬ mOut (l4 + (3 : Int32)) S.1 ∧ (wcI S (d + 7) 110 [.ref 0, .int (S.2 (l4 + (1 : Int32)).toNatClampNeg), .int (S.2 (l4 + (2 : Int32)).toNatClampNeg), .int (S.2 (l4 + (3 : Int32)).toNatClampNeg)] x I J (fun r1 I1 J1 => (¬ mOut (l4 + (1 : Int32)) S.1 ∧ (¬ mOut (l4 + (2 : Int32)) S.1 ∧ (¬ mOut (l4 + (3 : Int32)) S.1 ∧ (wcI S (d + 7) 205 [.ref 43, .int (S.2 (l4 + (1 : Int32)).toNatClampNeg), .int (S.2 (l4 + (2 : Int32)).toNatClampNeg), .int (S.2 (l4 + (3 : Int32)).toNatClampNeg)] x I1 J1 (fun r2 I2 J2 => wp S (d + 8) 0 1362 [some (.ref mScr), some (.ref 0), some (.ref 43), some (.ref 67), some (.int l4), none, none] [] (wv x I2 J2) Q))))))))))) : wp S (d + 8) 0 609 [some (.ref mScr), some (.ref 0), some (.ref 43), some (.ref 67), some (.int l4), none, none] [] (wv x I J) Q := by
  refine wp_seg (C := gC0) (pc1 := 615) (Lo1 := [some (.ref mScr), some (.ref 0), some (.ref 43), some (.ref 67), some (.int l4), none, none]) (st1' := [.int (l4 + (1 : Int32)), .ref mScr, .ref 0]) (w1 := (wv x I J)) rfl 5 rfl ?_
  refine wa_s rfl k.1 ?_
  have k := k.2
  refine wp_seg (C := gC0) (pc1 := 621) (Lo1 := [some (.ref mScr), some (.ref 0), some (.ref 43), some (.ref 67), some (.int l4), none, none]) (st1' := [.int (l4 + (2 : Int32)), .ref mScr, .int (S.2 (l4 + (1 : Int32)).toNatClampNeg), .ref 0]) (w1 := (wv x I J)) rfl 4 rfl ?_
  refine wa_s rfl k.1 ?_
  have k := k.2
  refine wp_seg (C := gC0) (pc1 := 627) (Lo1 := [some (.ref mScr), some (.ref 0), some (.ref 43), some (.ref 67), some (.int l4), none, none]) (st1' := [.int (l4 + (3 : Int32)), .ref mScr, .int (S.2 (l4 + (2 : Int32)).toNatClampNeg), .int (S.2 (l4 + (1 : Int32)).toNatClampNeg), .ref 0]) (w1 := (wv x I J)) rfl 4 rfl ?_
  refine wa_s rfl k.1 ?_
  have k := k.2
  refine cv_I (mj := 110) (a := 0) (as := [.int (S.2 (l4 + (1 : Int32)).toNatClampNeg), .int (S.2 (l4 + (2 : Int32)).toNatClampNeg), .int (S.2 (l4 + (3 : Int32)).toNatClampNeg)]) (r := []) rfl rfl rfl ⟨rfl, by decide, Nat.le_of_ble_eq_true rfl, Nat.le_of_ble_eq_true rfl⟩ rfl (wcI_mono k (fun r1 I1 J1 k => ?_))
  refine wp_seg (C := gC0) (pc1 := 638) (Lo1 := [some (.ref mScr), some (.ref 0), some (.ref 43), some (.ref 67), some (.int l4), none, none]) (st1' := [.int (l4 + (1 : Int32)), .ref mScr, .ref 43]) (w1 := (wv x I1 J1)) rfl 6 rfl ?_
  refine wa_s rfl k.1 ?_
  have k := k.2
  refine wp_seg (C := gC0) (pc1 := 644) (Lo1 := [some (.ref mScr), some (.ref 0), some (.ref 43), some (.ref 67), some (.int l4), none, none]) (st1' := [.int (l4 + (2 : Int32)), .ref mScr, .int (S.2 (l4 + (1 : Int32)).toNatClampNeg), .ref 43]) (w1 := (wv x I1 J1)) rfl 4 rfl ?_
  refine wa_s rfl k.1 ?_
  have k := k.2
  refine wp_seg (C := gC0) (pc1 := 650) (Lo1 := [some (.ref mScr), some (.ref 0), some (.ref 43), some (.ref 67), some (.int l4), none, none]) (st1' := [.int (l4 + (3 : Int32)), .ref mScr, .int (S.2 (l4 + (2 : Int32)).toNatClampNeg), .int (S.2 (l4 + (1 : Int32)).toNatClampNeg), .ref 43]) (w1 := (wv x I1 J1)) rfl 4 rfl ?_
  refine wa_s rfl k.1 ?_
  have k := k.2
  refine cv_I (mj := 205) (a := 43) (as := [.int (S.2 (l4 + (1 : Int32)).toNatClampNeg), .int (S.2 (l4 + (2 : Int32)).toNatClampNeg), .int (S.2 (l4 + (3 : Int32)).toNatClampNeg)]) (r := []) rfl rfl rfl ⟨rfl, by decide, Nat.le_of_ble_eq_true rfl, Nat.le_of_ble_eq_true rfl⟩ rfl (wcI_mono k (fun r2 I2 J2 k => ?_))
  refine wp_seg (C := gC0) (pc1 := 1362) (Lo1 := [some (.ref mScr), some (.ref 0), some (.ref 43), some (.ref 67), some (.int l4), none, none]) (st1' := []) (w1 := (wv x I2 J2)) rfl 2 rfl ?_
  exact k
set_option maxRecDepth 20000 in
theorem L_658 {S : Nat × (Nat → Int32)} {d : Nat} {x : mX} {I : rI0} {J : rJ0} {l4 : Int32} {Q : mO → mW → Prop} (k : (¬ mOut (l4 + (1 : Int32)) S.1 ∧ (¬ mOut (l4 + (2 : Int32)) S.1 ∧ (wcI S (d + 7) 111 [.ref 0, .int (S.2 (l4 + (1 : Int32)).toNatClampNeg), .int (S.2 (l4 + (2 : Int32)).toNatClampNeg)] x I J (fun r1 I1 J1 => (¬ mOut (l4 + (1 : Int32)) S.1 ∧ (¬ mOut (l4 + (2 : Int32)) S.1 ∧ (wcI S (d + 7) 206 [.ref 43, .int (S.2 (l4 + (1 : Int32)).toNatClampNeg), .int (S.2 (l4 + (2 : Int32)).toNatClampNeg)] x I1 J1 (fun r2 I2 J2 => wp S (d + 8) 0 1362 [some (.ref mScr), some (.ref 0), some (.ref 43), some (.ref 67), some (.int l4), none, none] [] (wv x I2 J2) Q))))))))) : wp S (d + 8) 0 658 [some (.ref mScr), some (.ref 0), some (.ref 43), some (.ref 67), some (.int l4), none, none] [] (wv x I J) Q := by
  refine wp_seg (C := gC0) (pc1 := 664) (Lo1 := [some (.ref mScr), some (.ref 0), some (.ref 43), some (.ref 67), some (.int l4), none, none]) (st1' := [.int (l4 + (1 : Int32)), .ref mScr, .ref 0]) (w1 := (wv x I J)) rfl 5 rfl ?_
  refine wa_s rfl k.1 ?_
  have k := k.2
  refine wp_seg (C := gC0) (pc1 := 670) (Lo1 := [some (.ref mScr), some (.ref 0), some (.ref 43), some (.ref 67), some (.int l4), none, none]) (st1' := [.int (l4 + (2 : Int32)), .ref mScr, .int (S.2 (l4 + (1 : Int32)).toNatClampNeg), .ref 0]) (w1 := (wv x I J)) rfl 4 rfl ?_
  refine wa_s rfl k.1 ?_
  have k := k.2
  refine cv_I (mj := 111) (a := 0) (as := [.int (S.2 (l4 + (1 : Int32)).toNatClampNeg), .int (S.2 (l4 + (2 : Int32)).toNatClampNeg)]) (r := []) rfl rfl rfl ⟨rfl, by decide, Nat.le_of_ble_eq_true rfl, Nat.le_of_ble_eq_true rfl⟩ rfl (wcI_mono k (fun r1 I1 J1 k => ?_))
  refine wp_seg (C := gC0) (pc1 := 681) (Lo1 := [some (.ref mScr), some (.ref 0), some (.ref 43), some (.ref 67), some (.int l4), none, none]) (st1' := [.int (l4 + (1 : Int32)), .ref mScr, .ref 43]) (w1 := (wv x I1 J1)) rfl 6 rfl ?_
  refine wa_s rfl k.1 ?_
  have k := k.2
  refine wp_seg (C := gC0) (pc1 := 687) (Lo1 := [some (.ref mScr), some (.ref 0), some (.ref 43), some (.ref 67), some (.int l4), none, none]) (st1' := [.int (l4 + (2 : Int32)), .ref mScr, .int (S.2 (l4 + (1 : Int32)).toNatClampNeg), .ref 43]) (w1 := (wv x I1 J1)) rfl 4 rfl ?_
  refine wa_s rfl k.1 ?_
  have k := k.2
  refine cv_I (mj := 206) (a := 43) (as := [.int (S.2 (l4 + (1 : Int32)).toNatClampNeg), .int (S.2 (l4 + (2 : Int32)).toNatClampNeg)]) (r := []) rfl rfl rfl ⟨rfl, by decide, Nat.le_of_ble_eq_true rfl, Nat.le_of_ble_eq_true rfl⟩ rfl (wcI_mono k (fun r2 I2 J2 k => ?_))
  refine wp_seg (C := gC0) (pc1 := 1362) (Lo1 := [some (.ref mScr), some (.ref 0), some (.ref 43), some (.ref 67), some (.int l4), none, none]) (st1' := []) (w1 := (wv x I2 J2)) rfl 2 rfl ?_
  exact k
set_option maxRecDepth 20000 in
theorem L_695 {S : Nat × (Nat → Int32)} {d : Nat} {x : mX} {I : rI0} {J : rJ0} {l4 : Int32} {Q : mO → mW → Prop} (k : (¬ mOut (l4 + (1 : Int32)) S.1 ∧ (¬ mOut (l4 + (2 : Int32)) S.1 ∧ (¬ mOut (l4 + (3 : Int32)) S.1 ∧ (wcI S (d + 7) 112 [.ref 0, .int (S.2 (l4 + (1 : Int32)).toNatClampNeg), .int (S.2 (l4 + (2 : Int32)).toNatClampNeg), .int (S.2 (l4 + (3 : Int32)).toNatClampNeg)] x I J (fun r1 I1 J1 => (¬ mOut (l4 + (1 : Int32)) S.1 ∧ (¬ mOut (l4 + (2 : Int32)) S.1 ∧ (¬ mOut (l4 + (3 : Int32)) S.1 ∧ (wcI S (d + 7) 207 [.ref 43, .int (S.2 (l4 + (1 : Int32)).toNatClampNeg), .int (S.2 (l4 + (2 : Int32)).toNatClampNeg), .int (S.2 (l4 + (3 : Int32)).toNatClampNeg)] x I1 J1 (fun r2 I2 J2 => wp S (d + 8) 0 1362 [some (.ref mScr), some (.ref 0), some (.ref 43), some (.ref 67), some (.int l4), none, none] [] (wv x I2 J2) Q))))))))))) : wp S (d + 8) 0 695 [some (.ref mScr), some (.ref 0), some (.ref 43), some (.ref 67), some (.int l4), none, none] [] (wv x I J) Q := by
  refine wp_seg (C := gC0) (pc1 := 701) (Lo1 := [some (.ref mScr), some (.ref 0), some (.ref 43), some (.ref 67), some (.int l4), none, none]) (st1' := [.int (l4 + (1 : Int32)), .ref mScr, .ref 0]) (w1 := (wv x I J)) rfl 5 rfl ?_
  refine wa_s rfl k.1 ?_
  have k := k.2
  refine wp_seg (C := gC0) (pc1 := 707) (Lo1 := [some (.ref mScr), some (.ref 0), some (.ref 43), some (.ref 67), some (.int l4), none, none]) (st1' := [.int (l4 + (2 : Int32)), .ref mScr, .int (S.2 (l4 + (1 : Int32)).toNatClampNeg), .ref 0]) (w1 := (wv x I J)) rfl 4 rfl ?_
  refine wa_s rfl k.1 ?_
  have k := k.2
  refine wp_seg (C := gC0) (pc1 := 713) (Lo1 := [some (.ref mScr), some (.ref 0), some (.ref 43), some (.ref 67), some (.int l4), none, none]) (st1' := [.int (l4 + (3 : Int32)), .ref mScr, .int (S.2 (l4 + (2 : Int32)).toNatClampNeg), .int (S.2 (l4 + (1 : Int32)).toNatClampNeg), .ref 0]) (w1 := (wv x I J)) rfl 4 rfl ?_
  refine wa_s rfl k.1 ?_
  have k := k.2
  refine cv_I (mj := 112) (a := 0) (as := [.int (S.2 (l4 + (1 : Int32)).toNatClampNeg), .int (S.2 (l4 + (2 : Int32)).toNatClampNeg), .int (S.2 (l4 + (3 : Int32)).toNatClampNeg)]) (r := []) rfl rfl rfl ⟨rfl, by decide, Nat.le_of_ble_eq_true rfl, Nat.le_of_ble_eq_true rfl⟩ rfl (wcI_mono k (fun r1 I1 J1 k => ?_))
  refine wp_seg (C := gC0) (pc1 := 724) (Lo1 := [some (.ref mScr), some (.ref 0), some (.ref 43), some (.ref 67), some (.int l4), none, none]) (st1' := [.int (l4 + (1 : Int32)), .ref mScr, .ref 43]) (w1 := (wv x I1 J1)) rfl 6 rfl ?_
  refine wa_s rfl k.1 ?_
  have k := k.2
  refine wp_seg (C := gC0) (pc1 := 730) (Lo1 := [some (.ref mScr), some (.ref 0), some (.ref 43), some (.ref 67), some (.int l4), none, none]) (st1' := [.int (l4 + (2 : Int32)), .ref mScr, .int (S.2 (l4 + (1 : Int32)).toNatClampNeg), .ref 43]) (w1 := (wv x I1 J1)) rfl 4 rfl ?_
  refine wa_s rfl k.1 ?_
  have k := k.2
  refine wp_seg (C := gC0) (pc1 := 736) (Lo1 := [some (.ref mScr), some (.ref 0), some (.ref 43), some (.ref 67), some (.int l4), none, none]) (st1' := [.int (l4 + (3 : Int32)), .ref mScr, .int (S.2 (l4 + (2 : Int32)).toNatClampNeg), .int (S.2 (l4 + (1 : Int32)).toNatClampNeg), .ref 43]) (w1 := (wv x I1 J1)) rfl 4 rfl ?_
  refine wa_s rfl k.1 ?_
  have k := k.2
  refine cv_I (mj := 207) (a := 43) (as := [.int (S.2 (l4 + (1 : Int32)).toNatClampNeg), .int (S.2 (l4 + (2 : Int32)).toNatClampNeg), .int (S.2 (l4 + (3 : Int32)).toNatClampNeg)]) (r := []) rfl rfl rfl ⟨rfl, by decide, Nat.le_of_ble_eq_true rfl, Nat.le_of_ble_eq_true rfl⟩ rfl (wcI_mono k (fun r2 I2 J2 k => ?_))
  refine wp_seg (C := gC0) (pc1 := 1362) (Lo1 := [some (.ref mScr), some (.ref 0), some (.ref 43), some (.ref 67), some (.int l4), none, none]) (st1' := []) (w1 := (wv x I2 J2)) rfl 2 rfl ?_
  exact k
set_option maxRecDepth 20000 in
theorem L_744 {S : Nat × (Nat → Int32)} {d : Nat} {x : mX} {I : rI0} {J : rJ0} {l4 : Int32} {Q : mO → mW → Prop} (k : (¬ mOut (l4 + (1 : Int32)) S.1 ∧ (wcI S (d + 7) 113 [.ref 0, .int (S.2 (l4 + (1 : Int32)).toNatClampNeg)] x I J (fun r1 I1 J1 => (¬ mOut (l4 + (1 : Int32)) S.1 ∧ (wcI S (d + 7) 208 [.ref 43, .int (S.2 (l4 + (1 : Int32)).toNatClampNeg)] x I1 J1 (fun r2 I2 J2 => wp S (d + 8) 0 1362 [some (.ref mScr), some (.ref 0), some (.ref 43), some (.ref 67), some (.int l4), none, none] [] (wv x I2 J2) Q))))))) : wp S (d + 8) 0 744 [some (.ref mScr), some (.ref 0), some (.ref 43), some (.ref 67), some (.int l4), none, none] [] (wv x I J) Q := by
  refine wp_seg (C := gC0) (pc1 := 750) (Lo1 := [some (.ref mScr), some (.ref 0), some (.ref 43), some (.ref 67), some (.int l4), none, none]) (st1' := [.int (l4 + (1 : Int32)), .ref mScr, .ref 0]) (w1 := (wv x I J)) rfl 5 rfl ?_
  refine wa_s rfl k.1 ?_
  have k := k.2
  refine cv_I (mj := 113) (a := 0) (as := [.int (S.2 (l4 + (1 : Int32)).toNatClampNeg)]) (r := []) rfl rfl rfl ⟨rfl, by decide, Nat.le_of_ble_eq_true rfl, Nat.le_of_ble_eq_true rfl⟩ rfl (wcI_mono k (fun r1 I1 J1 k => ?_))
  refine wp_seg (C := gC0) (pc1 := 761) (Lo1 := [some (.ref mScr), some (.ref 0), some (.ref 43), some (.ref 67), some (.int l4), none, none]) (st1' := [.int (l4 + (1 : Int32)), .ref mScr, .ref 43]) (w1 := (wv x I1 J1)) rfl 6 rfl ?_
  refine wa_s rfl k.1 ?_
  have k := k.2
  refine cv_I (mj := 208) (a := 43) (as := [.int (S.2 (l4 + (1 : Int32)).toNatClampNeg)]) (r := []) rfl rfl rfl ⟨rfl, by decide, Nat.le_of_ble_eq_true rfl, Nat.le_of_ble_eq_true rfl⟩ rfl (wcI_mono k (fun r2 I2 J2 k => ?_))
  refine wp_seg (C := gC0) (pc1 := 1362) (Lo1 := [some (.ref mScr), some (.ref 0), some (.ref 43), some (.ref 67), some (.int l4), none, none]) (st1' := []) (w1 := (wv x I2 J2)) rfl 2 rfl ?_
  exact k
set_option maxRecDepth 20000 in
theorem L_769 {S : Nat × (Nat → Int32)} {d : Nat} {x : mX} {I : rI0} {J : rJ0} {l4 : Int32} {Q : mO → mW → Prop} (k : (¬ mOut (l4 + (1 : Int32)) S.1 ∧ (wcI S (d + 7) 114 [.ref 0, .int (S.2 (l4 + (1 : Int32)).toNatClampNeg)] x I J (fun r1 I1 J1 => (¬ mOut (l4 + (1 : Int32)) S.1 ∧ (wcI S (d + 7) 209 [.ref 43, .int (S.2 (l4 + (1 : Int32)).toNatClampNeg)] x I1 J1 (fun r2 I2 J2 => wp S (d + 8) 0 1362 [some (.ref mScr), some (.ref 0), some (.ref 43), some (.ref 67), some (.int l4), none, none] [] (wv x I2 J2) Q))))))) : wp S (d + 8) 0 769 [some (.ref mScr), some (.ref 0), some (.ref 43), some (.ref 67), some (.int l4), none, none] [] (wv x I J) Q := by
  refine wp_seg (C := gC0) (pc1 := 775) (Lo1 := [some (.ref mScr), some (.ref 0), some (.ref 43), some (.ref 67), some (.int l4), none, none]) (st1' := [.int (l4 + (1 : Int32)), .ref mScr, .ref 0]) (w1 := (wv x I J)) rfl 5 rfl ?_
  refine wa_s rfl k.1 ?_
  have k := k.2
  refine cv_I (mj := 114) (a := 0) (as := [.int (S.2 (l4 + (1 : Int32)).toNatClampNeg)]) (r := []) rfl rfl rfl ⟨rfl, by decide, Nat.le_of_ble_eq_true rfl, Nat.le_of_ble_eq_true rfl⟩ rfl (wcI_mono k (fun r1 I1 J1 k => ?_))
  refine wp_seg (C := gC0) (pc1 := 786) (Lo1 := [some (.ref mScr), some (.ref 0), some (.ref 43), some (.ref 67), some (.int l4), none, none]) (st1' := [.int (l4 + (1 : Int32)), .ref mScr, .ref 43]) (w1 := (wv x I1 J1)) rfl 6 rfl ?_
  refine wa_s rfl k.1 ?_
  have k := k.2
  refine cv_I (mj := 209) (a := 43) (as := [.int (S.2 (l4 + (1 : Int32)).toNatClampNeg)]) (r := []) rfl rfl rfl ⟨rfl, by decide, Nat.le_of_ble_eq_true rfl, Nat.le_of_ble_eq_true rfl⟩ rfl (wcI_mono k (fun r2 I2 J2 k => ?_))
  refine wp_seg (C := gC0) (pc1 := 1362) (Lo1 := [some (.ref mScr), some (.ref 0), some (.ref 43), some (.ref 67), some (.int l4), none, none]) (st1' := []) (w1 := (wv x I2 J2)) rfl 2 rfl ?_
  exact k
set_option maxRecDepth 20000 in
theorem L_794 {S : Nat × (Nat → Int32)} {d : Nat} {x : mX} {I : rI0} {J : rJ0} {l4 : Int32} {Q : mO → mW → Prop} (k : (wcI S (d + 7) 115 [.ref 0] x I J (fun r1 I1 J1 => (wcI S (d + 7) 211 [.ref 43] x I1 J1 (fun r2 I2 J2 => wp S (d + 8) 0 1362 [some (.ref mScr), some (.ref 0), some (.ref 43), some (.ref 67), some (.int l4), none, none] [] (wv x I2 J2) Q))))) : wp S (d + 8) 0 794 [some (.ref mScr), some (.ref 0), some (.ref 43), some (.ref 67), some (.int l4), none, none] [] (wv x I J) Q := by
  refine wp_seg (C := gC0) (pc1 := 795) (Lo1 := [some (.ref mScr), some (.ref 0), some (.ref 43), some (.ref 67), some (.int l4), none, none]) (st1' := [.ref 0]) (w1 := (wv x I J)) rfl 1 rfl ?_
  refine cv_I (mj := 115) (a := 0) (as := []) (r := []) rfl rfl rfl ⟨rfl, by decide, Nat.le_of_ble_eq_true rfl, Nat.le_of_ble_eq_true rfl⟩ rfl (wcI_mono k (fun r1 I1 J1 k => ?_))
  refine wp_seg (C := gC0) (pc1 := 800) (Lo1 := [some (.ref mScr), some (.ref 0), some (.ref 43), some (.ref 67), some (.int l4), none, none]) (st1' := [.ref 43]) (w1 := (wv x I1 J1)) rfl 2 rfl ?_
  refine cv_I (mj := 211) (a := 43) (as := []) (r := []) rfl rfl rfl ⟨rfl, by decide, Nat.le_of_ble_eq_true rfl, Nat.le_of_ble_eq_true rfl⟩ rfl (wcI_mono k (fun r2 I2 J2 k => ?_))
  refine wp_seg (C := gC0) (pc1 := 1362) (Lo1 := [some (.ref mScr), some (.ref 0), some (.ref 43), some (.ref 67), some (.int l4), none, none]) (st1' := []) (w1 := (wv x I2 J2)) rfl 2 rfl ?_
  exact k
set_option maxRecDepth 20000 in
theorem L_807 {S : Nat × (Nat → Int32)} {d : Nat} {x : mX} {I : rI0} {J : rJ0} {l4 : Int32} {Q : mO → mW → Prop} (k : (¬ mOut (l4 + (1 : Int32)) S.1 ∧ (wcI S (d + 7) 116 [.ref 0, .int (S.2 (l4 + (1 : Int32)).toNatClampNeg)] x I J (fun r1 I1 J1 => (¬ mOut (l4 + (1 : Int32)) S.1 ∧ (wcI S (d + 7) 212 [.ref 43, .int (S.2 (l4 + (1 : Int32)).toNatClampNeg)] x I1 J1 (fun r2 I2 J2 => wp S (d + 8) 0 1362 [some (.ref mScr), some (.ref 0), some (.ref 43), some (.ref 67), some (.int l4), none, none] [] (wv x I2 J2) Q))))))) : wp S (d + 8) 0 807 [some (.ref mScr), some (.ref 0), some (.ref 43), some (.ref 67), some (.int l4), none, none] [] (wv x I J) Q := by
  refine wp_seg (C := gC0) (pc1 := 813) (Lo1 := [some (.ref mScr), some (.ref 0), some (.ref 43), some (.ref 67), some (.int l4), none, none]) (st1' := [.int (l4 + (1 : Int32)), .ref mScr, .ref 0]) (w1 := (wv x I J)) rfl 5 rfl ?_
  refine wa_s rfl k.1 ?_
  have k := k.2
  refine cv_I (mj := 116) (a := 0) (as := [.int (S.2 (l4 + (1 : Int32)).toNatClampNeg)]) (r := []) rfl rfl rfl ⟨rfl, by decide, Nat.le_of_ble_eq_true rfl, Nat.le_of_ble_eq_true rfl⟩ rfl (wcI_mono k (fun r1 I1 J1 k => ?_))
  refine wp_seg (C := gC0) (pc1 := 824) (Lo1 := [some (.ref mScr), some (.ref 0), some (.ref 43), some (.ref 67), some (.int l4), none, none]) (st1' := [.int (l4 + (1 : Int32)), .ref mScr, .ref 43]) (w1 := (wv x I1 J1)) rfl 6 rfl ?_
  refine wa_s rfl k.1 ?_
  have k := k.2
  refine cv_I (mj := 212) (a := 43) (as := [.int (S.2 (l4 + (1 : Int32)).toNatClampNeg)]) (r := []) rfl rfl rfl ⟨rfl, by decide, Nat.le_of_ble_eq_true rfl, Nat.le_of_ble_eq_true rfl⟩ rfl (wcI_mono k (fun r2 I2 J2 k => ?_))
  refine wp_seg (C := gC0) (pc1 := 1362) (Lo1 := [some (.ref mScr), some (.ref 0), some (.ref 43), some (.ref 67), some (.int l4), none, none]) (st1' := []) (w1 := (wv x I2 J2)) rfl 2 rfl ?_
  exact k
set_option maxRecDepth 20000 in
theorem L_832 {S : Nat × (Nat → Int32)} {d : Nat} {x : mX} {I : rI0} {J : rJ0} {l4 : Int32} {Q : mO → mW → Prop} (k : (¬ mOut (l4 + (1 : Int32)) S.1 ∧ (wcI S (d + 7) 117 [.ref 0, .int (S.2 (l4 + (1 : Int32)).toNatClampNeg)] x I J (fun r1 I1 J1 => (¬ mOut (l4 + (1 : Int32)) S.1 ∧ (wcI S (d + 7) 214 [.ref 43, .int (S.2 (l4 + (1 : Int32)).toNatClampNeg)] x I1 J1 (fun r2 I2 J2 => wp S (d + 8) 0 1362 [some (.ref mScr), some (.ref 0), some (.ref 43), some (.ref 67), some (.int l4), none, none] [] (wv x I2 J2) Q))))))) : wp S (d + 8) 0 832 [some (.ref mScr), some (.ref 0), some (.ref 43), some (.ref 67), some (.int l4), none, none] [] (wv x I J) Q := by
  refine wp_seg (C := gC0) (pc1 := 838) (Lo1 := [some (.ref mScr), some (.ref 0), some (.ref 43), some (.ref 67), some (.int l4), none, none]) (st1' := [.int (l4 + (1 : Int32)), .ref mScr, .ref 0]) (w1 := (wv x I J)) rfl 5 rfl ?_
  refine wa_s rfl k.1 ?_
  have k := k.2
  refine cv_I (mj := 117) (a := 0) (as := [.int (S.2 (l4 + (1 : Int32)).toNatClampNeg)]) (r := []) rfl rfl rfl ⟨rfl, by decide, Nat.le_of_ble_eq_true rfl, Nat.le_of_ble_eq_true rfl⟩ rfl (wcI_mono k (fun r1 I1 J1 k => ?_))
  refine wp_seg (C := gC0) (pc1 := 849) (Lo1 := [some (.ref mScr), some (.ref 0), some (.ref 43), some (.ref 67), some (.int l4), none, none]) (st1' := [.int (l4 + (1 : Int32)), .ref mScr, .ref 43]) (w1 := (wv x I1 J1)) rfl 6 rfl ?_
  refine wa_s rfl k.1 ?_
  have k := k.2
  refine cv_I (mj := 214) (a := 43) (as := [.int (S.2 (l4 + (1 : Int32)).toNatClampNeg)]) (r := []) rfl rfl rfl ⟨rfl, by decide, Nat.le_of_ble_eq_true rfl, Nat.le_of_ble_eq_true rfl⟩ rfl (wcI_mono k (fun r2 I2 J2 k => ?_))
  refine wp_seg (C := gC0) (pc1 := 1362) (Lo1 := [some (.ref mScr), some (.ref 0), some (.ref 43), some (.ref 67), some (.int l4), none, none]) (st1' := []) (w1 := (wv x I2 J2)) rfl 2 rfl ?_
  exact k
set_option maxRecDepth 20000 in
theorem L_857 {S : Nat × (Nat → Int32)} {d : Nat} {x : mX} {I : rI0} {J : rJ0} {l4 : Int32} {Q : mO → mW → Prop} (k : (¬ mOut (l4 + (1 : Int32)) S.1 ∧ (wcI S (d + 7) 118 [.ref 0, .int (S.2 (l4 + (1 : Int32)).toNatClampNeg)] x I J (fun r1 I1 J1 => (¬ mOut (l4 + (1 : Int32)) S.1 ∧ (wcI S (d + 7) 215 [.ref 43, .int (S.2 (l4 + (1 : Int32)).toNatClampNeg)] x I1 J1 (fun r2 I2 J2 => wp S (d + 8) 0 1362 [some (.ref mScr), some (.ref 0), some (.ref 43), some (.ref 67), some (.int l4), none, none] [] (wv x I2 J2) Q))))))) : wp S (d + 8) 0 857 [some (.ref mScr), some (.ref 0), some (.ref 43), some (.ref 67), some (.int l4), none, none] [] (wv x I J) Q := by
  refine wp_seg (C := gC0) (pc1 := 863) (Lo1 := [some (.ref mScr), some (.ref 0), some (.ref 43), some (.ref 67), some (.int l4), none, none]) (st1' := [.int (l4 + (1 : Int32)), .ref mScr, .ref 0]) (w1 := (wv x I J)) rfl 5 rfl ?_
  refine wa_s rfl k.1 ?_
  have k := k.2
  refine cv_I (mj := 118) (a := 0) (as := [.int (S.2 (l4 + (1 : Int32)).toNatClampNeg)]) (r := []) rfl rfl rfl ⟨rfl, by decide, Nat.le_of_ble_eq_true rfl, Nat.le_of_ble_eq_true rfl⟩ rfl (wcI_mono k (fun r1 I1 J1 k => ?_))
  refine wp_seg (C := gC0) (pc1 := 874) (Lo1 := [some (.ref mScr), some (.ref 0), some (.ref 43), some (.ref 67), some (.int l4), none, none]) (st1' := [.int (l4 + (1 : Int32)), .ref mScr, .ref 43]) (w1 := (wv x I1 J1)) rfl 6 rfl ?_
  refine wa_s rfl k.1 ?_
  have k := k.2
  refine cv_I (mj := 215) (a := 43) (as := [.int (S.2 (l4 + (1 : Int32)).toNatClampNeg)]) (r := []) rfl rfl rfl ⟨rfl, by decide, Nat.le_of_ble_eq_true rfl, Nat.le_of_ble_eq_true rfl⟩ rfl (wcI_mono k (fun r2 I2 J2 k => ?_))
  refine wp_seg (C := gC0) (pc1 := 1362) (Lo1 := [some (.ref mScr), some (.ref 0), some (.ref 43), some (.ref 67), some (.int l4), none, none]) (st1' := []) (w1 := (wv x I2 J2)) rfl 2 rfl ?_
  exact k
set_option maxRecDepth 20000 in
theorem L_882 {S : Nat × (Nat → Int32)} {d : Nat} {x : mX} {I : rI0} {J : rJ0} {l4 : Int32} {Q : mO → mW → Prop} (k : (wcI S (d + 7) 119 [.ref 0] x I J (fun r1 I1 J1 => (wcI S (d + 7) 219 [.ref 43] x I1 J1 (fun r2 I2 J2 => wp S (d + 8) 0 1362 [some (.ref mScr), some (.ref 0), some (.ref 43), some (.ref 67), some (.int l4), none, none] [] (wv x I2 J2) Q))))) : wp S (d + 8) 0 882 [some (.ref mScr), some (.ref 0), some (.ref 43), some (.ref 67), some (.int l4), none, none] [] (wv x I J) Q := by
  refine wp_seg (C := gC0) (pc1 := 883) (Lo1 := [some (.ref mScr), some (.ref 0), some (.ref 43), some (.ref 67), some (.int l4), none, none]) (st1' := [.ref 0]) (w1 := (wv x I J)) rfl 1 rfl ?_
  refine cv_I (mj := 119) (a := 0) (as := []) (r := []) rfl rfl rfl ⟨rfl, by decide, Nat.le_of_ble_eq_true rfl, Nat.le_of_ble_eq_true rfl⟩ rfl (wcI_mono k (fun r1 I1 J1 k => ?_))
  refine wp_seg (C := gC0) (pc1 := 888) (Lo1 := [some (.ref mScr), some (.ref 0), some (.ref 43), some (.ref 67), some (.int l4), none, none]) (st1' := [.ref 43]) (w1 := (wv x I1 J1)) rfl 2 rfl ?_
  refine cv_I (mj := 219) (a := 43) (as := []) (r := []) rfl rfl rfl ⟨rfl, by decide, Nat.le_of_ble_eq_true rfl, Nat.le_of_ble_eq_true rfl⟩ rfl (wcI_mono k (fun r2 I2 J2 k => ?_))
  refine wp_seg (C := gC0) (pc1 := 1362) (Lo1 := [some (.ref mScr), some (.ref 0), some (.ref 43), some (.ref 67), some (.int l4), none, none]) (st1' := []) (w1 := (wv x I2 J2)) rfl 2 rfl ?_
  exact k
set_option maxRecDepth 20000 in
theorem L_895 {S : Nat × (Nat → Int32)} {d : Nat} {x : mX} {I : rI0} {J : rJ0} {l4 : Int32} {Q : mO → mW → Prop} (k : (wcI S (d + 7) 120 [.ref 0] x I J (fun r1 I1 J1 => (wcI S (d + 7) 220 [.ref 43] x I1 J1 (fun r2 I2 J2 => wp S (d + 8) 0 1362 [some (.ref mScr), some (.ref 0), some (.ref 43), some (.ref 67), some (.int l4), none, none] [] (wv x I2 J2) Q))))) : wp S (d + 8) 0 895 [some (.ref mScr), some (.ref 0), some (.ref 43), some (.ref 67), some (.int l4), none, none] [] (wv x I J) Q := by
  refine wp_seg (C := gC0) (pc1 := 896) (Lo1 := [some (.ref mScr), some (.ref 0), some (.ref 43), some (.ref 67), some (.int l4), none, none]) (st1' := [.ref 0]) (w1 := (wv x I J)) rfl 1 rfl ?_
  refine cv_I (mj := 120) (a := 0) (as := []) (r := []) rfl rfl rfl ⟨rfl, by decide, Nat.le_of_ble_eq_true rfl, Nat.le_of_ble_eq_true rfl⟩ rfl (wcI_mono k (fun r1 I1 J1 k => ?_))
  refine wp_seg (C := gC0) (pc1 := 901) (Lo1 := [some (.ref mScr), some (.ref 0), some (.ref 43), some (.ref 67), some (.int l4), none, none]) (st1' := [.ref 43]) (w1 := (wv x I1 J1)) rfl 2 rfl ?_
  refine cv_I (mj := 220) (a := 43) (as := []) (r := []) rfl rfl rfl ⟨rfl, by decide, Nat.le_of_ble_eq_true rfl, Nat.le_of_ble_eq_true rfl⟩ rfl (wcI_mono k (fun r2 I2 J2 k => ?_))
  refine wp_seg (C := gC0) (pc1 := 1362) (Lo1 := [some (.ref mScr), some (.ref 0), some (.ref 43), some (.ref 67), some (.int l4), none, none]) (st1' := []) (w1 := (wv x I2 J2)) rfl 2 rfl ?_
  exact k
set_option maxRecDepth 20000 in
theorem L_908 {S : Nat × (Nat → Int32)} {d : Nat} {x : mX} {I : rI0} {J : rJ0} {l4 : Int32} {Q : mO → mW → Prop} (k : (wcI S (d + 7) 121 [.ref 0] x I J (fun r1 I1 J1 => (wcI S (d + 7) 221 [.ref 43] x I1 J1 (fun r2 I2 J2 => wp S (d + 8) 0 1362 [some (.ref mScr), some (.ref 0), some (.ref 43), some (.ref 67), some (.int l4), none, none] [] (wv x I2 J2) Q))))) : wp S (d + 8) 0 908 [some (.ref mScr), some (.ref 0), some (.ref 43), some (.ref 67), some (.int l4), none, none] [] (wv x I J) Q := by
  refine wp_seg (C := gC0) (pc1 := 909) (Lo1 := [some (.ref mScr), some (.ref 0), some (.ref 43), some (.ref 67), some (.int l4), none, none]) (st1' := [.ref 0]) (w1 := (wv x I J)) rfl 1 rfl ?_
  refine cv_I (mj := 121) (a := 0) (as := []) (r := []) rfl rfl rfl ⟨rfl, by decide, Nat.le_of_ble_eq_true rfl, Nat.le_of_ble_eq_true rfl⟩ rfl (wcI_mono k (fun r1 I1 J1 k => ?_))
  refine wp_seg (C := gC0) (pc1 := 914) (Lo1 := [some (.ref mScr), some (.ref 0), some (.ref 43), some (.ref 67), some (.int l4), none, none]) (st1' := [.ref 43]) (w1 := (wv x I1 J1)) rfl 2 rfl ?_
  refine cv_I (mj := 221) (a := 43) (as := []) (r := []) rfl rfl rfl ⟨rfl, by decide, Nat.le_of_ble_eq_true rfl, Nat.le_of_ble_eq_true rfl⟩ rfl (wcI_mono k (fun r2 I2 J2 k => ?_))
  refine wp_seg (C := gC0) (pc1 := 1362) (Lo1 := [some (.ref mScr), some (.ref 0), some (.ref 43), some (.ref 67), some (.int l4), none, none]) (st1' := []) (w1 := (wv x I2 J2)) rfl 2 rfl ?_
  exact k
set_option maxRecDepth 20000 in
theorem L_921 {S : Nat × (Nat → Int32)} {d : Nat} {x : mX} {I : rI0} {J : rJ0} {l4 : Int32} {Q : mO → mW → Prop} (k : (¬ mOut (l4 + (1 : Int32)) S.1 ∧ (wcI S (d + 7) 122 [.ref 0, .int (S.2 (l4 + (1 : Int32)).toNatClampNeg)] x I J (fun r1 I1 J1 => (¬ mOut (l4 + (1 : Int32)) S.1 ∧ (wcI S (d + 7) 222 [.ref 43, .int (S.2 (l4 + (1 : Int32)).toNatClampNeg)] x I1 J1 (fun r2 I2 J2 => ((r1 = r2 → wp S (d + 8) 0 1362 [some (.ref mScr), some (.ref 0), some (.ref 43), some (.ref 67), some (.int l4), none, none] [] (wv x I2 J2) Q) ∧ (¬ r1 = r2 → Q (some (some (.int (0 : Int32)))) (wv x I2 J2)))))))))) : wp S (d + 8) 0 921 [some (.ref mScr), some (.ref 0), some (.ref 43), some (.ref 67), some (.int l4), none, none] [] (wv x I J) Q := by
  refine wp_seg (C := gC0) (pc1 := 927) (Lo1 := [some (.ref mScr), some (.ref 0), some (.ref 43), some (.ref 67), some (.int l4), none, none]) (st1' := [.int (l4 + (1 : Int32)), .ref mScr, .ref 0]) (w1 := (wv x I J)) rfl 5 rfl ?_
  refine wa_s rfl k.1 ?_
  have k := k.2
  refine cv_I (mj := 122) (a := 0) (as := [.int (S.2 (l4 + (1 : Int32)).toNatClampNeg)]) (r := []) rfl rfl rfl ⟨rfl, by decide, Nat.le_of_ble_eq_true rfl, Nat.le_of_ble_eq_true rfl⟩ rfl (wcI_mono k (fun r1 I1 J1 k => ?_))
  refine wp_seg (C := gC0) (pc1 := 937) (Lo1 := [some (.ref mScr), some (.ref 0), some (.ref 43), some (.ref 67), some (.int l4), none, none]) (st1' := [.int (l4 + (1 : Int32)), .ref mScr, .ref 43, .int r1]) (w1 := (wv x I1 J1)) rfl 5 rfl ?_
  refine wa_s rfl k.1 ?_
  have k := k.2
  refine cv_I (mj := 222) (a := 43) (as := [.int (S.2 (l4 + (1 : Int32)).toNatClampNeg)]) (r := [.int r1]) rfl rfl rfl ⟨rfl, by decide, Nat.le_of_ble_eq_true rfl, Nat.le_of_ble_eq_true rfl⟩ rfl (wcI_mono k (fun r2 I2 J2 k => ?_))
  refine wj_eq (tgt := 1362) rfl rfl (fun h => ?_) (fun h => ?_)
  · have k := k.1 h
    exact k
  · have k := k.2 h
    refine wp_seg (C := gC0) (pc1 := 945) (Lo1 := [some (.ref mScr), some (.ref 0), some (.ref 43), some (.ref 67), some (.int l4), none, none]) (st1' := [.int (0 : Int32)]) (w1 := (wv x I2 J2)) rfl 1 rfl ?_
    exact wp_iret rfl (Or.inr ⟨rfl, Or.inl rfl⟩) k
set_option maxRecDepth 20000 in
theorem L_946 {S : Nat × (Nat → Int32)} {d : Nat} {x : mX} {I : rI0} {J : rJ0} {l4 : Int32} {Q : mO → mW → Prop} (k : (wcI S (d + 7) 123 [.ref 0] x I J (fun r1 I1 J1 => (wcI S (d + 7) 224 [.ref 43] x I1 J1 (fun r2 I2 J2 => wp S (d + 8) 0 1362 [some (.ref mScr), some (.ref 0), some (.ref 43), some (.ref 67), some (.int l4), none, none] [] (wv x I2 J2) Q))))) : wp S (d + 8) 0 946 [some (.ref mScr), some (.ref 0), some (.ref 43), some (.ref 67), some (.int l4), none, none] [] (wv x I J) Q := by
  refine wp_seg (C := gC0) (pc1 := 947) (Lo1 := [some (.ref mScr), some (.ref 0), some (.ref 43), some (.ref 67), some (.int l4), none, none]) (st1' := [.ref 0]) (w1 := (wv x I J)) rfl 1 rfl ?_
  refine cv_I (mj := 123) (a := 0) (as := []) (r := []) rfl rfl rfl ⟨rfl, by decide, Nat.le_of_ble_eq_true rfl, Nat.le_of_ble_eq_true rfl⟩ rfl (wcI_mono k (fun r1 I1 J1 k => ?_))
  refine wp_seg (C := gC0) (pc1 := 952) (Lo1 := [some (.ref mScr), some (.ref 0), some (.ref 43), some (.ref 67), some (.int l4), none, none]) (st1' := [.ref 43]) (w1 := (wv x I1 J1)) rfl 2 rfl ?_
  refine cv_I (mj := 224) (a := 43) (as := []) (r := []) rfl rfl rfl ⟨rfl, by decide, Nat.le_of_ble_eq_true rfl, Nat.le_of_ble_eq_true rfl⟩ rfl (wcI_mono k (fun r2 I2 J2 k => ?_))
  refine wp_seg (C := gC0) (pc1 := 1362) (Lo1 := [some (.ref mScr), some (.ref 0), some (.ref 43), some (.ref 67), some (.int l4), none, none]) (st1' := []) (w1 := (wv x I2 J2)) rfl 2 rfl ?_
  exact k
set_option maxRecDepth 20000 in
theorem L_959 {S : Nat × (Nat → Int32)} {d : Nat} {x : mX} {I : rI0} {J : rJ0} {l4 : Int32} {Q : mO → mW → Prop} (k : (¬ mOut (l4 + (1 : Int32)) S.1 ∧ (¬ mOut (l4 + (2 : Int32)) S.1 ∧ (wcT S (d + 6) 124 [.ref 0, .int (S.2 (l4 + (1 : Int32)).toNatClampNeg), .int (S.2 (l4 + (2 : Int32)).toNatClampNeg)] x I J (fun x1 I1 J1 => (¬ mOut (l4 + (1 : Int32)) S.1 ∧ (¬ mOut (l4 + (2 : Int32)) S.1 ∧ (wcI S (d + 7) 225 [.ref 43, .int (S.2 (l4 + (1 : Int32)).toNatClampNeg), .int (S.2 (l4 + (2 : Int32)).toNatClampNeg)] x1 I1 J1 (fun r2 I2 J2 => wp S (d + 8) 0 1362 [some (.ref mScr), some (.ref 0), some (.ref 43), some (.ref 67), some (.int l4), none, none] [] (wv x1 I2 J2) Q))))) (fun r1 I1 J1 => (¬ mOut (l4 + (1 : Int32)) S.1 ∧ (¬ mOut (l4 + (2 : Int32)) S.1 ∧ (wcI S (d + 7) 225 [.ref 43, .int (S.2 (l4 + (1 : Int32)).toNatClampNeg), .int (S.2 (l4 + (2 : Int32)).toNatClampNeg)] x I1 (mSet J1 67 0 r1.toInt64) (fun r3 I3 J3 => wp S (d + 8) 0 1362 [some (.ref mScr), some (.ref 0), some (.ref 43), some (.ref 67), some (.int l4), none, none] [] (wv x I3 J3) Q))))))))) : wp S (d + 8) 0 959 [some (.ref mScr), some (.ref 0), some (.ref 43), some (.ref 67), some (.int l4), none, none] [] (wv x I J) Q := by
  refine wp_seg (C := gC0) (pc1 := 965) (Lo1 := [some (.ref mScr), some (.ref 0), some (.ref 43), some (.ref 67), some (.int l4), none, none]) (st1' := [.int (l4 + (1 : Int32)), .ref mScr, .ref 0]) (w1 := (wv x I J)) rfl 5 rfl ?_
  refine wa_s rfl k.1 ?_
  have k := k.2
  refine wp_seg (C := gC0) (pc1 := 971) (Lo1 := [some (.ref mScr), some (.ref 0), some (.ref 43), some (.ref 67), some (.int l4), none, none]) (st1' := [.int (l4 + (2 : Int32)), .ref mScr, .int (S.2 (l4 + (1 : Int32)).toNatClampNeg), .ref 0]) (w1 := (wv x I J)) rfl 4 rfl ?_
  refine wa_s rfl k.1 ?_
  have k := k.2
  refine wp_seg (C := gC0) (pc1 := 973) (Lo1 := [some (.ref mScr), some (.ref 0), some (.ref 43), some (.ref 67), some (.int l4), none, none]) (st1' := [.ref 67, .int (S.2 (l4 + (2 : Int32)).toNatClampNeg), .int (S.2 (l4 + (1 : Int32)).toNatClampNeg), .ref 0]) (w1 := (wv x I J)) rfl 1 rfl ?_
  refine ch_T (mj := 248) (r := []) rfl rfl rfl ⟨rfl, by decide, Nat.le_of_ble_eq_true rfl, Nat.le_of_ble_eq_true rfl⟩ ⟨by decide, by decide⟩ (wc_mono k ?_)
  rintro o w (⟨r1, I1, J1, h1, h2, k⟩ | ⟨x1, I1, J1, h1, h2, k⟩)
  · refine Or.inl ⟨r1, I1, J1, h1, h2, ?_⟩
    refine wp_seg (C := gC0) (pc1 := 984) (Lo1 := [some (.ref mScr), some (.ref 0), some (.ref 43), some (.ref 67), some (.int l4), some (.int (0 : Int32)), none]) (st1' := [.int (l4 + (1 : Int32)), .ref mScr, .ref 43]) (w1 := (wv x I1 (mSet J1 67 0 r1.toInt64))) rfl 6 rfl ?_
    refine wa_s rfl k.1 ?_
    have k := k.2
    refine wp_seg (C := gC0) (pc1 := 990) (Lo1 := [some (.ref mScr), some (.ref 0), some (.ref 43), some (.ref 67), some (.int l4), some (.int (0 : Int32)), none]) (st1' := [.int (l4 + (2 : Int32)), .ref mScr, .int (S.2 (l4 + (1 : Int32)).toNatClampNeg), .ref 43]) (w1 := (wv x I1 (mSet J1 67 0 r1.toInt64))) rfl 4 rfl ?_
    refine wa_s rfl k.1 ?_
    have k := k.2
    refine cv_I (mj := 225) (a := 43) (as := [.int (S.2 (l4 + (1 : Int32)).toNatClampNeg), .int (S.2 (l4 + (2 : Int32)).toNatClampNeg)]) (r := []) rfl rfl rfl ⟨rfl, by decide, Nat.le_of_ble_eq_true rfl, Nat.le_of_ble_eq_true rfl⟩ rfl (wcI_mono k (fun r3 I3 J3 k => ?_))
    refine wp_seg (C := gC0) (pc1 := 1362) (Lo1 := [some (.ref mScr), some (.ref 0), some (.ref 43), some (.ref 67), some (.int l4), some (.int (0 : Int32)), some (.int r3)]) (st1' := []) (w1 := (wv x I3 J3)) rfl 2 rfl ?_
    exact wp_sub (Lo := [some (.ref mScr), some (.ref 0), some (.ref 43), some (.ref 67), some (.int l4), none, none]) (And.intro rfl (And.intro rfl (And.intro rfl (And.intro rfl (And.intro rfl (trivial)))))) k
  · refine Or.inr ⟨x1, I1, J1, h1, h2, ?_⟩
    refine wp_seg (C := gC0) (pc1 := 984) (Lo1 := [some (.ref mScr), some (.ref 0), some (.ref 43), some (.ref 67), some (.int l4), some (.int (1 : Int32)), none]) (st1' := [.int (l4 + (1 : Int32)), .ref mScr, .ref 43]) (w1 := (wv x1 I1 J1)) rfl 6 rfl ?_
    refine wa_s rfl k.1 ?_
    have k := k.2
    refine wp_seg (C := gC0) (pc1 := 990) (Lo1 := [some (.ref mScr), some (.ref 0), some (.ref 43), some (.ref 67), some (.int l4), some (.int (1 : Int32)), none]) (st1' := [.int (l4 + (2 : Int32)), .ref mScr, .int (S.2 (l4 + (1 : Int32)).toNatClampNeg), .ref 43]) (w1 := (wv x1 I1 J1)) rfl 4 rfl ?_
    refine wa_s rfl k.1 ?_
    have k := k.2
    refine cv_I (mj := 225) (a := 43) (as := [.int (S.2 (l4 + (1 : Int32)).toNatClampNeg), .int (S.2 (l4 + (2 : Int32)).toNatClampNeg)]) (r := []) rfl rfl rfl ⟨rfl, by decide, Nat.le_of_ble_eq_true rfl, Nat.le_of_ble_eq_true rfl⟩ rfl (wcI_mono k (fun r2 I2 J2 k => ?_))
    refine wp_seg (C := gC0) (pc1 := 1362) (Lo1 := [some (.ref mScr), some (.ref 0), some (.ref 43), some (.ref 67), some (.int l4), some (.int (1 : Int32)), some (.int r2)]) (st1' := []) (w1 := (wv x1 I2 J2)) rfl 2 rfl ?_
    exact wp_sub (Lo := [some (.ref mScr), some (.ref 0), some (.ref 43), some (.ref 67), some (.int l4), none, none]) (And.intro rfl (And.intro rfl (And.intro rfl (And.intro rfl (And.intro rfl (trivial)))))) k
set_option maxRecDepth 20000 in
theorem L_999 {S : Nat × (Nat → Int32)} {d : Nat} {x : mX} {I : rI0} {J : rJ0} {l4 : Int32} {Q : mO → mW → Prop} (k : (wcI S (d + 7) 125 [.ref 0] x I J (fun r1 I1 J1 => (wcI S (d + 7) 226 [.ref 43] x I1 J1 (fun r2 I2 J2 => wp S (d + 8) 0 1362 [some (.ref mScr), some (.ref 0), some (.ref 43), some (.ref 67), some (.int l4), none, none] [] (wv x I2 J2) Q))))) : wp S (d + 8) 0 999 [some (.ref mScr), some (.ref 0), some (.ref 43), some (.ref 67), some (.int l4), none, none] [] (wv x I J) Q := by
  refine wp_seg (C := gC0) (pc1 := 1000) (Lo1 := [some (.ref mScr), some (.ref 0), some (.ref 43), some (.ref 67), some (.int l4), none, none]) (st1' := [.ref 0]) (w1 := (wv x I J)) rfl 1 rfl ?_
  refine cv_I (mj := 125) (a := 0) (as := []) (r := []) rfl rfl rfl ⟨rfl, by decide, Nat.le_of_ble_eq_true rfl, Nat.le_of_ble_eq_true rfl⟩ rfl (wcI_mono k (fun r1 I1 J1 k => ?_))
  refine wp_seg (C := gC0) (pc1 := 1005) (Lo1 := [some (.ref mScr), some (.ref 0), some (.ref 43), some (.ref 67), some (.int l4), none, none]) (st1' := [.ref 43]) (w1 := (wv x I1 J1)) rfl 2 rfl ?_
  refine cv_I (mj := 226) (a := 43) (as := []) (r := []) rfl rfl rfl ⟨rfl, by decide, Nat.le_of_ble_eq_true rfl, Nat.le_of_ble_eq_true rfl⟩ rfl (wcI_mono k (fun r2 I2 J2 k => ?_))
  refine wp_seg (C := gC0) (pc1 := 1362) (Lo1 := [some (.ref mScr), some (.ref 0), some (.ref 43), some (.ref 67), some (.int l4), none, none]) (st1' := []) (w1 := (wv x I2 J2)) rfl 2 rfl ?_
  exact k
set_option maxRecDepth 20000 in
theorem L_1012 {S : Nat × (Nat → Int32)} {d : Nat} {x : mX} {I : rI0} {J : rJ0} {l4 : Int32} {Q : mO → mW → Prop} (k : (¬ mOut (l4 + (1 : Int32)) S.1 ∧ (wcI S (d + 7) 126 [.ref 0, .int (S.2 (l4 + (1 : Int32)).toNatClampNeg)] x I J (fun r1 I1 J1 => (¬ mOut (l4 + (1 : Int32)) S.1 ∧ (wcI S (d + 7) 227 [.ref 43, .int (S.2 (l4 + (1 : Int32)).toNatClampNeg)] x I1 J1 (fun r2 I2 J2 => wp S (d + 8) 0 1362 [some (.ref mScr), some (.ref 0), some (.ref 43), some (.ref 67), some (.int l4), none, none] [] (wv x I2 J2) Q))))))) : wp S (d + 8) 0 1012 [some (.ref mScr), some (.ref 0), some (.ref 43), some (.ref 67), some (.int l4), none, none] [] (wv x I J) Q := by
  refine wp_seg (C := gC0) (pc1 := 1018) (Lo1 := [some (.ref mScr), some (.ref 0), some (.ref 43), some (.ref 67), some (.int l4), none, none]) (st1' := [.int (l4 + (1 : Int32)), .ref mScr, .ref 0]) (w1 := (wv x I J)) rfl 5 rfl ?_
  refine wa_s rfl k.1 ?_
  have k := k.2
  refine cv_I (mj := 126) (a := 0) (as := [.int (S.2 (l4 + (1 : Int32)).toNatClampNeg)]) (r := []) rfl rfl rfl ⟨rfl, by decide, Nat.le_of_ble_eq_true rfl, Nat.le_of_ble_eq_true rfl⟩ rfl (wcI_mono k (fun r1 I1 J1 k => ?_))
  refine wp_seg (C := gC0) (pc1 := 1029) (Lo1 := [some (.ref mScr), some (.ref 0), some (.ref 43), some (.ref 67), some (.int l4), none, none]) (st1' := [.int (l4 + (1 : Int32)), .ref mScr, .ref 43]) (w1 := (wv x I1 J1)) rfl 6 rfl ?_
  refine wa_s rfl k.1 ?_
  have k := k.2
  refine cv_I (mj := 227) (a := 43) (as := [.int (S.2 (l4 + (1 : Int32)).toNatClampNeg)]) (r := []) rfl rfl rfl ⟨rfl, by decide, Nat.le_of_ble_eq_true rfl, Nat.le_of_ble_eq_true rfl⟩ rfl (wcI_mono k (fun r2 I2 J2 k => ?_))
  refine wp_seg (C := gC0) (pc1 := 1362) (Lo1 := [some (.ref mScr), some (.ref 0), some (.ref 43), some (.ref 67), some (.int l4), none, none]) (st1' := []) (w1 := (wv x I2 J2)) rfl 2 rfl ?_
  exact k
set_option maxRecDepth 20000 in
theorem L_1037 {S : Nat × (Nat → Int32)} {d : Nat} {x : mX} {I : rI0} {J : rJ0} {l4 : Int32} {Q : mO → mW → Prop} (k : (¬ mOut (l4 + (1 : Int32)) S.1 ∧ (wcI S (d + 7) 127 [.ref 0, .int (S.2 (l4 + (1 : Int32)).toNatClampNeg)] x I J (fun r1 I1 J1 => (¬ mOut (l4 + (1 : Int32)) S.1 ∧ (wcI S (d + 7) 229 [.ref 43, .int (S.2 (l4 + (1 : Int32)).toNatClampNeg)] x I1 J1 (fun r2 I2 J2 => wp S (d + 8) 0 1362 [some (.ref mScr), some (.ref 0), some (.ref 43), some (.ref 67), some (.int l4), none, none] [] (wv x I2 J2) Q))))))) : wp S (d + 8) 0 1037 [some (.ref mScr), some (.ref 0), some (.ref 43), some (.ref 67), some (.int l4), none, none] [] (wv x I J) Q := by
  refine wp_seg (C := gC0) (pc1 := 1043) (Lo1 := [some (.ref mScr), some (.ref 0), some (.ref 43), some (.ref 67), some (.int l4), none, none]) (st1' := [.int (l4 + (1 : Int32)), .ref mScr, .ref 0]) (w1 := (wv x I J)) rfl 5 rfl ?_
  refine wa_s rfl k.1 ?_
  have k := k.2
  refine cv_I (mj := 127) (a := 0) (as := [.int (S.2 (l4 + (1 : Int32)).toNatClampNeg)]) (r := []) rfl rfl rfl ⟨rfl, by decide, Nat.le_of_ble_eq_true rfl, Nat.le_of_ble_eq_true rfl⟩ rfl (wcI_mono k (fun r1 I1 J1 k => ?_))
  refine wp_seg (C := gC0) (pc1 := 1054) (Lo1 := [some (.ref mScr), some (.ref 0), some (.ref 43), some (.ref 67), some (.int l4), none, none]) (st1' := [.int (l4 + (1 : Int32)), .ref mScr, .ref 43]) (w1 := (wv x I1 J1)) rfl 6 rfl ?_
  refine wa_s rfl k.1 ?_
  have k := k.2
  refine cv_I (mj := 229) (a := 43) (as := [.int (S.2 (l4 + (1 : Int32)).toNatClampNeg)]) (r := []) rfl rfl rfl ⟨rfl, by decide, Nat.le_of_ble_eq_true rfl, Nat.le_of_ble_eq_true rfl⟩ rfl (wcI_mono k (fun r2 I2 J2 k => ?_))
  refine wp_seg (C := gC0) (pc1 := 1362) (Lo1 := [some (.ref mScr), some (.ref 0), some (.ref 43), some (.ref 67), some (.int l4), none, none]) (st1' := []) (w1 := (wv x I2 J2)) rfl 2 rfl ?_
  exact k
set_option maxRecDepth 20000 in
theorem L_1062 {S : Nat × (Nat → Int32)} {d : Nat} {x : mX} {I : rI0} {J : rJ0} {l4 : Int32} {Q : mO → mW → Prop} (k : (¬ mOut (l4 + (1 : Int32)) S.1 ∧ (wcI S (d + 7) 128 [.ref 0, .int (S.2 (l4 + (1 : Int32)).toNatClampNeg)] x I J (fun r1 I1 J1 => (¬ mOut (l4 + (1 : Int32)) S.1 ∧ (wcI S (d + 7) 230 [.ref 43, .int (S.2 (l4 + (1 : Int32)).toNatClampNeg)] x I1 J1 (fun r2 I2 J2 => wp S (d + 8) 0 1362 [some (.ref mScr), some (.ref 0), some (.ref 43), some (.ref 67), some (.int l4), none, none] [] (wv x I2 J2) Q))))))) : wp S (d + 8) 0 1062 [some (.ref mScr), some (.ref 0), some (.ref 43), some (.ref 67), some (.int l4), none, none] [] (wv x I J) Q := by
  refine wp_seg (C := gC0) (pc1 := 1068) (Lo1 := [some (.ref mScr), some (.ref 0), some (.ref 43), some (.ref 67), some (.int l4), none, none]) (st1' := [.int (l4 + (1 : Int32)), .ref mScr, .ref 0]) (w1 := (wv x I J)) rfl 5 rfl ?_
  refine wa_s rfl k.1 ?_
  have k := k.2
  refine cv_I (mj := 128) (a := 0) (as := [.int (S.2 (l4 + (1 : Int32)).toNatClampNeg)]) (r := []) rfl rfl rfl ⟨rfl, by decide, Nat.le_of_ble_eq_true rfl, Nat.le_of_ble_eq_true rfl⟩ rfl (wcI_mono k (fun r1 I1 J1 k => ?_))
  refine wp_seg (C := gC0) (pc1 := 1079) (Lo1 := [some (.ref mScr), some (.ref 0), some (.ref 43), some (.ref 67), some (.int l4), none, none]) (st1' := [.int (l4 + (1 : Int32)), .ref mScr, .ref 43]) (w1 := (wv x I1 J1)) rfl 6 rfl ?_
  refine wa_s rfl k.1 ?_
  have k := k.2
  refine cv_I (mj := 230) (a := 43) (as := [.int (S.2 (l4 + (1 : Int32)).toNatClampNeg)]) (r := []) rfl rfl rfl ⟨rfl, by decide, Nat.le_of_ble_eq_true rfl, Nat.le_of_ble_eq_true rfl⟩ rfl (wcI_mono k (fun r2 I2 J2 k => ?_))
  refine wp_seg (C := gC0) (pc1 := 1362) (Lo1 := [some (.ref mScr), some (.ref 0), some (.ref 43), some (.ref 67), some (.int l4), none, none]) (st1' := []) (w1 := (wv x I2 J2)) rfl 2 rfl ?_
  exact k
set_option maxRecDepth 20000 in
theorem L_1087 {S : Nat × (Nat → Int32)} {d : Nat} {x : mX} {I : rI0} {J : rJ0} {l4 : Int32} {Q : mO → mW → Prop} (k : (¬ mOut (l4 + (1 : Int32)) S.1 ∧ (¬ mOut (l4 + (2 : Int32)) S.1 ∧ (wcI S (d + 7) 129 [.ref 0, .int (S.2 (l4 + (1 : Int32)).toNatClampNeg), .int (S.2 (l4 + (2 : Int32)).toNatClampNeg)] x I J (fun r1 I1 J1 => (¬ mOut (l4 + (1 : Int32)) S.1 ∧ (¬ mOut (l4 + (2 : Int32)) S.1 ∧ (wcI S (d + 7) 231 [.ref 43, .int (S.2 (l4 + (1 : Int32)).toNatClampNeg), .int (S.2 (l4 + (2 : Int32)).toNatClampNeg)] x I1 J1 (fun r2 I2 J2 => wp S (d + 8) 0 1362 [some (.ref mScr), some (.ref 0), some (.ref 43), some (.ref 67), some (.int l4), none, none] [] (wv x I2 J2) Q))))))))) : wp S (d + 8) 0 1087 [some (.ref mScr), some (.ref 0), some (.ref 43), some (.ref 67), some (.int l4), none, none] [] (wv x I J) Q := by
  refine wp_seg (C := gC0) (pc1 := 1093) (Lo1 := [some (.ref mScr), some (.ref 0), some (.ref 43), some (.ref 67), some (.int l4), none, none]) (st1' := [.int (l4 + (1 : Int32)), .ref mScr, .ref 0]) (w1 := (wv x I J)) rfl 5 rfl ?_
  refine wa_s rfl k.1 ?_
  have k := k.2
  refine wp_seg (C := gC0) (pc1 := 1099) (Lo1 := [some (.ref mScr), some (.ref 0), some (.ref 43), some (.ref 67), some (.int l4), none, none]) (st1' := [.int (l4 + (2 : Int32)), .ref mScr, .int (S.2 (l4 + (1 : Int32)).toNatClampNeg), .ref 0]) (w1 := (wv x I J)) rfl 4 rfl ?_
  refine wa_s rfl k.1 ?_
  have k := k.2
  refine cv_I (mj := 129) (a := 0) (as := [.int (S.2 (l4 + (1 : Int32)).toNatClampNeg), .int (S.2 (l4 + (2 : Int32)).toNatClampNeg)]) (r := []) rfl rfl rfl ⟨rfl, by decide, Nat.le_of_ble_eq_true rfl, Nat.le_of_ble_eq_true rfl⟩ rfl (wcI_mono k (fun r1 I1 J1 k => ?_))
  refine wp_seg (C := gC0) (pc1 := 1110) (Lo1 := [some (.ref mScr), some (.ref 0), some (.ref 43), some (.ref 67), some (.int l4), none, none]) (st1' := [.int (l4 + (1 : Int32)), .ref mScr, .ref 43]) (w1 := (wv x I1 J1)) rfl 6 rfl ?_
  refine wa_s rfl k.1 ?_
  have k := k.2
  refine wp_seg (C := gC0) (pc1 := 1116) (Lo1 := [some (.ref mScr), some (.ref 0), some (.ref 43), some (.ref 67), some (.int l4), none, none]) (st1' := [.int (l4 + (2 : Int32)), .ref mScr, .int (S.2 (l4 + (1 : Int32)).toNatClampNeg), .ref 43]) (w1 := (wv x I1 J1)) rfl 4 rfl ?_
  refine wa_s rfl k.1 ?_
  have k := k.2
  refine cv_I (mj := 231) (a := 43) (as := [.int (S.2 (l4 + (1 : Int32)).toNatClampNeg), .int (S.2 (l4 + (2 : Int32)).toNatClampNeg)]) (r := []) rfl rfl rfl ⟨rfl, by decide, Nat.le_of_ble_eq_true rfl, Nat.le_of_ble_eq_true rfl⟩ rfl (wcI_mono k (fun r2 I2 J2 k => ?_))
  refine wp_seg (C := gC0) (pc1 := 1362) (Lo1 := [some (.ref mScr), some (.ref 0), some (.ref 43), some (.ref 67), some (.int l4), none, none]) (st1' := []) (w1 := (wv x I2 J2)) rfl 2 rfl ?_
  exact k
set_option maxRecDepth 20000 in
theorem L_1124 {S : Nat × (Nat → Int32)} {d : Nat} {x : mX} {I : rI0} {J : rJ0} {l4 : Int32} {Q : mO → mW → Prop} (k : (wcI S (d + 7) 130 [.ref 0] x I J (fun r1 I1 J1 => (wcI S (d + 7) 234 [.ref 43] x I1 J1 (fun r2 I2 J2 => wp S (d + 8) 0 1362 [some (.ref mScr), some (.ref 0), some (.ref 43), some (.ref 67), some (.int l4), none, none] [] (wv x I2 J2) Q))))) : wp S (d + 8) 0 1124 [some (.ref mScr), some (.ref 0), some (.ref 43), some (.ref 67), some (.int l4), none, none] [] (wv x I J) Q := by
  refine wp_seg (C := gC0) (pc1 := 1125) (Lo1 := [some (.ref mScr), some (.ref 0), some (.ref 43), some (.ref 67), some (.int l4), none, none]) (st1' := [.ref 0]) (w1 := (wv x I J)) rfl 1 rfl ?_
  refine cv_I (mj := 130) (a := 0) (as := []) (r := []) rfl rfl rfl ⟨rfl, by decide, Nat.le_of_ble_eq_true rfl, Nat.le_of_ble_eq_true rfl⟩ rfl (wcI_mono k (fun r1 I1 J1 k => ?_))
  refine wp_seg (C := gC0) (pc1 := 1130) (Lo1 := [some (.ref mScr), some (.ref 0), some (.ref 43), some (.ref 67), some (.int l4), none, none]) (st1' := [.ref 43]) (w1 := (wv x I1 J1)) rfl 2 rfl ?_
  refine cv_I (mj := 234) (a := 43) (as := []) (r := []) rfl rfl rfl ⟨rfl, by decide, Nat.le_of_ble_eq_true rfl, Nat.le_of_ble_eq_true rfl⟩ rfl (wcI_mono k (fun r2 I2 J2 k => ?_))
  refine wp_seg (C := gC0) (pc1 := 1362) (Lo1 := [some (.ref mScr), some (.ref 0), some (.ref 43), some (.ref 67), some (.int l4), none, none]) (st1' := []) (w1 := (wv x I2 J2)) rfl 2 rfl ?_
  exact k
set_option maxRecDepth 20000 in
theorem L_1137 {S : Nat × (Nat → Int32)} {d : Nat} {x : mX} {I : rI0} {J : rJ0} {l4 : Int32} {Q : mO → mW → Prop} (k : (¬ mOut (l4 + (1 : Int32)) S.1 ∧ (¬ mOut (l4 + (2 : Int32)) S.1 ∧ (wcI S (d + 7) 131 [.ref 0, .int (S.2 (l4 + (1 : Int32)).toNatClampNeg), .int (S.2 (l4 + (2 : Int32)).toNatClampNeg)] x I J (fun r1 I1 J1 => (¬ mOut (l4 + (1 : Int32)) S.1 ∧ (¬ mOut (l4 + (2 : Int32)) S.1 ∧ (wcI S (d + 7) 235 [.ref 43, .int (S.2 (l4 + (1 : Int32)).toNatClampNeg), .int (S.2 (l4 + (2 : Int32)).toNatClampNeg)] x I1 J1 (fun r2 I2 J2 => wp S (d + 8) 0 1362 [some (.ref mScr), some (.ref 0), some (.ref 43), some (.ref 67), some (.int l4), none, none] [] (wv x I2 J2) Q))))))))) : wp S (d + 8) 0 1137 [some (.ref mScr), some (.ref 0), some (.ref 43), some (.ref 67), some (.int l4), none, none] [] (wv x I J) Q := by
  refine wp_seg (C := gC0) (pc1 := 1143) (Lo1 := [some (.ref mScr), some (.ref 0), some (.ref 43), some (.ref 67), some (.int l4), none, none]) (st1' := [.int (l4 + (1 : Int32)), .ref mScr, .ref 0]) (w1 := (wv x I J)) rfl 5 rfl ?_
  refine wa_s rfl k.1 ?_
  have k := k.2
  refine wp_seg (C := gC0) (pc1 := 1149) (Lo1 := [some (.ref mScr), some (.ref 0), some (.ref 43), some (.ref 67), some (.int l4), none, none]) (st1' := [.int (l4 + (2 : Int32)), .ref mScr, .int (S.2 (l4 + (1 : Int32)).toNatClampNeg), .ref 0]) (w1 := (wv x I J)) rfl 4 rfl ?_
  refine wa_s rfl k.1 ?_
  have k := k.2
  refine cv_I (mj := 131) (a := 0) (as := [.int (S.2 (l4 + (1 : Int32)).toNatClampNeg), .int (S.2 (l4 + (2 : Int32)).toNatClampNeg)]) (r := []) rfl rfl rfl ⟨rfl, by decide, Nat.le_of_ble_eq_true rfl, Nat.le_of_ble_eq_true rfl⟩ rfl (wcI_mono k (fun r1 I1 J1 k => ?_))
  refine wp_seg (C := gC0) (pc1 := 1160) (Lo1 := [some (.ref mScr), some (.ref 0), some (.ref 43), some (.ref 67), some (.int l4), none, none]) (st1' := [.int (l4 + (1 : Int32)), .ref mScr, .ref 43]) (w1 := (wv x I1 J1)) rfl 6 rfl ?_
  refine wa_s rfl k.1 ?_
  have k := k.2
  refine wp_seg (C := gC0) (pc1 := 1166) (Lo1 := [some (.ref mScr), some (.ref 0), some (.ref 43), some (.ref 67), some (.int l4), none, none]) (st1' := [.int (l4 + (2 : Int32)), .ref mScr, .int (S.2 (l4 + (1 : Int32)).toNatClampNeg), .ref 43]) (w1 := (wv x I1 J1)) rfl 4 rfl ?_
  refine wa_s rfl k.1 ?_
  have k := k.2
  refine cv_I (mj := 235) (a := 43) (as := [.int (S.2 (l4 + (1 : Int32)).toNatClampNeg), .int (S.2 (l4 + (2 : Int32)).toNatClampNeg)]) (r := []) rfl rfl rfl ⟨rfl, by decide, Nat.le_of_ble_eq_true rfl, Nat.le_of_ble_eq_true rfl⟩ rfl (wcI_mono k (fun r2 I2 J2 k => ?_))
  refine wp_seg (C := gC0) (pc1 := 1362) (Lo1 := [some (.ref mScr), some (.ref 0), some (.ref 43), some (.ref 67), some (.int l4), none, none]) (st1' := []) (w1 := (wv x I2 J2)) rfl 2 rfl ?_
  exact k
set_option maxRecDepth 20000 in
theorem L_1174 {S : Nat × (Nat → Int32)} {d : Nat} {x : mX} {I : rI0} {J : rJ0} {l4 : Int32} {Q : mO → mW → Prop} (k : (¬ mOut (l4 + (1 : Int32)) S.1 ∧ (wcI S (d + 7) 132 [.ref 0, .int (S.2 (l4 + (1 : Int32)).toNatClampNeg)] x I J (fun r1 I1 J1 => (¬ mOut (l4 + (1 : Int32)) S.1 ∧ (wcI S (d + 7) 239 [.ref 43, .int (S.2 (l4 + (1 : Int32)).toNatClampNeg)] x I1 J1 (fun r2 I2 J2 => wp S (d + 8) 0 1362 [some (.ref mScr), some (.ref 0), some (.ref 43), some (.ref 67), some (.int l4), none, none] [] (wv x I2 J2) Q))))))) : wp S (d + 8) 0 1174 [some (.ref mScr), some (.ref 0), some (.ref 43), some (.ref 67), some (.int l4), none, none] [] (wv x I J) Q := by
  refine wp_seg (C := gC0) (pc1 := 1180) (Lo1 := [some (.ref mScr), some (.ref 0), some (.ref 43), some (.ref 67), some (.int l4), none, none]) (st1' := [.int (l4 + (1 : Int32)), .ref mScr, .ref 0]) (w1 := (wv x I J)) rfl 5 rfl ?_
  refine wa_s rfl k.1 ?_
  have k := k.2
  refine cv_I (mj := 132) (a := 0) (as := [.int (S.2 (l4 + (1 : Int32)).toNatClampNeg)]) (r := []) rfl rfl rfl ⟨rfl, by decide, Nat.le_of_ble_eq_true rfl, Nat.le_of_ble_eq_true rfl⟩ rfl (wcI_mono k (fun r1 I1 J1 k => ?_))
  refine wp_seg (C := gC0) (pc1 := 1191) (Lo1 := [some (.ref mScr), some (.ref 0), some (.ref 43), some (.ref 67), some (.int l4), none, none]) (st1' := [.int (l4 + (1 : Int32)), .ref mScr, .ref 43]) (w1 := (wv x I1 J1)) rfl 6 rfl ?_
  refine wa_s rfl k.1 ?_
  have k := k.2
  refine cv_I (mj := 239) (a := 43) (as := [.int (S.2 (l4 + (1 : Int32)).toNatClampNeg)]) (r := []) rfl rfl rfl ⟨rfl, by decide, Nat.le_of_ble_eq_true rfl, Nat.le_of_ble_eq_true rfl⟩ rfl (wcI_mono k (fun r2 I2 J2 k => ?_))
  refine wp_seg (C := gC0) (pc1 := 1362) (Lo1 := [some (.ref mScr), some (.ref 0), some (.ref 43), some (.ref 67), some (.int l4), none, none]) (st1' := []) (w1 := (wv x I2 J2)) rfl 2 rfl ?_
  exact k
set_option maxRecDepth 20000 in
theorem L_1199 {S : Nat × (Nat → Int32)} {d : Nat} {x : mX} {I : rI0} {J : rJ0} {l4 : Int32} {Q : mO → mW → Prop} (k : (¬ mOut (l4 + (1 : Int32)) S.1 ∧ (wcI S (d + 7) 133 [.ref 0, .int (S.2 (l4 + (1 : Int32)).toNatClampNeg)] x I J (fun r1 I1 J1 => (¬ mOut (l4 + (1 : Int32)) S.1 ∧ (wcI S (d + 7) 240 [.ref 43, .int (S.2 (l4 + (1 : Int32)).toNatClampNeg)] x I1 J1 (fun r2 I2 J2 => wp S (d + 8) 0 1362 [some (.ref mScr), some (.ref 0), some (.ref 43), some (.ref 67), some (.int l4), none, none] [] (wv x I2 J2) Q))))))) : wp S (d + 8) 0 1199 [some (.ref mScr), some (.ref 0), some (.ref 43), some (.ref 67), some (.int l4), none, none] [] (wv x I J) Q := by
  refine wp_seg (C := gC0) (pc1 := 1205) (Lo1 := [some (.ref mScr), some (.ref 0), some (.ref 43), some (.ref 67), some (.int l4), none, none]) (st1' := [.int (l4 + (1 : Int32)), .ref mScr, .ref 0]) (w1 := (wv x I J)) rfl 5 rfl ?_
  refine wa_s rfl k.1 ?_
  have k := k.2
  refine cv_I (mj := 133) (a := 0) (as := [.int (S.2 (l4 + (1 : Int32)).toNatClampNeg)]) (r := []) rfl rfl rfl ⟨rfl, by decide, Nat.le_of_ble_eq_true rfl, Nat.le_of_ble_eq_true rfl⟩ rfl (wcI_mono k (fun r1 I1 J1 k => ?_))
  refine wp_seg (C := gC0) (pc1 := 1216) (Lo1 := [some (.ref mScr), some (.ref 0), some (.ref 43), some (.ref 67), some (.int l4), none, none]) (st1' := [.int (l4 + (1 : Int32)), .ref mScr, .ref 43]) (w1 := (wv x I1 J1)) rfl 6 rfl ?_
  refine wa_s rfl k.1 ?_
  have k := k.2
  refine cv_I (mj := 240) (a := 43) (as := [.int (S.2 (l4 + (1 : Int32)).toNatClampNeg)]) (r := []) rfl rfl rfl ⟨rfl, by decide, Nat.le_of_ble_eq_true rfl, Nat.le_of_ble_eq_true rfl⟩ rfl (wcI_mono k (fun r2 I2 J2 k => ?_))
  refine wp_seg (C := gC0) (pc1 := 1362) (Lo1 := [some (.ref mScr), some (.ref 0), some (.ref 43), some (.ref 67), some (.int l4), none, none]) (st1' := []) (w1 := (wv x I2 J2)) rfl 2 rfl ?_
  exact k
set_option maxRecDepth 20000 in
theorem L_1224 {S : Nat × (Nat → Int32)} {d : Nat} {x : mX} {I : rI0} {J : rJ0} {l4 : Int32} {Q : mO → mW → Prop} (k : (¬ mOut (l4 + (1 : Int32)) S.1 ∧ (¬ mOut (l4 + (2 : Int32)) S.1 ∧ (wcI S (d + 7) 134 [.ref 0, .int (S.2 (l4 + (1 : Int32)).toNatClampNeg), .int (S.2 (l4 + (2 : Int32)).toNatClampNeg)] x I J (fun r1 I1 J1 => (¬ mOut (l4 + (1 : Int32)) S.1 ∧ (¬ mOut (l4 + (2 : Int32)) S.1 ∧ (wcI S (d + 7) 242 [.ref 43, .int (S.2 (l4 + (1 : Int32)).toNatClampNeg), .int (S.2 (l4 + (2 : Int32)).toNatClampNeg)] x I1 J1 (fun r2 I2 J2 => wp S (d + 8) 0 1362 [some (.ref mScr), some (.ref 0), some (.ref 43), some (.ref 67), some (.int l4), none, none] [] (wv x I2 J2) Q))))))))) : wp S (d + 8) 0 1224 [some (.ref mScr), some (.ref 0), some (.ref 43), some (.ref 67), some (.int l4), none, none] [] (wv x I J) Q := by
  refine wp_seg (C := gC0) (pc1 := 1230) (Lo1 := [some (.ref mScr), some (.ref 0), some (.ref 43), some (.ref 67), some (.int l4), none, none]) (st1' := [.int (l4 + (1 : Int32)), .ref mScr, .ref 0]) (w1 := (wv x I J)) rfl 5 rfl ?_
  refine wa_s rfl k.1 ?_
  have k := k.2
  refine wp_seg (C := gC0) (pc1 := 1236) (Lo1 := [some (.ref mScr), some (.ref 0), some (.ref 43), some (.ref 67), some (.int l4), none, none]) (st1' := [.int (l4 + (2 : Int32)), .ref mScr, .int (S.2 (l4 + (1 : Int32)).toNatClampNeg), .ref 0]) (w1 := (wv x I J)) rfl 4 rfl ?_
  refine wa_s rfl k.1 ?_
  have k := k.2
  refine cv_I (mj := 134) (a := 0) (as := [.int (S.2 (l4 + (1 : Int32)).toNatClampNeg), .int (S.2 (l4 + (2 : Int32)).toNatClampNeg)]) (r := []) rfl rfl rfl ⟨rfl, by decide, Nat.le_of_ble_eq_true rfl, Nat.le_of_ble_eq_true rfl⟩ rfl (wcI_mono k (fun r1 I1 J1 k => ?_))
  refine wp_seg (C := gC0) (pc1 := 1247) (Lo1 := [some (.ref mScr), some (.ref 0), some (.ref 43), some (.ref 67), some (.int l4), none, none]) (st1' := [.int (l4 + (1 : Int32)), .ref mScr, .ref 43]) (w1 := (wv x I1 J1)) rfl 6 rfl ?_
  refine wa_s rfl k.1 ?_
  have k := k.2
  refine wp_seg (C := gC0) (pc1 := 1253) (Lo1 := [some (.ref mScr), some (.ref 0), some (.ref 43), some (.ref 67), some (.int l4), none, none]) (st1' := [.int (l4 + (2 : Int32)), .ref mScr, .int (S.2 (l4 + (1 : Int32)).toNatClampNeg), .ref 43]) (w1 := (wv x I1 J1)) rfl 4 rfl ?_
  refine wa_s rfl k.1 ?_
  have k := k.2
  refine cv_I (mj := 242) (a := 43) (as := [.int (S.2 (l4 + (1 : Int32)).toNatClampNeg), .int (S.2 (l4 + (2 : Int32)).toNatClampNeg)]) (r := []) rfl rfl rfl ⟨rfl, by decide, Nat.le_of_ble_eq_true rfl, Nat.le_of_ble_eq_true rfl⟩ rfl (wcI_mono k (fun r2 I2 J2 k => ?_))
  refine wp_seg (C := gC0) (pc1 := 1362) (Lo1 := [some (.ref mScr), some (.ref 0), some (.ref 43), some (.ref 67), some (.int l4), none, none]) (st1' := []) (w1 := (wv x I2 J2)) rfl 2 rfl ?_
  exact k
set_option maxRecDepth 20000 in
theorem L_1261 {S : Nat × (Nat → Int32)} {d : Nat} {x : mX} {I : rI0} {J : rJ0} {l4 : Int32} {Q : mO → mW → Prop} (k : (wcI S (d + 7) 135 [.ref 0] x I J (fun r1 I1 J1 => (wcI S (d + 7) 237 [.ref 43] x I1 J1 (fun r2 I2 J2 => wp S (d + 8) 0 1362 [some (.ref mScr), some (.ref 0), some (.ref 43), some (.ref 67), some (.int l4), none, none] [] (wv x I2 J2) Q))))) : wp S (d + 8) 0 1261 [some (.ref mScr), some (.ref 0), some (.ref 43), some (.ref 67), some (.int l4), none, none] [] (wv x I J) Q := by
  refine wp_seg (C := gC0) (pc1 := 1262) (Lo1 := [some (.ref mScr), some (.ref 0), some (.ref 43), some (.ref 67), some (.int l4), none, none]) (st1' := [.ref 0]) (w1 := (wv x I J)) rfl 1 rfl ?_
  refine cv_I (mj := 135) (a := 0) (as := []) (r := []) rfl rfl rfl ⟨rfl, by decide, Nat.le_of_ble_eq_true rfl, Nat.le_of_ble_eq_true rfl⟩ rfl (wcI_mono k (fun r1 I1 J1 k => ?_))
  refine wp_seg (C := gC0) (pc1 := 1267) (Lo1 := [some (.ref mScr), some (.ref 0), some (.ref 43), some (.ref 67), some (.int l4), none, none]) (st1' := [.ref 43]) (w1 := (wv x I1 J1)) rfl 2 rfl ?_
  refine cv_I (mj := 237) (a := 43) (as := []) (r := []) rfl rfl rfl ⟨rfl, by decide, Nat.le_of_ble_eq_true rfl, Nat.le_of_ble_eq_true rfl⟩ rfl (wcI_mono k (fun r2 I2 J2 k => ?_))
  refine wp_seg (C := gC0) (pc1 := 1362) (Lo1 := [some (.ref mScr), some (.ref 0), some (.ref 43), some (.ref 67), some (.int l4), none, none]) (st1' := []) (w1 := (wv x I2 J2)) rfl 2 rfl ?_
  exact k
set_option maxRecDepth 20000 in
theorem L_1274 {S : Nat × (Nat → Int32)} {d : Nat} {x : mX} {I : rI0} {J : rJ0} {l4 : Int32} {Q : mO → mW → Prop} (k : (wcI S (d + 7) 136 [.ref 0] x I J (fun r1 I1 J1 => (wcI S (d + 7) 238 [.ref 43] x I1 J1 (fun r2 I2 J2 => wp S (d + 8) 0 1362 [some (.ref mScr), some (.ref 0), some (.ref 43), some (.ref 67), some (.int l4), none, none] [] (wv x I2 J2) Q))))) : wp S (d + 8) 0 1274 [some (.ref mScr), some (.ref 0), some (.ref 43), some (.ref 67), some (.int l4), none, none] [] (wv x I J) Q := by
  refine wp_seg (C := gC0) (pc1 := 1275) (Lo1 := [some (.ref mScr), some (.ref 0), some (.ref 43), some (.ref 67), some (.int l4), none, none]) (st1' := [.ref 0]) (w1 := (wv x I J)) rfl 1 rfl ?_
  refine cv_I (mj := 136) (a := 0) (as := []) (r := []) rfl rfl rfl ⟨rfl, by decide, Nat.le_of_ble_eq_true rfl, Nat.le_of_ble_eq_true rfl⟩ rfl (wcI_mono k (fun r1 I1 J1 k => ?_))
  refine wp_seg (C := gC0) (pc1 := 1280) (Lo1 := [some (.ref mScr), some (.ref 0), some (.ref 43), some (.ref 67), some (.int l4), none, none]) (st1' := [.ref 43]) (w1 := (wv x I1 J1)) rfl 2 rfl ?_
  refine cv_I (mj := 238) (a := 43) (as := []) (r := []) rfl rfl rfl ⟨rfl, by decide, Nat.le_of_ble_eq_true rfl, Nat.le_of_ble_eq_true rfl⟩ rfl (wcI_mono k (fun r2 I2 J2 k => ?_))
  refine wp_seg (C := gC0) (pc1 := 1362) (Lo1 := [some (.ref mScr), some (.ref 0), some (.ref 43), some (.ref 67), some (.int l4), none, none]) (st1' := []) (w1 := (wv x I2 J2)) rfl 2 rfl ?_
  exact k
set_option maxRecDepth 20000 in
theorem L_1287 {S : Nat × (Nat → Int32)} {d : Nat} {x : mX} {I : rI0} {J : rJ0} {l4 : Int32} {Q : mO → mW → Prop} (k : (¬ mOut (l4 + (1 : Int32)) S.1 ∧ (wcX S (d + 7) 137 [.ref 0, .int (S.2 (l4 + (1 : Int32)).toNatClampNeg)] x I J (fun x1 r1 I1 J1 => (¬ mOut (l4 + (1 : Int32)) S.1 ∧ (wcI S (d + 7) 243 [.ref 43, .int (S.2 (l4 + (1 : Int32)).toNatClampNeg)] x1 I1 J1 (fun r2 I2 J2 => wp S (d + 8) 0 1362 [some (.ref mScr), some (.ref 0), some (.ref 43), some (.ref 67), some (.int l4), none, none] [] (wv x1 I2 J2) Q))))))) : wp S (d + 8) 0 1287 [some (.ref mScr), some (.ref 0), some (.ref 43), some (.ref 67), some (.int l4), none, none] [] (wv x I J) Q := by
  refine wp_seg (C := gC0) (pc1 := 1293) (Lo1 := [some (.ref mScr), some (.ref 0), some (.ref 43), some (.ref 67), some (.int l4), none, none]) (st1' := [.int (l4 + (1 : Int32)), .ref mScr, .ref 0]) (w1 := (wv x I J)) rfl 5 rfl ?_
  refine wa_s rfl k.1 ?_
  have k := k.2
  refine cv_X (mj := 137) (a := 0) (as := [.int (S.2 (l4 + (1 : Int32)).toNatClampNeg)]) (r := []) rfl rfl rfl ⟨rfl, by decide, Nat.le_of_ble_eq_true rfl, Nat.le_of_ble_eq_true rfl⟩ rfl (wc_mono k ?_)
  rintro o w ⟨x1, r1, I1, J1, h1, h2, k⟩
  refine ⟨x1, r1, I1, J1, h1, h2, ?_⟩
  refine wp_seg (C := gC0) (pc1 := 1304) (Lo1 := [some (.ref mScr), some (.ref 0), some (.ref 43), some (.ref 67), some (.int l4), none, none]) (st1' := [.int (l4 + (1 : Int32)), .ref mScr, .ref 43]) (w1 := (wv x1 I1 J1)) rfl 6 rfl ?_
  refine wa_s rfl k.1 ?_
  have k := k.2
  refine cv_I (mj := 243) (a := 43) (as := [.int (S.2 (l4 + (1 : Int32)).toNatClampNeg)]) (r := []) rfl rfl rfl ⟨rfl, by decide, Nat.le_of_ble_eq_true rfl, Nat.le_of_ble_eq_true rfl⟩ rfl (wcI_mono k (fun r2 I2 J2 k => ?_))
  refine wp_seg (C := gC0) (pc1 := 1362) (Lo1 := [some (.ref mScr), some (.ref 0), some (.ref 43), some (.ref 67), some (.int l4), none, none]) (st1' := []) (w1 := (wv x1 I2 J2)) rfl 2 rfl ?_
  exact k
set_option maxRecDepth 20000 in
theorem L_1312 {S : Nat × (Nat → Int32)} {d : Nat} {x : mX} {I : rI0} {J : rJ0} {l4 : Int32} {Q : mO → mW → Prop} (k : (¬ mOut (l4 + (1 : Int32)) S.1 ∧ (wcI S (d + 7) 138 [.ref 0, .int (S.2 (l4 + (1 : Int32)).toNatClampNeg)] x I J (fun r1 I1 J1 => (¬ mOut (l4 + (1 : Int32)) S.1 ∧ (wcI S (d + 7) 244 [.ref 43, .int (S.2 (l4 + (1 : Int32)).toNatClampNeg)] x I1 J1 (fun r2 I2 J2 => wp S (d + 8) 0 1362 [some (.ref mScr), some (.ref 0), some (.ref 43), some (.ref 67), some (.int l4), none, none] [] (wv x I2 J2) Q))))))) : wp S (d + 8) 0 1312 [some (.ref mScr), some (.ref 0), some (.ref 43), some (.ref 67), some (.int l4), none, none] [] (wv x I J) Q := by
  refine wp_seg (C := gC0) (pc1 := 1318) (Lo1 := [some (.ref mScr), some (.ref 0), some (.ref 43), some (.ref 67), some (.int l4), none, none]) (st1' := [.int (l4 + (1 : Int32)), .ref mScr, .ref 0]) (w1 := (wv x I J)) rfl 5 rfl ?_
  refine wa_s rfl k.1 ?_
  have k := k.2
  refine cv_I (mj := 138) (a := 0) (as := [.int (S.2 (l4 + (1 : Int32)).toNatClampNeg)]) (r := []) rfl rfl rfl ⟨rfl, by decide, Nat.le_of_ble_eq_true rfl, Nat.le_of_ble_eq_true rfl⟩ rfl (wcI_mono k (fun r1 I1 J1 k => ?_))
  refine wp_seg (C := gC0) (pc1 := 1329) (Lo1 := [some (.ref mScr), some (.ref 0), some (.ref 43), some (.ref 67), some (.int l4), none, none]) (st1' := [.int (l4 + (1 : Int32)), .ref mScr, .ref 43]) (w1 := (wv x I1 J1)) rfl 6 rfl ?_
  refine wa_s rfl k.1 ?_
  have k := k.2
  refine cv_I (mj := 244) (a := 43) (as := [.int (S.2 (l4 + (1 : Int32)).toNatClampNeg)]) (r := []) rfl rfl rfl ⟨rfl, by decide, Nat.le_of_ble_eq_true rfl, Nat.le_of_ble_eq_true rfl⟩ rfl (wcI_mono k (fun r2 I2 J2 k => ?_))
  refine wp_seg (C := gC0) (pc1 := 1362) (Lo1 := [some (.ref mScr), some (.ref 0), some (.ref 43), some (.ref 67), some (.int l4), none, none]) (st1' := []) (w1 := (wv x I2 J2)) rfl 2 rfl ?_
  exact k
set_option maxRecDepth 20000 in
theorem L_1337 {S : Nat × (Nat → Int32)} {d : Nat} {x : mX} {I : rI0} {J : rJ0} {l4 : Int32} {Q : mO → mW → Prop} (k : (¬ mOut (l4 + (1 : Int32)) S.1 ∧ (wcI S (d + 7) 139 [.ref 0, .int (S.2 (l4 + (1 : Int32)).toNatClampNeg)] x I J (fun r1 I1 J1 => (¬ mOut (l4 + (1 : Int32)) S.1 ∧ (wcI S (d + 7) 245 [.ref 43, .int (S.2 (l4 + (1 : Int32)).toNatClampNeg)] x I1 J1 (fun r2 I2 J2 => wp S (d + 8) 0 1362 [some (.ref mScr), some (.ref 0), some (.ref 43), some (.ref 67), some (.int l4), none, none] [] (wv x I2 J2) Q))))))) : wp S (d + 8) 0 1337 [some (.ref mScr), some (.ref 0), some (.ref 43), some (.ref 67), some (.int l4), none, none] [] (wv x I J) Q := by
  refine wp_seg (C := gC0) (pc1 := 1343) (Lo1 := [some (.ref mScr), some (.ref 0), some (.ref 43), some (.ref 67), some (.int l4), none, none]) (st1' := [.int (l4 + (1 : Int32)), .ref mScr, .ref 0]) (w1 := (wv x I J)) rfl 5 rfl ?_
  refine wa_s rfl k.1 ?_
  have k := k.2
  refine cv_I (mj := 139) (a := 0) (as := [.int (S.2 (l4 + (1 : Int32)).toNatClampNeg)]) (r := []) rfl rfl rfl ⟨rfl, by decide, Nat.le_of_ble_eq_true rfl, Nat.le_of_ble_eq_true rfl⟩ rfl (wcI_mono k (fun r1 I1 J1 k => ?_))
  refine wp_seg (C := gC0) (pc1 := 1354) (Lo1 := [some (.ref mScr), some (.ref 0), some (.ref 43), some (.ref 67), some (.int l4), none, none]) (st1' := [.int (l4 + (1 : Int32)), .ref mScr, .ref 43]) (w1 := (wv x I1 J1)) rfl 6 rfl ?_
  refine wa_s rfl k.1 ?_
  have k := k.2
  refine cv_I (mj := 245) (a := 43) (as := [.int (S.2 (l4 + (1 : Int32)).toNatClampNeg)]) (r := []) rfl rfl rfl ⟨rfl, by decide, Nat.le_of_ble_eq_true rfl, Nat.le_of_ble_eq_true rfl⟩ rfl (wcI_mono k (fun r2 I2 J2 k => ?_))
  refine wp_seg (C := gC0) (pc1 := 1362) (Lo1 := [some (.ref mScr), some (.ref 0), some (.ref 43), some (.ref 67), some (.int l4), none, none]) (st1' := []) (w1 := (wv x I2 J2)) rfl 2 rfl ?_
  exact k
