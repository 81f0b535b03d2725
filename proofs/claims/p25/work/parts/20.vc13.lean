set_option maxRecDepth 20000 in
theorem v64_41_0 {S : Nat × (Nat → Int32)} {d : Nat} {x : mX} {I : rI0} {J : rJ0} {p1 : Int32} {p2 : Int32} {Q : Int64 → rI0 → rJ0 → Prop} (k : (((0 : Int32) < p1 → wp S d 64 29 [some (.ref 41), some (.int p1), some (.int p2), none, none] [.long (0 : Int64)] (wv x I J) (rJ x Q)) ∧ (¬ (0 : Int32) < p1 → ((p2 < (0 : Int32) → wp S d 64 29 [some (.ref 41), some (.int p1), some (.int p2), none, none] [.long (0 : Int64)] (wv x I J) (rJ x Q)) ∧ (¬ p2 < (0 : Int32) → wp S d 64 29 [some (.ref 41), some (.int p1), some (.int p2), none, none] [.long (((J 41 11) ^^^ (-1 : Int64)) &&& ((J 41 10) ^^^ (-1 : Int64)))] (wv x I J) (rJ x Q)))))) : wp S d 64 0 [some (.ref 41), some (.int p1), some (.int p2), none, none] [] (wv x I J) (rJ x Q) := by
  refine wp_seg (C := gC64) (pc1 := 1) (Lo1 := [some (.ref 41), some (.int p1), some (.int p2), none, none]) (st1' := [.int p1]) (w1 := (wv x I J)) hC64 1 rfl ?_
  refine wi_gt (tgt := 28) rfl rfl (fun h => ?_) (fun h => ?_)
  · have k := k.1 h
    refine wp_seg (C := gC64) (pc1 := 29) (Lo1 := [some (.ref 41), some (.int p1), some (.int p2), none, none]) (st1' := [.long (0 : Int64)]) (w1 := (wv x I J)) hC64 1 rfl ?_
    exact k
  · have k := k.2 h
    refine wp_seg (C := gC64) (pc1 := 5) (Lo1 := [some (.ref 41), some (.int p1), some (.int p2), none, none]) (st1' := [.int p2]) (w1 := (wv x I J)) hC64 1 rfl ?_
    refine wi_lt (tgt := 28) rfl rfl (fun h => ?_) (fun h => ?_)
    · have k := k.1 h
      refine wp_seg (C := gC64) (pc1 := 29) (Lo1 := [some (.ref 41), some (.int p1), some (.int p2), none, none]) (st1' := [.long (0 : Int64)]) (w1 := (wv x I J)) hC64 1 rfl ?_
      exact k
    · have k := k.2 h
      refine wp_seg (C := gC64) (pc1 := 29) (Lo1 := [some (.ref 41), some (.int p1), some (.int p2), none, none]) (st1' := [.long (((J 41 11) ^^^ (-1 : Int64)) &&& ((J 41 10) ^^^ (-1 : Int64)))]) (w1 := (wv x I J)) hC64 10 rfl ?_
      exact k
set_option maxRecDepth 20000 in
theorem v64_41_29 {S : Nat × (Nat → Int32)} {d : Nat} {x : mX} {I : rI0} {J : rJ0} {l1 : Int32} {l2 : Int32} {s0 : Int64} {Q : Int64 → rI0 → rJ0 → Prop} (k : (((1 : Int32) < l1 → wp S d 64 58 [some (.ref 41), some (.int l1), some (.int l2), some (.long s0), none] [.long (0 : Int64), .long s0] (wv x I J) (rJ x Q)) ∧ (¬ (1 : Int32) < l1 → ((l2 < (1 : Int32) → wp S d 64 58 [some (.ref 41), some (.int l1), some (.int l2), some (.long s0), none] [.long (0 : Int64), .long s0] (wv x I J) (rJ x Q)) ∧ (¬ l2 < (1 : Int32) → wp S d 64 58 [some (.ref 41), some (.int l1), some (.int l2), some (.long s0), none] [.long (((J 41 11) ^^^ (-1 : Int64)) &&& (J 41 10)), .long s0] (wv x I J) (rJ x Q)))))) : wp S d 64 29 [some (.ref 41), some (.int l1), some (.int l2), none, none] [.long s0] (wv x I J) (rJ x Q) := by
  refine wp_seg (C := gC64) (pc1 := 33) (Lo1 := [some (.ref 41), some (.int l1), some (.int l2), some (.long s0), none]) (st1' := [.int (1 : Int32), .int l1, .long s0]) (w1 := (wv x I J)) hC64 4 rfl ?_
  refine wj_gt (tgt := 57) rfl rfl (fun h => ?_) (fun h => ?_)
  · have k := k.1 h
    refine wp_seg (C := gC64) (pc1 := 58) (Lo1 := [some (.ref 41), some (.int l1), some (.int l2), some (.long s0), none]) (st1' := [.long (0 : Int64), .long s0]) (w1 := (wv x I J)) hC64 1 rfl ?_
    exact k
  · have k := k.2 h
    refine wp_seg (C := gC64) (pc1 := 38) (Lo1 := [some (.ref 41), some (.int l1), some (.int l2), some (.long s0), none]) (st1' := [.int (1 : Int32), .int l2, .long s0]) (w1 := (wv x I J)) hC64 2 rfl ?_
    refine wj_lt (tgt := 57) rfl rfl (fun h => ?_) (fun h => ?_)
    · have k := k.1 h
      refine wp_seg (C := gC64) (pc1 := 58) (Lo1 := [some (.ref 41), some (.int l1), some (.int l2), some (.long s0), none]) (st1' := [.long (0 : Int64), .long s0]) (w1 := (wv x I J)) hC64 1 rfl ?_
      exact k
    · have k := k.2 h
      refine wp_seg (C := gC64) (pc1 := 58) (Lo1 := [some (.ref 41), some (.int l1), some (.int l2), some (.long s0), none]) (st1' := [.long (((J 41 11) ^^^ (-1 : Int64)) &&& (J 41 10)), .long s0]) (w1 := (wv x I J)) hC64 8 rfl ?_
      exact k
set_option maxRecDepth 20000 in
theorem v64_41_58 {S : Nat × (Nat → Int32)} {d : Nat} {x : mX} {I : rI0} {J : rJ0} {l1 : Int32} {l2 : Int32} {l3 : Int64} {s0 : Int64} {s1 : Int64} {Q : Int64 → rI0 → rJ0 → Prop} (k : (((2 : Int32) < l1 → wp S d 64 88 [some (.ref 41), some (.int l1), some (.int l2), some (.long (s0 ||| s1)), none] [.long (0 : Int64), .long (s0 ||| s1)] (wv x I J) (rJ x Q)) ∧ (¬ (2 : Int32) < l1 → ((l2 < (2 : Int32) → wp S d 64 88 [some (.ref 41), some (.int l1), some (.int l2), some (.long (s0 ||| s1)), none] [.long (0 : Int64), .long (s0 ||| s1)] (wv x I J) (rJ x Q)) ∧ (¬ l2 < (2 : Int32) → wp S d 64 88 [some (.ref 41), some (.int l1), some (.int l2), some (.long (s0 ||| s1)), none] [.long ((J 41 11) &&& ((J 41 10) ^^^ (-1 : Int64))), .long (s0 ||| s1)] (wv x I J) (rJ x Q)))))) : wp S d 64 58 [some (.ref 41), some (.int l1), some (.int l2), some (.long l3), none] [.long s1, .long s0] (wv x I J) (rJ x Q) := by
  refine wp_seg (C := gC64) (pc1 := 63) (Lo1 := [some (.ref 41), some (.int l1), some (.int l2), some (.long (s0 ||| s1)), none]) (st1' := [.int (2 : Int32), .int l1, .long (s0 ||| s1)]) (w1 := (wv x I J)) hC64 5 rfl ?_
  refine wj_gt (tgt := 87) rfl rfl (fun h => ?_) (fun h => ?_)
  · have k := k.1 h
    refine wp_seg (C := gC64) (pc1 := 88) (Lo1 := [some (.ref 41), some (.int l1), some (.int l2), some (.long (s0 ||| s1)), none]) (st1' := [.long (0 : Int64), .long (s0 ||| s1)]) (w1 := (wv x I J)) hC64 1 rfl ?_
    exact k
  · have k := k.2 h
    refine wp_seg (C := gC64) (pc1 := 68) (Lo1 := [some (.ref 41), some (.int l1), some (.int l2), some (.long (s0 ||| s1)), none]) (st1' := [.int (2 : Int32), .int l2, .long (s0 ||| s1)]) (w1 := (wv x I J)) hC64 2 rfl ?_
    refine wj_lt (tgt := 87) rfl rfl (fun h => ?_) (fun h => ?_)
    · have k := k.1 h
      refine wp_seg (C := gC64) (pc1 := 88) (Lo1 := [some (.ref 41), some (.int l1), some (.int l2), some (.long (s0 ||| s1)), none]) (st1' := [.long (0 : Int64), .long (s0 ||| s1)]) (w1 := (wv x I J)) hC64 1 rfl ?_
      exact k
    · have k := k.2 h
      refine wp_seg (C := gC64) (pc1 := 88) (Lo1 := [some (.ref 41), some (.int l1), some (.int l2), some (.long (s0 ||| s1)), none]) (st1' := [.long ((J 41 11) &&& ((J 41 10) ^^^ (-1 : Int64))), .long (s0 ||| s1)]) (w1 := (wv x I J)) hC64 8 rfl ?_
      exact k
set_option maxRecDepth 20000 in
theorem v64_41_88 {S : Nat × (Nat → Int32)} {d : Nat} {x : mX} {I : rI0} {J : rJ0} {l1 : Int32} {l2 : Int32} {l3 : Int64} {s0 : Int64} {s1 : Int64} {Q : Int64 → rI0 → rJ0 → Prop} (k : (((3 : Int32) < l1 → Q ((s0 ||| s1) ||| (0 : Int64)) I J) ∧ (¬ (3 : Int32) < l1 → ((l2 < (3 : Int32) → Q ((s0 ||| s1) ||| (0 : Int64)) I J) ∧ (¬ l2 < (3 : Int32) → Q ((s0 ||| s1) ||| ((J 41 11) &&& (J 41 10))) I J))))) : wp S d 64 88 [some (.ref 41), some (.int l1), some (.int l2), some (.long l3), none] [.long s1, .long s0] (wv x I J) (rJ x Q) := by
  refine wp_seg (C := gC64) (pc1 := 93) (Lo1 := [some (.ref 41), some (.int l1), some (.int l2), some (.long (s0 ||| s1)), none]) (st1' := [.int (3 : Int32), .int l1, .long (s0 ||| s1)]) (w1 := (wv x I J)) hC64 5 rfl ?_
  refine wj_gt (tgt := 113) rfl rfl (fun h => ?_) (fun h => ?_)
  · have k := k.1 h
    refine wp_seg (C := gC64) (pc1 := 117) (Lo1 := [some (.ref 41), some (.int l1), some (.int l2), some (.long ((s0 ||| s1) ||| (0 : Int64))), none]) (st1' := [.long ((s0 ||| s1) ||| (0 : Int64))]) (w1 := (wv x I J)) hC64 4 rfl ?_
    exact we_l rfl rfl k
  · have k := k.2 h
    refine wp_seg (C := gC64) (pc1 := 98) (Lo1 := [some (.ref 41), some (.int l1), some (.int l2), some (.long (s0 ||| s1)), none]) (st1' := [.int (3 : Int32), .int l2, .long (s0 ||| s1)]) (w1 := (wv x I J)) hC64 2 rfl ?_
    refine wj_lt (tgt := 113) rfl rfl (fun h => ?_) (fun h => ?_)
    · have k := k.1 h
      refine wp_seg (C := gC64) (pc1 := 117) (Lo1 := [some (.ref 41), some (.int l1), some (.int l2), some (.long ((s0 ||| s1) ||| (0 : Int64))), none]) (st1' := [.long ((s0 ||| s1) ||| (0 : Int64))]) (w1 := (wv x I J)) hC64 4 rfl ?_
      exact we_l rfl rfl k
    · have k := k.2 h
      refine wp_seg (C := gC64) (pc1 := 117) (Lo1 := [some (.ref 41), some (.int l1), some (.int l2), some (.long ((s0 ||| s1) ||| ((J 41 11) &&& (J 41 10)))), none]) (st1' := [.long ((s0 ||| s1) ||| ((J 41 11) &&& (J 41 10)))]) (w1 := (wv x I J)) hC64 9 rfl ?_
      exact we_l rfl rfl k
set_option maxRecDepth 20000 in
theorem v59_42_0 {S : Nat × (Nat → Int32)} {d : Nat} {x : mX} {I : rI0} {J : rJ0} {p1 : Int64} {p2 : Int64} {p3 : Int64} {Q : rI0 → rJ0 → Prop} (k : wp S (d + 1) 59 27 [some (.ref 42), some (.long p1), none, some (.long p2), none, some (.long p3), none, some (.long ((p1 &&& (p3 ^^^ (-1 : Int64))) &&& (J 4 5))), none, some (.long (0 : Int64)), none, some (.long (0 : Int64)), none, some (.int (0 : Int32)), none, none, none, none, none] [] (wv x I J) (rV x Q)) : wp S (d + 1) 59 0 [some (.ref 42), some (.long p1), none, some (.long p2), none, some (.long p3), none, none, none, none, none, none, none, none, none, none, none, none, none] [] (wv x I J) (rV x Q) := by
  refine wp_seg (C := gC59) (pc1 := 21) (Lo1 := [some (.ref 42), some (.long p1), none, some (.long p2), none, some (.long p3), none, some (.long ((p1 &&& (p3 ^^^ (-1 : Int64))) &&& (J 4 5))), none, some (.long (0 : Int64)), none, none, none, none, none, none, none, none, none]) (st1' := []) (w1 := (wv x I J)) hC59 12 rfl ?_
  refine wp_seg (C := gC59) (pc1 := 27) (Lo1 := [some (.ref 42), some (.long p1), none, some (.long p2), none, some (.long p3), none, some (.long ((p1 &&& (p3 ^^^ (-1 : Int64))) &&& (J 4 5))), none, some (.long (0 : Int64)), none, some (.long (0 : Int64)), none, some (.int (0 : Int32)), none, none, none, none, none]) (st1' := []) (w1 := (wv x I J)) hC59 4 rfl ?_
  exact k
set_option maxRecDepth 20000 in
theorem v59_42_27 {S : Nat × (Nat → Int32)} {d : Nat} {x : mX} {I : rI0} {J : rJ0} {l1 : Int64} {l3 : Int64} {l5 : Int64} {l7 : Int64} {l9 : Int64} {l11 : Int64} {l13 : Int32} {Q : rI0 → rJ0 → Prop} (k : ((l13 < (6 : Int32) → (¬ mOut l13 6 ∧ (((lg_cmp (l7 &&& (J 6 l13.toNatClampNeg)) (0 : Int64)) = (0 : Int32) → wp S (d + 1) 59 27 [some (.ref 42), some (.long l1), none, some (.long l3), none, some (.long l5), none, some (.long l7), none, some (.long l9), none, some (.long l11), none, some (.int (l13 + (1 : Int32))), none, none, none, none, none] [] (wv x I J) (rV x Q)) ∧ (¬ (lg_cmp (l7 &&& (J 6 l13.toNatClampNeg)) (0 : Int64)) = (0 : Int32) → (¬ mOut ((2 : Int32) * l13) 12 ∧ (wcJ S d 61 [.ref 42, .int (((2 : Int32) * l13) * (20 : Int32)), .int (I 9 (((2 : Int32) * l13).toNatClampNeg)), .long (l7 &&& (J 6 l13.toNatClampNeg)), .int (1 : Int32)] x I J (fun r1 I1 J1 => (¬ mOut (((2 : Int32) * l13) + (1 : Int32)) 12 ∧ (wcJ S d 61 [.ref 42, .int ((((2 : Int32) * l13) + (1 : Int32)) * (20 : Int32)), .int (I1 9 ((((2 : Int32) * l13) + (1 : Int32)).toNatClampNeg)), .long (((l7 &&& (J 6 l13.toNatClampNeg)) &&& (r1 ^^^ (-1 : Int64))) &&& (J1 42 8)), .int (1 : Int32)] x I1 J1 (fun r2 I2 J2 => wp S (d + 1) 59 27 [some (.ref 42), some (.long l1), none, some (.long l3), none, some (.long l5), none, some (.long l7), none, some (.long (l9 ||| r1)), none, some (.long (l11 ||| r2)), none, some (.int (l13 + (1 : Int32))), none, none, none, none, none] [] (wv x I2 J2) (rV x Q))))))))))) ∧ (¬ l13 < (6 : Int32) → Q I (mSet (mSet J 42 8 ((((J 42 8) &&& (l1 ^^^ (-1 : Int64))) ||| ((((J 42 8) ||| l9) &&& ((l11 &&& ((J 42 9) ^^^ (-1 : Int64))) ^^^ (-1 : Int64))) &&& l7)) ||| (l3 &&& l1))) 42 9 ((((J 42 9) &&& (l1 ^^^ (-1 : Int64))) ||| ((((J 42 9) ||| (l9 &&& (J 42 8))) &&& (l11 ^^^ (-1 : Int64))) &&& l7)) ||| (l3 &&& l1)))))) : wp S (d + 1) 59 27 [some (.ref 42), some (.long l1), none, some (.long l3), none, some (.long l5), none, some (.long l7), none, some (.long l9), none, some (.long l11), none, some (.int l13), none, none, none, none, none] [] (wv x I J) (rV x Q) := by
  refine wp_seg (C := gC59) (pc1 := 31) (Lo1 := [some (.ref 42), some (.long l1), none, some (.long l3), none, some (.long l5), none, some (.long l7), none, some (.long l9), none, some (.long l11), none, some (.int l13), none, none, none, none, none]) (st1' := [.int (6 : Int32), .int l13]) (w1 := (wv x I J)) hC59 2 rfl ?_
  refine wj_ge (tgt := 141) rfl rfl (fun h => ?_) (fun h => ?_)
  · have k := k.1 h
    refine wp_seg (C := gC59) (pc1 := 45) (Lo1 := [some (.ref 42), some (.long l1), none, some (.long l3), none, some (.long l5), none, some (.long l7), none, some (.long l9), none, some (.long l11), none, some (.int l13), none, none, none, none, none]) (st1' := [.int l13, .ref 6, .long l7]) (w1 := (wv x I J)) hC59 5 rfl ?_
    refine wa_l (n := 6) rfl rfl k.1 ?_
    have k := k.2
    refine wp_seg (C := gC59) (pc1 := 53) (Lo1 := [some (.ref 42), some (.long l1), none, some (.long l3), none, some (.long l5), none, some (.long l7), none, some (.long l9), none, some (.long l11), none, some (.int l13), some (.long (l7 &&& (J 6 l13.toNatClampNeg))), none, none, none, none]) (st1' := [.int (lg_cmp (l7 &&& (J 6 l13.toNatClampNeg)) (0 : Int64))]) (w1 := (wv x I J)) hC59 5 rfl ?_
    refine wi_eq (tgt := 135) rfl rfl (fun h => ?_) (fun h => ?_)
    · have k := k.1 h
      refine wp_seg (C := gC59) (pc1 := 27) (Lo1 := [some (.ref 42), some (.long l1), none, some (.long l3), none, some (.long l5), none, some (.long l7), none, some (.long l9), none, some (.long l11), none, some (.int (l13 + (1 : Int32))), some (.long (l7 &&& (J 6 l13.toNatClampNeg))), none, none, none, none]) (st1' := []) (w1 := (wv x I J)) hC59 2 rfl ?_
      exact wp_sub (Lo := [some (.ref 42), some (.long l1), none, some (.long l3), none, some (.long l5), none, some (.long l7), none, some (.long l9), none, some (.long l11), none, some (.int (l13 + (1 : Int32))), none, none, none, none, none]) (And.intro rfl (And.intro rfl (And.intro rfl (And.intro rfl (And.intro rfl (And.intro rfl (And.intro rfl (And.intro rfl (trivial))))))))) k
    · have k := k.2 h
      refine wp_seg (C := gC59) (pc1 := 77) (Lo1 := [some (.ref 42), some (.long l1), none, some (.long l3), none, some (.long l5), none, some (.long l7), none, some (.long l9), none, some (.long l11), none, some (.int l13), some (.long (l7 &&& (J 6 l13.toNatClampNeg))), none, some (.int ((2 : Int32) * l13)), none, none]) (st1' := [.int ((2 : Int32) * l13), .ref 9, .int (((2 : Int32) * l13) * (20 : Int32)), .ref 42]) (w1 := (wv x I J)) hC59 12 rfl ?_
      refine wa_i (n := 12) rfl (by decide) rfl k.1 ?_
      have k := k.2
      refine wp_seg (C := gC59) (pc1 := 81) (Lo1 := [some (.ref 42), some (.long l1), none, some (.long l3), none, some (.long l5), none, some (.long l7), none, some (.long l9), none, some (.long l11), none, some (.int l13), some (.long (l7 &&& (J 6 l13.toNatClampNeg))), none, some (.int ((2 : Int32) * l13)), none, none]) (st1' := [.int (1 : Int32), .long (l7 &&& (J 6 l13.toNatClampNeg)), .int (I 9 (((2 : Int32) * l13).toNatClampNeg)), .int (((2 : Int32) * l13) * (20 : Int32)), .ref 42]) (w1 := (wv x I J)) hC59 2 rfl ?_
      refine cv_J (mj := 61) (a := 42) (as := [.int (((2 : Int32) * l13) * (20 : Int32)), .int (I 9 (((2 : Int32) * l13).toNatClampNeg)), .long (l7 &&& (J 6 l13.toNatClampNeg)), .int (1 : Int32)]) (r := []) rfl rfl rfl ⟨rfl, by decide, Nat.le_of_ble_eq_true rfl, Nat.le_of_ble_eq_true rfl⟩ rfl (wcJ_mono k (fun r1 I1 J1 k => ?_))
      refine wp_seg (C := gC59) (pc1 := 89) (Lo1 := [some (.ref 42), some (.long l1), none, some (.long l3), none, some (.long l5), none, some (.long l7), none, some (.long l9), none, some (.long l11), none, some (.int l13), some (.long (l7 &&& (J 6 l13.toNatClampNeg))), none, some (.int (((2 : Int32) * l13) + (1 : Int32))), some (.long r1), none]) (st1' := []) (w1 := (wv x I1 J1)) hC59 2 rfl ?_
      refine wp_seg (C := gC59) (pc1 := 111) (Lo1 := [some (.ref 42), some (.long l1), none, some (.long l3), none, some (.long l5), none, some (.long l7), none, some (.long (l9 ||| r1)), none, some (.long l11), none, some (.int l13), some (.long (l7 &&& (J 6 l13.toNatClampNeg))), none, some (.int (((2 : Int32) * l13) + (1 : Int32))), some (.long r1), none]) (st1' := [.ref 9, .int ((((2 : Int32) * l13) + (1 : Int32)) * (20 : Int32)), .ref 42, .long l11]) (w1 := (wv x I1 J1)) hC59 12 rfl ?_
      refine wp_seg (C := gC59) (pc1 := 113) (Lo1 := [some (.ref 42), some (.long l1), none, some (.long l3), none, some (.long l5), none, some (.long l7), none, some (.long (l9 ||| r1)), none, some (.long l11), none, some (.int l13), some (.long (l7 &&& (J 6 l13.toNatClampNeg))), none, some (.int (((2 : Int32) * l13) + (1 : Int32))), some (.long r1), none]) (st1' := [.int (((2 : Int32) * l13) + (1 : Int32)), .ref 9, .int ((((2 : Int32) * l13) + (1 : Int32)) * (20 : Int32)), .ref 42, .long l11]) (w1 := (wv x I1 J1)) hC59 1 rfl ?_
      refine wa_i (n := 12) rfl (by decide) rfl k.1 ?_
      have k := k.2
      refine wp_seg (C := gC59) (pc1 := 129) (Lo1 := [some (.ref 42), some (.long l1), none, some (.long l3), none, some (.long l5), none, some (.long l7), none, some (.long (l9 ||| r1)), none, some (.long l11), none, some (.int l13), some (.long (l7 &&& (J 6 l13.toNatClampNeg))), none, some (.int (((2 : Int32) * l13) + (1 : Int32))), some (.long r1), none]) (st1' := [.int (1 : Int32), .long (((l7 &&& (J 6 l13.toNatClampNeg)) &&& (r1 ^^^ (-1 : Int64))) &&& (J1 42 8)), .int (I1 9 ((((2 : Int32) * l13) + (1 : Int32)).toNatClampNeg)), .int ((((2 : Int32) * l13) + (1 : Int32)) * (20 : Int32)), .ref 42, .long l11]) (w1 := (wv x I1 J1)) hC59 9 rfl ?_
      refine cv_J (mj := 61) (a := 42) (as := [.int ((((2 : Int32) * l13) + (1 : Int32)) * (20 : Int32)), .int (I1 9 ((((2 : Int32) * l13) + (1 : Int32)).toNatClampNeg)), .long (((l7 &&& (J 6 l13.toNatClampNeg)) &&& (r1 ^^^ (-1 : Int64))) &&& (J1 42 8)), .int (1 : Int32)]) (r := [.long l11]) rfl rfl rfl ⟨rfl, by decide, Nat.le_of_ble_eq_true rfl, Nat.le_of_ble_eq_true rfl⟩ rfl (wcJ_mono k (fun r2 I2 J2 k => ?_))
      refine wp_seg (C := gC59) (pc1 := 138) (Lo1 := [some (.ref 42), some (.long l1), none, some (.long l3), none, some (.long l5), none, some (.long l7), none, some (.long (l9 ||| r1)), none, some (.long (l11 ||| r2)), none, some (.int (l13 + (1 : Int32))), some (.long (l7 &&& (J 6 l13.toNatClampNeg))), none, some (.int (((2 : Int32) * l13) + (1 : Int32))), some (.long r1), none]) (st1' := []) (w1 := (wv x I2 J2)) hC59 3 rfl ?_
      refine wp_seg (C := gC59) (pc1 := 27) (Lo1 := [some (.ref 42), some (.long l1), none, some (.long l3), none, some (.long l5), none, some (.long l7), none, some (.long (l9 ||| r1)), none, some (.long (l11 ||| r2)), none, some (.int (l13 + (1 : Int32))), some (.long (l7 &&& (J 6 l13.toNatClampNeg))), none, some (.int (((2 : Int32) * l13) + (1 : Int32))), some (.long r1), none]) (st1' := []) (w1 := (wv x I2 J2)) hC59 1 rfl ?_
      exact wp_sub (Lo := [some (.ref 42), some (.long l1), none, some (.long l3), none, some (.long l5), none, some (.long l7), none, some (.long (l9 ||| r1)), none, some (.long (l11 ||| r2)), none, some (.int (l13 + (1 : Int32))), none, none, none, none, none]) (And.intro rfl (And.intro rfl (And.intro rfl (And.intro rfl (And.intro rfl (And.intro rfl (And.intro rfl (And.intro rfl (trivial))))))))) k
  · have k := k.2 h
    refine wp_seg (C := gC59) (pc1 := 163) (Lo1 := [some (.ref 42), some (.long l1), none, some (.long l3), none, some (.long l5), none, some (.long l7), none, some (.long l9), none, some (.long l11), none, some (.int l13), none, none, none, none, none]) (st1' := [.long ((l11 &&& ((J 42 9) ^^^ (-1 : Int64))) ^^^ (-1 : Int64)), .long ((J 42 8) ||| l9)]) (w1 := (wv x I J)) hC59 12 rfl ?_
    refine wp_seg (C := gC59) (pc1 := 184) (Lo1 := [some (.ref 42), some (.long l1), none, some (.long l3), none, some (.long l5), none, some (.long l7), none, some (.long l9), none, some (.long l11), none, some (.long (((J 42 8) ||| l9) &&& ((l11 &&& ((J 42 9) ^^^ (-1 : Int64))) ^^^ (-1 : Int64)))), none, none, none, none, none]) (st1' := [.long (l11 ^^^ (-1 : Int64)), .long ((J 42 9) ||| (l9 &&& (J 42 8)))]) (w1 := (wv x I J)) hC59 12 rfl ?_
    refine wp_seg (C := gC59) (pc1 := 203) (Lo1 := [some (.ref 42), some (.long l1), none, some (.long l3), none, some (.long l5), none, some (.long l7), none, some (.long l9), none, some (.long l11), none, some (.long (((J 42 8) ||| l9) &&& ((l11 &&& ((J 42 9) ^^^ (-1 : Int64))) ^^^ (-1 : Int64)))), none, some (.long (((J 42 9) ||| (l9 &&& (J 42 8))) &&& (l11 ^^^ (-1 : Int64)))), none, none, none]) (st1' := [.long ((((J 42 8) ||| l9) &&& ((l11 &&& ((J 42 9) ^^^ (-1 : Int64))) ^^^ (-1 : Int64))) &&& l7), .long ((J 42 8) &&& (l1 ^^^ (-1 : Int64))), .ref 42]) (w1 := (wv x I J)) hC59 12 rfl ?_
    refine wp_seg (C := gC59) (pc1 := 221) (Lo1 := [some (.ref 42), some (.long l1), none, some (.long l3), none, some (.long l5), none, some (.long l7), none, some (.long l9), none, some (.long l11), none, some (.long (((J 42 8) ||| l9) &&& ((l11 &&& ((J 42 9) ^^^ (-1 : Int64))) ^^^ (-1 : Int64)))), none, some (.long (((J 42 9) ||| (l9 &&& (J 42 8))) &&& (l11 ^^^ (-1 : Int64)))), none, none, none]) (st1' := [.long (l1 ^^^ (-1 : Int64)), .long (J 42 9), .ref 42]) (w1 := (wv x I (mSet J 42 8 ((((J 42 8) &&& (l1 ^^^ (-1 : Int64))) ||| ((((J 42 8) ||| l9) &&& ((l11 &&& ((J 42 9) ^^^ (-1 : Int64))) ^^^ (-1 : Int64))) &&& l7)) ||| (l3 &&& l1))))) hC59 12 rfl ?_
    refine wp_seg (C := gC59) (pc1 := 235) (Lo1 := [some (.ref 42), some (.long l1), none, some (.long l3), none, some (.long l5), none, some (.long l7), none, some (.long l9), none, some (.long l11), none, some (.long (((J 42 8) ||| l9) &&& ((l11 &&& ((J 42 9) ^^^ (-1 : Int64))) ^^^ (-1 : Int64)))), none, some (.long (((J 42 9) ||| (l9 &&& (J 42 8))) &&& (l11 ^^^ (-1 : Int64)))), none, none, none]) (st1' := []) (w1 := (wv x I (mSet (mSet J 42 8 ((((J 42 8) &&& (l1 ^^^ (-1 : Int64))) ||| ((((J 42 8) ||| l9) &&& ((l11 &&& ((J 42 9) ^^^ (-1 : Int64))) ^^^ (-1 : Int64))) &&& l7)) ||| (l3 &&& l1))) 42 9 ((((J 42 9) &&& (l1 ^^^ (-1 : Int64))) ||| ((((J 42 9) ||| (l9 &&& (J 42 8))) &&& (l11 ^^^ (-1 : Int64))) &&& l7)) ||| (l3 &&& l1))))) hC59 10 rfl ?_
    exact we_v rfl rfl k
set_option maxRecDepth 20000 in
theorem v60_42_0 {S : Nat × (Nat → Int32)} {d : Nat} {x : mX} {I : rI0} {J : rJ0} {p1 : Int64} {Q : rI0 → rJ0 → Prop} (k : (((lg_cmp p1 (J 4 5)) = (0 : Int32) → (((lg_cmp ((((J 42 10) ^^^ (-1 : Int64)) ||| (J 42 11)) &&& p1) (J 42 10)) = (0 : Int32) → (((lg_cmp (((J 42 11) ||| (J 42 10)) &&& p1) (J 42 11)) = (0 : Int32) → wp S d 60 65 [some (.ref 42), some (.long p1), none, some (.long ((((J 42 10) ^^^ (-1 : Int64)) ||| (J 42 11)) &&& p1)), none, some (.long (((J 42 11) ||| (J 42 10)) &&& p1)), none, none] [.int (1 : Int32)] (wv x I J) (rV x Q)) ∧ (¬ (lg_cmp (((J 42 11) ||| (J 42 10)) &&& p1) (J 42 11)) = (0 : Int32) → wp S d 60 65 [some (.ref 42), some (.long p1), none, some (.long ((((J 42 10) ^^^ (-1 : Int64)) ||| (J 42 11)) &&& p1)), none, some (.long (((J 42 11) ||| (J 42 10)) &&& p1)), none, none] [.int (0 : Int32)] (wv x I J) (rV x Q)))) ∧ (¬ (lg_cmp ((((J 42 10) ^^^ (-1 : Int64)) ||| (J 42 11)) &&& p1) (J 42 10)) = (0 : Int32) → wp S d 60 65 [some (.ref 42), some (.long p1), none, some (.long ((((J 42 10) ^^^ (-1 : Int64)) ||| (J 42 11)) &&& p1)), none, some (.long (((J 42 11) ||| (J 42 10)) &&& p1)), none, none] [.int (0 : Int32)] (wv x I J) (rV x Q)))) ∧ (¬ (lg_cmp p1 (J 4 5)) = (0 : Int32) → wp S d 60 65 [some (.ref 42), some (.long p1), none, some (.long ((((J 42 10) ^^^ (-1 : Int64)) ||| (J 42 11)) &&& p1)), none, some (.long (((J 42 11) ||| (J 42 10)) &&& p1)), none, none] [.int (0 : Int32)] (wv x I J) (rV x Q)))) : wp S d 60 0 [some (.ref 42), some (.long p1), none, none, none, none, none, none] [] (wv x I J) (rV x Q) := by
  refine wp_seg (C := gC60) (pc1 := 20) (Lo1 := [some (.ref 42), some (.long p1), none, some (.long ((((J 42 10) ^^^ (-1 : Int64)) ||| (J 42 11)) &&& p1)), none, none, none, none]) (st1' := [.long (J 42 11)]) (w1 := (wv x I J)) hC60 12 rfl ?_
  refine wp_seg (C := gC60) (pc1 := 38) (Lo1 := [some (.ref 42), some (.long p1), none, some (.long ((((J 42 10) ^^^ (-1 : Int64)) ||| (J 42 11)) &&& p1)), none, some (.long (((J 42 11) ||| (J 42 10)) &&& p1)), none, none]) (st1' := [.int (lg_cmp p1 (J 4 5))]) (w1 := (wv x I J)) hC60 11 rfl ?_
  refine wi_ne (tgt := 64) rfl rfl (fun h => ?_) (fun h => ?_)
  · have k := k.1 h
    refine wp_seg (C := gC60) (pc1 := 47) (Lo1 := [some (.ref 42), some (.long p1), none, some (.long ((((J 42 10) ^^^ (-1 : Int64)) ||| (J 42 11)) &&& p1)), none, some (.long (((J 42 11) ||| (J 42 10)) &&& p1)), none, none]) (st1' := [.int (lg_cmp ((((J 42 10) ^^^ (-1 : Int64)) ||| (J 42 11)) &&& p1) (J 42 10))]) (w1 := (wv x I J)) hC60 4 rfl ?_
    refine wi_ne (tgt := 64) rfl rfl (fun h => ?_) (fun h => ?_)
    · have k := k.1 h
      refine wp_seg (C := gC60) (pc1 := 57) (Lo1 := [some (.ref 42), some (.long p1), none, some (.long ((((J 42 10) ^^^ (-1 : Int64)) ||| (J 42 11)) &&& p1)), none, some (.long (((J 42 11) ||| (J 42 10)) &&& p1)), none, none]) (st1' := [.int (lg_cmp (((J 42 11) ||| (J 42 10)) &&& p1) (J 42 11))]) (w1 := (wv x I J)) hC60 4 rfl ?_
      refine wi_ne (tgt := 64) rfl rfl (fun h => ?_) (fun h => ?_)
      · have k := k.1 h
        refine wp_seg (C := gC60) (pc1 := 65) (Lo1 := [some (.ref 42), some (.long p1), none, some (.long ((((J 42 10) ^^^ (-1 : Int64)) ||| (J 42 11)) &&& p1)), none, some (.long (((J 42 11) ||| (J 42 10)) &&& p1)), none, none]) (st1' := [.int (1 : Int32)]) (w1 := (wv x I J)) hC60 2 rfl ?_
        exact k
      · have k := k.2 h
        refine wp_seg (C := gC60) (pc1 := 65) (Lo1 := [some (.ref 42), some (.long p1), none, some (.long ((((J 42 10) ^^^ (-1 : Int64)) ||| (J 42 11)) &&& p1)), none, some (.long (((J 42 11) ||| (J 42 10)) &&& p1)), none, none]) (st1' := [.int (0 : Int32)]) (w1 := (wv x I J)) hC60 1 rfl ?_
        exact k
    · have k := k.2 h
      refine wp_seg (C := gC60) (pc1 := 65) (Lo1 := [some (.ref 42), some (.long p1), none, some (.long ((((J 42 10) ^^^ (-1 : Int64)) ||| (J 42 11)) &&& p1)), none, some (.long (((J 42 11) ||| (J 42 10)) &&& p1)), none, none]) (st1' := [.int (0 : Int32)]) (w1 := (wv x I J)) hC60 1 rfl ?_
      exact k
  · have k := k.2 h
    refine wp_seg (C := gC60) (pc1 := 65) (Lo1 := [some (.ref 42), some (.long p1), none, some (.long ((((J 42 10) ^^^ (-1 : Int64)) ||| (J 42 11)) &&& p1)), none, some (.long (((J 42 11) ||| (J 42 10)) &&& p1)), none, none]) (st1' := [.int (0 : Int32)]) (w1 := (wv x I J)) hC60 1 rfl ?_
    exact k
set_option maxRecDepth 20000 in
theorem v60_42_65 {S : Nat × (Nat → Int32)} {d : Nat} {x : mX} {I : rI0} {J : rJ0} {l1 : Int64} {l3 : Int64} {l5 : Int64} {s0 : Int32} {Q : rI0 → rJ0 → Prop} (k : ((s0 = (0 : Int32) → Q (mSet I 42 12 (0 : Int32)) (mSet (mSet J 42 10 l3) 42 11 l5)) ∧ (¬ s0 = (0 : Int32) → (((I 42 4) < (I 42 2) → Q (mSet I 42 12 (1 : Int32)) (mSet (mSet J 42 10 l3) 42 11 l5)) ∧ (¬ (I 42 4) < (I 42 2) → Q (mSet I 42 12 (0 : Int32)) (mSet (mSet J 42 10 l3) 42 11 l5)))))) : wp S d 60 65 [some (.ref 42), some (.long l1), none, some (.long l3), none, some (.long l5), none, none] [.int s0] (wv x I J) (rV x Q) := by
  refine wp_seg (C := gC60) (pc1 := 70) (Lo1 := [some (.ref 42), some (.long l1), none, some (.long l3), none, some (.long l5), none, some (.int s0)]) (st1' := [.int s0, .ref 42]) (w1 := (wv x I J)) hC60 3 rfl ?_
  refine wi_eq (tgt := 88) rfl rfl (fun h => ?_) (fun h => ?_)
  · have k := k.1 h
    refine wp_seg (C := gC60) (pc1 := 103) (Lo1 := [some (.ref 42), some (.long l1), none, some (.long l3), none, some (.long l5), none, some (.int s0)]) (st1' := []) (w1 := (wv x (mSet I 42 12 (0 : Int32)) (mSet (mSet J 42 10 l3) 42 11 l5))) hC60 8 rfl ?_
    exact we_v rfl rfl k
  · have k := k.2 h
    refine wp_seg (C := gC60) (pc1 := 81) (Lo1 := [some (.ref 42), some (.long l1), none, some (.long l3), none, some (.long l5), none, some (.int s0)]) (st1' := [.int (I 42 4), .int (I 42 2), .ref 42]) (w1 := (wv x I J)) hC60 4 rfl ?_
    refine wj_le (tgt := 88) rfl rfl (fun h => ?_) (fun h => ?_)
    · have k := k.1 h
      refine wp_seg (C := gC60) (pc1 := 103) (Lo1 := [some (.ref 42), some (.long l1), none, some (.long l3), none, some (.long l5), none, some (.int s0)]) (st1' := []) (w1 := (wv x (mSet I 42 12 (1 : Int32)) (mSet (mSet J 42 10 l3) 42 11 l5))) hC60 9 rfl ?_
      exact we_v rfl rfl k
    · have k := k.2 h
      refine wp_seg (C := gC60) (pc1 := 103) (Lo1 := [some (.ref 42), some (.long l1), none, some (.long l3), none, some (.long l5), none, some (.int s0)]) (st1' := []) (w1 := (wv x (mSet I 42 12 (0 : Int32)) (mSet (mSet J 42 10 l3) 42 11 l5))) hC60 8 rfl ?_
      exact we_v rfl rfl k
set_option maxRecDepth 20000 in
theorem v73_28_1000002_0 {S : Nat × (Nat → Int32)} {d : Nat} {x : mX} {I : rI0} {J : rJ0} {Q : Int32 → rI0 → rJ0 → Prop} (k : (((I 28 3) = (2 : Int32) → wp S (d + 7) 73 12 [some (.ref 28), some (.ref 1000002), some (.int (0 : Int32))] [] (wv x I J) (rI x Q)) ∧ (¬ (I 28 3) = (2 : Int32) → Q (-1 : Int32) I J))) : wp S (d + 7) 73 0 [some (.ref 28), some (.ref 1000002), none] [] (wv x I J) (rI x Q) := by
  refine wp_seg (C := gC73) (pc1 := 5) (Lo1 := [some (.ref 28), some (.ref 1000002), none]) (st1' := [.int (2 : Int32), .int (I 28 3)]) (w1 := (wv x I J)) hC73 3 rfl ?_
  refine wj_eq (tgt := 10) rfl rfl (fun h => ?_) (fun h => ?_)
  · have k := k.1 h
    refine wp_seg (C := gC73) (pc1 := 12) (Lo1 := [some (.ref 28), some (.ref 1000002), some (.int (0 : Int32))]) (st1' := []) (w1 := (wv x I J)) hC73 2 rfl ?_
    exact k
  · have k := k.2 h
    refine wp_seg (C := gC73) (pc1 := 9) (Lo1 := [some (.ref 28), some (.ref 1000002), none]) (st1' := [.int (-1 : Int32)]) (w1 := (wv x I J)) hC73 1 rfl ?_
    exact we_i rfl rfl k
set_option maxRecDepth 20000 in
theorem v73_28_1000002_12 {S : Nat × (Nat → Int32)} {d : Nat} {x : mX} {I : rI0} {J : rJ0} {l2 : Int32} {Q : Int32 → rI0 → rJ0 → Prop} (k : (((72 : Int32) < (l2 + (8 : Int32)) → Q (-1 : Int32) I J) ∧ (¬ (72 : Int32) < (l2 + (8 : Int32)) → (wcI S (d + 6) 74 [.ref 28, .ref 1000002, .int l2] x I J (fun r1 I1 J1 => ((r1 = (0 : Int32) → wp S (d + 7) 73 12 [some (.ref 28), some (.ref 1000002), some (.int (l2 + (8 : Int32)))] [] (wv x I1 J1) (rI x Q)) ∧ (¬ r1 = (0 : Int32) → (¬ (8 : Int32) = 0 ∧ Q (l2 / (8 : Int32)) I1 J1)))))))) : wp S (d + 7) 73 12 [some (.ref 28), some (.ref 1000002), some (.int l2)] [] (wv x I J) (rI x Q) := by
  refine wp_seg (C := gC73) (pc1 := 17) (Lo1 := [some (.ref 28), some (.ref 1000002), some (.int l2)]) (st1' := [.ref 1000002, .int (l2 + (8 : Int32))]) (w1 := (wv x I J)) hC73 4 rfl ?_
  refine wq_sln (v := (72 : Int32)) rfl rfl (by decide) (Nat.le_of_ble_eq_true rfl) (by decide +kernel) ?_
  refine wj_gt (tgt := 43) rfl rfl (fun h => ?_) (fun h => ?_)
  · have k := k.1 h
    refine wp_seg (C := gC73) (pc1 := 44) (Lo1 := [some (.ref 28), some (.ref 1000002), some (.int l2)]) (st1' := [.int (-1 : Int32)]) (w1 := (wv x I J)) hC73 1 rfl ?_
    exact we_i rfl rfl k
  · have k := k.2 h
    refine wp_seg (C := gC73) (pc1 := 26) (Lo1 := [some (.ref 28), some (.ref 1000002), some (.int l2)]) (st1' := [.int l2, .ref 1000002, .ref 28]) (w1 := (wv x I J)) hC73 3 rfl ?_
    refine cv_I (mj := 74) (a := 28) (as := [.ref 1000002, .int l2]) (r := []) rfl rfl rfl ⟨rfl, by decide, Nat.le_of_ble_eq_true rfl, Nat.le_of_ble_eq_true rfl⟩ rfl (wcI_mono k (fun r1 I1 J1 k => ?_))
    refine wi_eq (tgt := 37) rfl rfl (fun h => ?_) (fun h => ?_)
    · have k := k.1 h
      refine wp_seg (C := gC73) (pc1 := 12) (Lo1 := [some (.ref 28), some (.ref 1000002), some (.int (l2 + (8 : Int32)))]) (st1' := []) (w1 := (wv x I1 J1)) hC73 2 rfl ?_
      exact k
    · have k := k.2 h
      refine wp_seg (C := gC73) (pc1 := 35) (Lo1 := [some (.ref 28), some (.ref 1000002), some (.int l2)]) (st1' := [.int (8 : Int32), .int l2]) (w1 := (wv x I1 J1)) hC73 2 rfl ?_
      refine wd_i rfl k.1 ?_
      have k := k.2
      exact we_i rfl rfl k
set_option maxRecDepth 20000 in
theorem v43_29_0 {S : Nat × (Nat → Int32)} {d : Nat} {x : mX} {I : rI0} {J : rJ0} {p1 : Int32} {Q : Int32 → rI0 → rJ0 → Prop} (k : ((p1 = (0 : Int32) → wp S (d + 1) 43 37 [some (.ref 29), some (.int p1)] [] (wv x (mSet I 29 6 (0 : Int32)) J) (rI x Q)) ∧ (¬ p1 = (0 : Int32) → (wcI S d 77 [.ref 28, .int (1 : Int32), .int (2 : Int32)] x (mSet I 29 6 (0 : Int32)) J (fun r1 I1 J1 => ((r1 = (0 : Int32) → Q (0 : Int32) I1 J1) ∧ (¬ r1 = (0 : Int32) → wp S (d + 1) 43 37 [some (.ref 29), some (.int p1)] [] (wv x (mSet I1 29 6 ((I1 28 7) <<< ((12 : Int32) &&& 31))) J1) (rI x Q)))))))) : wp S (d + 1) 43 0 [some (.ref 29), some (.int p1)] [] (wv x I J) (rI x Q) := by
  refine wp_seg (C := gC43) (pc1 := 6) (Lo1 := [some (.ref 29), some (.int p1)]) (st1' := [.int p1]) (w1 := (wv x (mSet I 29 6 (0 : Int32)) J)) hC43 4 rfl ?_
  refine wi_eq (tgt := 37) rfl rfl (fun h => ?_) (fun h => ?_)
  · have k := k.1 h
    exact k
  · have k := k.2 h
    refine wp_seg (C := gC43) (pc1 := 15) (Lo1 := [some (.ref 29), some (.int p1)]) (st1' := [.int (2 : Int32), .int (1 : Int32), .ref 28]) (w1 := (wv x (mSet I 29 6 (0 : Int32)) J)) hC43 4 rfl ?_
    refine cv_I (mj := 77) (a := 28) (as := [.int (1 : Int32), .int (2 : Int32)]) (r := []) rfl rfl rfl ⟨rfl, by decide, Nat.le_of_ble_eq_true rfl, Nat.le_of_ble_eq_true rfl⟩ rfl (wcI_mono k (fun r1 I1 J1 k => ?_))
    refine wi_ne (tgt := 23) rfl rfl (fun h => ?_) (fun h => ?_)
    · have k := k.1 h
      refine wp_seg (C := gC43) (pc1 := 22) (Lo1 := [some (.ref 29), some (.int p1)]) (st1' := [.int (0 : Int32)]) (w1 := (wv x I1 J1)) hC43 1 rfl ?_
      exact we_z rfl rfl (Or.inl rfl) k
    · have k := k.2 h
      refine wp_seg (C := gC43) (pc1 := 37) (Lo1 := [some (.ref 29), some (.int p1)]) (st1' := []) (w1 := (wv x (mSet I1 29 6 ((I1 28 7) <<< ((12 : Int32) &&& 31))) J1)) hC43 7 rfl ?_
      exact k
set_option maxRecDepth 20000 in
theorem v43_29_37 {S : Nat × (Nat → Int32)} {d : Nat} {x : mX} {I : rI0} {J : rJ0} {l1 : Int32} {Q : Int32 → rI0 → rJ0 → Prop} (k : (((I 28 3) < (60 : Int32) → (wcI S d 75 [.ref 28, .int (1 : Int32)] x I J (fun r1 I1 J1 => ((r1 = 0 ∨ r1 = 1) ∧ Q r1 I1 J1)))) ∧ (¬ (I 28 3) < (60 : Int32) → (((62 : Int32) < (I 28 3) → (wcI S d 75 [.ref 28, .int (1 : Int32)] x I J (fun r2 I2 J2 => ((r2 = 0 ∨ r2 = 1) ∧ Q r2 I2 J2)))) ∧ (¬ (62 : Int32) < (I 28 3) → (wcV S d 70 [.ref 28] x (mSet I 29 6 ((I 29 6) ||| (((I 28 3) - (60 : Int32)) <<< ((10 : Int32) &&& 31)))) J (fun I3 J3 => (wcI S d 77 [.ref 28, .int (0 : Int32), .int (999 : Int32)] x I3 J3 (fun r4 I4 J4 => ((r4 = (0 : Int32) → Q (0 : Int32) I4 J4) ∧ (¬ r4 = (0 : Int32) → Q (1 : Int32) (mSet I4 29 6 ((I4 29 6) ||| (I4 28 7))) J4))))))))))) : wp S (d + 1) 43 37 [some (.ref 29), some (.int l1)] [] (wv x I J) (rI x Q) := by
  refine wp_seg (C := gC43) (pc1 := 46) (Lo1 := [some (.ref 29), some (.int l1)]) (st1' := [.int (60 : Int32), .int (I 28 3)]) (w1 := (wv x I J)) hC43 4 rfl ?_
  refine wj_lt (tgt := 61) rfl rfl (fun h => ?_) (fun h => ?_)
  · have k := k.1 h
    refine wp_seg (C := gC43) (pc1 := 66) (Lo1 := [some (.ref 29), some (.int l1)]) (st1' := [.int (1 : Int32), .ref 28]) (w1 := (wv x I J)) hC43 3 rfl ?_
    refine cv_I (mj := 75) (a := 28) (as := [.int (1 : Int32)]) (r := []) rfl rfl rfl ⟨rfl, by decide, Nat.le_of_ble_eq_true rfl, Nat.le_of_ble_eq_true rfl⟩ rfl (wcI_mono k (fun r1 I1 J1 k => ?_))
    exact we_z rfl rfl k.1 k.2
  · have k := k.2 h
    refine wp_seg (C := gC43) (pc1 := 58) (Lo1 := [some (.ref 29), some (.int l1)]) (st1' := [.int (62 : Int32), .int (I 28 3)]) (w1 := (wv x I J)) hC43 4 rfl ?_
    refine wj_le (tgt := 70) rfl rfl (fun h => ?_) (fun h => ?_)
    · have k := k.1 h
      refine wp_seg (C := gC43) (pc1 := 66) (Lo1 := [some (.ref 29), some (.int l1)]) (st1' := [.int (1 : Int32), .ref 28]) (w1 := (wv x I J)) hC43 3 rfl ?_
      refine cv_I (mj := 75) (a := 28) (as := [.int (1 : Int32)]) (r := []) rfl rfl rfl ⟨rfl, by decide, Nat.le_of_ble_eq_true rfl, Nat.le_of_ble_eq_true rfl⟩ rfl (wcI_mono k (fun r2 I2 J2 k => ?_))
      exact we_z rfl rfl k.1 k.2
    · have k := k.2 h
      refine wp_seg (C := gC43) (pc1 := 92) (Lo1 := [some (.ref 29), some (.int l1)]) (st1' := []) (w1 := (wv x (mSet I 29 6 ((I 29 6) ||| (((I 28 3) - (60 : Int32)) <<< ((10 : Int32) &&& 31)))) J)) hC43 12 rfl ?_
      refine wp_seg (C := gC43) (pc1 := 96) (Lo1 := [some (.ref 29), some (.int l1)]) (st1' := [.ref 28]) (w1 := (wv x (mSet I 29 6 ((I 29 6) ||| (((I 28 3) - (60 : Int32)) <<< ((10 : Int32) &&& 31)))) J)) hC43 2 rfl ?_
      refine cv_V (mj := 70) (a := 28) (as := []) (r := []) rfl rfl rfl ⟨rfl, by decide, Nat.le_of_ble_eq_true rfl, Nat.le_of_ble_eq_true rfl⟩ rfl (wcV_mono k (fun I3 J3 k => ?_))
      refine wp_seg (C := gC43) (pc1 := 107) (Lo1 := [some (.ref 29), some (.int l1)]) (st1' := [.int (999 : Int32), .int (0 : Int32), .ref 28]) (w1 := (wv x I3 J3)) hC43 4 rfl ?_
      refine cv_I (mj := 77) (a := 28) (as := [.int (0 : Int32), .int (999 : Int32)]) (r := []) rfl rfl rfl ⟨rfl, by decide, Nat.le_of_ble_eq_true rfl, Nat.le_of_ble_eq_true rfl⟩ rfl (wcI_mono k (fun r4 I4 J4 k => ?_))
      refine wi_ne (tgt := 115) rfl rfl (fun h => ?_) (fun h => ?_)
      · have k := k.1 h
        refine wp_seg (C := gC43) (pc1 := 114) (Lo1 := [some (.ref 29), some (.int l1)]) (st1' := [.int (0 : Int32)]) (w1 := (wv x I4 J4)) hC43 1 rfl ?_
        exact we_z rfl rfl (Or.inl rfl) k
      · have k := k.2 h
        refine wp_seg (C := gC43) (pc1 := 132) (Lo1 := [some (.ref 29), some (.int l1)]) (st1' := [.int (1 : Int32)]) (w1 := (wv x (mSet I4 29 6 ((I4 29 6) ||| (I4 28 7))) J4)) hC43 9 rfl ?_
        exact we_z rfl rfl (Or.inr rfl) k
set_option maxRecDepth 20000 in
theorem v74_28_1000003_0 {S : Nat × (Nat → Int32)} {d : Nat} {x : mX} {I : rI0} {J : rJ0} {p2 : Int32} {Q : Int32 → rI0 → rJ0 → Prop} (k : wp S (d + 7) 74 2 [some (.ref 28), some (.ref 1000003), some (.int p2), some (.int (0 : Int32))] [] (wv x I J) (rI x Q)) : wp S (d + 7) 74 0 [some (.ref 28), some (.ref 1000003), some (.int p2), none] [] (wv x I J) (rI x Q) := by
  refine wp_seg (C := gC74) (pc1 := 2) (Lo1 := [some (.ref 28), some (.ref 1000003), some (.int p2), some (.int (0 : Int32))]) (st1' := []) (w1 := (wv x I J)) hC74 2 rfl ?_
  exact k
set_option maxRecDepth 20000 in
theorem v74_28_1000003_2 {S : Nat × (Nat → Int32)} {d : Nat} {x : mX} {I : rI0} {J : rJ0} {l2 : Int32} {l3 : Int32} {Q : Int32 → rI0 → rJ0 → Prop} (k : ((l3 < (8 : Int32) → (((l2 + l3) < (16 : Int32) → (¬ mOut (l2 + l3) 16 ∧ (wcI S (d + 6) 72 [.ref 28, .int l3] x I J (fun r1 I1 J1 => ((((gSb.getD 2 []).getD (l2 + l3).toNatClampNeg 0) = r1 → wp S (d + 7) 74 2 [some (.ref 28), some (.ref 1000003), some (.int l2), some (.int (l3 + (1 : Int32)))] [] (wv x I1 J1) (rI x Q)) ∧ (¬ ((gSb.getD 2 []).getD (l2 + l3).toNatClampNeg 0) = r1 → Q (0 : Int32) I1 J1)))))) ∧ (¬ (l2 + l3) < (16 : Int32) → Q (1 : Int32) I J))) ∧ (¬ l3 < (8 : Int32) → Q (1 : Int32) I J))) : wp S (d + 7) 74 2 [some (.ref 28), some (.ref 1000003), some (.int l2), some (.int l3)] [] (wv x I J) (rI x Q) := by
  refine wp_seg (C := gC74) (pc1 := 5) (Lo1 := [some (.ref 28), some (.ref 1000003), some (.int l2), some (.int l3)]) (st1' := [.int (8 : Int32), .int l3]) (w1 := (wv x I J)) hC74 2 rfl ?_
  refine wj_ge (tgt := 41) rfl rfl (fun h => ?_) (fun h => ?_)
  · have k := k.1 h
    refine wp_seg (C := gC74) (pc1 := 12) (Lo1 := [some (.ref 28), some (.ref 1000003), some (.int l2), some (.int l3)]) (st1' := [.ref 1000003, .int (l2 + l3)]) (w1 := (wv x I J)) hC74 4 rfl ?_
    refine wq_sln (v := (16 : Int32)) rfl rfl (by decide) (Nat.le_of_ble_eq_true rfl) (by decide +kernel) ?_
    refine wj_ge (tgt := 41) rfl rfl (fun h => ?_) (fun h => ?_)
    · have k := k.1 h
      refine wp_seg (C := gC74) (pc1 := 22) (Lo1 := [some (.ref 28), some (.ref 1000003), some (.int l2), some (.int l3)]) (st1' := [.int (l2 + l3), .ref 1000003]) (w1 := (wv x I J)) hC74 4 rfl ?_
      refine wq_sch (len := 16) rfl rfl (by decide) (Nat.le_of_ble_eq_true rfl) (by decide +kernel) k.1 ?_
      have k := k.2
      refine wp_seg (C := gC74) (pc1 := 27) (Lo1 := [some (.ref 28), some (.ref 1000003), some (.int l2), some (.int l3)]) (st1' := [.int l3, .ref 28, .int ((gSb.getD 2 []).getD (l2 + l3).toNatClampNeg 0)]) (w1 := (wv x I J)) hC74 2 rfl ?_
      refine cv_I (mj := 72) (a := 28) (as := [.int l3]) (r := [.int ((gSb.getD 2 []).getD (l2 + l3).toNatClampNeg 0)]) rfl rfl rfl ⟨rfl, by decide, Nat.le_of_ble_eq_true rfl, Nat.le_of_ble_eq_true rfl⟩ rfl (wcI_mono k (fun r1 I1 J1 k => ?_))
      refine wj_eq (tgt := 35) rfl rfl (fun h => ?_) (fun h => ?_)
      · have k := k.1 h
        refine wp_seg (C := gC74) (pc1 := 2) (Lo1 := [some (.ref 28), some (.ref 1000003), some (.int l2), some (.int (l3 + (1 : Int32)))]) (st1' := []) (w1 := (wv x I1 J1)) hC74 2 rfl ?_
        exact k
      · have k := k.2 h
        refine wp_seg (C := gC74) (pc1 := 34) (Lo1 := [some (.ref 28), some (.ref 1000003), some (.int l2), some (.int l3)]) (st1' := [.int (0 : Int32)]) (w1 := (wv x I1 J1)) hC74 1 rfl ?_
        exact we_z rfl rfl (Or.inl rfl) k
    · have k := k.2 h
      refine wp_seg (C := gC74) (pc1 := 42) (Lo1 := [some (.ref 28), some (.ref 1000003), some (.int l2), some (.int l3)]) (st1' := [.int (1 : Int32)]) (w1 := (wv x I J)) hC74 1 rfl ?_
      exact we_z rfl rfl (Or.inr rfl) k
  · have k := k.2 h
    refine wp_seg (C := gC74) (pc1 := 42) (Lo1 := [some (.ref 28), some (.ref 1000003), some (.int l2), some (.int l3)]) (st1' := [.int (1 : Int32)]) (w1 := (wv x I J)) hC74 1 rfl ?_
    exact we_z rfl rfl (Or.inr rfl) k
set_option maxRecDepth 20000 in
theorem v62_36_0 {S : Nat × (Nat → Int32)} {d : Nat} {x : mX} {I : rI0} {J : rJ0} {p1 : Int32} {p2 : Int64} {p3 : Int32} {Q : Int64 → rI0 → rJ0 → Prop} (k : (((lg_cmp p2 (0 : Int64)) = (0 : Int32) → Q (0 : Int64) I J) ∧ (¬ (lg_cmp p2 (0 : Int64)) = (0 : Int32) → (((8 : Int32) < p3 → Q (0 : Int64) I J) ∧ (¬ (8 : Int32) < p3 → ((p1 < (0 : Int32) → Q (0 : Int64) I J) ∧ (¬ p1 < (0 : Int32) → ((p1 < (240 : Int32) → (¬ mOut p1 240 ∧ ((((((I 10 p1.toNatClampNeg).toUInt32 >>> ((14 : Int32).toUInt32 &&& Int32.toUInt32 31)).toInt32) &&& (15 : Int32)) = (8 : Int32) → (wcJ S d 62 [.ref 36, .int (p1 + (1 : Int32)), .long p2, .int (p3 + (1 : Int32))] x I J (fun r1 I1 J1 => Q (p2 &&& (r1 ^^^ (-1 : Int64))) I1 J1))) ∧ (¬ ((((I 10 p1.toNatClampNeg).toUInt32 >>> ((14 : Int32).toUInt32 &&& Int32.toUInt32 31)).toInt32) &&& (15 : Int32)) = (8 : Int32) → ((((((I 10 p1.toNatClampNeg).toUInt32 >>> ((14 : Int32).toUInt32 &&& Int32.toUInt32 31)).toInt32) &&& (15 : Int32)) = (9 : Int32) → (wcJ S d 61 [.ref 36, .int (p1 + (1 : Int32)), .int ((((I 10 p1.toNatClampNeg).toUInt32 >>> ((19 : Int32).toUInt32 &&& Int32.toUInt32 31)).toInt32) - (1 : Int32)), .long p2, .int (p3 + (1 : Int32))] x I J (fun r2 I2 J2 => Q r2 I2 J2))) ∧ (¬ ((((I 10 p1.toNatClampNeg).toUInt32 >>> ((14 : Int32).toUInt32 &&& Int32.toUInt32 31)).toInt32) &&& (15 : Int32)) = (9 : Int32) → ((((((I 10 p1.toNatClampNeg).toUInt32 >>> ((10 : Int32).toUInt32 &&& Int32.toUInt32 31)).toInt32) &&& (3 : Int32)) = (0 : Int32) → ((((((I 10 p1.toNatClampNeg).toUInt32 >>> ((10 : Int32).toUInt32 &&& Int32.toUInt32 31)).toInt32) &&& (3 : Int32)) = (0 : Int32) → wp S (d + 1) 62 166 [some (.ref 36), some (.int p1), some (.long p2), none, some (.int p3), some (.int (I 10 p1.toNatClampNeg)), some (.int ((((I 10 p1.toNatClampNeg).toUInt32 >>> ((14 : Int32).toUInt32 &&& Int32.toUInt32 31)).toInt32) &&& (15 : Int32))), some (.int ((I 10 p1.toNatClampNeg) &&& (1023 : Int32))), some (.int ((((I 10 p1.toNatClampNeg).toUInt32 >>> ((10 : Int32).toUInt32 &&& Int32.toUInt32 31)).toInt32) &&& (3 : Int32))), some (.int (0 : Int32)), none, none, none, none, none, none, none, none, none] [.int (((I 10 p1.toNatClampNeg) &&& (1023 : Int32)) - (1 : Int32))] (wv x I J) (rJ x Q)) ∧ (¬ ((((I 10 p1.toNatClampNeg).toUInt32 >>> ((10 : Int32).toUInt32 &&& Int32.toUInt32 31)).toInt32) &&& (3 : Int32)) = (0 : Int32) → ((((((I 10 p1.toNatClampNeg).toUInt32 >>> ((10 : Int32).toUInt32 &&& Int32.toUInt32 31)).toInt32) &&& (3 : Int32)) = (1 : Int32) → wp S (d + 1) 62 166 [some (.ref 36), some (.int p1), some (.long p2), none, some (.int p3), some (.int (I 10 p1.toNatClampNeg)), some (.int ((((I 10 p1.toNatClampNeg).toUInt32 >>> ((14 : Int32).toUInt32 &&& Int32.toUInt32 31)).toInt32) &&& (15 : Int32))), some (.int ((I 10 p1.toNatClampNeg) &&& (1023 : Int32))), some (.int ((((I 10 p1.toNatClampNeg).toUInt32 >>> ((10 : Int32).toUInt32 &&& Int32.toUInt32 31)).toInt32) &&& (3 : Int32))), some (.int (0 : Int32)), none, none, none, none, none, none, none, none, none] [.int ((I 10 p1.toNatClampNeg) &&& (1023 : Int32))] (wv x I J) (rJ x Q)) ∧ (¬ ((((I 10 p1.toNatClampNeg).toUInt32 >>> ((10 : Int32).toUInt32 &&& Int32.toUInt32 31)).toInt32) &&& (3 : Int32)) = (1 : Int32) → wp S (d + 1) 62 166 [some (.ref 36), some (.int p1), some (.long p2), none, some (.int p3), some (.int (I 10 p1.toNatClampNeg)), some (.int ((((I 10 p1.toNatClampNeg).toUInt32 >>> ((14 : Int32).toUInt32 &&& Int32.toUInt32 31)).toInt32) &&& (15 : Int32))), some (.int ((I 10 p1.toNatClampNeg) &&& (1023 : Int32))), some (.int ((((I 10 p1.toNatClampNeg).toUInt32 >>> ((10 : Int32).toUInt32 &&& Int32.toUInt32 31)).toInt32) &&& (3 : Int32))), some (.int (0 : Int32)), none, none, none, none, none, none, none, none, none] [.int (1023 : Int32)] (wv x I J) (rJ x Q)))))) ∧ (¬ ((((I 10 p1.toNatClampNeg).toUInt32 >>> ((10 : Int32).toUInt32 &&& Int32.toUInt32 31)).toInt32) &&& (3 : Int32)) = (0 : Int32) → ((((((I 10 p1.toNatClampNeg).toUInt32 >>> ((10 : Int32).toUInt32 &&& Int32.toUInt32 31)).toInt32) &&& (3 : Int32)) = (0 : Int32) → wp S (d + 1) 62 166 [some (.ref 36), some (.int p1), some (.long p2), none, some (.int p3), some (.int (I 10 p1.toNatClampNeg)), some (.int ((((I 10 p1.toNatClampNeg).toUInt32 >>> ((14 : Int32).toUInt32 &&& Int32.toUInt32 31)).toInt32) &&& (15 : Int32))), some (.int ((I 10 p1.toNatClampNeg) &&& (1023 : Int32))), some (.int ((((I 10 p1.toNatClampNeg).toUInt32 >>> ((10 : Int32).toUInt32 &&& Int32.toUInt32 31)).toInt32) &&& (3 : Int32))), some (.int ((((I 10 p1.toNatClampNeg) &&& (1023 : Int32)) + ((((I 10 p1.toNatClampNeg).toUInt32 >>> ((10 : Int32).toUInt32 &&& Int32.toUInt32 31)).toInt32) &&& (3 : Int32))) - (1 : Int32))), none, none, none, none, none, none, none, none, none] [.int (((I 10 p1.toNatClampNeg) &&& (1023 : Int32)) - (1 : Int32))] (wv x I J) (rJ x Q)) ∧ (¬ ((((I 10 p1.toNatClampNeg).toUInt32 >>> ((10 : Int32).toUInt32 &&& Int32.toUInt32 31)).toInt32) &&& (3 : Int32)) = (0 : Int32) → ((((((I 10 p1.toNatClampNeg).toUInt32 >>> ((10 : Int32).toUInt32 &&& Int32.toUInt32 31)).toInt32) &&& (3 : Int32)) = (1 : Int32) → wp S (d + 1) 62 166 [some (.ref 36), some (.int p1), some (.long p2), none, some (.int p3), some (.int (I 10 p1.toNatClampNeg)), some (.int ((((I 10 p1.toNatClampNeg).toUInt32 >>> ((14 : Int32).toUInt32 &&& Int32.toUInt32 31)).toInt32) &&& (15 : Int32))), some (.int ((I 10 p1.toNatClampNeg) &&& (1023 : Int32))), some (.int ((((I 10 p1.toNatClampNeg).toUInt32 >>> ((10 : Int32).toUInt32 &&& Int32.toUInt32 31)).toInt32) &&& (3 : Int32))), some (.int ((((I 10 p1.toNatClampNeg) &&& (1023 : Int32)) + ((((I 10 p1.toNatClampNeg).toUInt32 >>> ((10 : Int32).toUInt32 &&& Int32.toUInt32 31)).toInt32) &&& (3 : Int32))) - (1 : Int32))), none, none, none, none, none, none, none, none, none] [.int ((I 10 p1.toNatClampNeg) &&& (1023 : Int32))] (wv x I J) (rJ x Q)) ∧ (¬ ((((I 10 p1.toNatClampNeg).toUInt32 >>> ((10 : Int32).toUInt32 &&& Int32.toUInt32 31)).toInt32) &&& (3 : Int32)) = (1 : Int32) → wp S (d + 1) 62 166 [some (.ref 36), some (.int p1), some (.long p2), none, some (.int p3), some (.int (I 10 p1.toNatClampNeg)), some (.int ((((I 10 p1.toNatClampNeg).toUInt32 >>> ((14 : Int32).toUInt32 &&& Int32.toUInt32 31)).toInt32) &&& (15 : Int32))), some (.int ((I 10 p1.toNatClampNeg) &&& (1023 : Int32))), some (.int ((((I 10 p1.toNatClampNeg).toUInt32 >>> ((10 : Int32).toUInt32 &&& Int32.toUInt32 31)).toInt32) &&& (3 : Int32))), some (.int ((((I 10 p1.toNatClampNeg) &&& (1023 : Int32)) + ((((I 10 p1.toNatClampNeg).toUInt32 >>> ((10 : Int32).toUInt32 &&& Int32.toUInt32 31)).toInt32) &&& (3 : Int32))) - (1 : Int32))), none, none, none, none, none, none, none, none, none] [.int (1023 : Int32)] (wv x I J) (rJ x Q))))))))))))) ∧ (¬ p1 < (240 : Int32) → Q (0 : Int64) I J))))))))) : wp S (d + 1) 62 0 [some (.ref 36), some (.int p1), some (.long p2), none, some (.int p3), none, none, none, none, none, none, none, none, none, none, none, none, none, none] [] (wv x I J) (rJ x Q) := by
  refine wp_seg (C := gC62) (pc1 := 3) (Lo1 := [some (.ref 36), some (.int p1), some (.long p2), none, some (.int p3), none, none, none, none, none, none, none, none, none, none, none, none, none, none]) (st1' := [.int (lg_cmp p2 (0 : Int64))]) (w1 := (wv x I J)) hC62 3 rfl ?_
  refine wi_eq (tgt := 29) rfl rfl (fun h => ?_) (fun h => ?_)
  · have k := k.1 h
    refine wp_seg (C := gC62) (pc1 := 30) (Lo1 := [some (.ref 36), some (.int p1), some (.long p2), none, some (.int p3), none, none, none, none, none, none, none, none, none, none, none, none, none, none]) (st1' := [.long (0 : Int64)]) (w1 := (wv x I J)) hC62 1 rfl ?_
    exact we_l rfl rfl k
  · have k := k.2 h
    refine wp_seg (C := gC62) (pc1 := 10) (Lo1 := [some (.ref 36), some (.int p1), some (.long p2), none, some (.int p3), none, none, none, none, none, none, none, none, none, none, none, none, none, none]) (st1' := [.int (8 : Int32), .int p3]) (w1 := (wv x I J)) hC62 2 rfl ?_
    refine wj_gt (tgt := 29) rfl rfl (fun h => ?_) (fun h => ?_)
    · have k := k.1 h
      refine wp_seg (C := gC62) (pc1 := 30) (Lo1 := [some (.ref 36), some (.int p1), some (.long p2), none, some (.int p3), none, none, none, none, none, none, none, none, none, none, none, none, none, none]) (st1' := [.long (0 : Int64)]) (w1 := (wv x I J)) hC62 1 rfl ?_
      exact we_l rfl rfl k
    · have k := k.2 h
      refine wp_seg (C := gC62) (pc1 := 14) (Lo1 := [some (.ref 36), some (.int p1), some (.long p2), none, some (.int p3), none, none, none, none, none, none, none, none, none, none, none, none, none, none]) (st1' := [.int p1]) (w1 := (wv x I J)) hC62 1 rfl ?_
      refine wi_lt (tgt := 29) rfl rfl (fun h => ?_) (fun h => ?_)
      · have k := k.1 h
        refine wp_seg (C := gC62) (pc1 := 30) (Lo1 := [some (.ref 36), some (.int p1), some (.long p2), none, some (.int p3), none, none, none, none, none, none, none, none, none, none, none, none, none, none]) (st1' := [.long (0 : Int64)]) (w1 := (wv x I J)) hC62 1 rfl ?_
        exact we_l rfl rfl k
      · have k := k.2 h
        refine wp_seg (C := gC62) (pc1 := 26) (Lo1 := [some (.ref 36), some (.int p1), some (.long p2), none, some (.int p3), none, none, none, none, none, none, none, none, none, none, none, none, none, none]) (st1' := [.int (240 : Int32), .int p1]) (w1 := (wv x I J)) hC62 5 rfl ?_
        refine wj_lt (tgt := 31) rfl rfl (fun h => ?_) (fun h => ?_)
        · have k := k.1 h
          refine wp_seg (C := gC62) (pc1 := 39) (Lo1 := [some (.ref 36), some (.int p1), some (.long p2), none, some (.int p3), none, none, none, none, none, none, none, none, none, none, none, none, none, none]) (st1' := [.int p1, .ref 10]) (w1 := (wv x I J)) hC62 4 rfl ?_
          refine wa_i (n := 240) rfl (by decide) rfl k.1 ?_
          have k := k.2
          refine wp_seg (C := gC62) (pc1 := 52) (Lo1 := [some (.ref 36), some (.int p1), some (.long p2), none, some (.int p3), some (.int (I 10 p1.toNatClampNeg)), some (.int ((((I 10 p1.toNatClampNeg).toUInt32 >>> ((14 : Int32).toUInt32 &&& Int32.toUInt32 31)).toInt32) &&& (15 : Int32))), none, none, none, none, none, none, none, none, none, none, none, none]) (st1' := []) (w1 := (wv x I J)) hC62 7 rfl ?_
          refine wp_seg (C := gC62) (pc1 := 56) (Lo1 := [some (.ref 36), some (.int p1), some (.long p2), none, some (.int p3), some (.int (I 10 p1.toNatClampNeg)), some (.int ((((I 10 p1.toNatClampNeg).toUInt32 >>> ((14 : Int32).toUInt32 &&& Int32.toUInt32 31)).toInt32) &&& (15 : Int32))), none, none, none, none, none, none, none, none, none, none, none, none]) (st1' := [.int (8 : Int32), .int ((((I 10 p1.toNatClampNeg).toUInt32 >>> ((14 : Int32).toUInt32 &&& Int32.toUInt32 31)).toInt32) &&& (15 : Int32))]) (w1 := (wv x I J)) hC62 2 rfl ?_
          refine wj_ne (tgt := 78) rfl rfl (fun h => ?_) (fun h => ?_)
          · have k := k.1 h
            refine wp_seg (C := gC62) (pc1 := 69) (Lo1 := [some (.ref 36), some (.int p1), some (.long p2), none, some (.int p3), some (.int (I 10 p1.toNatClampNeg)), some (.int ((((I 10 p1.toNatClampNeg).toUInt32 >>> ((14 : Int32).toUInt32 &&& Int32.toUInt32 31)).toInt32) &&& (15 : Int32))), none, none, none, none, none, none, none, none, none, none, none, none]) (st1' := [.int (p3 + (1 : Int32)), .long p2, .int (p1 + (1 : Int32)), .ref 36, .long p2]) (w1 := (wv x I J)) hC62 9 rfl ?_
            refine cv_J (mj := 62) (a := 36) (as := [.int (p1 + (1 : Int32)), .long p2, .int (p3 + (1 : Int32))]) (r := [.long p2]) rfl rfl rfl ⟨rfl, by decide, Nat.le_of_ble_eq_true rfl, Nat.le_of_ble_eq_true rfl⟩ rfl (wcJ_mono k (fun r1 I1 J1 k => ?_))
            refine wp_seg (C := gC62) (pc1 := 77) (Lo1 := [some (.ref 36), some (.int p1), some (.long p2), none, some (.int p3), some (.int (I 10 p1.toNatClampNeg)), some (.int ((((I 10 p1.toNatClampNeg).toUInt32 >>> ((14 : Int32).toUInt32 &&& Int32.toUInt32 31)).toInt32) &&& (15 : Int32))), none, none, none, none, none, none, none, none, none, none, none, none]) (st1' := [.long (p2 &&& (r1 ^^^ (-1 : Int64)))]) (w1 := (wv x I1 J1)) hC62 3 rfl ?_
            exact we_l rfl rfl k
          · have k := k.2 h
            refine wp_seg (C := gC62) (pc1 := 82) (Lo1 := [some (.ref 36), some (.int p1), some (.long p2), none, some (.int p3), some (.int (I 10 p1.toNatClampNeg)), some (.int ((((I 10 p1.toNatClampNeg).toUInt32 >>> ((14 : Int32).toUInt32 &&& Int32.toUInt32 31)).toInt32) &&& (15 : Int32))), none, none, none, none, none, none, none, none, none, none, none, none]) (st1' := [.int (9 : Int32), .int ((((I 10 p1.toNatClampNeg).toUInt32 >>> ((14 : Int32).toUInt32 &&& Int32.toUInt32 31)).toInt32) &&& (15 : Int32))]) (w1 := (wv x I J)) hC62 2 rfl ?_
            refine wj_ne (tgt := 105) rfl rfl (fun h => ?_) (fun h => ?_)
            · have k := k.1 h
              refine wp_seg (C := gC62) (pc1 := 100) (Lo1 := [some (.ref 36), some (.int p1), some (.long p2), none, some (.int p3), some (.int (I 10 p1.toNatClampNeg)), some (.int ((((I 10 p1.toNatClampNeg).toUInt32 >>> ((14 : Int32).toUInt32 &&& Int32.toUInt32 31)).toInt32) &&& (15 : Int32))), none, none, none, none, none, none, none, none, none, none, none, none]) (st1' := [.int (1 : Int32), .int p3, .long p2, .int ((((I 10 p1.toNatClampNeg).toUInt32 >>> ((19 : Int32).toUInt32 &&& Int32.toUInt32 31)).toInt32) - (1 : Int32)), .int (p1 + (1 : Int32)), .ref 36]) (w1 := (wv x I J)) hC62 12 rfl ?_
              refine wp_seg (C := gC62) (pc1 := 101) (Lo1 := [some (.ref 36), some (.int p1), some (.long p2), none, some (.int p3), some (.int (I 10 p1.toNatClampNeg)), some (.int ((((I 10 p1.toNatClampNeg).toUInt32 >>> ((14 : Int32).toUInt32 &&& Int32.toUInt32 31)).toInt32) &&& (15 : Int32))), none, none, none, none, none, none, none, none, none, none, none, none]) (st1' := [.int (p3 + (1 : Int32)), .long p2, .int ((((I 10 p1.toNatClampNeg).toUInt32 >>> ((19 : Int32).toUInt32 &&& Int32.toUInt32 31)).toInt32) - (1 : Int32)), .int (p1 + (1 : Int32)), .ref 36]) (w1 := (wv x I J)) hC62 1 rfl ?_
              refine cv_J (mj := 61) (a := 36) (as := [.int (p1 + (1 : Int32)), .int ((((I 10 p1.toNatClampNeg).toUInt32 >>> ((19 : Int32).toUInt32 &&& Int32.toUInt32 31)).toInt32) - (1 : Int32)), .long p2, .int (p3 + (1 : Int32))]) (r := []) rfl rfl rfl ⟨rfl, by decide, Nat.le_of_ble_eq_true rfl, Nat.le_of_ble_eq_true rfl⟩ rfl (wcJ_mono k (fun r2 I2 J2 k => ?_))
              exact we_l rfl rfl k
            · have k := k.2 h
              refine wp_seg (C := gC62) (pc1 := 122) (Lo1 := [some (.ref 36), some (.int p1), some (.long p2), none, some (.int p3), some (.int (I 10 p1.toNatClampNeg)), some (.int ((((I 10 p1.toNatClampNeg).toUInt32 >>> ((14 : Int32).toUInt32 &&& Int32.toUInt32 31)).toInt32) &&& (15 : Int32))), some (.int ((I 10 p1.toNatClampNeg) &&& (1023 : Int32))), some (.int ((((I 10 p1.toNatClampNeg).toUInt32 >>> ((10 : Int32).toUInt32 &&& Int32.toUInt32 31)).toInt32) &&& (3 : Int32))), none, none, none, none, none, none, none, none, none, none]) (st1' := []) (w1 := (wv x I J)) hC62 10 rfl ?_
              refine wp_seg (C := gC62) (pc1 := 124) (Lo1 := [some (.ref 36), some (.int p1), some (.long p2), none, some (.int p3), some (.int (I 10 p1.toNatClampNeg)), some (.int ((((I 10 p1.toNatClampNeg).toUInt32 >>> ((14 : Int32).toUInt32 &&& Int32.toUInt32 31)).toInt32) &&& (15 : Int32))), some (.int ((I 10 p1.toNatClampNeg) &&& (1023 : Int32))), some (.int ((((I 10 p1.toNatClampNeg).toUInt32 >>> ((10 : Int32).toUInt32 &&& Int32.toUInt32 31)).toInt32) &&& (3 : Int32))), none, none, none, none, none, none, none, none, none, none]) (st1' := [.int ((((I 10 p1.toNatClampNeg).toUInt32 >>> ((10 : Int32).toUInt32 &&& Int32.toUInt32 31)).toInt32) &&& (3 : Int32))]) (w1 := (wv x I J)) hC62 1 rfl ?_
              refine wi_ne (tgt := 131) rfl rfl (fun h => ?_) (fun h => ?_)
              · have k := k.1 h
                refine wp_seg (C := gC62) (pc1 := 142) (Lo1 := [some (.ref 36), some (.int p1), some (.long p2), none, some (.int p3), some (.int (I 10 p1.toNatClampNeg)), some (.int ((((I 10 p1.toNatClampNeg).toUInt32 >>> ((14 : Int32).toUInt32 &&& Int32.toUInt32 31)).toInt32) &&& (15 : Int32))), some (.int ((I 10 p1.toNatClampNeg) &&& (1023 : Int32))), some (.int ((((I 10 p1.toNatClampNeg).toUInt32 >>> ((10 : Int32).toUInt32 &&& Int32.toUInt32 31)).toInt32) &&& (3 : Int32))), some (.int (0 : Int32)), none, none, none, none, none, none, none, none, none]) (st1' := [.int ((((I 10 p1.toNatClampNeg).toUInt32 >>> ((10 : Int32).toUInt32 &&& Int32.toUInt32 31)).toInt32) &&& (3 : Int32))]) (w1 := (wv x I J)) hC62 4 rfl ?_
                refine wi_ne (tgt := 152) rfl rfl (fun h => ?_) (fun h => ?_)
                · have k := k.1 h
                  refine wp_seg (C := gC62) (pc1 := 166) (Lo1 := [some (.ref 36), some (.int p1), some (.long p2), none, some (.int p3), some (.int (I 10 p1.toNatClampNeg)), some (.int ((((I 10 p1.toNatClampNeg).toUInt32 >>> ((14 : Int32).toUInt32 &&& Int32.toUInt32 31)).toInt32) &&& (15 : Int32))), some (.int ((I 10 p1.toNatClampNeg) &&& (1023 : Int32))), some (.int ((((I 10 p1.toNatClampNeg).toUInt32 >>> ((10 : Int32).toUInt32 &&& Int32.toUInt32 31)).toInt32) &&& (3 : Int32))), some (.int (0 : Int32)), none, none, none, none, none, none, none, none, none]) (st1' := [.int (((I 10 p1.toNatClampNeg) &&& (1023 : Int32)) - (1 : Int32))]) (w1 := (wv x I J)) hC62 4 rfl ?_
                  exact k
                · have k := k.2 h
                  refine wp_seg (C := gC62) (pc1 := 155) (Lo1 := [some (.ref 36), some (.int p1), some (.long p2), none, some (.int p3), some (.int (I 10 p1.toNatClampNeg)), some (.int ((((I 10 p1.toNatClampNeg).toUInt32 >>> ((14 : Int32).toUInt32 &&& Int32.toUInt32 31)).toInt32) &&& (15 : Int32))), some (.int ((I 10 p1.toNatClampNeg) &&& (1023 : Int32))), some (.int ((((I 10 p1.toNatClampNeg).toUInt32 >>> ((10 : Int32).toUInt32 &&& Int32.toUInt32 31)).toInt32) &&& (3 : Int32))), some (.int (0 : Int32)), none, none, none, none, none, none, none, none, none]) (st1' := [.int (1 : Int32), .int ((((I 10 p1.toNatClampNeg).toUInt32 >>> ((10 : Int32).toUInt32 &&& Int32.toUInt32 31)).toInt32) &&& (3 : Int32))]) (w1 := (wv x I J)) hC62 2 rfl ?_
                  refine wj_ne (tgt := 163) rfl rfl (fun h => ?_) (fun h => ?_)
                  · have k := k.1 h
                    refine wp_seg (C := gC62) (pc1 := 166) (Lo1 := [some (.ref 36), some (.int p1), some (.long p2), none, some (.int p3), some (.int (I 10 p1.toNatClampNeg)), some (.int ((((I 10 p1.toNatClampNeg).toUInt32 >>> ((14 : Int32).toUInt32 &&& Int32.toUInt32 31)).toInt32) &&& (15 : Int32))), some (.int ((I 10 p1.toNatClampNeg) &&& (1023 : Int32))), some (.int ((((I 10 p1.toNatClampNeg).toUInt32 >>> ((10 : Int32).toUInt32 &&& Int32.toUInt32 31)).toInt32) &&& (3 : Int32))), some (.int (0 : Int32)), none, none, none, none, none, none, none, none, none]) (st1' := [.int ((I 10 p1.toNatClampNeg) &&& (1023 : Int32))]) (w1 := (wv x I J)) hC62 2 rfl ?_
                    exact k
                  · have k := k.2 h
                    refine wp_seg (C := gC62) (pc1 := 166) (Lo1 := [some (.ref 36), some (.int p1), some (.long p2), none, some (.int p3), some (.int (I 10 p1.toNatClampNeg)), some (.int ((((I 10 p1.toNatClampNeg).toUInt32 >>> ((14 : Int32).toUInt32 &&& Int32.toUInt32 31)).toInt32) &&& (15 : Int32))), some (.int ((I 10 p1.toNatClampNeg) &&& (1023 : Int32))), some (.int ((((I 10 p1.toNatClampNeg).toUInt32 >>> ((10 : Int32).toUInt32 &&& Int32.toUInt32 31)).toInt32) &&& (3 : Int32))), some (.int (0 : Int32)), none, none, none, none, none, none, none, none, none]) (st1' := [.int (1023 : Int32)]) (w1 := (wv x I J)) hC62 1 rfl ?_
                    exact k
              · have k := k.2 h
                refine wp_seg (C := gC62) (pc1 := 142) (Lo1 := [some (.ref 36), some (.int p1), some (.long p2), none, some (.int p3), some (.int (I 10 p1.toNatClampNeg)), some (.int ((((I 10 p1.toNatClampNeg).toUInt32 >>> ((14 : Int32).toUInt32 &&& Int32.toUInt32 31)).toInt32) &&& (15 : Int32))), some (.int ((I 10 p1.toNatClampNeg) &&& (1023 : Int32))), some (.int ((((I 10 p1.toNatClampNeg).toUInt32 >>> ((10 : Int32).toUInt32 &&& Int32.toUInt32 31)).toInt32) &&& (3 : Int32))), some (.int ((((I 10 p1.toNatClampNeg) &&& (1023 : Int32)) + ((((I 10 p1.toNatClampNeg).toUInt32 >>> ((10 : Int32).toUInt32 &&& Int32.toUInt32 31)).toInt32) &&& (3 : Int32))) - (1 : Int32))), none, none, none, none, none, none, none, none, none]) (st1' := [.int ((((I 10 p1.toNatClampNeg).toUInt32 >>> ((10 : Int32).toUInt32 &&& Int32.toUInt32 31)).toInt32) &&& (3 : Int32))]) (w1 := (wv x I J)) hC62 7 rfl ?_
                refine wi_ne (tgt := 152) rfl rfl (fun h => ?_) (fun h => ?_)
                · have k := k.1 h
                  refine wp_seg (C := gC62) (pc1 := 166) (Lo1 := [some (.ref 36), some (.int p1), some (.long p2), none, some (.int p3), some (.int (I 10 p1.toNatClampNeg)), some (.int ((((I 10 p1.toNatClampNeg).toUInt32 >>> ((14 : Int32).toUInt32 &&& Int32.toUInt32 31)).toInt32) &&& (15 : Int32))), some (.int ((I 10 p1.toNatClampNeg) &&& (1023 : Int32))), some (.int ((((I 10 p1.toNatClampNeg).toUInt32 >>> ((10 : Int32).toUInt32 &&& Int32.toUInt32 31)).toInt32) &&& (3 : Int32))), some (.int ((((I 10 p1.toNatClampNeg) &&& (1023 : Int32)) + ((((I 10 p1.toNatClampNeg).toUInt32 >>> ((10 : Int32).toUInt32 &&& Int32.toUInt32 31)).toInt32) &&& (3 : Int32))) - (1 : Int32))), none, none, none, none, none, none, none, none, none]) (st1' := [.int (((I 10 p1.toNatClampNeg) &&& (1023 : Int32)) - (1 : Int32))]) (w1 := (wv x I J)) hC62 4 rfl ?_
                  exact k
                · have k := k.2 h
                  refine wp_seg (C := gC62) (pc1 := 155) (Lo1 := [some (.ref 36), some (.int p1), some (.long p2), none, some (.int p3), some (.int (I 10 p1.toNatClampNeg)), some (.int ((((I 10 p1.toNatClampNeg).toUInt32 >>> ((14 : Int32).toUInt32 &&& Int32.toUInt32 31)).toInt32) &&& (15 : Int32))), some (.int ((I 10 p1.toNatClampNeg) &&& (1023 : Int32))), some (.int ((((I 10 p1.toNatClampNeg).toUInt32 >>> ((10 : Int32).toUInt32 &&& Int32.toUInt32 31)).toInt32) &&& (3 : Int32))), some (.int ((((I 10 p1.toNatClampNeg) &&& (1023 : Int32)) + ((((I 10 p1.toNatClampNeg).toUInt32 >>> ((10 : Int32).toUInt32 &&& Int32.toUInt32 31)).toInt32) &&& (3 : Int32))) - (1 : Int32))), none, none, none, none, none, none, none, none, none]) (st1' := [.int (1 : Int32), .int ((((I 10 p1.toNatClampNeg).toUInt32 >>> ((10 : Int32).toUInt32 &&& Int32.toUInt32 31)).toInt32) &&& (3 : Int32))]) (w1 := (wv x I J)) hC62 2 rfl ?_
                  refine wj_ne (tgt := 163) rfl rfl (fun h => ?_) (fun h => ?_)
                  · have k := k.1 h
                    refine wp_seg (C := gC62) (pc1 := 166) (Lo1 := [some (.ref 36), some (.int p1), some (.long p2), none, some (.int p3), some (.int (I 10 p1.toNatClampNeg)), some (.int ((((I 10 p1.toNatClampNeg).toUInt32 >>> ((14 : Int32).toUInt32 &&& Int32.toUInt32 31)).toInt32) &&& (15 : Int32))), some (.int ((I 10 p1.toNatClampNeg) &&& (1023 : Int32))), some (.int ((((I 10 p1.toNatClampNeg).toUInt32 >>> ((10 : Int32).toUInt32 &&& Int32.toUInt32 31)).toInt32) &&& (3 : Int32))), some (.int ((((I 10 p1.toNatClampNeg) &&& (1023 : Int32)) + ((((I 10 p1.toNatClampNeg).toUInt32 >>> ((10 : Int32).toUInt32 &&& Int32.toUInt32 31)).toInt32) &&& (3 : Int32))) - (1 : Int32))), none, none, none, none, none, none, none, none, none]) (st1' := [.int ((I 10 p1.toNatClampNeg) &&& (1023 : Int32))]) (w1 := (wv x I J)) hC62 2 rfl ?_
                    exact k
                  · have k := k.2 h
                    refine wp_seg (C := gC62) (pc1 := 166) (Lo1 := [some (.ref 36), some (.int p1), some (.long p2), none, some (.int p3), some (.int (I 10 p1.toNatClampNeg)), some (.int ((((I 10 p1.toNatClampNeg).toUInt32 >>> ((14 : Int32).toUInt32 &&& Int32.toUInt32 31)).toInt32) &&& (15 : Int32))), some (.int ((I 10 p1.toNatClampNeg) &&& (1023 : Int32))), some (.int ((((I 10 p1.toNatClampNeg).toUInt32 >>> ((10 : Int32).toUInt32 &&& Int32.toUInt32 31)).toInt32) &&& (3 : Int32))), some (.int ((((I 10 p1.toNatClampNeg) &&& (1023 : Int32)) + ((((I 10 p1.toNatClampNeg).toUInt32 >>> ((10 : Int32).toUInt32 &&& Int32.toUInt32 31)).toInt32) &&& (3 : Int32))) - (1 : Int32))), none, none, none, none, none, none, none, none, none]) (st1' := [.int (1023 : Int32)]) (w1 := (wv x I J)) hC62 1 rfl ?_
                    exact k
        · have k := k.2 h
          refine wp_seg (C := gC62) (pc1 := 30) (Lo1 := [some (.ref 36), some (.int p1), some (.long p2), none, some (.int p3), none, none, none, none, none, none, none, none, none, none, none, none, none, none]) (st1' := [.long (0 : Int64)]) (w1 := (wv x I J)) hC62 1 rfl ?_
          exact we_l rfl rfl k
set_option maxRecDepth 20000 in
theorem v62_36_166 {S : Nat × (Nat → Int32)} {d : Nat} {x : mX} {I : rI0} {J : rJ0} {l1 : Int32} {l2 : Int64} {l4 : Int32} {l5 : Int32} {l6 : Int32} {l7 : Int32} {l8 : Int32} {l9 : Int32} {s0 : Int32} {Q : Int64 → rI0 → rJ0 → Prop} (k : ((l6 = (6 : Int32) → (wcJ S d 63 [.ref 36, .int l9, .int s0] x I J (fun r1 I1 J1 => Q (l2 &&& r1) I1 J1))) ∧ (¬ l6 = (6 : Int32) → ((l6 = (7 : Int32) → (wcJ S d 64 [.ref 36, .int l9, .int s0] x I J (fun r2 I2 J2 => Q (l2 &&& r2) I2 J2))) ∧ (¬ l6 = (7 : Int32) → (((((l5.toUInt32 >>> ((12 : Int32).toUInt32 &&& Int32.toUInt32 31)).toInt32) &&& (3 : Int32)) = (1 : Int32) → wp S (d + 1) 62 237 [some (.ref 36), some (.int l1), some (.long l2), none, some (.int l4), some (.int l5), some (.int l6), some (.int l7), some (.int l8), some (.int l9), some (.int s0), some (.long (J 36 8)), none, some (.long (0 : Int64)), none, some (.long l2), none, some (.int (0 : Int32)), none] [] (wv x I J) (rJ x Q)) ∧ (¬ (((l5.toUInt32 >>> ((12 : Int32).toUInt32 &&& Int32.toUInt32 31)).toInt32) &&& (3 : Int32)) = (1 : Int32) → wp S (d + 1) 62 237 [some (.ref 36), some (.int l1), some (.long l2), none, some (.int l4), some (.int l5), some (.int l6), some (.int l7), some (.int l8), some (.int l9), some (.int s0), some (.long (J 36 9)), none, some (.long (0 : Int64)), none, some (.long l2), none, some (.int (0 : Int32)), none] [] (wv x I J) (rJ x Q)))))))) : wp S (d + 1) 62 166 [some (.ref 36), some (.int l1), some (.long l2), none, some (.int l4), some (.int l5), some (.int l6), some (.int l7), some (.int l8), some (.int l9), none, none, none, none, none, none, none, none, none] [.int s0] (wv x I J) (rJ x Q) := by
  refine wp_seg (C := gC62) (pc1 := 172) (Lo1 := [some (.ref 36), some (.int l1), some (.long l2), none, some (.int l4), some (.int l5), some (.int l6), some (.int l7), some (.int l8), some (.int l9), some (.int s0), none, none, none, none, none, none, none, none]) (st1' := [.int (6 : Int32), .int l6]) (w1 := (wv x I J)) hC62 3 rfl ?_
  refine wj_ne (tgt := 186) rfl rfl (fun h => ?_) (fun h => ?_)
  · have k := k.1 h
    refine wp_seg (C := gC62) (pc1 := 181) (Lo1 := [some (.ref 36), some (.int l1), some (.long l2), none, some (.int l4), some (.int l5), some (.int l6), some (.int l7), some (.int l8), some (.int l9), some (.int s0), none, none, none, none, none, none, none, none]) (st1' := [.int s0, .int l9, .ref 36, .long l2]) (w1 := (wv x I J)) hC62 4 rfl ?_
    refine cv_J (mj := 63) (a := 36) (as := [.int l9, .int s0]) (r := [.long l2]) rfl rfl rfl ⟨rfl, by decide, Nat.le_of_ble_eq_true rfl, Nat.le_of_ble_eq_true rfl⟩ rfl (wcJ_mono k (fun r1 I1 J1 k => ?_))
    refine wp_seg (C := gC62) (pc1 := 185) (Lo1 := [some (.ref 36), some (.int l1), some (.long l2), none, some (.int l4), some (.int l5), some (.int l6), some (.int l7), some (.int l8), some (.int l9), some (.int s0), none, none, none, none, none, none, none, none]) (st1' := [.long (l2 &&& r1)]) (w1 := (wv x I1 J1)) hC62 1 rfl ?_
    exact we_l rfl rfl k
  · have k := k.2 h
    refine wp_seg (C := gC62) (pc1 := 190) (Lo1 := [some (.ref 36), some (.int l1), some (.long l2), none, some (.int l4), some (.int l5), some (.int l6), some (.int l7), some (.int l8), some (.int l9), some (.int s0), none, none, none, none, none, none, none, none]) (st1' := [.int (7 : Int32), .int l6]) (w1 := (wv x I J)) hC62 2 rfl ?_
    refine wj_ne (tgt := 204) rfl rfl (fun h => ?_) (fun h => ?_)
    · have k := k.1 h
      refine wp_seg (C := gC62) (pc1 := 199) (Lo1 := [some (.ref 36), some (.int l1), some (.long l2), none, some (.int l4), some (.int l5), some (.int l6), some (.int l7), some (.int l8), some (.int l9), some (.int s0), none, none, none, none, none, none, none, none]) (st1' := [.int s0, .int l9, .ref 36, .long l2]) (w1 := (wv x I J)) hC62 4 rfl ?_
      refine cv_J (mj := 64) (a := 36) (as := [.int l9, .int s0]) (r := [.long l2]) rfl rfl rfl ⟨rfl, by decide, Nat.le_of_ble_eq_true rfl, Nat.le_of_ble_eq_true rfl⟩ rfl (wcJ_mono k (fun r2 I2 J2 k => ?_))
      refine wp_seg (C := gC62) (pc1 := 203) (Lo1 := [some (.ref 36), some (.int l1), some (.long l2), none, some (.int l4), some (.int l5), some (.int l6), some (.int l7), some (.int l8), some (.int l9), some (.int s0), none, none, none, none, none, none, none, none]) (st1' := [.long (l2 &&& r2)]) (w1 := (wv x I2 J2)) hC62 1 rfl ?_
      exact we_l rfl rfl k
    · have k := k.2 h
      refine wp_seg (C := gC62) (pc1 := 212) (Lo1 := [some (.ref 36), some (.int l1), some (.long l2), none, some (.int l4), some (.int l5), some (.int l6), some (.int l7), some (.int l8), some (.int l9), some (.int s0), none, none, none, none, none, none, none, none]) (st1' := [.int (1 : Int32), .int (((l5.toUInt32 >>> ((12 : Int32).toUInt32 &&& Int32.toUInt32 31)).toInt32) &&& (3 : Int32))]) (w1 := (wv x I J)) hC62 6 rfl ?_
      refine wj_ne (tgt := 222) rfl rfl (fun h => ?_) (fun h => ?_)
      · have k := k.1 h
        refine wp_seg (C := gC62) (pc1 := 231) (Lo1 := [some (.ref 36), some (.int l1), some (.long l2), none, some (.int l4), some (.int l5), some (.int l6), some (.int l7), some (.int l8), some (.int l9), some (.int s0), some (.long (J 36 8)), none, some (.long (0 : Int64)), none, none, none, none, none]) (st1' := []) (w1 := (wv x I J)) hC62 6 rfl ?_
        refine wp_seg (C := gC62) (pc1 := 237) (Lo1 := [some (.ref 36), some (.int l1), some (.long l2), none, some (.int l4), some (.int l5), some (.int l6), some (.int l7), some (.int l8), some (.int l9), some (.int s0), some (.long (J 36 8)), none, some (.long (0 : Int64)), none, some (.long l2), none, some (.int (0 : Int32)), none]) (st1' := []) (w1 := (wv x I J)) hC62 4 rfl ?_
        exact k
      · have k := k.2 h
        refine wp_seg (C := gC62) (pc1 := 231) (Lo1 := [some (.ref 36), some (.int l1), some (.long l2), none, some (.int l4), some (.int l5), some (.int l6), some (.int l7), some (.int l8), some (.int l9), some (.int s0), some (.long (J 36 9)), none, some (.long (0 : Int64)), none, none, none, none, none]) (st1' := []) (w1 := (wv x I J)) hC62 5 rfl ?_
        refine wp_seg (C := gC62) (pc1 := 237) (Lo1 := [some (.ref 36), some (.int l1), some (.long l2), none, some (.int l4), some (.int l5), some (.int l6), some (.int l7), some (.int l8), some (.int l9), some (.int s0), some (.long (J 36 9)), none, some (.long (0 : Int64)), none, some (.long l2), none, some (.int (0 : Int32)), none]) (st1' := []) (w1 := (wv x I J)) hC62 4 rfl ?_
        exact k
set_option maxRecDepth 20000 in
theorem v62_36_237 {S : Nat × (Nat → Int32)} {d : Nat} {x : mX} {I : rI0} {J : rJ0} {l1 : Int32} {l2 : Int64} {l4 : Int32} {l5 : Int32} {l6 : Int32} {l7 : Int32} {l8 : Int32} {l9 : Int32} {l10 : Int32} {l11 : Int64} {l13 : Int64} {l15 : Int64} {l17 : Int32} {Q : Int64 → rI0 → rJ0 → Prop} (k : ((l17 < (64 : Int32) → ((l6 < (6 : Int32) → (((lg_cmp l15 (0 : Int64)) = (0 : Int32) → Q l13 I J) ∧ (¬ (lg_cmp l15 (0 : Int64)) = (0 : Int32) → (((lg_cmp (l15 &&& (1 : Int64)) (0 : Int64)) = (0 : Int32) → wp S (d + 1) 62 237 [some (.ref 36), some (.int l1), some (.long l2), none, some (.int l4), some (.int l5), some (.int l6), some (.int l7), some (.int l8), some (.int l9), some (.int l10), some (.long l11), none, some (.long l13), none, some (.long ((l15.toUInt64 >>> ((1 : Int32).toInt64.toUInt64 &&& Int64.toUInt64 63)).toInt64)), none, some (.int (l17 + (1 : Int32))), none] [] (wv x I J) (rJ x Q)) ∧ (¬ (lg_cmp (l15 &&& (1 : Int64)) (0 : Int64)) = (0 : Int32) → (¬ mOut ((l6 * (64 : Int32)) + l17) 384 ∧ (wcI S d 250 [.long ((J 11 (((l6 * (64 : Int32)) + l17).toNatClampNeg)) &&& l11)] x I J (fun r1 I1 J1 => ((r1 < l9 → wp S (d + 1) 62 237 [some (.ref 36), some (.int l1), some (.long l2), none, some (.int l4), some (.int l5), some (.int l6), some (.int l7), some (.int l8), some (.int l9), some (.int l10), some (.long l11), none, some (.long l13), none, some (.long ((l15.toUInt64 >>> ((1 : Int32).toInt64.toUInt64 &&& Int64.toUInt64 63)).toInt64)), none, some (.int (l17 + (1 : Int32))), none] [] (wv x I1 J1) (rJ x Q)) ∧ (¬ r1 < l9 → ((l10 < r1 → wp S (d + 1) 62 237 [some (.ref 36), some (.int l1), some (.long l2), none, some (.int l4), some (.int l5), some (.int l6), some (.int l7), some (.int l8), some (.int l9), some (.int l10), some (.long l11), none, some (.long l13), none, some (.long ((l15.toUInt64 >>> ((1 : Int32).toInt64.toUInt64 &&& Int64.toUInt64 63)).toInt64)), none, some (.int (l17 + (1 : Int32))), none] [] (wv x I1 J1) (rJ x Q)) ∧ (¬ l10 < r1 → wp S (d + 1) 62 237 [some (.ref 36), some (.int l1), some (.long l2), none, some (.int l4), some (.int l5), some (.int l6), some (.int l7), some (.int l8), some (.int l9), some (.int l10), some (.long l11), none, some (.long (l13 ||| ((1 : Int64) <<< (l17.toInt64 &&& 63)))), none, some (.long ((l15.toUInt64 >>> ((1 : Int32).toInt64.toUInt64 &&& Int64.toUInt64 63)).toInt64)), none, some (.int (l17 + (1 : Int32))), none] [] (wv x I1 J1) (rJ x Q))))))))))))) ∧ (¬ l6 < (6 : Int32) → Q l13 I J))) ∧ (¬ l17 < (64 : Int32) → Q l13 I J))) : wp S (d + 1) 62 237 [some (.ref 36), some (.int l1), some (.long l2), none, some (.int l4), some (.int l5), some (.int l6), some (.int l7), some (.int l8), some (.int l9), some (.int l10), some (.long l11), none, some (.long l13), none, some (.long l15), none, some (.int l17), none] [] (wv x I J) (rJ x Q) := by
  refine wp_seg (C := gC62) (pc1 := 241) (Lo1 := [some (.ref 36), some (.int l1), some (.long l2), none, some (.int l4), some (.int l5), some (.int l6), some (.int l7), some (.int l8), some (.int l9), some (.int l10), some (.long l11), none, some (.long l13), none, some (.long l15), none, some (.int l17), none]) (st1' := [.int (64 : Int32), .int l17]) (w1 := (wv x I J)) hC62 2 rfl ?_
  refine wj_ge (tgt := 326) rfl rfl (fun h => ?_) (fun h => ?_)
  · have k := k.1 h
    refine wp_seg (C := gC62) (pc1 := 248) (Lo1 := [some (.ref 36), some (.int l1), some (.long l2), none, some (.int l4), some (.int l5), some (.int l6), some (.int l7), some (.int l8), some (.int l9), some (.int l10), some (.long l11), none, some (.long l13), none, some (.long l15), none, some (.int l17), none]) (st1' := [.int (6 : Int32), .int l6]) (w1 := (wv x I J)) hC62 2 rfl ?_
    refine wj_ge (tgt := 326) rfl rfl (fun h => ?_) (fun h => ?_)
    · have k := k.1 h
      refine wp_seg (C := gC62) (pc1 := 255) (Lo1 := [some (.ref 36), some (.int l1), some (.long l2), none, some (.int l4), some (.int l5), some (.int l6), some (.int l7), some (.int l8), some (.int l9), some (.int l10), some (.long l11), none, some (.long l13), none, some (.long l15), none, some (.int l17), none]) (st1' := [.int (lg_cmp l15 (0 : Int64))]) (w1 := (wv x I J)) hC62 3 rfl ?_
      refine wi_eq (tgt := 326) rfl rfl (fun h => ?_) (fun h => ?_)
      · have k := k.1 h
        refine wp_seg (C := gC62) (pc1 := 328) (Lo1 := [some (.ref 36), some (.int l1), some (.long l2), none, some (.int l4), some (.int l5), some (.int l6), some (.int l7), some (.int l8), some (.int l9), some (.int l10), some (.long l11), none, some (.long l13), none, some (.long l15), none, some (.int l17), none]) (st1' := [.long l13]) (w1 := (wv x I J)) hC62 1 rfl ?_
        exact we_l rfl rfl k
      · have k := k.2 h
        refine wp_seg (C := gC62) (pc1 := 264) (Lo1 := [some (.ref 36), some (.int l1), some (.long l2), none, some (.int l4), some (.int l5), some (.int l6), some (.int l7), some (.int l8), some (.int l9), some (.int l10), some (.long l11), none, some (.long l13), none, some (.long l15), none, some (.int l17), none]) (st1' := [.int (lg_cmp (l15 &&& (1 : Int64)) (0 : Int64))]) (w1 := (wv x I J)) hC62 5 rfl ?_
        refine wi_eq (tgt := 314) rfl rfl (fun h => ?_) (fun h => ?_)
        · have k := k.1 h
          refine wp_seg (C := gC62) (pc1 := 323) (Lo1 := [some (.ref 36), some (.int l1), some (.long l2), none, some (.int l4), some (.int l5), some (.int l6), some (.int l7), some (.int l8), some (.int l9), some (.int l10), some (.long l11), none, some (.long l13), none, some (.long ((l15.toUInt64 >>> ((1 : Int32).toInt64.toUInt64 &&& Int64.toUInt64 63)).toInt64)), none, some (.int (l17 + (1 : Int32))), none]) (st1' := []) (w1 := (wv x I J)) hC62 5 rfl ?_
          refine wp_seg (C := gC62) (pc1 := 237) (Lo1 := [some (.ref 36), some (.int l1), some (.long l2), none, some (.int l4), some (.int l5), some (.int l6), some (.int l7), some (.int l8), some (.int l9), some (.int l10), some (.long l11), none, some (.long l13), none, some (.long ((l15.toUInt64 >>> ((1 : Int32).toInt64.toUInt64 &&& Int64.toUInt64 63)).toInt64)), none, some (.int (l17 + (1 : Int32))), none]) (st1' := []) (w1 := (wv x I J)) hC62 1 rfl ?_
          exact k
        · have k := k.2 h
          refine wp_seg (C := gC62) (pc1 := 282) (Lo1 := [some (.ref 36), some (.int l1), some (.long l2), none, some (.int l4), some (.int l5), some (.int l6), some (.int l7), some (.int l8), some (.int l9), some (.int l10), some (.long l11), none, some (.long l13), none, some (.long l15), none, some (.int l17), none]) (st1' := [.int ((l6 * (64 : Int32)) + l17), .ref 11]) (w1 := (wv x I J)) hC62 8 rfl ?_
          refine wa_l (n := 384) rfl rfl k.1 ?_
          have k := k.2
          refine wp_seg (C := gC62) (pc1 := 286) (Lo1 := [some (.ref 36), some (.int l1), some (.long l2), none, some (.int l4), some (.int l5), some (.int l6), some (.int l7), some (.int l8), some (.int l9), some (.int l10), some (.long l11), none, some (.long l13), none, some (.long l15), none, some (.int l17), none]) (st1' := [.long ((J 11 (((l6 * (64 : Int32)) + l17).toNatClampNeg)) &&& l11)]) (w1 := (wv x I J)) hC62 2 rfl ?_
          refine cs_I (mj := 250) (nn := 0) (as := [.long ((J 11 (((l6 * (64 : Int32)) + l17).toNatClampNeg)) &&& l11)]) (r := []) rfl rfl rfl ⟨rfl, by decide, Nat.le_of_ble_eq_true rfl, Nat.le_of_ble_eq_true rfl⟩ (by decide) (wcI_mono k (fun r1 I1 J1 k => ?_))
          refine wp_seg (C := gC62) (pc1 := 295) (Lo1 := [some (.ref 36), some (.int l1), some (.long l2), none, some (.int l4), some (.int l5), some (.int l6), some (.int l7), some (.int l8), some (.int l9), some (.int l10), some (.long l11), none, some (.long l13), none, some (.long l15), none, some (.int l17), some (.int r1)]) (st1' := [.int l9, .int r1]) (w1 := (wv x I1 J1)) hC62 3 rfl ?_
          refine wj_lt (tgt := 314) rfl rfl (fun h => ?_) (fun h => ?_)
          · have k := k.1 h
            refine wp_seg (C := gC62) (pc1 := 323) (Lo1 := [some (.ref 36), some (.int l1), some (.long l2), none, some (.int l4), some (.int l5), some (.int l6), some (.int l7), some (.int l8), some (.int l9), some (.int l10), some (.long l11), none, some (.long l13), none, some (.long ((l15.toUInt64 >>> ((1 : Int32).toInt64.toUInt64 &&& Int64.toUInt64 63)).toInt64)), none, some (.int (l17 + (1 : Int32))), some (.int r1)]) (st1' := []) (w1 := (wv x I1 J1)) hC62 5 rfl ?_
            refine wp_seg (C := gC62) (pc1 := 237) (Lo1 := [some (.ref 36), some (.int l1), some (.long l2), none, some (.int l4), some (.int l5), some (.int l6), some (.int l7), some (.int l8), some (.int l9), some (.int l10), some (.long l11), none, some (.long l13), none, some (.long ((l15.toUInt64 >>> ((1 : Int32).toInt64.toUInt64 &&& Int64.toUInt64 63)).toInt64)), none, some (.int (l17 + (1 : Int32))), some (.int r1)]) (st1' := []) (w1 := (wv x I1 J1)) hC62 1 rfl ?_
            exact wp_sub (Lo := [some (.ref 36), some (.int l1), some (.long l2), none, some (.int l4), some (.int l5), some (.int l6), some (.int l7), some (.int l8), some (.int l9), some (.int l10), some (.long l11), none, some (.long l13), none, some (.long ((l15.toUInt64 >>> ((1 : Int32).toInt64.toUInt64 &&& Int64.toUInt64 63)).toInt64)), none, some (.int (l17 + (1 : Int32))), none]) (And.intro rfl (And.intro rfl (And.intro rfl (And.intro rfl (And.intro rfl (And.intro rfl (And.intro rfl (And.intro rfl (And.intro rfl (And.intro rfl (And.intro rfl (And.intro rfl (And.intro rfl (And.intro rfl (trivial))))))))))))))) k
          · have k := k.2 h
            refine wp_seg (C := gC62) (pc1 := 302) (Lo1 := [some (.ref 36), some (.int l1), some (.long l2), none, some (.int l4), some (.int l5), some (.int l6), some (.int l7), some (.int l8), some (.int l9), some (.int l10), some (.long l11), none, some (.long l13), none, some (.long l15), none, some (.int l17), some (.int r1)]) (st1' := [.int l10, .int r1]) (w1 := (wv x I1 J1)) hC62 2 rfl ?_
            refine wj_gt (tgt := 314) rfl rfl (fun h => ?_) (fun h => ?_)
            · have k := k.1 h
              refine wp_seg (C := gC62) (pc1 := 323) (Lo1 := [some (.ref 36), some (.int l1), some (.long l2), none, some (.int l4), some (.int l5), some (.int l6), some (.int l7), some (.int l8), some (.int l9), some (.int l10), some (.long l11), none, some (.long l13), none, some (.long ((l15.toUInt64 >>> ((1 : Int32).toInt64.toUInt64 &&& Int64.toUInt64 63)).toInt64)), none, some (.int (l17 + (1 : Int32))), some (.int r1)]) (st1' := []) (w1 := (wv x I1 J1)) hC62 5 rfl ?_
              refine wp_seg (C := gC62) (pc1 := 237) (Lo1 := [some (.ref 36), some (.int l1), some (.long l2), none, some (.int l4), some (.int l5), some (.int l6), some (.int l7), some (.int l8), some (.int l9), some (.int l10), some (.long l11), none, some (.long l13), none, some (.long ((l15.toUInt64 >>> ((1 : Int32).toInt64.toUInt64 &&& Int64.toUInt64 63)).toInt64)), none, some (.int (l17 + (1 : Int32))), some (.int r1)]) (st1' := []) (w1 := (wv x I1 J1)) hC62 1 rfl ?_
              exact wp_sub (Lo := [some (.ref 36), some (.int l1), some (.long l2), none, some (.int l4), some (.int l5), some (.int l6), some (.int l7), some (.int l8), some (.int l9), some (.int l10), some (.long l11), none, some (.long l13), none, some (.long ((l15.toUInt64 >>> ((1 : Int32).toInt64.toUInt64 &&& Int64.toUInt64 63)).toInt64)), none, some (.int (l17 + (1 : Int32))), none]) (And.intro rfl (And.intro rfl (And.intro rfl (And.intro rfl (And.intro rfl (And.intro rfl (And.intro rfl (And.intro rfl (And.intro rfl (And.intro rfl (And.intro rfl (And.intro rfl (And.intro rfl (And.intro rfl (trivial))))))))))))))) k
            · have k := k.2 h
              refine wp_seg (C := gC62) (pc1 := 320) (Lo1 := [some (.ref 36), some (.int l1), some (.long l2), none, some (.int l4), some (.int l5), some (.int l6), some (.int l7), some (.int l8), some (.int l9), some (.int l10), some (.long l11), none, some (.long (l13 ||| ((1 : Int64) <<< (l17.toInt64 &&& 63)))), none, some (.long ((l15.toUInt64 >>> ((1 : Int32).toInt64.toUInt64 &&& Int64.toUInt64 63)).toInt64)), none, some (.int l17), some (.int r1)]) (st1' := []) (w1 := (wv x I1 J1)) hC62 10 rfl ?_
              refine wp_seg (C := gC62) (pc1 := 237) (Lo1 := [some (.ref 36), some (.int l1), some (.long l2), none, some (.int l4), some (.int l5), some (.int l6), some (.int l7), some (.int l8), some (.int l9), some (.int l10), some (.long l11), none, some (.long (l13 ||| ((1 : Int64) <<< (l17.toInt64 &&& 63)))), none, some (.long ((l15.toUInt64 >>> ((1 : Int32).toInt64.toUInt64 &&& Int64.toUInt64 63)).toInt64)), none, some (.int (l17 + (1 : Int32))), some (.int r1)]) (st1' := []) (w1 := (wv x I1 J1)) hC62 2 rfl ?_
              exact wp_sub (Lo := [some (.ref 36), some (.int l1), some (.long l2), none, some (.int l4), some (.int l5), some (.int l6), some (.int l7), some (.int l8), some (.int l9), some (.int l10), some (.long l11), none, some (.long (l13 ||| ((1 : Int64) <<< (l17.toInt64 &&& 63)))), none, some (.long ((l15.toUInt64 >>> ((1 : Int32).toInt64.toUInt64 &&& Int64.toUInt64 63)).toInt64)), none, some (.int (l17 + (1 : Int32))), none]) (And.intro rfl (And.intro rfl (And.intro rfl (And.intro rfl (And.intro rfl (And.intro rfl (And.intro rfl (And.intro rfl (And.intro rfl (And.intro rfl (And.intro rfl (And.intro rfl (And.intro rfl (And.intro rfl (trivial))))))))))))))) k
    · have k := k.2 h
      refine wp_seg (C := gC62) (pc1 := 328) (Lo1 := [some (.ref 36), some (.int l1), some (.long l2), none, some (.int l4), some (.int l5), some (.int l6), some (.int l7), some (.int l8), some (.int l9), some (.int l10), some (.long l11), none, some (.long l13), none, some (.long l15), none, some (.int l17), none]) (st1' := [.long l13]) (w1 := (wv x I J)) hC62 1 rfl ?_
      exact we_l rfl rfl k
  · have k := k.2 h
    refine wp_seg (C := gC62) (pc1 := 328) (Lo1 := [some (.ref 36), some (.int l1), some (.long l2), none, some (.int l4), some (.int l5), some (.int l6), some (.int l7), some (.int l8), some (.int l9), some (.int l10), some (.long l11), none, some (.long l13), none, some (.long l15), none, some (.int l17), none]) (st1' := [.long l13]) (w1 := (wv x I J)) hC62 1 rfl ?_
    exact we_l rfl rfl k
set_option maxRecDepth 20000 in
theorem v61_42_0 {S : Nat × (Nat → Int32)} {d : Nat} {x : mX} {I : rI0} {J : rJ0} {p1 : Int32} {p2 : Int32} {p3 : Int64} {p4 : Int32} {Q : Int64 → rI0 → rJ0 → Prop} (k : (((lg_cmp p3 (0 : Int64)) = (0 : Int32) → Q (0 : Int64) I J) ∧ (¬ (lg_cmp p3 (0 : Int64)) = (0 : Int32) → (((0 : Int32) < p2 → (((8 : Int32) < p4 → Q (0 : Int64) I J) ∧ (¬ (8 : Int32) < p4 → wp S (d + 1) 61 31 [some (.ref 42), some (.int p1), some (.int p2), some (.long p3), none, some (.int p4), some (.long (0 : Int64)), none, some (.long p3), none, some (.int p1), some (.int (0 : Int32))] [] (wv x I J) (rJ x Q)))) ∧ (¬ (0 : Int32) < p2 → Q (0 : Int64) I J))))) : wp S (d + 1) 61 0 [some (.ref 42), some (.int p1), some (.int p2), some (.long p3), none, some (.int p4), none, none, none, none, none, none] [] (wv x I J) (rJ x Q) := by
  refine wp_seg (C := gC61) (pc1 := 3) (Lo1 := [some (.ref 42), some (.int p1), some (.int p2), some (.long p3), none, some (.int p4), none, none, none, none, none, none]) (st1' := [.int (lg_cmp p3 (0 : Int64))]) (w1 := (wv x I J)) hC61 3 rfl ?_
  refine wi_eq (tgt := 17) rfl rfl (fun h => ?_) (fun h => ?_)
  · have k := k.1 h
    refine wp_seg (C := gC61) (pc1 := 18) (Lo1 := [some (.ref 42), some (.int p1), some (.int p2), some (.long p3), none, some (.int p4), none, none, none, none, none, none]) (st1' := [.long (0 : Int64)]) (w1 := (wv x I J)) hC61 1 rfl ?_
    exact we_l rfl rfl k
  · have k := k.2 h
    refine wp_seg (C := gC61) (pc1 := 7) (Lo1 := [some (.ref 42), some (.int p1), some (.int p2), some (.long p3), none, some (.int p4), none, none, none, none, none, none]) (st1' := [.int p2]) (w1 := (wv x I J)) hC61 1 rfl ?_
    refine wi_le (tgt := 17) rfl rfl (fun h => ?_) (fun h => ?_)
    · have k := k.1 h
      refine wp_seg (C := gC61) (pc1 := 14) (Lo1 := [some (.ref 42), some (.int p1), some (.int p2), some (.long p3), none, some (.int p4), none, none, none, none, none, none]) (st1' := [.int (8 : Int32), .int p4]) (w1 := (wv x I J)) hC61 2 rfl ?_
      refine wj_le (tgt := 19) rfl rfl (fun h => ?_) (fun h => ?_)
      · have k := k.1 h
        refine wp_seg (C := gC61) (pc1 := 18) (Lo1 := [some (.ref 42), some (.int p1), some (.int p2), some (.long p3), none, some (.int p4), none, none, none, none, none, none]) (st1' := [.long (0 : Int64)]) (w1 := (wv x I J)) hC61 1 rfl ?_
        exact we_l rfl rfl k
      · have k := k.2 h
        refine wp_seg (C := gC61) (pc1 := 25) (Lo1 := [some (.ref 42), some (.int p1), some (.int p2), some (.long p3), none, some (.int p4), some (.long (0 : Int64)), none, some (.long p3), none, none, none]) (st1' := []) (w1 := (wv x I J)) hC61 4 rfl ?_
        refine wp_seg (C := gC61) (pc1 := 31) (Lo1 := [some (.ref 42), some (.int p1), some (.int p2), some (.long p3), none, some (.int p4), some (.long (0 : Int64)), none, some (.long p3), none, some (.int p1), some (.int (0 : Int32))]) (st1' := []) (w1 := (wv x I J)) hC61 4 rfl ?_
        exact k
    · have k := k.2 h
      refine wp_seg (C := gC61) (pc1 := 18) (Lo1 := [some (.ref 42), some (.int p1), some (.int p2), some (.long p3), none, some (.int p4), none, none, none, none, none, none]) (st1' := [.long (0 : Int64)]) (w1 := (wv x I J)) hC61 1 rfl ?_
      exact we_l rfl rfl k
set_option maxRecDepth 20000 in
theorem v61_42_31 {S : Nat × (Nat → Int32)} {d : Nat} {x : mX} {I : rI0} {J : rJ0} {l1 : Int32} {l2 : Int32} {l3 : Int64} {l5 : Int32} {l6 : Int64} {l8 : Int64} {l10 : Int32} {l11 : Int32} {Q : Int64 → rI0 → rJ0 → Prop} (k : ((l11 < (20 : Int32) → ((l10 < (l1 + l2) → ((l10 < (240 : Int32) → (¬ mOut l10 240 ∧ ((((((I 10 l10.toNatClampNeg).toUInt32 >>> ((18 : Int32).toUInt32 &&& Int32.toUInt32 31)).toInt32) &&& (1 : Int32)) = (0 : Int32) → wp S (d + 1) 61 94 [some (.ref 42), some (.int l1), some (.int l2), some (.long l3), none, some (.int l5), some (.long l6), none, some (.long l8), none, some (.int l10), some (.int l11)] [] (wv x I J) (rJ x Q)) ∧ (¬ ((((I 10 l10.toNatClampNeg).toUInt32 >>> ((18 : Int32).toUInt32 &&& Int32.toUInt32 31)).toInt32) &&& (1 : Int32)) = (0 : Int32) → wp S (d + 1) 61 94 [some (.ref 42), some (.int l1), some (.int l2), some (.long l3), none, some (.int l5), some (.long (l6 ||| l8)), none, some (.long (l3 &&& ((l6 ||| l8) ^^^ (-1 : Int64)))), none, some (.int l10), some (.int l11)] [] (wv x I J) (rJ x Q))))) ∧ (¬ l10 < (240 : Int32) → Q (l6 ||| l8) I J))) ∧ (¬ l10 < (l1 + l2) → Q (l6 ||| l8) I J))) ∧ (¬ l11 < (20 : Int32) → Q (l6 ||| l8) I J))) : wp S (d + 1) 61 31 [some (.ref 42), some (.int l1), some (.int l2), some (.long l3), none, some (.int l5), some (.long l6), none, some (.long l8), none, some (.int l10), some (.int l11)] [] (wv x I J) (rJ x Q) := by
  refine wp_seg (C := gC61) (pc1 := 35) (Lo1 := [some (.ref 42), some (.int l1), some (.int l2), some (.long l3), none, some (.int l5), some (.long l6), none, some (.long l8), none, some (.int l10), some (.int l11)]) (st1' := [.int (20 : Int32), .int l11]) (w1 := (wv x I J)) hC61 2 rfl ?_
  refine wj_ge (tgt := 130) rfl rfl (fun h => ?_) (fun h => ?_)
  · have k := k.1 h
    refine wp_seg (C := gC61) (pc1 := 43) (Lo1 := [some (.ref 42), some (.int l1), some (.int l2), some (.long l3), none, some (.int l5), some (.long l6), none, some (.long l8), none, some (.int l10), some (.int l11)]) (st1' := [.int (l1 + l2), .int l10]) (w1 := (wv x I J)) hC61 4 rfl ?_
    refine wj_ge (tgt := 130) rfl rfl (fun h => ?_) (fun h => ?_)
    · have k := k.1 h
      refine wp_seg (C := gC61) (pc1 := 56) (Lo1 := [some (.ref 42), some (.int l1), some (.int l2), some (.long l3), none, some (.int l5), some (.long l6), none, some (.long l8), none, some (.int l10), some (.int l11)]) (st1' := [.int (240 : Int32), .int l10]) (w1 := (wv x I J)) hC61 5 rfl ?_
      refine wj_ge (tgt := 130) rfl rfl (fun h => ?_) (fun h => ?_)
      · have k := k.1 h
        refine wp_seg (C := gC61) (pc1 := 68) (Lo1 := [some (.ref 42), some (.int l1), some (.int l2), some (.long l3), none, some (.int l5), some (.long l6), none, some (.long l8), none, some (.int l10), some (.int l11)]) (st1' := [.int l10, .ref 10]) (w1 := (wv x I J)) hC61 4 rfl ?_
        refine wa_i (n := 240) rfl (by decide) rfl k.1 ?_
        have k := k.2
        refine wp_seg (C := gC61) (pc1 := 74) (Lo1 := [some (.ref 42), some (.int l1), some (.int l2), some (.long l3), none, some (.int l5), some (.long l6), none, some (.long l8), none, some (.int l10), some (.int l11)]) (st1' := [.int ((((I 10 l10.toNatClampNeg).toUInt32 >>> ((18 : Int32).toUInt32 &&& Int32.toUInt32 31)).toInt32) &&& (1 : Int32))]) (w1 := (wv x I J)) hC61 4 rfl ?_
        refine wi_eq (tgt := 94) rfl rfl (fun h => ?_) (fun h => ?_)
        · have k := k.1 h
          exact k
        · have k := k.2 h
          refine wp_seg (C := gC61) (pc1 := 94) (Lo1 := [some (.ref 42), some (.int l1), some (.int l2), some (.long l3), none, some (.int l5), some (.long (l6 ||| l8)), none, some (.long (l3 &&& ((l6 ||| l8) ^^^ (-1 : Int64)))), none, some (.int l10), some (.int l11)]) (st1' := []) (w1 := (wv x I J)) hC61 10 rfl ?_
          exact k
      · have k := k.2 h
        refine wp_seg (C := gC61) (pc1 := 135) (Lo1 := [some (.ref 42), some (.int l1), some (.int l2), some (.long l3), none, some (.int l5), some (.long l6), none, some (.long l8), none, some (.int l10), some (.int l11)]) (st1' := [.long (l6 ||| l8)]) (w1 := (wv x I J)) hC61 3 rfl ?_
        exact we_l rfl rfl k
    · have k := k.2 h
      refine wp_seg (C := gC61) (pc1 := 135) (Lo1 := [some (.ref 42), some (.int l1), some (.int l2), some (.long l3), none, some (.int l5), some (.long l6), none, some (.long l8), none, some (.int l10), some (.int l11)]) (st1' := [.long (l6 ||| l8)]) (w1 := (wv x I J)) hC61 3 rfl ?_
      exact we_l rfl rfl k
  · have k := k.2 h
    refine wp_seg (C := gC61) (pc1 := 135) (Lo1 := [some (.ref 42), some (.int l1), some (.int l2), some (.long l3), none, some (.int l5), some (.long l6), none, some (.long l8), none, some (.int l10), some (.int l11)]) (st1' := [.long (l6 ||| l8)]) (w1 := (wv x I J)) hC61 3 rfl ?_
    exact we_l rfl rfl k
set_option maxRecDepth 20000 in
theorem v61_42_94 {S : Nat × (Nat → Int32)} {d : Nat} {x : mX} {I : rI0} {J : rJ0} {l1 : Int32} {l2 : Int32} {l3 : Int64} {l5 : Int32} {l6 : Int64} {l8 : Int64} {l10 : Int32} {l11 : Int32} {Q : Int64 → rI0 → rJ0 → Prop} (k : (wcJ S d 62 [.ref 42, .int l10, .long l8, .int l5] x I J (fun r1 I1 J1 => (¬ mOut l10 240 ∧ wp S (d + 1) 61 31 [some (.ref 42), some (.int l1), some (.int l2), some (.long l3), none, some (.int l5), some (.long l6), none, some (.long r1), none, some (.int (l10 + (((I1 10 l10.toNatClampNeg).toUInt32 >>> ((19 : Int32).toUInt32 &&& Int32.toUInt32 31)).toInt32))), some (.int (l11 + (1 : Int32)))] [] (wv x I1 J1) (rJ x Q))))) : wp S (d + 1) 61 94 [some (.ref 42), some (.int l1), some (.int l2), some (.long l3), none, some (.int l5), some (.long l6), none, some (.long l8), none, some (.int l10), some (.int l11)] [] (wv x I J) (rJ x Q) := by
  refine wp_seg (C := gC61) (pc1 := 101) (Lo1 := [some (.ref 42), some (.int l1), some (.int l2), some (.long l3), none, some (.int l5), some (.long l6), none, some (.long l8), none, some (.int l10), some (.int l11)]) (st1' := [.int l5, .long l8, .int l10, .ref 42]) (w1 := (wv x I J)) hC61 4 rfl ?_
  refine cv_J (mj := 62) (a := 42) (as := [.int l10, .long l8, .int l5]) (r := []) rfl rfl rfl ⟨rfl, by decide, Nat.le_of_ble_eq_true rfl, Nat.le_of_ble_eq_true rfl⟩ rfl (wcJ_mono k (fun r1 I1 J1 k => ?_))
  refine wp_seg (C := gC61) (pc1 := 117) (Lo1 := [some (.ref 42), some (.int l1), some (.int l2), some (.long l3), none, some (.int l5), some (.long l6), none, some (.long r1), none, some (.int l10), some (.int l11)]) (st1' := [.int l10, .ref 10, .int l10]) (w1 := (wv x I1 J1)) hC61 6 rfl ?_
  refine wa_i (n := 240) rfl (by decide) rfl k.1 ?_
  have k := k.2
  refine wp_seg (C := gC61) (pc1 := 127) (Lo1 := [some (.ref 42), some (.int l1), some (.int l2), some (.long l3), none, some (.int l5), some (.long l6), none, some (.long r1), none, some (.int (l10 + (((I1 10 l10.toNatClampNeg).toUInt32 >>> ((19 : Int32).toUInt32 &&& Int32.toUInt32 31)).toInt32))), some (.int (l11 + (1 : Int32)))]) (st1' := []) (w1 := (wv x I1 J1)) hC61 5 rfl ?_
  refine wp_seg (C := gC61) (pc1 := 31) (Lo1 := [some (.ref 42), some (.int l1), some (.int l2), some (.long l3), none, some (.int l5), some (.long l6), none, some (.long r1), none, some (.int (l10 + (((I1 10 l10.toNatClampNeg).toUInt32 >>> ((19 : Int32).toUInt32 &&& Int32.toUInt32 31)).toInt32))), some (.int (l11 + (1 : Int32)))]) (st1' := []) (w1 := (wv x I1 J1)) hC61 1 rfl ?_
  exact k
set_option maxRecDepth 20000 in
theorem v74_28_1000002_0 {S : Nat × (Nat → Int32)} {d : Nat} {x : mX} {I : rI0} {J : rJ0} {p2 : Int32} {Q : Int32 → rI0 → rJ0 → Prop} (k : wp S (d + 7) 74 2 [some (.ref 28), some (.ref 1000002), some (.int p2), some (.int (0 : Int32))] [] (wv x I J) (rI x Q)) : wp S (d + 7) 74 0 [some (.ref 28), some (.ref 1000002), some (.int p2), none] [] (wv x I J) (rI x Q) := by
  refine wp_seg (C := gC74) (pc1 := 2) (Lo1 := [some (.ref 28), some (.ref 1000002), some (.int p2), some (.int (0 : Int32))]) (st1' := []) (w1 := (wv x I J)) hC74 2 rfl ?_
  exact k
set_option maxRecDepth 20000 in
theorem v74_28_1000002_2 {S : Nat × (Nat → Int32)} {d : Nat} {x : mX} {I : rI0} {J : rJ0} {l2 : Int32} {l3 : Int32} {Q : Int32 → rI0 → rJ0 → Prop} (k : ((l3 < (8 : Int32) → (((l2 + l3) < (72 : Int32) → (¬ mOut (l2 + l3) 72 ∧ (wcI S (d + 6) 72 [.ref 28, .int l3] x I J (fun r1 I1 J1 => ((((gSb.getD 1 []).getD (l2 + l3).toNatClampNeg 0) = r1 → wp S (d + 7) 74 2 [some (.ref 28), some (.ref 1000002), some (.int l2), some (.int (l3 + (1 : Int32)))] [] (wv x I1 J1) (rI x Q)) ∧ (¬ ((gSb.getD 1 []).getD (l2 + l3).toNatClampNeg 0) = r1 → Q (0 : Int32) I1 J1)))))) ∧ (¬ (l2 + l3) < (72 : Int32) → Q (1 : Int32) I J))) ∧ (¬ l3 < (8 : Int32) → Q (1 : Int32) I J))) : wp S (d + 7) 74 2 [some (.ref 28), some (.ref 1000002), some (.int l2), some (.int l3)] [] (wv x I J) (rI x Q) := by
  refine wp_seg (C := gC74) (pc1 := 5) (Lo1 := [some (.ref 28), some (.ref 1000002), some (.int l2), some (.int l3)]) (st1' := [.int (8 : Int32), .int l3]) (w1 := (wv x I J)) hC74 2 rfl ?_
  refine wj_ge (tgt := 41) rfl rfl (fun h => ?_) (fun h => ?_)
  · have k := k.1 h
    refine wp_seg (C := gC74) (pc1 := 12) (Lo1 := [some (.ref 28), some (.ref 1000002), some (.int l2), some (.int l3)]) (st1' := [.ref 1000002, .int (l2 + l3)]) (w1 := (wv x I J)) hC74 4 rfl ?_
    refine wq_sln (v := (72 : Int32)) rfl rfl (by decide) (Nat.le_of_ble_eq_true rfl) (by decide +kernel) ?_
    refine wj_ge (tgt := 41) rfl rfl (fun h => ?_) (fun h => ?_)
    · have k := k.1 h
      refine wp_seg (C := gC74) (pc1 := 22) (Lo1 := [some (.ref 28), some (.ref 1000002), some (.int l2), some (.int l3)]) (st1' := [.int (l2 + l3), .ref 1000002]) (w1 := (wv x I J)) hC74 4 rfl ?_
      refine wq_sch (len := 72) rfl rfl (by decide) (Nat.le_of_ble_eq_true rfl) (by decide +kernel) k.1 ?_
      have k := k.2
      refine wp_seg (C := gC74) (pc1 := 27) (Lo1 := [some (.ref 28), some (.ref 1000002), some (.int l2), some (.int l3)]) (st1' := [.int l3, .ref 28, .int ((gSb.getD 1 []).getD (l2 + l3).toNatClampNeg 0)]) (w1 := (wv x I J)) hC74 2 rfl ?_
      refine cv_I (mj := 72) (a := 28) (as := [.int l3]) (r := [.int ((gSb.getD 1 []).getD (l2 + l3).toNatClampNeg 0)]) rfl rfl rfl ⟨rfl, by decide, Nat.le_of_ble_eq_true rfl, Nat.le_of_ble_eq_true rfl⟩ rfl (wcI_mono k (fun r1 I1 J1 k => ?_))
      refine wj_eq (tgt := 35) rfl rfl (fun h => ?_) (fun h => ?_)
      · have k := k.1 h
        refine wp_seg (C := gC74) (pc1 := 2) (Lo1 := [some (.ref 28), some (.ref 1000002), some (.int l2), some (.int (l3 + (1 : Int32)))]) (st1' := []) (w1 := (wv x I1 J1)) hC74 2 rfl ?_
        exact k
      · have k := k.2 h
        refine wp_seg (C := gC74) (pc1 := 34) (Lo1 := [some (.ref 28), some (.ref 1000002), some (.int l2), some (.int l3)]) (st1' := [.int (0 : Int32)]) (w1 := (wv x I1 J1)) hC74 1 rfl ?_
        exact we_z rfl rfl (Or.inl rfl) k
    · have k := k.2 h
      refine wp_seg (C := gC74) (pc1 := 42) (Lo1 := [some (.ref 28), some (.ref 1000002), some (.int l2), some (.int l3)]) (st1' := [.int (1 : Int32)]) (w1 := (wv x I J)) hC74 1 rfl ?_
      exact we_z rfl rfl (Or.inr rfl) k
  · have k := k.2 h
    refine wp_seg (C := gC74) (pc1 := 42) (Lo1 := [some (.ref 28), some (.ref 1000002), some (.int l2), some (.int l3)]) (st1' := [.int (1 : Int32)]) (w1 := (wv x I J)) hC74 1 rfl ?_
    exact we_z rfl rfl (Or.inr rfl) k
set_option maxRecDepth 20000 in
theorem v63_36_0 {S : Nat × (Nat → Int32)} {d : Nat} {x : mX} {I : rI0} {J : rJ0} {p1 : Int32} {p2 : Int32} {Q : Int64 → rI0 → rJ0 → Prop} (k : (((0 : Int32) < p1 → wp S d 63 20 [some (.ref 36), some (.int p1), some (.int p2), none, none] [.long (0 : Int64)] (wv x I J) (rJ x Q)) ∧ (¬ (0 : Int32) < p1 → ((p2 < (0 : Int32) → wp S d 63 20 [some (.ref 36), some (.int p1), some (.int p2), none, none] [.long (0 : Int64)] (wv x I J) (rJ x Q)) ∧ (¬ p2 < (0 : Int32) → wp S d 63 20 [some (.ref 36), some (.int p1), some (.int p2), none, none] [.long ((J 36 8) ^^^ (-1 : Int64))] (wv x I J) (rJ x Q)))))) : wp S d 63 0 [some (.ref 36), some (.int p1), some (.int p2), none, none] [] (wv x I J) (rJ x Q) := by
  refine wp_seg (C := gC63) (pc1 := 1) (Lo1 := [some (.ref 36), some (.int p1), some (.int p2), none, none]) (st1' := [.int p1]) (w1 := (wv x I J)) hC63 1 rfl ?_
  refine wi_gt (tgt := 19) rfl rfl (fun h => ?_) (fun h => ?_)
  · have k := k.1 h
    refine wp_seg (C := gC63) (pc1 := 20) (Lo1 := [some (.ref 36), some (.int p1), some (.int p2), none, none]) (st1' := [.long (0 : Int64)]) (w1 := (wv x I J)) hC63 1 rfl ?_
    exact k
  · have k := k.2 h
    refine wp_seg (C := gC63) (pc1 := 5) (Lo1 := [some (.ref 36), some (.int p1), some (.int p2), none, none]) (st1' := [.int p2]) (w1 := (wv x I J)) hC63 1 rfl ?_
    refine wi_lt (tgt := 19) rfl rfl (fun h => ?_) (fun h => ?_)
    · have k := k.1 h
      refine wp_seg (C := gC63) (pc1 := 20) (Lo1 := [some (.ref 36), some (.int p1), some (.int p2), none, none]) (st1' := [.long (0 : Int64)]) (w1 := (wv x I J)) hC63 1 rfl ?_
      exact k
    · have k := k.2 h
      refine wp_seg (C := gC63) (pc1 := 20) (Lo1 := [some (.ref 36), some (.int p1), some (.int p2), none, none]) (st1' := [.long ((J 36 8) ^^^ (-1 : Int64))]) (w1 := (wv x I J)) hC63 5 rfl ?_
      exact k
set_option maxRecDepth 20000 in
theorem v63_36_20 {S : Nat × (Nat → Int32)} {d : Nat} {x : mX} {I : rI0} {J : rJ0} {l1 : Int32} {l2 : Int32} {s0 : Int64} {Q : Int64 → rI0 → rJ0 → Prop} (k : (((1 : Int32) < l1 → wp S d 63 49 [some (.ref 36), some (.int l1), some (.int l2), some (.long s0), none] [.long (0 : Int64), .long s0] (wv x I J) (rJ x Q)) ∧ (¬ (1 : Int32) < l1 → ((l2 < (1 : Int32) → wp S d 63 49 [some (.ref 36), some (.int l1), some (.int l2), some (.long s0), none] [.long (0 : Int64), .long s0] (wv x I J) (rJ x Q)) ∧ (¬ l2 < (1 : Int32) → wp S d 63 49 [some (.ref 36), some (.int l1), some (.int l2), some (.long s0), none] [.long ((J 36 8) &&& ((J 36 9) ^^^ (-1 : Int64))), .long s0] (wv x I J) (rJ x Q)))))) : wp S d 63 20 [some (.ref 36), some (.int l1), some (.int l2), none, none] [.long s0] (wv x I J) (rJ x Q) := by
  refine wp_seg (C := gC63) (pc1 := 24) (Lo1 := [some (.ref 36), some (.int l1), some (.int l2), some (.long s0), none]) (st1' := [.int (1 : Int32), .int l1, .long s0]) (w1 := (wv x I J)) hC63 4 rfl ?_
  refine wj_gt (tgt := 48) rfl rfl (fun h => ?_) (fun h => ?_)
  · have k := k.1 h
    refine wp_seg (C := gC63) (pc1 := 49) (Lo1 := [some (.ref 36), some (.int l1), some (.int l2), some (.long s0), none]) (st1' := [.long (0 : Int64), .long s0]) (w1 := (wv x I J)) hC63 1 rfl ?_
    exact k
  · have k := k.2 h
    refine wp_seg (C := gC63) (pc1 := 29) (Lo1 := [some (.ref 36), some (.int l1), some (.int l2), some (.long s0), none]) (st1' := [.int (1 : Int32), .int l2, .long s0]) (w1 := (wv x I J)) hC63 2 rfl ?_
    refine wj_lt (tgt := 48) rfl rfl (fun h => ?_) (fun h => ?_)
    · have k := k.1 h
      refine wp_seg (C := gC63) (pc1 := 49) (Lo1 := [some (.ref 36), some (.int l1), some (.int l2), some (.long s0), none]) (st1' := [.long (0 : Int64), .long s0]) (w1 := (wv x I J)) hC63 1 rfl ?_
      exact k
    · have k := k.2 h
      refine wp_seg (C := gC63) (pc1 := 49) (Lo1 := [some (.ref 36), some (.int l1), some (.int l2), some (.long s0), none]) (st1' := [.long ((J 36 8) &&& ((J 36 9) ^^^ (-1 : Int64))), .long s0]) (w1 := (wv x I J)) hC63 8 rfl ?_
      exact k
set_option maxRecDepth 20000 in
theorem v63_36_49 {S : Nat × (Nat → Int32)} {d : Nat} {x : mX} {I : rI0} {J : rJ0} {l1 : Int32} {l2 : Int32} {l3 : Int64} {s0 : Int64} {s1 : Int64} {Q : Int64 → rI0 → rJ0 → Prop} (k : (((2 : Int32) < l1 → Q ((s0 ||| s1) ||| (0 : Int64)) I J) ∧ (¬ (2 : Int32) < l1 → ((l2 < (2 : Int32) → Q ((s0 ||| s1) ||| (0 : Int64)) I J) ∧ (¬ l2 < (2 : Int32) → Q ((s0 ||| s1) ||| (J 36 9)) I J))))) : wp S d 63 49 [some (.ref 36), some (.int l1), some (.int l2), some (.long l3), none] [.long s1, .long s0] (wv x I J) (rJ x Q) := by
  refine wp_seg (C := gC63) (pc1 := 54) (Lo1 := [some (.ref 36), some (.int l1), some (.int l2), some (.long (s0 ||| s1)), none]) (st1' := [.int (2 : Int32), .int l1, .long (s0 ||| s1)]) (w1 := (wv x I J)) hC63 5 rfl ?_
  refine wj_gt (tgt := 69) rfl rfl (fun h => ?_) (fun h => ?_)
  · have k := k.1 h
    refine wp_seg (C := gC63) (pc1 := 73) (Lo1 := [some (.ref 36), some (.int l1), some (.int l2), some (.long ((s0 ||| s1) ||| (0 : Int64))), none]) (st1' := [.long ((s0 ||| s1) ||| (0 : Int64))]) (w1 := (wv x I J)) hC63 4 rfl ?_
    exact we_l rfl rfl k
  · have k := k.2 h
    refine wp_seg (C := gC63) (pc1 := 59) (Lo1 := [some (.ref 36), some (.int l1), some (.int l2), some (.long (s0 ||| s1)), none]) (st1' := [.int (2 : Int32), .int l2, .long (s0 ||| s1)]) (w1 := (wv x I J)) hC63 2 rfl ?_
    refine wj_lt (tgt := 69) rfl rfl (fun h => ?_) (fun h => ?_)
    · have k := k.1 h
      refine wp_seg (C := gC63) (pc1 := 73) (Lo1 := [some (.ref 36), some (.int l1), some (.int l2), some (.long ((s0 ||| s1) ||| (0 : Int64))), none]) (st1' := [.long ((s0 ||| s1) ||| (0 : Int64))]) (w1 := (wv x I J)) hC63 4 rfl ?_
      exact we_l rfl rfl k
    · have k := k.2 h
      refine wp_seg (C := gC63) (pc1 := 73) (Lo1 := [some (.ref 36), some (.int l1), some (.int l2), some (.long ((s0 ||| s1) ||| (J 36 9))), none]) (st1' := [.long ((s0 ||| s1) ||| (J 36 9))]) (w1 := (wv x I J)) hC63 6 rfl ?_
      exact we_l rfl rfl k
set_option maxRecDepth 20000 in
theorem v64_36_0 {S : Nat × (Nat → Int32)} {d : Nat} {x : mX} {I : rI0} {J : rJ0} {p1 : Int32} {p2 : Int32} {Q : Int64 → rI0 → rJ0 → Prop} (k : (((0 : Int32) < p1 → wp S d 64 29 [some (.ref 36), some (.int p1), some (.int p2), none, none] [.long (0 : Int64)] (wv x I J) (rJ x Q)) ∧ (¬ (0 : Int32) < p1 → ((p2 < (0 : Int32) → wp S d 64 29 [some (.ref 36), some (.int p1), some (.int p2), none, none] [.long (0 : Int64)] (wv x I J) (rJ x Q)) ∧ (¬ p2 < (0 : Int32) → wp S d 64 29 [some (.ref 36), some (.int p1), some (.int p2), none, none] [.long (((J 36 11) ^^^ (-1 : Int64)) &&& ((J 36 10) ^^^ (-1 : Int64)))] (wv x I J) (rJ x Q)))))) : wp S d 64 0 [some (.ref 36), some (.int p1), some (.int p2), none, none] [] (wv x I J) (rJ x Q) := by
  refine wp_seg (C := gC64) (pc1 := 1) (Lo1 := [some (.ref 36), some (.int p1), some (.int p2), none, none]) (st1' := [.int p1]) (w1 := (wv x I J)) hC64 1 rfl ?_
  refine wi_gt (tgt := 28) rfl rfl (fun h => ?_) (fun h => ?_)
  · have k := k.1 h
    refine wp_seg (C := gC64) (pc1 := 29) (Lo1 := [some (.ref 36), some (.int p1), some (.int p2), none, none]) (st1' := [.long (0 : Int64)]) (w1 := (wv x I J)) hC64 1 rfl ?_
    exact k
  · have k := k.2 h
    refine wp_seg (C := gC64) (pc1 := 5) (Lo1 := [some (.ref 36), some (.int p1), some (.int p2), none, none]) (st1' := [.int p2]) (w1 := (wv x I J)) hC64 1 rfl ?_
    refine wi_lt (tgt := 28) rfl rfl (fun h => ?_) (fun h => ?_)
    · have k := k.1 h
      refine wp_seg (C := gC64) (pc1 := 29) (Lo1 := [some (.ref 36), some (.int p1), some (.int p2), none, none]) (st1' := [.long (0 : Int64)]) (w1 := (wv x I J)) hC64 1 rfl ?_
      exact k
    · have k := k.2 h
      refine wp_seg (C := gC64) (pc1 := 29) (Lo1 := [some (.ref 36), some (.int p1), some (.int p2), none, none]) (st1' := [.long (((J 36 11) ^^^ (-1 : Int64)) &&& ((J 36 10) ^^^ (-1 : Int64)))]) (w1 := (wv x I J)) hC64 10 rfl ?_
      exact k
set_option maxRecDepth 20000 in
theorem v64_36_29 {S : Nat × (Nat → Int32)} {d : Nat} {x : mX} {I : rI0} {J : rJ0} {l1 : Int32} {l2 : Int32} {s0 : Int64} {Q : Int64 → rI0 → rJ0 → Prop} (k : (((1 : Int32) < l1 → wp S d 64 58 [some (.ref 36), some (.int l1), some (.int l2), some (.long s0), none] [.long (0 : Int64), .long s0] (wv x I J) (rJ x Q)) ∧ (¬ (1 : Int32) < l1 → ((l2 < (1 : Int32) → wp S d 64 58 [some (.ref 36), some (.int l1), some (.int l2), some (.long s0), none] [.long (0 : Int64), .long s0] (wv x I J) (rJ x Q)) ∧ (¬ l2 < (1 : Int32) → wp S d 64 58 [some (.ref 36), some (.int l1), some (.int l2), some (.long s0), none] [.long (((J 36 11) ^^^ (-1 : Int64)) &&& (J 36 10)), .long s0] (wv x I J) (rJ x Q)))))) : wp S d 64 29 [some (.ref 36), some (.int l1), some (.int l2), none, none] [.long s0] (wv x I J) (rJ x Q) := by
  refine wp_seg (C := gC64) (pc1 := 33) (Lo1 := [some (.ref 36), some (.int l1), some (.int l2), some (.long s0), none]) (st1' := [.int (1 : Int32), .int l1, .long s0]) (w1 := (wv x I J)) hC64 4 rfl ?_
  refine wj_gt (tgt := 57) rfl rfl (fun h => ?_) (fun h => ?_)
  · have k := k.1 h
    refine wp_seg (C := gC64) (pc1 := 58) (Lo1 := [some (.ref 36), some (.int l1), some (.int l2), some (.long s0), none]) (st1' := [.long (0 : Int64), .long s0]) (w1 := (wv x I J)) hC64 1 rfl ?_
    exact k
  · have k := k.2 h
    refine wp_seg (C := gC64) (pc1 := 38) (Lo1 := [some (.ref 36), some (.int l1), some (.int l2), some (.long s0), none]) (st1' := [.int (1 : Int32), .int l2, .long s0]) (w1 := (wv x I J)) hC64 2 rfl ?_
    refine wj_lt (tgt := 57) rfl rfl (fun h => ?_) (fun h => ?_)
    · have k := k.1 h
      refine wp_seg (C := gC64) (pc1 := 58) (Lo1 := [some (.ref 36), some (.int l1), some (.int l2), some (.long s0), none]) (st1' := [.long (0 : Int64), .long s0]) (w1 := (wv x I J)) hC64 1 rfl ?_
      exact k
    · have k := k.2 h
      refine wp_seg (C := gC64) (pc1 := 58) (Lo1 := [some (.ref 36), some (.int l1), some (.int l2), some (.long s0), none]) (st1' := [.long (((J 36 11) ^^^ (-1 : Int64)) &&& (J 36 10)), .long s0]) (w1 := (wv x I J)) hC64 8 rfl ?_
      exact k
