set_option maxRecDepth 20000 in
theorem v52_42_0 {S : Nat × (Nat → Int32)} {d : Nat} {x : mX} {I : rI0} {J : rJ0} {p1 : Int64} {p2 : Int64} {Q : rI0 → rJ0 → Prop} (k : (wcI S d 17 [.ref 3] x (mSet (mSet (mSet I 42 2 (0 : Int32)) 42 3 (0 : Int32)) 42 12 (0 : Int32)) (mSet (mSet (mSet J 42 5 p1) 42 6 p2) 42 7 (0 : Int64)) (fun r1 I1 J1 => (((I1 4 3) < (600 : Int32) → wp S (d + 1) 52 72 [some (.ref 42), some (.long p1), none, some (.long p2), none] [] (wv x (mSet (mSet I1 42 4 r1) 42 4 (if r1 < (I1 4 3) then I1 4 3 else r1)) J1) (rV x Q)) ∧ (¬ (I1 4 3) < (600 : Int32) → wp S (d + 1) 52 72 [some (.ref 42), some (.long p1), none, some (.long p2), none] [] (wv x (mSet I1 42 4 r1) J1) (rV x Q)))))) : wp S (d + 1) 52 0 [some (.ref 42), some (.long p1), none, some (.long p2), none] [] (wv x I J) (rV x Q) := by
  refine wp_seg (C := gC52) (pc1 := 20) (Lo1 := [some (.ref 42), some (.long p1), none, some (.long p2), none]) (st1' := []) (w1 := (wv x (mSet (mSet I 42 2 (0 : Int32)) 42 3 (0 : Int32)) (mSet (mSet J 42 5 p1) 42 6 p2))) hC52 12 rfl ?_
  refine wp_seg (C := gC52) (pc1 := 35) (Lo1 := [some (.ref 42), some (.long p1), none, some (.long p2), none]) (st1' := [.ref 3, .ref 42]) (w1 := (wv x (mSet (mSet (mSet I 42 2 (0 : Int32)) 42 3 (0 : Int32)) 42 12 (0 : Int32)) (mSet (mSet (mSet J 42 5 p1) 42 6 p2) 42 7 (0 : Int64)))) hC52 9 rfl ?_
  refine cv_I (mj := 17) (a := 3) (as := []) (r := [.ref 42]) rfl rfl rfl ⟨rfl, by decide, Nat.le_of_ble_eq_true rfl, Nat.le_of_ble_eq_true rfl⟩ rfl (wcI_mono k (fun r1 I1 J1 k => ?_))
  refine wp_seg (C := gC52) (pc1 := 51) (Lo1 := [some (.ref 42), some (.long p1), none, some (.long p2), none]) (st1' := [.int (600 : Int32), .int (I1 4 3)]) (w1 := (wv x (mSet I1 42 4 r1) J1)) hC52 5 rfl ?_
  refine wj_ge (tgt := 72) rfl rfl (fun h => ?_) (fun h => ?_)
  · have k := k.1 h
    refine wp_seg (C := gC52) (pc1 := 66) (Lo1 := [some (.ref 42), some (.long p1), none, some (.long p2), none]) (st1' := [.int (I1 4 3), .int r1, .ref 42]) (w1 := (wv x (mSet I1 42 4 r1) J1)) hC52 6 rfl ?_
    refine wm_2 (f := fun x y => if x < y then y else x) rfl rfl (Or.inl ⟨rfl, rfl⟩) (Nat.le_of_ble_eq_true rfl) ?_
    refine wp_seg (C := gC52) (pc1 := 72) (Lo1 := [some (.ref 42), some (.long p1), none, some (.long p2), none]) (st1' := []) (w1 := (wv x (mSet (mSet I1 42 4 r1) 42 4 (if r1 < (I1 4 3) then I1 4 3 else r1)) J1)) hC52 1 rfl ?_
    exact k
  · have k := k.2 h
    exact k
set_option maxRecDepth 20000 in
theorem v52_42_72 {S : Nat × (Nat → Int32)} {d : Nat} {x : mX} {I : rI0} {J : rJ0} {l1 : Int64} {l3 : Int64} {Q : rI0 → rJ0 → Prop} (k : (wcI S d 56 [.ref 42] x I J (fun r1 I1 J1 => (wcV S d 57 [.ref 42] x I1 J1 (fun I2 J2 => (wcJ S d 58 [.ref 42] x I2 J2 (fun r3 I3 J3 => Q I3 (mSet (mSet (mSet (mSet J3 42 8 r3) 42 9 r3) 42 10 (0 : Int64)) 42 11 (0 : Int64))))))))) : wp S (d + 1) 52 72 [some (.ref 42), some (.long l1), none, some (.long l3), none] [] (wv x I J) (rV x Q) := by
  refine wp_seg (C := gC52) (pc1 := 73) (Lo1 := [some (.ref 42), some (.long l1), none, some (.long l3), none]) (st1' := [.ref 42]) (w1 := (wv x I J)) hC52 1 rfl ?_
  refine cv_I (mj := 56) (a := 42) (as := []) (r := []) rfl rfl rfl ⟨rfl, by decide, Nat.le_of_ble_eq_true rfl, Nat.le_of_ble_eq_true rfl⟩ rfl (wcI_mono k (fun r1 I1 J1 k => ?_))
  refine wp_seg (C := gC52) (pc1 := 78) (Lo1 := [some (.ref 42), some (.long l1), none, some (.long l3), none]) (st1' := [.ref 42]) (w1 := (wv x I1 J1)) hC52 2 rfl ?_
  refine cv_V (mj := 57) (a := 42) (as := []) (r := []) rfl rfl rfl ⟨rfl, by decide, Nat.le_of_ble_eq_true rfl, Nat.le_of_ble_eq_true rfl⟩ rfl (wcV_mono k (fun I2 J2 k => ?_))
  refine wp_seg (C := gC52) (pc1 := 83) (Lo1 := [some (.ref 42), some (.long l1), none, some (.long l3), none]) (st1' := [.ref 42, .ref 42]) (w1 := (wv x I2 J2)) hC52 2 rfl ?_
  refine cv_J (mj := 58) (a := 42) (as := []) (r := [.ref 42]) rfl rfl rfl ⟨rfl, by decide, Nat.le_of_ble_eq_true rfl, Nat.le_of_ble_eq_true rfl⟩ rfl (wcJ_mono k (fun r3 I3 J3 k => ?_))
  refine wp_seg (C := gC52) (pc1 := 107) (Lo1 := [some (.ref 42), some (.long l1), none, some (.long l3), none]) (st1' := []) (w1 := (wv x I3 (mSet (mSet (mSet (mSet J3 42 8 r3) 42 9 r3) 42 10 (0 : Int64)) 42 11 (0 : Int64)))) hC52 11 rfl ?_
  exact we_v rfl rfl k
set_option maxRecDepth 20000 in
theorem v53_42_0 {S : Nat × (Nat → Int32)} {d : Nat} {x : mX} {I : rI0} {J : rJ0} {p1 : Int32} {Q : rI0 → rJ0 → Prop} (k : wp S (d + 1) 53 5 [some (.ref 42), some (.int p1), some (.int (I 42 2))] [] (wv x I J) (rV x Q)) : wp S (d + 1) 53 0 [some (.ref 42), some (.int p1), none] [] (wv x I J) (rV x Q) := by
  refine wp_seg (C := gC53) (pc1 := 5) (Lo1 := [some (.ref 42), some (.int p1), some (.int (I 42 2))]) (st1' := []) (w1 := (wv x I J)) hC53 3 rfl ?_
  exact k
set_option maxRecDepth 20000 in
theorem v53_42_5 {S : Nat × (Nat → Int32)} {d : Nat} {x : mX} {I : rI0} {J : rJ0} {l1 : Int32} {l2 : Int32} {Q : rI0 → rJ0 → Prop} (k : ((l2 < l1 → (((I 42 12) = (0 : Int32) → (wcV S d 55 [.ref 42] x I J (fun I1 J1 => wp S (d + 1) 53 5 [some (.ref 42), some (.int l1), some (.int (l2 + (1 : Int32)))] [] (wv x I1 J1) (rV x Q)))) ∧ (¬ (I 42 12) = (0 : Int32) → Q I J))) ∧ (¬ l2 < l1 → Q I J))) : wp S (d + 1) 53 5 [some (.ref 42), some (.int l1), some (.int l2)] [] (wv x I J) (rV x Q) := by
  refine wp_seg (C := gC53) (pc1 := 7) (Lo1 := [some (.ref 42), some (.int l1), some (.int l2)]) (st1' := [.int l1, .int l2]) (w1 := (wv x I J)) hC53 2 rfl ?_
  refine wj_ge (tgt := 27) rfl rfl (fun h => ?_) (fun h => ?_)
  · have k := k.1 h
    refine wp_seg (C := gC53) (pc1 := 14) (Lo1 := [some (.ref 42), some (.int l1), some (.int l2)]) (st1' := [.int (I 42 12)]) (w1 := (wv x I J)) hC53 2 rfl ?_
    refine wi_ne (tgt := 27) rfl rfl (fun h => ?_) (fun h => ?_)
    · have k := k.1 h
      refine wp_seg (C := gC53) (pc1 := 18) (Lo1 := [some (.ref 42), some (.int l1), some (.int l2)]) (st1' := [.ref 42]) (w1 := (wv x I J)) hC53 1 rfl ?_
      refine cv_V (mj := 55) (a := 42) (as := []) (r := []) rfl rfl rfl ⟨rfl, by decide, Nat.le_of_ble_eq_true rfl, Nat.le_of_ble_eq_true rfl⟩ rfl (wcV_mono k (fun I1 J1 k => ?_))
      refine wp_seg (C := gC53) (pc1 := 5) (Lo1 := [some (.ref 42), some (.int l1), some (.int (l2 + (1 : Int32)))]) (st1' := []) (w1 := (wv x I1 J1)) hC53 2 rfl ?_
      exact k
    · have k := k.2 h
      exact we_v rfl rfl k
  · have k := k.2 h
    exact we_v rfl rfl k
set_option maxRecDepth 20000 in
theorem v31_4_0 {S : Nat × (Nat → Int32)} {d : Nat} {x : mX} {I : rI0} {J : rJ0} {p1 : Int32} {p2 : Int32} {Q : rI0 → rJ0 → Prop} (k : wp S (d + 1) 31 2 [some (.ref 4), some (.int p1), some (.int p2), some (.int (0 : Int32))] [] (wv x I J) (rV x Q)) : wp S (d + 1) 31 0 [some (.ref 4), some (.int p1), some (.int p2), none] [] (wv x I J) (rV x Q) := by
  refine wp_seg (C := gC31) (pc1 := 2) (Lo1 := [some (.ref 4), some (.int p1), some (.int p2), some (.int (0 : Int32))]) (st1' := []) (w1 := (wv x I J)) hC31 2 rfl ?_
  exact k
set_option maxRecDepth 20000 in
theorem v31_4_2 {S : Nat × (Nat → Int32)} {d : Nat} {x : mX} {I : rI0} {J : rJ0} {l1 : Int32} {l2 : Int32} {l3 : Int32} {Q : rI0 → rJ0 → Prop} (k : ((l3 < (6 : Int32) → (¬ mOut l3 6 ∧ ((l3 = l2 → (wcJ S d 143 [.long (J 6 l3.toNatClampNeg), .int l1, .int (1 : Int32)] x I J (fun r1 I1 J1 => (¬ mOut l3 6 ∧ wp S (d + 1) 31 2 [some (.ref 4), some (.int l1), some (.int l2), some (.int (l3 + (1 : Int32)))] [] (wv x I1 (mSet J1 6 l3.toNatClampNeg r1)) (rV x Q))))) ∧ (¬ l3 = l2 → (wcJ S d 143 [.long (J 6 l3.toNatClampNeg), .int l1, .int (0 : Int32)] x I J (fun r2 I2 J2 => (¬ mOut l3 6 ∧ wp S (d + 1) 31 2 [some (.ref 4), some (.int l1), some (.int l2), some (.int (l3 + (1 : Int32)))] [] (wv x I2 (mSet J2 6 l3.toNatClampNeg r2)) (rV x Q)))))))) ∧ (¬ l3 < (6 : Int32) → (¬ mOut l1 64 ∧ Q (mSet I 5 l1.toNatClampNeg l2) J)))) : wp S (d + 1) 31 2 [some (.ref 4), some (.int l1), some (.int l2), some (.int l3)] [] (wv x I J) (rV x Q) := by
  refine wp_seg (C := gC31) (pc1 := 5) (Lo1 := [some (.ref 4), some (.int l1), some (.int l2), some (.int l3)]) (st1' := [.int (6 : Int32), .int l3]) (w1 := (wv x I J)) hC31 2 rfl ?_
  refine wj_ge (tgt := 40) rfl rfl (fun h => ?_) (fun h => ?_)
  · have k := k.1 h
    refine wp_seg (C := gC31) (pc1 := 18) (Lo1 := [some (.ref 4), some (.int l1), some (.int l2), some (.int l3)]) (st1' := [.int l3, .ref 6, .int l3, .ref 6]) (w1 := (wv x I J)) hC31 6 rfl ?_
    refine wa_l (n := 6) rfl rfl k.1 ?_
    have k := k.2
    refine wp_seg (C := gC31) (pc1 := 22) (Lo1 := [some (.ref 4), some (.int l1), some (.int l2), some (.int l3)]) (st1' := [.int l2, .int l3, .int l1, .long (J 6 l3.toNatClampNeg), .int l3, .ref 6]) (w1 := (wv x I J)) hC31 3 rfl ?_
    refine wj_ne (tgt := 29) rfl rfl (fun h => ?_) (fun h => ?_)
    · have k := k.1 h
      refine wp_seg (C := gC31) (pc1 := 30) (Lo1 := [some (.ref 4), some (.int l1), some (.int l2), some (.int l3)]) (st1' := [.int (1 : Int32), .int l1, .long (J 6 l3.toNatClampNeg), .int l3, .ref 6]) (w1 := (wv x I J)) hC31 2 rfl ?_
      refine cs_J (mj := 143) (nn := 1) (as := [.long (J 6 l3.toNatClampNeg), .int l1, .int (1 : Int32)]) (r := [.int l3, .ref 6]) rfl rfl rfl ⟨rfl, by decide, Nat.le_of_ble_eq_true rfl, Nat.le_of_ble_eq_true rfl⟩ (by decide) (wcJ_mono k (fun r1 I1 J1 k => ?_))
      refine ws_l (n := 6) rfl rfl k.1 ?_
      have k := k.2
      refine wp_seg (C := gC31) (pc1 := 2) (Lo1 := [some (.ref 4), some (.int l1), some (.int l2), some (.int (l3 + (1 : Int32)))]) (st1' := []) (w1 := (wv x I1 (mSet J1 6 l3.toNatClampNeg r1))) hC31 2 rfl ?_
      exact k
    · have k := k.2 h
      refine wp_seg (C := gC31) (pc1 := 30) (Lo1 := [some (.ref 4), some (.int l1), some (.int l2), some (.int l3)]) (st1' := [.int (0 : Int32), .int l1, .long (J 6 l3.toNatClampNeg), .int l3, .ref 6]) (w1 := (wv x I J)) hC31 1 rfl ?_
      refine cs_J (mj := 143) (nn := 1) (as := [.long (J 6 l3.toNatClampNeg), .int l1, .int (0 : Int32)]) (r := [.int l3, .ref 6]) rfl rfl rfl ⟨rfl, by decide, Nat.le_of_ble_eq_true rfl, Nat.le_of_ble_eq_true rfl⟩ (by decide) (wcJ_mono k (fun r2 I2 J2 k => ?_))
      refine ws_l (n := 6) rfl rfl k.1 ?_
      have k := k.2
      refine wp_seg (C := gC31) (pc1 := 2) (Lo1 := [some (.ref 4), some (.int l1), some (.int l2), some (.int (l3 + (1 : Int32)))]) (st1' := []) (w1 := (wv x I2 (mSet J2 6 l3.toNatClampNeg r2))) hC31 2 rfl ?_
      exact k
  · have k := k.2 h
    refine wp_seg (C := gC31) (pc1 := 46) (Lo1 := [some (.ref 4), some (.int l1), some (.int l2), some (.int l3)]) (st1' := [.int l2, .int l1, .ref 5]) (w1 := (wv x I J)) hC31 4 rfl ?_
    refine ws_i (n := 64) rfl rfl k.1 ?_
    have k := k.2
    exact we_v rfl rfl k
set_option maxRecDepth 20000 in
theorem v25_4_0 {S : Nat × (Nat → Int32)} {d : Nat} {x : mX} {I : rI0} {J : rJ0} {p1 : Int32} {Q : Int32 → rI0 → rJ0 → Prop} (k : (((0 : Int32) < (I 4 1) → ((p1 < (0 : Int32) → Q (0 : Int32) I J) ∧ (¬ p1 < (0 : Int32) → (wcI S d 23 [.ref 4] x I J (fun r1 I1 J1 => ((p1 < r1 → (¬ (I1 4 1) = 0 ∧ Q (p1 / (I1 4 1)) I1 J1)) ∧ (¬ p1 < r1 → Q (0 : Int32) I1 J1))))))) ∧ (¬ (0 : Int32) < (I 4 1) → Q (0 : Int32) I J))) : wp S (d + 1) 25 0 [some (.ref 4), some (.int p1)] [] (wv x I J) (rI x Q) := by
  refine wp_seg (C := gC25) (pc1 := 4) (Lo1 := [some (.ref 4), some (.int p1)]) (st1' := [.int (I 4 1)]) (w1 := (wv x I J)) hC25 2 rfl ?_
  refine wi_le (tgt := 28) rfl rfl (fun h => ?_) (fun h => ?_)
  · have k := k.1 h
    refine wp_seg (C := gC25) (pc1 := 8) (Lo1 := [some (.ref 4), some (.int p1)]) (st1' := [.int p1]) (w1 := (wv x I J)) hC25 1 rfl ?_
    refine wi_lt (tgt := 28) rfl rfl (fun h => ?_) (fun h => ?_)
    · have k := k.1 h
      refine wp_seg (C := gC25) (pc1 := 29) (Lo1 := [some (.ref 4), some (.int p1)]) (st1' := [.int (0 : Int32)]) (w1 := (wv x I J)) hC25 1 rfl ?_
      exact we_i rfl rfl k
    · have k := k.2 h
      refine wp_seg (C := gC25) (pc1 := 13) (Lo1 := [some (.ref 4), some (.int p1)]) (st1' := [.ref 4, .int p1]) (w1 := (wv x I J)) hC25 2 rfl ?_
      refine cv_I (mj := 23) (a := 4) (as := []) (r := [.int p1]) rfl rfl rfl ⟨rfl, by decide, Nat.le_of_ble_eq_true rfl, Nat.le_of_ble_eq_true rfl⟩ rfl (wcI_mono k (fun r1 I1 J1 k => ?_))
      refine wj_ge (tgt := 28) rfl rfl (fun h => ?_) (fun h => ?_)
      · have k := k.1 h
        refine wp_seg (C := gC25) (pc1 := 24) (Lo1 := [some (.ref 4), some (.int p1)]) (st1' := [.int (I1 4 1), .int p1]) (w1 := (wv x I1 J1)) hC25 3 rfl ?_
        refine wd_i rfl k.1 ?_
        have k := k.2
        refine wp_seg (C := gC25) (pc1 := 29) (Lo1 := [some (.ref 4), some (.int p1)]) (st1' := [.int (p1 / (I1 4 1))]) (w1 := (wv x I1 J1)) hC25 1 rfl ?_
        exact we_i rfl rfl k
      · have k := k.2 h
        refine wp_seg (C := gC25) (pc1 := 29) (Lo1 := [some (.ref 4), some (.int p1)]) (st1' := [.int (0 : Int32)]) (w1 := (wv x I1 J1)) hC25 1 rfl ?_
        exact we_i rfl rfl k
  · have k := k.2 h
    refine wp_seg (C := gC25) (pc1 := 29) (Lo1 := [some (.ref 4), some (.int p1)]) (st1' := [.int (0 : Int32)]) (w1 := (wv x I J)) hC25 1 rfl ?_
    exact we_i rfl rfl k
set_option maxRecDepth 20000 in
theorem v251_18_0 {S : Nat × (Nat → Int32)} {d : Nat} {x : mX} {I : rI0} {J : rJ0} {p1 : Int64} {Q : rI0 → rJ0 → Prop} (k : wp S d 251 6 [some (.ref 18), some (.long p1), none, some (.int (0 : Int32)), some (.int (6 : Int32))] [] (wv x I J) (rV x Q)) : wp S d 251 0 [some (.ref 18), some (.long p1), none, none, none] [] (wv x I J) (rV x Q) := by
  refine wp_seg (C := gC251) (pc1 := 6) (Lo1 := [some (.ref 18), some (.long p1), none, some (.int (0 : Int32)), some (.int (6 : Int32))]) (st1' := []) (w1 := (wv x I J)) hC251 5 rfl ?_
  exact k
set_option maxRecDepth 20000 in
theorem v251_18_6 {S : Nat × (Nat → Int32)} {d : Nat} {x : mX} {I : rI0} {J : rJ0} {l1 : Int64} {l3 : Int32} {l4 : Int32} {Q : rI0 → rJ0 → Prop} (k : ((l3 < l4 → (¬ mOut l3 6 ∧ wp S d 251 6 [some (.ref 18), some (.long l1), none, some (.int (l3 + (1 : Int32))), some (.int l4)] [] (wv x I (mSet J 18 l3.toNatClampNeg l1)) (rV x Q))) ∧ (¬ l3 < l4 → Q I J))) : wp S d 251 6 [some (.ref 18), some (.long l1), none, some (.int l3), some (.int l4)] [] (wv x I J) (rV x Q) := by
  refine wp_seg (C := gC251) (pc1 := 9) (Lo1 := [some (.ref 18), some (.long l1), none, some (.int l3), some (.int l4)]) (st1' := [.int l4, .int l3]) (w1 := (wv x I J)) hC251 2 rfl ?_
  refine wj_ge (tgt := 22) rfl rfl (fun h => ?_) (fun h => ?_)
  · have k := k.1 h
    refine wp_seg (C := gC251) (pc1 := 15) (Lo1 := [some (.ref 18), some (.long l1), none, some (.int l3), some (.int l4)]) (st1' := [.long l1, .int l3, .ref 18]) (w1 := (wv x I J)) hC251 3 rfl ?_
    refine ws_l (n := 6) rfl rfl k.1 ?_
    have k := k.2
    refine wp_seg (C := gC251) (pc1 := 6) (Lo1 := [some (.ref 18), some (.long l1), none, some (.int (l3 + (1 : Int32))), some (.int l4)]) (st1' := []) (w1 := (wv x I (mSet J 18 l3.toNatClampNeg l1))) hC251 2 rfl ?_
    exact k
  · have k := k.2 h
    exact we_v rfl rfl k
set_option maxRecDepth 20000 in
theorem v252_19_0 {S : Nat × (Nat → Int32)} {d : Nat} {x : mX} {I : rI0} {J : rJ0} {p1 : Int32} {Q : rI0 → rJ0 → Prop} (k : wp S d 252 5 [some (.ref 19), some (.int p1), some (.int (0 : Int32)), some (.int (8 : Int32))] [] (wv x I J) (rV x Q)) : wp S d 252 0 [some (.ref 19), some (.int p1), none, none] [] (wv x I J) (rV x Q) := by
  refine wp_seg (C := gC252) (pc1 := 5) (Lo1 := [some (.ref 19), some (.int p1), some (.int (0 : Int32)), some (.int (8 : Int32))]) (st1' := []) (w1 := (wv x I J)) hC252 5 rfl ?_
  exact k
set_option maxRecDepth 20000 in
theorem v252_19_5 {S : Nat × (Nat → Int32)} {d : Nat} {x : mX} {I : rI0} {J : rJ0} {l1 : Int32} {l2 : Int32} {l3 : Int32} {Q : rI0 → rJ0 → Prop} (k : ((l2 < l3 → (¬ mOut l2 8 ∧ wp S d 252 5 [some (.ref 19), some (.int l1), some (.int (l2 + (1 : Int32))), some (.int l3)] [] (wv x (mSet I 19 l2.toNatClampNeg l1) J) (rV x Q))) ∧ (¬ l2 < l3 → Q I J))) : wp S d 252 5 [some (.ref 19), some (.int l1), some (.int l2), some (.int l3)] [] (wv x I J) (rV x Q) := by
  refine wp_seg (C := gC252) (pc1 := 7) (Lo1 := [some (.ref 19), some (.int l1), some (.int l2), some (.int l3)]) (st1' := [.int l3, .int l2]) (w1 := (wv x I J)) hC252 2 rfl ?_
  refine wj_ge (tgt := 20) rfl rfl (fun h => ?_) (fun h => ?_)
  · have k := k.1 h
    refine wp_seg (C := gC252) (pc1 := 13) (Lo1 := [some (.ref 19), some (.int l1), some (.int l2), some (.int l3)]) (st1' := [.int l1, .int l2, .ref 19]) (w1 := (wv x I J)) hC252 3 rfl ?_
    refine ws_i (n := 8) rfl rfl k.1 ?_
    have k := k.2
    refine wp_seg (C := gC252) (pc1 := 5) (Lo1 := [some (.ref 19), some (.int l1), some (.int (l2 + (1 : Int32))), some (.int l3)]) (st1' := []) (w1 := (wv x (mSet I 19 l2.toNatClampNeg l1) J)) hC252 2 rfl ?_
    exact k
  · have k := k.2 h
    exact we_v rfl rfl k
set_option maxRecDepth 20000 in
theorem v252_20_0 {S : Nat × (Nat → Int32)} {d : Nat} {x : mX} {I : rI0} {J : rJ0} {p1 : Int32} {Q : rI0 → rJ0 → Prop} (k : wp S d 252 5 [some (.ref 20), some (.int p1), some (.int (0 : Int32)), some (.int (8 : Int32))] [] (wv x I J) (rV x Q)) : wp S d 252 0 [some (.ref 20), some (.int p1), none, none] [] (wv x I J) (rV x Q) := by
  refine wp_seg (C := gC252) (pc1 := 5) (Lo1 := [some (.ref 20), some (.int p1), some (.int (0 : Int32)), some (.int (8 : Int32))]) (st1' := []) (w1 := (wv x I J)) hC252 5 rfl ?_
  exact k
set_option maxRecDepth 20000 in
theorem v252_20_5 {S : Nat × (Nat → Int32)} {d : Nat} {x : mX} {I : rI0} {J : rJ0} {l1 : Int32} {l2 : Int32} {l3 : Int32} {Q : rI0 → rJ0 → Prop} (k : ((l2 < l3 → (¬ mOut l2 8 ∧ wp S d 252 5 [some (.ref 20), some (.int l1), some (.int (l2 + (1 : Int32))), some (.int l3)] [] (wv x (mSet I 20 l2.toNatClampNeg l1) J) (rV x Q))) ∧ (¬ l2 < l3 → Q I J))) : wp S d 252 5 [some (.ref 20), some (.int l1), some (.int l2), some (.int l3)] [] (wv x I J) (rV x Q) := by
  refine wp_seg (C := gC252) (pc1 := 7) (Lo1 := [some (.ref 20), some (.int l1), some (.int l2), some (.int l3)]) (st1' := [.int l3, .int l2]) (w1 := (wv x I J)) hC252 2 rfl ?_
  refine wj_ge (tgt := 20) rfl rfl (fun h => ?_) (fun h => ?_)
  · have k := k.1 h
    refine wp_seg (C := gC252) (pc1 := 13) (Lo1 := [some (.ref 20), some (.int l1), some (.int l2), some (.int l3)]) (st1' := [.int l1, .int l2, .ref 20]) (w1 := (wv x I J)) hC252 3 rfl ?_
    refine ws_i (n := 8) rfl rfl k.1 ?_
    have k := k.2
    refine wp_seg (C := gC252) (pc1 := 5) (Lo1 := [some (.ref 20), some (.int l1), some (.int (l2 + (1 : Int32))), some (.int l3)]) (st1' := []) (w1 := (wv x (mSet I 20 l2.toNatClampNeg l1) J)) hC252 2 rfl ?_
    exact k
  · have k := k.2 h
    exact we_v rfl rfl k
set_option maxRecDepth 20000 in
theorem v252_21_0 {S : Nat × (Nat → Int32)} {d : Nat} {x : mX} {I : rI0} {J : rJ0} {p1 : Int32} {Q : rI0 → rJ0 → Prop} (k : wp S d 252 5 [some (.ref 21), some (.int p1), some (.int (0 : Int32)), some (.int (12 : Int32))] [] (wv x I J) (rV x Q)) : wp S d 252 0 [some (.ref 21), some (.int p1), none, none] [] (wv x I J) (rV x Q) := by
  refine wp_seg (C := gC252) (pc1 := 5) (Lo1 := [some (.ref 21), some (.int p1), some (.int (0 : Int32)), some (.int (12 : Int32))]) (st1' := []) (w1 := (wv x I J)) hC252 5 rfl ?_
  exact k
set_option maxRecDepth 20000 in
theorem v252_21_5 {S : Nat × (Nat → Int32)} {d : Nat} {x : mX} {I : rI0} {J : rJ0} {l1 : Int32} {l2 : Int32} {l3 : Int32} {Q : rI0 → rJ0 → Prop} (k : ((l2 < l3 → (¬ mOut l2 12 ∧ wp S d 252 5 [some (.ref 21), some (.int l1), some (.int (l2 + (1 : Int32))), some (.int l3)] [] (wv x (mSet I 21 l2.toNatClampNeg l1) J) (rV x Q))) ∧ (¬ l2 < l3 → Q I J))) : wp S d 252 5 [some (.ref 21), some (.int l1), some (.int l2), some (.int l3)] [] (wv x I J) (rV x Q) := by
  refine wp_seg (C := gC252) (pc1 := 7) (Lo1 := [some (.ref 21), some (.int l1), some (.int l2), some (.int l3)]) (st1' := [.int l3, .int l2]) (w1 := (wv x I J)) hC252 2 rfl ?_
  refine wj_ge (tgt := 20) rfl rfl (fun h => ?_) (fun h => ?_)
  · have k := k.1 h
    refine wp_seg (C := gC252) (pc1 := 13) (Lo1 := [some (.ref 21), some (.int l1), some (.int l2), some (.int l3)]) (st1' := [.int l1, .int l2, .ref 21]) (w1 := (wv x I J)) hC252 3 rfl ?_
    refine ws_i (n := 12) rfl rfl k.1 ?_
    have k := k.2
    refine wp_seg (C := gC252) (pc1 := 5) (Lo1 := [some (.ref 21), some (.int l1), some (.int (l2 + (1 : Int32))), some (.int l3)]) (st1' := []) (w1 := (wv x (mSet I 21 l2.toNatClampNeg l1) J)) hC252 2 rfl ?_
    exact k
  · have k := k.2 h
    exact we_v rfl rfl k
set_option maxRecDepth 20000 in
theorem v74_28_1000001_0 {S : Nat × (Nat → Int32)} {d : Nat} {x : mX} {I : rI0} {J : rJ0} {p2 : Int32} {Q : Int32 → rI0 → rJ0 → Prop} (k : wp S (d + 7) 74 2 [some (.ref 28), some (.ref 1000001), some (.int p2), some (.int (0 : Int32))] [] (wv x I J) (rI x Q)) : wp S (d + 7) 74 0 [some (.ref 28), some (.ref 1000001), some (.int p2), none] [] (wv x I J) (rI x Q) := by
  refine wp_seg (C := gC74) (pc1 := 2) (Lo1 := [some (.ref 28), some (.ref 1000001), some (.int p2), some (.int (0 : Int32))]) (st1' := []) (w1 := (wv x I J)) hC74 2 rfl ?_
  exact k
set_option maxRecDepth 20000 in
theorem v74_28_1000001_2 {S : Nat × (Nat → Int32)} {d : Nat} {x : mX} {I : rI0} {J : rJ0} {l2 : Int32} {l3 : Int32} {Q : Int32 → rI0 → rJ0 → Prop} (k : ((l3 < (8 : Int32) → (((l2 + l3) < (64 : Int32) → (¬ mOut (l2 + l3) 64 ∧ (wcI S (d + 6) 72 [.ref 28, .int l3] x I J (fun r1 I1 J1 => ((((gSb.getD 0 []).getD (l2 + l3).toNatClampNeg 0) = r1 → wp S (d + 7) 74 2 [some (.ref 28), some (.ref 1000001), some (.int l2), some (.int (l3 + (1 : Int32)))] [] (wv x I1 J1) (rI x Q)) ∧ (¬ ((gSb.getD 0 []).getD (l2 + l3).toNatClampNeg 0) = r1 → Q (0 : Int32) I1 J1)))))) ∧ (¬ (l2 + l3) < (64 : Int32) → Q (1 : Int32) I J))) ∧ (¬ l3 < (8 : Int32) → Q (1 : Int32) I J))) : wp S (d + 7) 74 2 [some (.ref 28), some (.ref 1000001), some (.int l2), some (.int l3)] [] (wv x I J) (rI x Q) := by
  refine wp_seg (C := gC74) (pc1 := 5) (Lo1 := [some (.ref 28), some (.ref 1000001), some (.int l2), some (.int l3)]) (st1' := [.int (8 : Int32), .int l3]) (w1 := (wv x I J)) hC74 2 rfl ?_
  refine wj_ge (tgt := 41) rfl rfl (fun h => ?_) (fun h => ?_)
  · have k := k.1 h
    refine wp_seg (C := gC74) (pc1 := 12) (Lo1 := [some (.ref 28), some (.ref 1000001), some (.int l2), some (.int l3)]) (st1' := [.ref 1000001, .int (l2 + l3)]) (w1 := (wv x I J)) hC74 4 rfl ?_
    refine wq_sln (v := (64 : Int32)) rfl rfl (by decide) (Nat.le_of_ble_eq_true rfl) (by decide +kernel) ?_
    refine wj_ge (tgt := 41) rfl rfl (fun h => ?_) (fun h => ?_)
    · have k := k.1 h
      refine wp_seg (C := gC74) (pc1 := 22) (Lo1 := [some (.ref 28), some (.ref 1000001), some (.int l2), some (.int l3)]) (st1' := [.int (l2 + l3), .ref 1000001]) (w1 := (wv x I J)) hC74 4 rfl ?_
      refine wq_sch (len := 64) rfl rfl (by decide) (Nat.le_of_ble_eq_true rfl) (by decide +kernel) k.1 ?_
      have k := k.2
      refine wp_seg (C := gC74) (pc1 := 27) (Lo1 := [some (.ref 28), some (.ref 1000001), some (.int l2), some (.int l3)]) (st1' := [.int l3, .ref 28, .int ((gSb.getD 0 []).getD (l2 + l3).toNatClampNeg 0)]) (w1 := (wv x I J)) hC74 2 rfl ?_
      refine cv_I (mj := 72) (a := 28) (as := [.int l3]) (r := [.int ((gSb.getD 0 []).getD (l2 + l3).toNatClampNeg 0)]) rfl rfl rfl ⟨rfl, by decide, Nat.le_of_ble_eq_true rfl, Nat.le_of_ble_eq_true rfl⟩ rfl (wcI_mono k (fun r1 I1 J1 k => ?_))
      refine wj_eq (tgt := 35) rfl rfl (fun h => ?_) (fun h => ?_)
      · have k := k.1 h
        refine wp_seg (C := gC74) (pc1 := 2) (Lo1 := [some (.ref 28), some (.ref 1000001), some (.int l2), some (.int (l3 + (1 : Int32)))]) (st1' := []) (w1 := (wv x I1 J1)) hC74 2 rfl ?_
        exact k
      · have k := k.2 h
        refine wp_seg (C := gC74) (pc1 := 34) (Lo1 := [some (.ref 28), some (.ref 1000001), some (.int l2), some (.int l3)]) (st1' := [.int (0 : Int32)]) (w1 := (wv x I1 J1)) hC74 1 rfl ?_
        exact we_z rfl rfl (Or.inl rfl) k
    · have k := k.2 h
      refine wp_seg (C := gC74) (pc1 := 42) (Lo1 := [some (.ref 28), some (.ref 1000001), some (.int l2), some (.int l3)]) (st1' := [.int (1 : Int32)]) (w1 := (wv x I J)) hC74 1 rfl ?_
      exact we_z rfl rfl (Or.inr rfl) k
  · have k := k.2 h
    refine wp_seg (C := gC74) (pc1 := 42) (Lo1 := [some (.ref 28), some (.ref 1000001), some (.int l2), some (.int l3)]) (st1' := [.int (1 : Int32)]) (w1 := (wv x I J)) hC74 1 rfl ?_
    exact we_z rfl rfl (Or.inr rfl) k
set_option maxRecDepth 20000 in
theorem v71_28_0 {S : Nat × (Nat → Int32)} {d : Nat} {x : mX} {I : rI0} {J : rJ0} {Q : Int32 → rI0 → rJ0 → Prop} (k : Q ((I 28 5) - (I 28 4)) I J) : wp S d 71 0 [some (.ref 28)] [] (wv x I J) (rI x Q) := by
  refine wp_seg (C := gC71) (pc1 := 9) (Lo1 := [some (.ref 28)]) (st1' := [.int ((I 28 5) - (I 28 4))]) (w1 := (wv x I J)) hC71 5 rfl ?_
  exact we_i rfl rfl k
set_option maxRecDepth 20000 in
theorem v72_28_0 {S : Nat × (Nat → Int32)} {d : Nat} {x : mX} {I : rI0} {J : rJ0} {p1 : Int32} {Q : Int32 → rI0 → rJ0 → Prop} (k : ((p1 < (0 : Int32) → Q (32 : Int32) I J) ∧ (¬ p1 < (0 : Int32) → ((((I 28 4) + p1) < (I 28 5) → ((((I 28 4) + p1) < (940 : Int32) → (¬ mOut ((I 28 4) + p1) 940 ∧ Q (I 2 (((I 28 4) + p1).toNatClampNeg)) I J)) ∧ (¬ ((I 28 4) + p1) < (940 : Int32) → Q (32 : Int32) I J))) ∧ (¬ ((I 28 4) + p1) < (I 28 5) → Q (32 : Int32) I J))))) : wp S d 72 0 [some (.ref 28), some (.int p1)] [] (wv x I J) (rI x Q) := by
  refine wp_seg (C := gC72) (pc1 := 1) (Lo1 := [some (.ref 28), some (.int p1)]) (st1' := [.int p1]) (w1 := (wv x I J)) hC72 1 rfl ?_
  refine wi_lt (tgt := 45) rfl rfl (fun h => ?_) (fun h => ?_)
  · have k := k.1 h
    refine wp_seg (C := gC72) (pc1 := 47) (Lo1 := [some (.ref 28), some (.int p1)]) (st1' := [.int (32 : Int32)]) (w1 := (wv x I J)) hC72 1 rfl ?_
    exact we_i rfl rfl k
  · have k := k.2 h
    refine wp_seg (C := gC72) (pc1 := 14) (Lo1 := [some (.ref 28), some (.int p1)]) (st1' := [.int (I 28 5), .int ((I 28 4) + p1)]) (w1 := (wv x I J)) hC72 6 rfl ?_
    refine wj_ge (tgt := 45) rfl rfl (fun h => ?_) (fun h => ?_)
    · have k := k.1 h
      refine wp_seg (C := gC72) (pc1 := 28) (Lo1 := [some (.ref 28), some (.int p1)]) (st1' := [.int (940 : Int32), .int ((I 28 4) + p1)]) (w1 := (wv x I J)) hC72 7 rfl ?_
      refine wj_ge (tgt := 45) rfl rfl (fun h => ?_) (fun h => ?_)
      · have k := k.1 h
        refine wp_seg (C := gC72) (pc1 := 41) (Lo1 := [some (.ref 28), some (.int p1)]) (st1' := [.int ((I 28 4) + p1), .ref 2]) (w1 := (wv x I J)) hC72 6 rfl ?_
        refine wa_i (n := 940) rfl (by decide) rfl k.1 ?_
        have k := k.2
        refine wp_seg (C := gC72) (pc1 := 47) (Lo1 := [some (.ref 28), some (.int p1)]) (st1' := [.int (I 2 (((I 28 4) + p1).toNatClampNeg))]) (w1 := (wv x I J)) hC72 1 rfl ?_
        exact we_i rfl rfl k
      · have k := k.2 h
        refine wp_seg (C := gC72) (pc1 := 47) (Lo1 := [some (.ref 28), some (.int p1)]) (st1' := [.int (32 : Int32)]) (w1 := (wv x I J)) hC72 1 rfl ?_
        exact we_i rfl rfl k
    · have k := k.2 h
      refine wp_seg (C := gC72) (pc1 := 47) (Lo1 := [some (.ref 28), some (.int p1)]) (st1' := [.int (32 : Int32)]) (w1 := (wv x I J)) hC72 1 rfl ?_
      exact we_i rfl rfl k
set_option maxRecDepth 20000 in
theorem v39_0 {S : Nat × (Nat → Int32)} {d : Nat} {x : mX} {I : rI0} {J : rJ0} {p0 : Int32} {Q : Int32 → rI0 → rJ0 → Prop} (k : ((p0 < (97 : Int32) → Q (0 : Int32) I J) ∧ (¬ p0 < (97 : Int32) → ((p0 < (103 : Int32) → Q (1 : Int32) I J) ∧ (¬ p0 < (103 : Int32) → Q (0 : Int32) I J))))) : wp S d 39 0 [some (.int p0)] [] (wv x I J) (rI x Q) := by
  refine wp_seg (C := gC39) (pc1 := 3) (Lo1 := [some (.int p0)]) (st1' := [.int (97 : Int32), .int p0]) (w1 := (wv x I J)) hC39 2 rfl ?_
  refine wj_lt (tgt := 16) rfl rfl (fun h => ?_) (fun h => ?_)
  · have k := k.1 h
    refine wp_seg (C := gC39) (pc1 := 17) (Lo1 := [some (.int p0)]) (st1' := [.int (0 : Int32)]) (w1 := (wv x I J)) hC39 1 rfl ?_
    exact we_z rfl rfl (Or.inl rfl) k
  · have k := k.2 h
    refine wp_seg (C := gC39) (pc1 := 9) (Lo1 := [some (.int p0)]) (st1' := [.int (103 : Int32), .int p0]) (w1 := (wv x I J)) hC39 2 rfl ?_
    refine wj_ge (tgt := 16) rfl rfl (fun h => ?_) (fun h => ?_)
    · have k := k.1 h
      refine wp_seg (C := gC39) (pc1 := 17) (Lo1 := [some (.int p0)]) (st1' := [.int (1 : Int32)]) (w1 := (wv x I J)) hC39 2 rfl ?_
      exact we_z rfl rfl (Or.inr rfl) k
    · have k := k.2 h
      refine wp_seg (C := gC39) (pc1 := 17) (Lo1 := [some (.int p0)]) (st1' := [.int (0 : Int32)]) (w1 := (wv x I J)) hC39 1 rfl ?_
      exact we_z rfl rfl (Or.inl rfl) k
set_option maxRecDepth 20000 in
theorem v41_29_0 {S : Nat × (Nat → Int32)} {d : Nat} {x : mX} {I : rI0} {J : rJ0} {p1 : Int32} {p2 : Int32} {Q : Int32 → rI0 → rJ0 → Prop} (k : (wcI S d 42 [.ref 29, .int p1, .int (0 : Int32), .int p2] x I J (fun r1 I1 J1 => ((r1 = (0 : Int32) → Q (0 : Int32) I1 J1) ∧ (¬ r1 = (0 : Int32) → wp S (d + 1) 41 14 [some (.ref 29), some (.int p1), some (.int p2), some (.int (0 : Int32)), none] [] (wv x I1 J1) (rI x Q)))))) : wp S (d + 1) 41 0 [some (.ref 29), some (.int p1), some (.int p2), none, none] [] (wv x I J) (rI x Q) := by
  refine wp_seg (C := gC41) (pc1 := 4) (Lo1 := [some (.ref 29), some (.int p1), some (.int p2), none, none]) (st1' := [.int p2, .int (0 : Int32), .int p1, .ref 29]) (w1 := (wv x I J)) hC41 4 rfl ?_
  refine cv_I (mj := 42) (a := 29) (as := [.int p1, .int (0 : Int32), .int p2]) (r := []) rfl rfl rfl ⟨rfl, by decide, Nat.le_of_ble_eq_true rfl, Nat.le_of_ble_eq_true rfl⟩ rfl (wcI_mono k (fun r1 I1 J1 k => ?_))
  refine wi_ne (tgt := 12) rfl rfl (fun h => ?_) (fun h => ?_)
  · have k := k.1 h
    refine wp_seg (C := gC41) (pc1 := 11) (Lo1 := [some (.ref 29), some (.int p1), some (.int p2), none, none]) (st1' := [.int (0 : Int32)]) (w1 := (wv x I1 J1)) hC41 1 rfl ?_
    exact we_z rfl rfl (Or.inl rfl) k
  · have k := k.2 h
    refine wp_seg (C := gC41) (pc1 := 14) (Lo1 := [some (.ref 29), some (.int p1), some (.int p2), some (.int (0 : Int32)), none]) (st1' := []) (w1 := (wv x I1 J1)) hC41 2 rfl ?_
    exact k
set_option maxRecDepth 20000 in
theorem v41_29_14 {S : Nat × (Nat → Int32)} {d : Nat} {x : mX} {I : rI0} {J : rJ0} {l1 : Int32} {l2 : Int32} {l3 : Int32} {Q : Int32 → rI0 → rJ0 → Prop} (k : ((l3 < (20 : Int32) → (wcI S d 73 [.ref 28, .ref 1000003] x I J (fun r1 I1 J1 => ((r1 = (-1 : Int32) → Q (1 : Int32) I1 J1) ∧ (¬ r1 = (-1 : Int32) → (wcV S d 70 [.ref 28] x I1 J1 (fun I2 J2 => (wcI S d 42 [.ref 29, .int l1, .int r1, .int l2] x I2 J2 (fun r3 I3 J3 => ((r3 = (0 : Int32) → Q (0 : Int32) I3 J3) ∧ (¬ r3 = (0 : Int32) → wp S (d + 1) 41 14 [some (.ref 29), some (.int l1), some (.int l2), some (.int (l3 + (1 : Int32))), none] [] (wv x I3 J3) (rI x Q)))))))))))) ∧ (¬ l3 < (20 : Int32) → Q (1 : Int32) I J))) : wp S (d + 1) 41 14 [some (.ref 29), some (.int l1), some (.int l2), some (.int l3), none] [] (wv x I J) (rI x Q) := by
  refine wp_seg (C := gC41) (pc1 := 17) (Lo1 := [some (.ref 29), some (.int l1), some (.int l2), some (.int l3), none]) (st1' := [.int (20 : Int32), .int l3]) (w1 := (wv x I J)) hC41 2 rfl ?_
  refine wj_ge (tgt := 65) rfl rfl (fun h => ?_) (fun h => ?_)
  · have k := k.1 h
    refine wp_seg (C := gC41) (pc1 := 26) (Lo1 := [some (.ref 29), some (.int l1), some (.int l2), some (.int l3), none]) (st1' := [.ref 1000003, .ref 28]) (w1 := (wv x I J)) hC41 3 rfl ?_
    refine cv_I (mj := 73) (a := 28) (as := [.ref 1000003]) (r := []) rfl rfl rfl ⟨rfl, by decide, Nat.le_of_ble_eq_true rfl, Nat.le_of_ble_eq_true rfl⟩ rfl (wcI_mono k (fun r1 I1 J1 k => ?_))
    refine wp_seg (C := gC41) (pc1 := 34) (Lo1 := [some (.ref 29), some (.int l1), some (.int l2), some (.int l3), some (.int r1)]) (st1' := [.int (-1 : Int32), .int r1]) (w1 := (wv x I1 J1)) hC41 3 rfl ?_
    refine wj_ne (tgt := 39) rfl rfl (fun h => ?_) (fun h => ?_)
    · have k := k.1 h
      refine wp_seg (C := gC41) (pc1 := 38) (Lo1 := [some (.ref 29), some (.int l1), some (.int l2), some (.int l3), some (.int r1)]) (st1' := [.int (1 : Int32)]) (w1 := (wv x I1 J1)) hC41 1 rfl ?_
      exact we_z rfl rfl (Or.inr rfl) k
    · have k := k.2 h
      refine wp_seg (C := gC41) (pc1 := 43) (Lo1 := [some (.ref 29), some (.int l1), some (.int l2), some (.int l3), some (.int r1)]) (st1' := [.ref 28]) (w1 := (wv x I1 J1)) hC41 2 rfl ?_
      refine cv_V (mj := 70) (a := 28) (as := []) (r := []) rfl rfl rfl ⟨rfl, by decide, Nat.le_of_ble_eq_true rfl, Nat.le_of_ble_eq_true rfl⟩ rfl (wcV_mono k (fun I2 J2 k => ?_))
      refine wp_seg (C := gC41) (pc1 := 51) (Lo1 := [some (.ref 29), some (.int l1), some (.int l2), some (.int l3), some (.int r1)]) (st1' := [.int l2, .int r1, .int l1, .ref 29]) (w1 := (wv x I2 J2)) hC41 4 rfl ?_
      refine cv_I (mj := 42) (a := 29) (as := [.int l1, .int r1, .int l2]) (r := []) rfl rfl rfl ⟨rfl, by decide, Nat.le_of_ble_eq_true rfl, Nat.le_of_ble_eq_true rfl⟩ rfl (wcI_mono k (fun r3 I3 J3 k => ?_))
      refine wi_ne (tgt := 59) rfl rfl (fun h => ?_) (fun h => ?_)
      · have k := k.1 h
        refine wp_seg (C := gC41) (pc1 := 58) (Lo1 := [some (.ref 29), some (.int l1), some (.int l2), some (.int l3), some (.int r1)]) (st1' := [.int (0 : Int32)]) (w1 := (wv x I3 J3)) hC41 1 rfl ?_
        exact we_z rfl rfl (Or.inl rfl) k
      · have k := k.2 h
        refine wp_seg (C := gC41) (pc1 := 14) (Lo1 := [some (.ref 29), some (.int l1), some (.int l2), some (.int (l3 + (1 : Int32))), some (.int r1)]) (st1' := []) (w1 := (wv x I3 J3)) hC41 2 rfl ?_
        exact wp_sub (Lo := [some (.ref 29), some (.int l1), some (.int l2), some (.int (l3 + (1 : Int32))), none]) (And.intro rfl (And.intro rfl (And.intro rfl (And.intro rfl (trivial))))) k
  · have k := k.2 h
    refine wp_seg (C := gC41) (pc1 := 66) (Lo1 := [some (.ref 29), some (.int l1), some (.int l2), some (.int l3), none]) (st1' := [.int (1 : Int32)]) (w1 := (wv x I J)) hC41 1 rfl ?_
    exact we_z rfl rfl (Or.inr rfl) k
set_option maxRecDepth 20000 in
theorem v76_28_0 {S : Nat × (Nat → Int32)} {d : Nat} {x : mX} {I : rI0} {J : rJ0} {p1 : Int32} {p2 : Int32} {Q : Int32 → rI0 → rJ0 → Prop} (k : (((I 28 3) = (3 : Int32) → (((I 28 6) < p1 → (((2 : Int32) = (0 : Int32) → Q (1 : Int32) (mSet I 28 8 (2 : Int32)) J) ∧ (¬ (2 : Int32) = (0 : Int32) → Q (0 : Int32) (mSet I 28 8 (2 : Int32)) J))) ∧ (¬ (I 28 6) < p1 → ((p2 < (I 28 6) → (((2 : Int32) = (0 : Int32) → Q (1 : Int32) (mSet I 28 8 (2 : Int32)) J) ∧ (¬ (2 : Int32) = (0 : Int32) → Q (0 : Int32) (mSet I 28 8 (2 : Int32)) J))) ∧ (¬ p2 < (I 28 6) → (((I 28 8) = (0 : Int32) → Q (1 : Int32) I J) ∧ (¬ (I 28 8) = (0 : Int32) → Q (0 : Int32) I J))))))) ∧ (¬ (I 28 3) = (3 : Int32) → (((1 : Int32) = (0 : Int32) → Q (1 : Int32) (mSet I 28 8 (1 : Int32)) J) ∧ (¬ (1 : Int32) = (0 : Int32) → Q (0 : Int32) (mSet I 28 8 (1 : Int32)) J))))) : wp S d 76 0 [some (.ref 28), some (.int p1), some (.int p2)] [] (wv x I J) (rI x Q) := by
  refine wp_seg (C := gC76) (pc1 := 5) (Lo1 := [some (.ref 28), some (.int p1), some (.int p2)]) (st1' := [.int (3 : Int32), .int (I 28 3)]) (w1 := (wv x I J)) hC76 3 rfl ?_
  refine wj_eq (tgt := 16) rfl rfl (fun h => ?_) (fun h => ?_)
  · have k := k.1 h
    refine wp_seg (C := gC76) (pc1 := 21) (Lo1 := [some (.ref 28), some (.int p1), some (.int p2)]) (st1' := [.int p1, .int (I 28 6)]) (w1 := (wv x I J)) hC76 3 rfl ?_
    refine wj_lt (tgt := 32) rfl rfl (fun h => ?_) (fun h => ?_)
    · have k := k.1 h
      refine wp_seg (C := gC76) (pc1 := 41) (Lo1 := [some (.ref 28), some (.int p1), some (.int p2)]) (st1' := [.int (2 : Int32)]) (w1 := (wv x (mSet I 28 8 (2 : Int32)) J)) hC76 5 rfl ?_
      refine wi_ne (tgt := 48) rfl rfl (fun h => ?_) (fun h => ?_)
      · have k := k.1 h
        refine wp_seg (C := gC76) (pc1 := 49) (Lo1 := [some (.ref 28), some (.int p1), some (.int p2)]) (st1' := [.int (1 : Int32)]) (w1 := (wv x (mSet I 28 8 (2 : Int32)) J)) hC76 2 rfl ?_
        exact we_z rfl rfl (Or.inr rfl) k
      · have k := k.2 h
        refine wp_seg (C := gC76) (pc1 := 49) (Lo1 := [some (.ref 28), some (.int p1), some (.int p2)]) (st1' := [.int (0 : Int32)]) (w1 := (wv x (mSet I 28 8 (2 : Int32)) J)) hC76 1 rfl ?_
        exact we_z rfl rfl (Or.inl rfl) k
    · have k := k.2 h
      refine wp_seg (C := gC76) (pc1 := 29) (Lo1 := [some (.ref 28), some (.int p1), some (.int p2)]) (st1' := [.int p2, .int (I 28 6)]) (w1 := (wv x I J)) hC76 3 rfl ?_
      refine wj_le (tgt := 37) rfl rfl (fun h => ?_) (fun h => ?_)
      · have k := k.1 h
        refine wp_seg (C := gC76) (pc1 := 41) (Lo1 := [some (.ref 28), some (.int p1), some (.int p2)]) (st1' := [.int (2 : Int32)]) (w1 := (wv x (mSet I 28 8 (2 : Int32)) J)) hC76 5 rfl ?_
        refine wi_ne (tgt := 48) rfl rfl (fun h => ?_) (fun h => ?_)
        · have k := k.1 h
          refine wp_seg (C := gC76) (pc1 := 49) (Lo1 := [some (.ref 28), some (.int p1), some (.int p2)]) (st1' := [.int (1 : Int32)]) (w1 := (wv x (mSet I 28 8 (2 : Int32)) J)) hC76 2 rfl ?_
          exact we_z rfl rfl (Or.inr rfl) k
        · have k := k.2 h
          refine wp_seg (C := gC76) (pc1 := 49) (Lo1 := [some (.ref 28), some (.int p1), some (.int p2)]) (st1' := [.int (0 : Int32)]) (w1 := (wv x (mSet I 28 8 (2 : Int32)) J)) hC76 1 rfl ?_
          exact we_z rfl rfl (Or.inl rfl) k
      · have k := k.2 h
        refine wp_seg (C := gC76) (pc1 := 41) (Lo1 := [some (.ref 28), some (.int p1), some (.int p2)]) (st1' := [.int (I 28 8)]) (w1 := (wv x I J)) hC76 2 rfl ?_
        refine wi_ne (tgt := 48) rfl rfl (fun h => ?_) (fun h => ?_)
        · have k := k.1 h
          refine wp_seg (C := gC76) (pc1 := 49) (Lo1 := [some (.ref 28), some (.int p1), some (.int p2)]) (st1' := [.int (1 : Int32)]) (w1 := (wv x I J)) hC76 2 rfl ?_
          exact we_z rfl rfl (Or.inr rfl) k
        · have k := k.2 h
          refine wp_seg (C := gC76) (pc1 := 49) (Lo1 := [some (.ref 28), some (.int p1), some (.int p2)]) (st1' := [.int (0 : Int32)]) (w1 := (wv x I J)) hC76 1 rfl ?_
          exact we_z rfl rfl (Or.inl rfl) k
  · have k := k.2 h
    refine wp_seg (C := gC76) (pc1 := 41) (Lo1 := [some (.ref 28), some (.int p1), some (.int p2)]) (st1' := [.int (1 : Int32)]) (w1 := (wv x (mSet I 28 8 (1 : Int32)) J)) hC76 6 rfl ?_
    refine wi_ne (tgt := 48) rfl rfl (fun h => ?_) (fun h => ?_)
    · have k := k.1 h
      refine wp_seg (C := gC76) (pc1 := 49) (Lo1 := [some (.ref 28), some (.int p1), some (.int p2)]) (st1' := [.int (1 : Int32)]) (w1 := (wv x (mSet I 28 8 (1 : Int32)) J)) hC76 2 rfl ?_
      exact we_z rfl rfl (Or.inr rfl) k
    · have k := k.2 h
      refine wp_seg (C := gC76) (pc1 := 49) (Lo1 := [some (.ref 28), some (.int p1), some (.int p2)]) (st1' := [.int (0 : Int32)]) (w1 := (wv x (mSet I 28 8 (1 : Int32)) J)) hC76 1 rfl ?_
      exact we_z rfl rfl (Or.inl rfl) k
set_option maxRecDepth 20000 in
theorem v77_28_0 {S : Nat × (Nat → Int32)} {d : Nat} {x : mX} {I : rI0} {J : rJ0} {p1 : Int32} {p2 : Int32} {Q : Int32 → rI0 → rJ0 → Prop} (k : (wcI S d 76 [.ref 28, .int p1, .int p2] x I J (fun r1 I1 J1 => ((r1 = (0 : Int32) → Q (0 : Int32) I1 J1) ∧ (¬ r1 = (0 : Int32) → (wcV S d 70 [.ref 28] x (mSet I1 28 7 (I1 28 6)) J1 (fun I2 J2 => Q (1 : Int32) I2 J2))))))) : wp S (d + 1) 77 0 [some (.ref 28), some (.int p1), some (.int p2)] [] (wv x I J) (rI x Q) := by
  refine wp_seg (C := gC77) (pc1 := 3) (Lo1 := [some (.ref 28), some (.int p1), some (.int p2)]) (st1' := [.int p2, .int p1, .ref 28]) (w1 := (wv x I J)) hC77 3 rfl ?_
  refine cv_I (mj := 76) (a := 28) (as := [.int p1, .int p2]) (r := []) rfl rfl rfl ⟨rfl, by decide, Nat.le_of_ble_eq_true rfl, Nat.le_of_ble_eq_true rfl⟩ rfl (wcI_mono k (fun r1 I1 J1 k => ?_))
  refine wi_ne (tgt := 11) rfl rfl (fun h => ?_) (fun h => ?_)
  · have k := k.1 h
    refine wp_seg (C := gC77) (pc1 := 10) (Lo1 := [some (.ref 28), some (.int p1), some (.int p2)]) (st1' := [.int (0 : Int32)]) (w1 := (wv x I1 J1)) hC77 1 rfl ?_
    exact we_z rfl rfl (Or.inl rfl) k
  · have k := k.2 h
    refine wp_seg (C := gC77) (pc1 := 20) (Lo1 := [some (.ref 28), some (.int p1), some (.int p2)]) (st1' := [.ref 28]) (w1 := (wv x (mSet I1 28 7 (I1 28 6)) J1)) hC77 5 rfl ?_
    refine cv_V (mj := 70) (a := 28) (as := []) (r := []) rfl rfl rfl ⟨rfl, by decide, Nat.le_of_ble_eq_true rfl, Nat.le_of_ble_eq_true rfl⟩ rfl (wcV_mono k (fun I2 J2 k => ?_))
    refine wp_seg (C := gC77) (pc1 := 24) (Lo1 := [some (.ref 28), some (.int p1), some (.int p2)]) (st1' := [.int (1 : Int32)]) (w1 := (wv x I2 J2)) hC77 1 rfl ?_
    exact we_z rfl rfl (Or.inr rfl) k
set_option maxRecDepth 20000 in
theorem v25_16_0 {S : Nat × (Nat → Int32)} {d : Nat} {x : mX} {I : rI0} {J : rJ0} {p1 : Int32} {Q : Int32 → rI0 → rJ0 → Prop} (k : (((0 : Int32) < (I 16 1) → ((p1 < (0 : Int32) → Q (0 : Int32) I J) ∧ (¬ p1 < (0 : Int32) → (wcI S d 23 [.ref 16] x I J (fun r1 I1 J1 => ((p1 < r1 → (¬ (I1 16 1) = 0 ∧ Q (p1 / (I1 16 1)) I1 J1)) ∧ (¬ p1 < r1 → Q (0 : Int32) I1 J1))))))) ∧ (¬ (0 : Int32) < (I 16 1) → Q (0 : Int32) I J))) : wp S (d + 1) 25 0 [some (.ref 16), some (.int p1)] [] (wv x I J) (rI x Q) := by
  refine wp_seg (C := gC25) (pc1 := 4) (Lo1 := [some (.ref 16), some (.int p1)]) (st1' := [.int (I 16 1)]) (w1 := (wv x I J)) hC25 2 rfl ?_
  refine wi_le (tgt := 28) rfl rfl (fun h => ?_) (fun h => ?_)
  · have k := k.1 h
    refine wp_seg (C := gC25) (pc1 := 8) (Lo1 := [some (.ref 16), some (.int p1)]) (st1' := [.int p1]) (w1 := (wv x I J)) hC25 1 rfl ?_
    refine wi_lt (tgt := 28) rfl rfl (fun h => ?_) (fun h => ?_)
    · have k := k.1 h
      refine wp_seg (C := gC25) (pc1 := 29) (Lo1 := [some (.ref 16), some (.int p1)]) (st1' := [.int (0 : Int32)]) (w1 := (wv x I J)) hC25 1 rfl ?_
      exact we_i rfl rfl k
    · have k := k.2 h
      refine wp_seg (C := gC25) (pc1 := 13) (Lo1 := [some (.ref 16), some (.int p1)]) (st1' := [.ref 16, .int p1]) (w1 := (wv x I J)) hC25 2 rfl ?_
      refine cv_I (mj := 23) (a := 16) (as := []) (r := [.int p1]) rfl rfl rfl ⟨rfl, by decide, Nat.le_of_ble_eq_true rfl, Nat.le_of_ble_eq_true rfl⟩ rfl (wcI_mono k (fun r1 I1 J1 k => ?_))
      refine wj_ge (tgt := 28) rfl rfl (fun h => ?_) (fun h => ?_)
      · have k := k.1 h
        refine wp_seg (C := gC25) (pc1 := 24) (Lo1 := [some (.ref 16), some (.int p1)]) (st1' := [.int (I1 16 1), .int p1]) (w1 := (wv x I1 J1)) hC25 3 rfl ?_
        refine wd_i rfl k.1 ?_
        have k := k.2
        refine wp_seg (C := gC25) (pc1 := 29) (Lo1 := [some (.ref 16), some (.int p1)]) (st1' := [.int (p1 / (I1 16 1))]) (w1 := (wv x I1 J1)) hC25 1 rfl ?_
        exact we_i rfl rfl k
      · have k := k.2 h
        refine wp_seg (C := gC25) (pc1 := 29) (Lo1 := [some (.ref 16), some (.int p1)]) (st1' := [.int (0 : Int32)]) (w1 := (wv x I1 J1)) hC25 1 rfl ?_
        exact we_i rfl rfl k
  · have k := k.2 h
    refine wp_seg (C := gC25) (pc1 := 29) (Lo1 := [some (.ref 16), some (.int p1)]) (st1' := [.int (0 : Int32)]) (w1 := (wv x I J)) hC25 1 rfl ?_
    exact we_i rfl rfl k
set_option maxRecDepth 20000 in
theorem v34_16_0 {S : Nat × (Nat → Int32)} {d : Nat} {x : mX} {I : rI0} {J : rJ0} {p1 : Int32} {p2 : Int32} {p3 : Int32} {Q : Int64 → rI0 → rJ0 → Prop} (k : ((p1 < (0 : Int32) → Q (0 : Int64) I J) ∧ (¬ p1 < (0 : Int32) → ((p1 < (I 16 0) → wp S (d + 1) 34 40 [some (.ref 16), some (.int p1), some (.int p2), some (.int p3), some (.long (0 : Int64)), none, some (.int (if (p2 + p3) < ((I 16 1) - (1 : Int32)) then p2 + p3 else (I 16 1) - (1 : Int32))), some (.int (if (0 : Int32) < (p2 - p3) then p2 - p3 else (0 : Int32)))] [] (wv x I J) (rJ x Q)) ∧ (¬ p1 < (I 16 0) → Q (0 : Int64) I J))))) : wp S (d + 1) 34 0 [some (.ref 16), some (.int p1), some (.int p2), some (.int p3), none, none, none, none] [] (wv x I J) (rJ x Q) := by
  refine wp_seg (C := gC34) (pc1 := 1) (Lo1 := [some (.ref 16), some (.int p1), some (.int p2), some (.int p3), none, none, none, none]) (st1' := [.int p1]) (w1 := (wv x I J)) hC34 1 rfl ?_
  refine wi_lt (tgt := 12) rfl rfl (fun h => ?_) (fun h => ?_)
  · have k := k.1 h
    refine wp_seg (C := gC34) (pc1 := 13) (Lo1 := [some (.ref 16), some (.int p1), some (.int p2), some (.int p3), none, none, none, none]) (st1' := [.long (0 : Int64)]) (w1 := (wv x I J)) hC34 1 rfl ?_
    exact we_l rfl rfl k
  · have k := k.2 h
    refine wp_seg (C := gC34) (pc1 := 9) (Lo1 := [some (.ref 16), some (.int p1), some (.int p2), some (.int p3), none, none, none, none]) (st1' := [.int (I 16 0), .int p1]) (w1 := (wv x I J)) hC34 3 rfl ?_
    refine wj_lt (tgt := 14) rfl rfl (fun h => ?_) (fun h => ?_)
    · have k := k.1 h
      refine wp_seg (C := gC34) (pc1 := 26) (Lo1 := [some (.ref 16), some (.int p1), some (.int p2), some (.int p3), some (.long (0 : Int64)), none, none, none]) (st1' := [.int (p2 + p3), .int ((I 16 1) - (1 : Int32))]) (w1 := (wv x I J)) hC34 9 rfl ?_
      refine wm_2 (f := fun x y => if y < x then y else x) rfl rfl (Or.inr ⟨rfl, rfl⟩) (Nat.le_of_ble_eq_true rfl) ?_
      refine wp_seg (C := gC34) (pc1 := 35) (Lo1 := [some (.ref 16), some (.int p1), some (.int p2), some (.int p3), some (.long (0 : Int64)), none, some (.int (if (p2 + p3) < ((I 16 1) - (1 : Int32)) then p2 + p3 else (I 16 1) - (1 : Int32))), none]) (st1' := [.int (p2 - p3), .int (0 : Int32)]) (w1 := (wv x I J)) hC34 5 rfl ?_
      refine wm_2 (f := fun x y => if x < y then y else x) rfl rfl (Or.inl ⟨rfl, rfl⟩) (Nat.le_of_ble_eq_true rfl) ?_
      refine wp_seg (C := gC34) (pc1 := 40) (Lo1 := [some (.ref 16), some (.int p1), some (.int p2), some (.int p3), some (.long (0 : Int64)), none, some (.int (if (p2 + p3) < ((I 16 1) - (1 : Int32)) then p2 + p3 else (I 16 1) - (1 : Int32))), some (.int (if (0 : Int32) < (p2 - p3) then p2 - p3 else (0 : Int32)))]) (st1' := []) (w1 := (wv x I J)) hC34 1 rfl ?_
      exact k
    · have k := k.2 h
      refine wp_seg (C := gC34) (pc1 := 13) (Lo1 := [some (.ref 16), some (.int p1), some (.int p2), some (.int p3), none, none, none, none]) (st1' := [.long (0 : Int64)]) (w1 := (wv x I J)) hC34 1 rfl ?_
      exact we_l rfl rfl k
set_option maxRecDepth 20000 in
theorem v34_16_40 {S : Nat × (Nat → Int32)} {d : Nat} {x : mX} {I : rI0} {J : rJ0} {l1 : Int32} {l2 : Int32} {l3 : Int32} {l4 : Int64} {l6 : Int32} {l7 : Int32} {Q : Int64 → rI0 → rJ0 → Prop} (k : ((l6 < l7 → Q (l4 &&& (J 16 5)) I J) ∧ (¬ l6 < l7 → wp S (d + 1) 34 40 [some (.ref 16), some (.int l1), some (.int l2), some (.int l3), some (.long (l4 ||| ((1 : Int64) <<< (((l1 * (I 16 1)) + l7).toInt64 &&& 63)))), none, some (.int l6), some (.int (l7 + (1 : Int32)))] [] (wv x I J) (rJ x Q)))) : wp S (d + 1) 34 40 [some (.ref 16), some (.int l1), some (.int l2), some (.int l3), some (.long l4), none, some (.int l6), some (.int l7)] [] (wv x I J) (rJ x Q) := by
  refine wp_seg (C := gC34) (pc1 := 44) (Lo1 := [some (.ref 16), some (.int l1), some (.int l2), some (.int l3), some (.long l4), none, some (.int l6), some (.int l7)]) (st1' := [.int l6, .int l7]) (w1 := (wv x I J)) hC34 2 rfl ?_
  refine wj_gt (tgt := 69) rfl rfl (fun h => ?_) (fun h => ?_)
  · have k := k.1 h
    refine wp_seg (C := gC34) (pc1 := 76) (Lo1 := [some (.ref 16), some (.int l1), some (.int l2), some (.int l3), some (.long l4), none, some (.int l6), some (.int l7)]) (st1' := [.long (l4 &&& (J 16 5))]) (w1 := (wv x I J)) hC34 4 rfl ?_
    exact we_l rfl rfl k
  · have k := k.2 h
    refine wp_seg (C := gC34) (pc1 := 66) (Lo1 := [some (.ref 16), some (.int l1), some (.int l2), some (.int l3), some (.long (l4 ||| ((1 : Int64) <<< (((l1 * (I 16 1)) + l7).toInt64 &&& 63)))), none, some (.int l6), some (.int (l7 + (1 : Int32)))]) (st1' := []) (w1 := (wv x I J)) hC34 12 rfl ?_
    refine wp_seg (C := gC34) (pc1 := 40) (Lo1 := [some (.ref 16), some (.int l1), some (.int l2), some (.int l3), some (.long (l4 ||| ((1 : Int64) <<< (((l1 * (I 16 1)) + l7).toInt64 &&& 63)))), none, some (.int l6), some (.int (l7 + (1 : Int32)))]) (st1' := []) (w1 := (wv x I J)) hC34 1 rfl ?_
    exact k
set_option maxRecDepth 20000 in
theorem v73_28_1000004_0 {S : Nat × (Nat → Int32)} {d : Nat} {x : mX} {I : rI0} {J : rJ0} {Q : Int32 → rI0 → rJ0 → Prop} (k : (((I 28 3) = (2 : Int32) → wp S (d + 7) 73 12 [some (.ref 28), some (.ref 1000004), some (.int (0 : Int32))] [] (wv x I J) (rI x Q)) ∧ (¬ (I 28 3) = (2 : Int32) → Q (-1 : Int32) I J))) : wp S (d + 7) 73 0 [some (.ref 28), some (.ref 1000004), none] [] (wv x I J) (rI x Q) := by
  refine wp_seg (C := gC73) (pc1 := 5) (Lo1 := [some (.ref 28), some (.ref 1000004), none]) (st1' := [.int (2 : Int32), .int (I 28 3)]) (w1 := (wv x I J)) hC73 3 rfl ?_
  refine wj_eq (tgt := 10) rfl rfl (fun h => ?_) (fun h => ?_)
  · have k := k.1 h
    refine wp_seg (C := gC73) (pc1 := 12) (Lo1 := [some (.ref 28), some (.ref 1000004), some (.int (0 : Int32))]) (st1' := []) (w1 := (wv x I J)) hC73 2 rfl ?_
    exact k
  · have k := k.2 h
    refine wp_seg (C := gC73) (pc1 := 9) (Lo1 := [some (.ref 28), some (.ref 1000004), none]) (st1' := [.int (-1 : Int32)]) (w1 := (wv x I J)) hC73 1 rfl ?_
    exact we_i rfl rfl k
set_option maxRecDepth 20000 in
theorem v73_28_1000004_12 {S : Nat × (Nat → Int32)} {d : Nat} {x : mX} {I : rI0} {J : rJ0} {l2 : Int32} {Q : Int32 → rI0 → rJ0 → Prop} (k : (((8 : Int32) < (l2 + (8 : Int32)) → Q (-1 : Int32) I J) ∧ (¬ (8 : Int32) < (l2 + (8 : Int32)) → (wcI S (d + 6) 74 [.ref 28, .ref 1000004, .int l2] x I J (fun r1 I1 J1 => ((r1 = (0 : Int32) → wp S (d + 7) 73 12 [some (.ref 28), some (.ref 1000004), some (.int (l2 + (8 : Int32)))] [] (wv x I1 J1) (rI x Q)) ∧ (¬ r1 = (0 : Int32) → (¬ (8 : Int32) = 0 ∧ Q (l2 / (8 : Int32)) I1 J1)))))))) : wp S (d + 7) 73 12 [some (.ref 28), some (.ref 1000004), some (.int l2)] [] (wv x I J) (rI x Q) := by
  refine wp_seg (C := gC73) (pc1 := 17) (Lo1 := [some (.ref 28), some (.ref 1000004), some (.int l2)]) (st1' := [.ref 1000004, .int (l2 + (8 : Int32))]) (w1 := (wv x I J)) hC73 4 rfl ?_
  refine wq_sln (v := (8 : Int32)) rfl rfl (by decide) (Nat.le_of_ble_eq_true rfl) (by decide +kernel) ?_
  refine wj_gt (tgt := 43) rfl rfl (fun h => ?_) (fun h => ?_)
  · have k := k.1 h
    refine wp_seg (C := gC73) (pc1 := 44) (Lo1 := [some (.ref 28), some (.ref 1000004), some (.int l2)]) (st1' := [.int (-1 : Int32)]) (w1 := (wv x I J)) hC73 1 rfl ?_
    exact we_i rfl rfl k
  · have k := k.2 h
    refine wp_seg (C := gC73) (pc1 := 26) (Lo1 := [some (.ref 28), some (.ref 1000004), some (.int l2)]) (st1' := [.int l2, .ref 1000004, .ref 28]) (w1 := (wv x I J)) hC73 3 rfl ?_
    refine cv_I (mj := 74) (a := 28) (as := [.ref 1000004, .int l2]) (r := []) rfl rfl rfl ⟨rfl, by decide, Nat.le_of_ble_eq_true rfl, Nat.le_of_ble_eq_true rfl⟩ rfl (wcI_mono k (fun r1 I1 J1 k => ?_))
    refine wi_eq (tgt := 37) rfl rfl (fun h => ?_) (fun h => ?_)
    · have k := k.1 h
      refine wp_seg (C := gC73) (pc1 := 12) (Lo1 := [some (.ref 28), some (.ref 1000004), some (.int (l2 + (8 : Int32)))]) (st1' := []) (w1 := (wv x I1 J1)) hC73 2 rfl ?_
      exact k
    · have k := k.2 h
      refine wp_seg (C := gC73) (pc1 := 35) (Lo1 := [some (.ref 28), some (.ref 1000004), some (.int l2)]) (st1' := [.int (8 : Int32), .int l2]) (w1 := (wv x I1 J1)) hC73 2 rfl ?_
      refine wd_i rfl k.1 ?_
      have k := k.2
      exact we_i rfl rfl k
set_option maxRecDepth 20000 in
theorem v73_28_1000005_0 {S : Nat × (Nat → Int32)} {d : Nat} {x : mX} {I : rI0} {J : rJ0} {Q : Int32 → rI0 → rJ0 → Prop} (k : (((I 28 3) = (2 : Int32) → wp S (d + 7) 73 12 [some (.ref 28), some (.ref 1000005), some (.int (0 : Int32))] [] (wv x I J) (rI x Q)) ∧ (¬ (I 28 3) = (2 : Int32) → Q (-1 : Int32) I J))) : wp S (d + 7) 73 0 [some (.ref 28), some (.ref 1000005), none] [] (wv x I J) (rI x Q) := by
  refine wp_seg (C := gC73) (pc1 := 5) (Lo1 := [some (.ref 28), some (.ref 1000005), none]) (st1' := [.int (2 : Int32), .int (I 28 3)]) (w1 := (wv x I J)) hC73 3 rfl ?_
  refine wj_eq (tgt := 10) rfl rfl (fun h => ?_) (fun h => ?_)
  · have k := k.1 h
    refine wp_seg (C := gC73) (pc1 := 12) (Lo1 := [some (.ref 28), some (.ref 1000005), some (.int (0 : Int32))]) (st1' := []) (w1 := (wv x I J)) hC73 2 rfl ?_
    exact k
  · have k := k.2 h
    refine wp_seg (C := gC73) (pc1 := 9) (Lo1 := [some (.ref 28), some (.ref 1000005), none]) (st1' := [.int (-1 : Int32)]) (w1 := (wv x I J)) hC73 1 rfl ?_
    exact we_i rfl rfl k
set_option maxRecDepth 20000 in
theorem v73_28_1000005_12 {S : Nat × (Nat → Int32)} {d : Nat} {x : mX} {I : rI0} {J : rJ0} {l2 : Int32} {Q : Int32 → rI0 → rJ0 → Prop} (k : (((32 : Int32) < (l2 + (8 : Int32)) → Q (-1 : Int32) I J) ∧ (¬ (32 : Int32) < (l2 + (8 : Int32)) → (wcI S (d + 6) 74 [.ref 28, .ref 1000005, .int l2] x I J (fun r1 I1 J1 => ((r1 = (0 : Int32) → wp S (d + 7) 73 12 [some (.ref 28), some (.ref 1000005), some (.int (l2 + (8 : Int32)))] [] (wv x I1 J1) (rI x Q)) ∧ (¬ r1 = (0 : Int32) → (¬ (8 : Int32) = 0 ∧ Q (l2 / (8 : Int32)) I1 J1)))))))) : wp S (d + 7) 73 12 [some (.ref 28), some (.ref 1000005), some (.int l2)] [] (wv x I J) (rI x Q) := by
  refine wp_seg (C := gC73) (pc1 := 17) (Lo1 := [some (.ref 28), some (.ref 1000005), some (.int l2)]) (st1' := [.ref 1000005, .int (l2 + (8 : Int32))]) (w1 := (wv x I J)) hC73 4 rfl ?_
  refine wq_sln (v := (32 : Int32)) rfl rfl (by decide) (Nat.le_of_ble_eq_true rfl) (by decide +kernel) ?_
  refine wj_gt (tgt := 43) rfl rfl (fun h => ?_) (fun h => ?_)
  · have k := k.1 h
    refine wp_seg (C := gC73) (pc1 := 44) (Lo1 := [some (.ref 28), some (.ref 1000005), some (.int l2)]) (st1' := [.int (-1 : Int32)]) (w1 := (wv x I J)) hC73 1 rfl ?_
    exact we_i rfl rfl k
  · have k := k.2 h
    refine wp_seg (C := gC73) (pc1 := 26) (Lo1 := [some (.ref 28), some (.ref 1000005), some (.int l2)]) (st1' := [.int l2, .ref 1000005, .ref 28]) (w1 := (wv x I J)) hC73 3 rfl ?_
    refine cv_I (mj := 74) (a := 28) (as := [.ref 1000005, .int l2]) (r := []) rfl rfl rfl ⟨rfl, by decide, Nat.le_of_ble_eq_true rfl, Nat.le_of_ble_eq_true rfl⟩ rfl (wcI_mono k (fun r1 I1 J1 k => ?_))
    refine wi_eq (tgt := 37) rfl rfl (fun h => ?_) (fun h => ?_)
    · have k := k.1 h
      refine wp_seg (C := gC73) (pc1 := 12) (Lo1 := [some (.ref 28), some (.ref 1000005), some (.int (l2 + (8 : Int32)))]) (st1' := []) (w1 := (wv x I1 J1)) hC73 2 rfl ?_
      exact k
    · have k := k.2 h
      refine wp_seg (C := gC73) (pc1 := 35) (Lo1 := [some (.ref 28), some (.ref 1000005), some (.int l2)]) (st1' := [.int (8 : Int32), .int l2]) (w1 := (wv x I1 J1)) hC73 2 rfl ?_
      refine wd_i rfl k.1 ?_
      have k := k.2
      exact we_i rfl rfl k
set_option maxRecDepth 20000 in
theorem v4_30_0 {S : Nat × (Nat → Int32)} {d : Nat} {x : mX} {I : rI0} {J : rJ0} {p1 : Int32} {Q : Int32 → rI0 → rJ0 → Prop} (k : (wcI S d 77 [.ref 28, .int (0 : Int32), .int ((I 4 0) - (1 : Int32))] x I J (fun r1 I1 J1 => ((r1 = (0 : Int32) → Q (0 : Int32) I1 J1) ∧ (¬ r1 = (0 : Int32) → (wcI S d 76 [.ref 28, .int (0 : Int32), .int ((I1 4 1) - (1 : Int32))] x I1 J1 (fun r2 I2 J2 => ((r2 = (0 : Int32) → Q (0 : Int32) I2 J2) ∧ (¬ r2 = (0 : Int32) → (wcI S d 24 [.ref 4, .int (((I1 28 7) * (I2 4 1)) + (I2 28 6))] x I2 J2 (fun r3 I3 J3 => ((r3 = (0 : Int32) → (wcI S d 75 [.ref 28, .int (2 : Int32)] x I3 J3 (fun r4 I4 J4 => ((r4 = 0 ∨ r4 = 1) ∧ Q r4 I4 J4)))) ∧ (¬ r3 = (0 : Int32) → (¬ mOut p1 30 ∧ (wcV S d 70 [.ref 28] x (mSet I3 26 p1.toNatClampNeg (((I1 28 7) * (I2 4 1)) + (I2 28 6))) J3 (fun I5 J5 => Q (1 : Int32) I5 J5)))))))))))))))) : wp S (d + 1) 4 0 [some (.ref 30), some (.int p1), none, none] [] (wv x I J) (rI x Q) := by
  refine wp_seg (C := gC4) (pc1 := 14) (Lo1 := [some (.ref 30), some (.int p1), none, none]) (st1' := [.int ((I 4 0) - (1 : Int32)), .int (0 : Int32), .ref 28]) (w1 := (wv x I J)) hC4 8 rfl ?_
  refine cv_I (mj := 77) (a := 28) (as := [.int (0 : Int32), .int ((I 4 0) - (1 : Int32))]) (r := []) rfl rfl rfl ⟨rfl, by decide, Nat.le_of_ble_eq_true rfl, Nat.le_of_ble_eq_true rfl⟩ rfl (wcI_mono k (fun r1 I1 J1 k => ?_))
  refine wi_ne (tgt := 22) rfl rfl (fun h => ?_) (fun h => ?_)
  · have k := k.1 h
    refine wp_seg (C := gC4) (pc1 := 21) (Lo1 := [some (.ref 30), some (.int p1), none, none]) (st1' := [.int (0 : Int32)]) (w1 := (wv x I1 J1)) hC4 1 rfl ?_
    exact we_z rfl rfl (Or.inl rfl) k
  · have k := k.2 h
    refine wp_seg (C := gC4) (pc1 := 44) (Lo1 := [some (.ref 30), some (.int p1), some (.int (I1 28 7)), none]) (st1' := [.int ((I1 4 1) - (1 : Int32)), .int (0 : Int32), .ref 28]) (w1 := (wv x I1 J1)) hC4 12 rfl ?_
    refine cv_I (mj := 76) (a := 28) (as := [.int (0 : Int32), .int ((I1 4 1) - (1 : Int32))]) (r := []) rfl rfl rfl ⟨rfl, by decide, Nat.le_of_ble_eq_true rfl, Nat.le_of_ble_eq_true rfl⟩ rfl (wcI_mono k (fun r2 I2 J2 k => ?_))
    refine wi_ne (tgt := 52) rfl rfl (fun h => ?_) (fun h => ?_)
    · have k := k.1 h
      refine wp_seg (C := gC4) (pc1 := 51) (Lo1 := [some (.ref 30), some (.int p1), some (.int (I1 28 7)), none]) (st1' := [.int (0 : Int32)]) (w1 := (wv x I2 J2)) hC4 1 rfl ?_
      exact we_z rfl rfl (Or.inl rfl) k
    · have k := k.2 h
      refine wp_seg (C := gC4) (pc1 := 74) (Lo1 := [some (.ref 30), some (.int p1), some (.int (I1 28 7)), some (.int (((I1 28 7) * (I2 4 1)) + (I2 28 6)))]) (st1' := [.ref 4]) (w1 := (wv x I2 J2)) hC4 12 rfl ?_
      refine wp_seg (C := gC4) (pc1 := 75) (Lo1 := [some (.ref 30), some (.int p1), some (.int (I1 28 7)), some (.int (((I1 28 7) * (I2 4 1)) + (I2 28 6)))]) (st1' := [.int (((I1 28 7) * (I2 4 1)) + (I2 28 6)), .ref 4]) (w1 := (wv x I2 J2)) hC4 1 rfl ?_
      refine cv_I (mj := 24) (a := 4) (as := [.int (((I1 28 7) * (I2 4 1)) + (I2 28 6))]) (r := []) rfl rfl rfl ⟨rfl, by decide, Nat.le_of_ble_eq_true rfl, Nat.le_of_ble_eq_true rfl⟩ rfl (wcI_mono k (fun r3 I3 J3 k => ?_))
      refine wi_ne (tgt := 90) rfl rfl (fun h => ?_) (fun h => ?_)
      · have k := k.1 h
        refine wp_seg (C := gC4) (pc1 := 86) (Lo1 := [some (.ref 30), some (.int p1), some (.int (I1 28 7)), some (.int (((I1 28 7) * (I2 4 1)) + (I2 28 6)))]) (st1' := [.int (2 : Int32), .ref 28]) (w1 := (wv x I3 J3)) hC4 3 rfl ?_
        refine cv_I (mj := 75) (a := 28) (as := [.int (2 : Int32)]) (r := []) rfl rfl rfl ⟨rfl, by decide, Nat.le_of_ble_eq_true rfl, Nat.le_of_ble_eq_true rfl⟩ rfl (wcI_mono k (fun r4 I4 J4 k => ?_))
        exact we_z rfl rfl k.1 k.2
      · have k := k.2 h
        refine wp_seg (C := gC4) (pc1 := 99) (Lo1 := [some (.ref 30), some (.int p1), some (.int (I1 28 7)), some (.int (((I1 28 7) * (I2 4 1)) + (I2 28 6)))]) (st1' := [.int (((I1 28 7) * (I2 4 1)) + (I2 28 6)), .int p1, .ref 26]) (w1 := (wv x I3 J3)) hC4 5 rfl ?_
        refine ws_i (n := 30) rfl rfl k.1 ?_
        have k := k.2
        refine wp_seg (C := gC4) (pc1 := 104) (Lo1 := [some (.ref 30), some (.int p1), some (.int (I1 28 7)), some (.int (((I1 28 7) * (I2 4 1)) + (I2 28 6)))]) (st1' := [.ref 28]) (w1 := (wv x (mSet I3 26 p1.toNatClampNeg (((I1 28 7) * (I2 4 1)) + (I2 28 6))) J3)) hC4 2 rfl ?_
        refine cv_V (mj := 70) (a := 28) (as := []) (r := []) rfl rfl rfl ⟨rfl, by decide, Nat.le_of_ble_eq_true rfl, Nat.le_of_ble_eq_true rfl⟩ rfl (wcV_mono k (fun I5 J5 k => ?_))
        refine wp_seg (C := gC4) (pc1 := 108) (Lo1 := [some (.ref 30), some (.int p1), some (.int (I1 28 7)), some (.int (((I1 28 7) * (I2 4 1)) + (I2 28 6)))]) (st1' := [.int (1 : Int32)]) (w1 := (wv x I5 J5)) hC4 1 rfl ?_
        exact we_z rfl rfl (Or.inr rfl) k
set_option maxRecDepth 20000 in
theorem v56_36_0 {S : Nat × (Nat → Int32)} {d : Nat} {x : mX} {I : rI0} {J : rJ0} {Q : Int32 → rI0 → rJ0 → Prop} (k : wp S (d + 1) 56 2 [some (.ref 36), some (.int (0 : Int32)), none, none] [] (wv x I J) (rI x Q)) : wp S (d + 1) 56 0 [some (.ref 36), none, none, none] [] (wv x I J) (rI x Q) := by
  refine wp_seg (C := gC56) (pc1 := 2) (Lo1 := [some (.ref 36), some (.int (0 : Int32)), none, none]) (st1' := []) (w1 := (wv x I J)) hC56 2 rfl ?_
  exact k
set_option maxRecDepth 20000 in
theorem v56_36_2 {S : Nat × (Nat → Int32)} {d : Nat} {x : mX} {I : rI0} {J : rJ0} {l1 : Int32} {Q : Int32 → rI0 → rJ0 → Prop} (k : (((I 36 3) < (I 3 4) → (((I 36 3) < (30 : Int32) → (¬ mOut (I 36 3) 30 ∧ (((I 36 2) < (I 12 ((I 36 3).toNatClampNeg)) → ((l1 = 0 ∨ l1 = 1) ∧ Q l1 I J)) ∧ (¬ (I 36 2) < (I 12 ((I 36 3).toNatClampNeg)) → (¬ mOut (I 36 3) 30 ∧ (((I 13 ((I 36 3).toNatClampNeg)) = (3 : Int32) → wp S (d + 1) 56 2 [some (.ref 36), some (.int (1 : Int32)), none, none] [] (wv x (mSet I 36 3 ((I 36 3) + (1 : Int32))) J) (rI x Q)) ∧ (¬ (I 13 ((I 36 3).toNatClampNeg)) = (3 : Int32) → (¬ mOut (I 36 3) 30 ∧ (((I 13 ((I 36 3).toNatClampNeg)) = (0 : Int32) → wp S (d + 1) 56 95 [some (.ref 36), some (.int l1), some (.int (I 13 ((I 36 3).toNatClampNeg))), some (.int (I 14 ((I 36 3).toNatClampNeg)))] [.int (1 : Int32), .int (I 14 ((I 36 3).toNatClampNeg)), .long (J 36 5), .ref 36] (wv x I J) (rI x Q)) ∧ (¬ (I 13 ((I 36 3).toNatClampNeg)) = (0 : Int32) → wp S (d + 1) 56 95 [some (.ref 36), some (.int l1), some (.int (I 13 ((I 36 3).toNatClampNeg))), some (.int (I 14 ((I 36 3).toNatClampNeg)))] [.int (0 : Int32), .int (I 14 ((I 36 3).toNatClampNeg)), .long (J 36 5), .ref 36] (wv x I J) (rI x Q))))))))))) ∧ (¬ (I 36 3) < (30 : Int32) → ((l1 = 0 ∨ l1 = 1) ∧ Q l1 I J)))) ∧ (¬ (I 36 3) < (I 3 4) → ((l1 = 0 ∨ l1 = 1) ∧ Q l1 I J)))) : wp S (d + 1) 56 2 [some (.ref 36), some (.int l1), none, none] [] (wv x I J) (rI x Q) := by
  refine wp_seg (C := gC56) (pc1 := 13) (Lo1 := [some (.ref 36), some (.int l1), none, none]) (st1' := [.int (I 3 4), .int (I 36 3)]) (w1 := (wv x I J)) hC56 5 rfl ?_
  refine wj_ge (tgt := 136) rfl rfl (fun h => ?_) (fun h => ?_)
  · have k := k.1 h
    refine wp_seg (C := gC56) (pc1 := 22) (Lo1 := [some (.ref 36), some (.int l1), none, none]) (st1' := [.int (30 : Int32), .int (I 36 3)]) (w1 := (wv x I J)) hC56 3 rfl ?_
    refine wj_ge (tgt := 136) rfl rfl (fun h => ?_) (fun h => ?_)
    · have k := k.1 h
      refine wp_seg (C := gC56) (pc1 := 36) (Lo1 := [some (.ref 36), some (.int l1), none, none]) (st1' := [.int (I 36 3), .ref 12]) (w1 := (wv x I J)) hC56 5 rfl ?_
      refine wa_i (n := 30) rfl (by decide) rfl k.1 ?_
      have k := k.2
      refine wp_seg (C := gC56) (pc1 := 41) (Lo1 := [some (.ref 36), some (.int l1), none, none]) (st1' := [.int (I 36 2), .int (I 12 ((I 36 3).toNatClampNeg))]) (w1 := (wv x I J)) hC56 2 rfl ?_
      refine wj_gt (tgt := 136) rfl rfl (fun h => ?_) (fun h => ?_)
      · have k := k.1 h
        refine wp_seg (C := gC56) (pc1 := 137) (Lo1 := [some (.ref 36), some (.int l1), none, none]) (st1' := [.int l1]) (w1 := (wv x I J)) hC56 1 rfl ?_
        exact we_z rfl rfl k.1 k.2
      · have k := k.2 h
        refine wp_seg (C := gC56) (pc1 := 55) (Lo1 := [some (.ref 36), some (.int l1), none, none]) (st1' := [.int (I 36 3), .ref 13]) (w1 := (wv x I J)) hC56 5 rfl ?_
        refine wa_i (n := 30) rfl (by decide) rfl k.1 ?_
        have k := k.2
        refine wp_seg (C := gC56) (pc1 := 59) (Lo1 := [some (.ref 36), some (.int l1), some (.int (I 13 ((I 36 3).toNatClampNeg))), none]) (st1' := [.int (3 : Int32), .int (I 13 ((I 36 3).toNatClampNeg))]) (w1 := (wv x I J)) hC56 3 rfl ?_
        refine wj_ne (tgt := 67) rfl rfl (fun h => ?_) (fun h => ?_)
        · have k := k.1 h
          refine wp_seg (C := gC56) (pc1 := 2) (Lo1 := [some (.ref 36), some (.int (1 : Int32)), some (.int (I 13 ((I 36 3).toNatClampNeg))), none]) (st1' := []) (w1 := (wv x (mSet I 36 3 ((I 36 3) + (1 : Int32))) J)) hC56 10 rfl ?_
          exact wp_sub (Lo := [some (.ref 36), some (.int (1 : Int32)), none, none]) (And.intro rfl (And.intro rfl (trivial))) k
        · have k := k.2 h
          refine wp_seg (C := gC56) (pc1 := 78) (Lo1 := [some (.ref 36), some (.int l1), some (.int (I 13 ((I 36 3).toNatClampNeg))), none]) (st1' := [.int (I 36 3), .ref 14]) (w1 := (wv x I J)) hC56 5 rfl ?_
          refine wa_i (n := 30) rfl (by decide) rfl k.1 ?_
          have k := k.2
          refine wp_seg (C := gC56) (pc1 := 87) (Lo1 := [some (.ref 36), some (.int l1), some (.int (I 13 ((I 36 3).toNatClampNeg))), some (.int (I 14 ((I 36 3).toNatClampNeg)))]) (st1' := [.int (I 13 ((I 36 3).toNatClampNeg)), .int (I 14 ((I 36 3).toNatClampNeg)), .long (J 36 5), .ref 36]) (w1 := (wv x I J)) hC56 6 rfl ?_
          refine wi_ne (tgt := 94) rfl rfl (fun h => ?_) (fun h => ?_)
          · have k := k.1 h
            refine wp_seg (C := gC56) (pc1 := 95) (Lo1 := [some (.ref 36), some (.int l1), some (.int (I 13 ((I 36 3).toNatClampNeg))), some (.int (I 14 ((I 36 3).toNatClampNeg)))]) (st1' := [.int (1 : Int32), .int (I 14 ((I 36 3).toNatClampNeg)), .long (J 36 5), .ref 36]) (w1 := (wv x I J)) hC56 2 rfl ?_
            exact k
          · have k := k.2 h
            refine wp_seg (C := gC56) (pc1 := 95) (Lo1 := [some (.ref 36), some (.int l1), some (.int (I 13 ((I 36 3).toNatClampNeg))), some (.int (I 14 ((I 36 3).toNatClampNeg)))]) (st1' := [.int (0 : Int32), .int (I 14 ((I 36 3).toNatClampNeg)), .long (J 36 5), .ref 36]) (w1 := (wv x I J)) hC56 1 rfl ?_
            exact k
    · have k := k.2 h
      refine wp_seg (C := gC56) (pc1 := 137) (Lo1 := [some (.ref 36), some (.int l1), none, none]) (st1' := [.int l1]) (w1 := (wv x I J)) hC56 1 rfl ?_
      exact we_z rfl rfl k.1 k.2
  · have k := k.2 h
    refine wp_seg (C := gC56) (pc1 := 137) (Lo1 := [some (.ref 36), some (.int l1), none, none]) (st1' := [.int l1]) (w1 := (wv x I J)) hC56 1 rfl ?_
    exact we_z rfl rfl k.1 k.2
set_option maxRecDepth 20000 in
theorem v56_36_95 {S : Nat × (Nat → Int32)} {d : Nat} {x : mX} {I : rI0} {J : rJ0} {l1 : Int32} {l2 : Int32} {l3 : Int32} {s1 : Int64} {s2 : Int32} {s3 : Int32} {Q : Int32 → rI0 → rJ0 → Prop} (k : (wcJ S d 143 [.long s1, .int s2, .int s3] x I J (fun r1 I1 J1 => ((l2 = (1 : Int32) → (wcJ S d 143 [.long (J1 36 6), .int l3, .int (1 : Int32)] x I1 (mSet J1 36 5 r1) (fun r2 I2 J2 => wp S (d + 1) 56 2 [some (.ref 36), some (.int l1), none, none] [] (wv x (mSet I2 36 3 ((I2 36 3) + (1 : Int32))) (mSet J2 36 6 r2)) (rI x Q)))) ∧ (¬ l2 = (1 : Int32) → (wcJ S d 143 [.long (J1 36 6), .int l3, .int (0 : Int32)] x I1 (mSet J1 36 5 r1) (fun r3 I3 J3 => wp S (d + 1) 56 2 [some (.ref 36), some (.int l1), none, none] [] (wv x (mSet I3 36 3 ((I3 36 3) + (1 : Int32))) (mSet J3 36 6 r3)) (rI x Q)))))))) : wp S (d + 1) 56 95 [some (.ref 36), some (.int l1), some (.int l2), some (.int l3)] [.int s3, .int s2, .long s1, .ref 36] (wv x I J) (rI x Q) := by
  refine cs_J (mj := 143) (nn := 1) (as := [.long s1, .int s2, .int s3]) (r := [.ref 36]) rfl rfl rfl ⟨rfl, by decide, Nat.le_of_ble_eq_true rfl, Nat.le_of_ble_eq_true rfl⟩ (by decide) (wcJ_mono k (fun r1 I1 J1 k => ?_))
  refine wp_seg (C := gC56) (pc1 := 109) (Lo1 := [some (.ref 36), some (.int l1), some (.int l2), some (.int l3)]) (st1' := [.int (1 : Int32), .int l2, .int l3, .long (J1 36 6), .ref 36]) (w1 := (wv x I1 (mSet J1 36 5 r1))) hC56 7 rfl ?_
  refine wj_ne (tgt := 116) rfl rfl (fun h => ?_) (fun h => ?_)
  · have k := k.1 h
    refine wp_seg (C := gC56) (pc1 := 117) (Lo1 := [some (.ref 36), some (.int l1), some (.int l2), some (.int l3)]) (st1' := [.int (1 : Int32), .int l3, .long (J1 36 6), .ref 36]) (w1 := (wv x I1 (mSet J1 36 5 r1))) hC56 2 rfl ?_
    refine cs_J (mj := 143) (nn := 1) (as := [.long (J1 36 6), .int l3, .int (1 : Int32)]) (r := [.ref 36]) rfl rfl rfl ⟨rfl, by decide, Nat.le_of_ble_eq_true rfl, Nat.le_of_ble_eq_true rfl⟩ (by decide) (wcJ_mono k (fun r2 I2 J2 k => ?_))
    refine wp_seg (C := gC56) (pc1 := 2) (Lo1 := [some (.ref 36), some (.int l1), some (.int l2), some (.int l3)]) (st1' := []) (w1 := (wv x (mSet I2 36 3 ((I2 36 3) + (1 : Int32))) (mSet J2 36 6 r2))) hC56 8 rfl ?_
    exact wp_sub (Lo := [some (.ref 36), some (.int l1), none, none]) (And.intro rfl (And.intro rfl (trivial))) k
  · have k := k.2 h
    refine wp_seg (C := gC56) (pc1 := 117) (Lo1 := [some (.ref 36), some (.int l1), some (.int l2), some (.int l3)]) (st1' := [.int (0 : Int32), .int l3, .long (J1 36 6), .ref 36]) (w1 := (wv x I1 (mSet J1 36 5 r1))) hC56 1 rfl ?_
    refine cs_J (mj := 143) (nn := 1) (as := [.long (J1 36 6), .int l3, .int (0 : Int32)]) (r := [.ref 36]) rfl rfl rfl ⟨rfl, by decide, Nat.le_of_ble_eq_true rfl, Nat.le_of_ble_eq_true rfl⟩ (by decide) (wcJ_mono k (fun r3 I3 J3 k => ?_))
    refine wp_seg (C := gC56) (pc1 := 2) (Lo1 := [some (.ref 36), some (.int l1), some (.int l2), some (.int l3)]) (st1' := []) (w1 := (wv x (mSet I3 36 3 ((I3 36 3) + (1 : Int32))) (mSet J3 36 6 r3))) hC56 8 rfl ?_
    exact wp_sub (Lo := [some (.ref 36), some (.int l1), none, none]) (And.intro rfl (And.intro rfl (trivial))) k
set_option maxRecDepth 20000 in
theorem v57_36_0 {S : Nat × (Nat → Int32)} {d : Nat} {x : mX} {I : rI0} {J : rJ0} {Q : rI0 → rJ0 → Prop} (k : wp S (d + 1) 57 2 [some (.ref 36), some (.int (0 : Int32))] [] (wv x I J) (rV x Q)) : wp S (d + 1) 57 0 [some (.ref 36), none] [] (wv x I J) (rV x Q) := by
  refine wp_seg (C := gC57) (pc1 := 2) (Lo1 := [some (.ref 36), some (.int (0 : Int32))]) (st1' := []) (w1 := (wv x I J)) hC57 2 rfl ?_
  exact k
set_option maxRecDepth 20000 in
theorem v57_36_2 {S : Nat × (Nat → Int32)} {d : Nat} {x : mX} {I : rI0} {J : rJ0} {l1 : Int32} {Q : rI0 → rJ0 → Prop} (k : ((l1 < (I 4 0) → (¬ mOut l1 8 ∧ (((I 8 l1.toNatClampNeg) = (I 36 2) → (wcJ S d 28 [.ref 4, .int l1] x I J (fun r1 I1 J1 => wp S (d + 1) 57 2 [some (.ref 36), some (.int (l1 + (1 : Int32)))] [] (wv x I1 (mSet J1 36 7 ((J 36 7) ||| r1))) (rV x Q)))) ∧ (¬ (I 8 l1.toNatClampNeg) = (I 36 2) → wp S (d + 1) 57 2 [some (.ref 36), some (.int (l1 + (1 : Int32)))] [] (wv x I J) (rV x Q))))) ∧ (¬ l1 < (I 4 0) → Q I J))) : wp S (d + 1) 57 2 [some (.ref 36), some (.int l1)] [] (wv x I J) (rV x Q) := by
  refine wp_seg (C := gC57) (pc1 := 10) (Lo1 := [some (.ref 36), some (.int l1)]) (st1' := [.int (I 4 0), .int l1]) (w1 := (wv x I J)) hC57 4 rfl ?_
  refine wj_ge (tgt := 52) rfl rfl (fun h => ?_) (fun h => ?_)
  · have k := k.1 h
    refine wp_seg (C := gC57) (pc1 := 21) (Lo1 := [some (.ref 36), some (.int l1)]) (st1' := [.int l1, .ref 8]) (w1 := (wv x I J)) hC57 4 rfl ?_
    refine wa_i (n := 8) rfl (by decide) rfl k.1 ?_
    have k := k.2
    refine wp_seg (C := gC57) (pc1 := 26) (Lo1 := [some (.ref 36), some (.int l1)]) (st1' := [.int (I 36 2), .int (I 8 l1.toNatClampNeg)]) (w1 := (wv x I J)) hC57 2 rfl ?_
    refine wj_ne (tgt := 46) rfl rfl (fun h => ?_) (fun h => ?_)
    · have k := k.1 h
      refine wp_seg (C := gC57) (pc1 := 39) (Lo1 := [some (.ref 36), some (.int l1)]) (st1' := [.int l1, .ref 4, .long (J 36 7), .ref 36]) (w1 := (wv x I J)) hC57 6 rfl ?_
      refine cv_J (mj := 28) (a := 4) (as := [.int l1]) (r := [.long (J 36 7), .ref 36]) rfl rfl rfl ⟨rfl, by decide, Nat.le_of_ble_eq_true rfl, Nat.le_of_ble_eq_true rfl⟩ rfl (wcJ_mono k (fun r1 I1 J1 k => ?_))
      refine wp_seg (C := gC57) (pc1 := 2) (Lo1 := [some (.ref 36), some (.int (l1 + (1 : Int32)))]) (st1' := []) (w1 := (wv x I1 (mSet J1 36 7 ((J 36 7) ||| r1)))) hC57 4 rfl ?_
      exact k
    · have k := k.2 h
      refine wp_seg (C := gC57) (pc1 := 2) (Lo1 := [some (.ref 36), some (.int (l1 + (1 : Int32)))]) (st1' := []) (w1 := (wv x I J)) hC57 2 rfl ?_
      exact k
  · have k := k.2 h
    exact we_v rfl rfl k
set_option maxRecDepth 20000 in
theorem v58_36_0 {S : Nat × (Nat → Int32)} {d : Nat} {x : mX} {I : rI0} {J : rJ0} {Q : Int64 → rI0 → rJ0 → Prop} (k : (((I 4 3) < (I 36 2) → Q (0 : Int64) I J) ∧ (¬ (I 4 3) < (I 36 2) → Q (((J 36 5) &&& ((J 36 6) ^^^ (-1 : Int64))) &&& ((J 36 7) ^^^ (-1 : Int64))) I J))) : wp S d 58 0 [some (.ref 36)] [] (wv x I J) (rJ x Q) := by
  refine wp_seg (C := gC58) (pc1 := 11) (Lo1 := [some (.ref 36)]) (st1' := [.int (I 4 3), .int (I 36 2)]) (w1 := (wv x I J)) hC58 5 rfl ?_
  refine wj_gt (tgt := 39) rfl rfl (fun h => ?_) (fun h => ?_)
  · have k := k.1 h
    refine wp_seg (C := gC58) (pc1 := 40) (Lo1 := [some (.ref 36)]) (st1' := [.long (0 : Int64)]) (w1 := (wv x I J)) hC58 1 rfl ?_
    exact we_l rfl rfl k
  · have k := k.2 h
    refine wp_seg (C := gC58) (pc1 := 36) (Lo1 := [some (.ref 36)]) (st1' := [.long (((J 36 5) &&& ((J 36 6) ^^^ (-1 : Int64))) &&& ((J 36 7) ^^^ (-1 : Int64)))]) (w1 := (wv x I J)) hC58 12 rfl ?_
    refine wp_seg (C := gC58) (pc1 := 40) (Lo1 := [some (.ref 36)]) (st1' := [.long (((J 36 5) &&& ((J 36 6) ^^^ (-1 : Int64))) &&& ((J 36 7) ^^^ (-1 : Int64)))]) (w1 := (wv x I J)) hC58 1 rfl ?_
    exact we_l rfl rfl k
set_option maxRecDepth 20000 in
theorem v59_36_0 {S : Nat × (Nat → Int32)} {d : Nat} {x : mX} {I : rI0} {J : rJ0} {p1 : Int64} {p2 : Int64} {p3 : Int64} {Q : rI0 → rJ0 → Prop} (k : wp S (d + 1) 59 27 [some (.ref 36), some (.long p1), none, some (.long p2), none, some (.long p3), none, some (.long ((p1 &&& (p3 ^^^ (-1 : Int64))) &&& (J 4 5))), none, some (.long (0 : Int64)), none, some (.long (0 : Int64)), none, some (.int (0 : Int32)), none, none, none, none, none] [] (wv x I J) (rV x Q)) : wp S (d + 1) 59 0 [some (.ref 36), some (.long p1), none, some (.long p2), none, some (.long p3), none, none, none, none, none, none, none, none, none, none, none, none, none] [] (wv x I J) (rV x Q) := by
  refine wp_seg (C := gC59) (pc1 := 21) (Lo1 := [some (.ref 36), some (.long p1), none, some (.long p2), none, some (.long p3), none, some (.long ((p1 &&& (p3 ^^^ (-1 : Int64))) &&& (J 4 5))), none, some (.long (0 : Int64)), none, none, none, none, none, none, none, none, none]) (st1' := []) (w1 := (wv x I J)) hC59 12 rfl ?_
  refine wp_seg (C := gC59) (pc1 := 27) (Lo1 := [some (.ref 36), some (.long p1), none, some (.long p2), none, some (.long p3), none, some (.long ((p1 &&& (p3 ^^^ (-1 : Int64))) &&& (J 4 5))), none, some (.long (0 : Int64)), none, some (.long (0 : Int64)), none, some (.int (0 : Int32)), none, none, none, none, none]) (st1' := []) (w1 := (wv x I J)) hC59 4 rfl ?_
  exact k
set_option maxRecDepth 20000 in
theorem v59_36_27 {S : Nat × (Nat → Int32)} {d : Nat} {x : mX} {I : rI0} {J : rJ0} {l1 : Int64} {l3 : Int64} {l5 : Int64} {l7 : Int64} {l9 : Int64} {l11 : Int64} {l13 : Int32} {Q : rI0 → rJ0 → Prop} (k : ((l13 < (6 : Int32) → (¬ mOut l13 6 ∧ (((lg_cmp (l7 &&& (J 6 l13.toNatClampNeg)) (0 : Int64)) = (0 : Int32) → wp S (d + 1) 59 27 [some (.ref 36), some (.long l1), none, some (.long l3), none, some (.long l5), none, some (.long l7), none, some (.long l9), none, some (.long l11), none, some (.int (l13 + (1 : Int32))), none, none, none, none, none] [] (wv x I J) (rV x Q)) ∧ (¬ (lg_cmp (l7 &&& (J 6 l13.toNatClampNeg)) (0 : Int64)) = (0 : Int32) → (¬ mOut ((2 : Int32) * l13) 12 ∧ (wcJ S d 61 [.ref 36, .int (((2 : Int32) * l13) * (20 : Int32)), .int (I 9 (((2 : Int32) * l13).toNatClampNeg)), .long (l7 &&& (J 6 l13.toNatClampNeg)), .int (1 : Int32)] x I J (fun r1 I1 J1 => (¬ mOut (((2 : Int32) * l13) + (1 : Int32)) 12 ∧ (wcJ S d 61 [.ref 36, .int ((((2 : Int32) * l13) + (1 : Int32)) * (20 : Int32)), .int (I1 9 ((((2 : Int32) * l13) + (1 : Int32)).toNatClampNeg)), .long (((l7 &&& (J 6 l13.toNatClampNeg)) &&& (r1 ^^^ (-1 : Int64))) &&& (J1 36 8)), .int (1 : Int32)] x I1 J1 (fun r2 I2 J2 => wp S (d + 1) 59 27 [some (.ref 36), some (.long l1), none, some (.long l3), none, some (.long l5), none, some (.long l7), none, some (.long (l9 ||| r1)), none, some (.long (l11 ||| r2)), none, some (.int (l13 + (1 : Int32))), none, none, none, none, none] [] (wv x I2 J2) (rV x Q))))))))))) ∧ (¬ l13 < (6 : Int32) → Q I (mSet (mSet J 36 8 ((((J 36 8) &&& (l1 ^^^ (-1 : Int64))) ||| ((((J 36 8) ||| l9) &&& ((l11 &&& ((J 36 9) ^^^ (-1 : Int64))) ^^^ (-1 : Int64))) &&& l7)) ||| (l3 &&& l1))) 36 9 ((((J 36 9) &&& (l1 ^^^ (-1 : Int64))) ||| ((((J 36 9) ||| (l9 &&& (J 36 8))) &&& (l11 ^^^ (-1 : Int64))) &&& l7)) ||| (l3 &&& l1)))))) : wp S (d + 1) 59 27 [some (.ref 36), some (.long l1), none, some (.long l3), none, some (.long l5), none, some (.long l7), none, some (.long l9), none, some (.long l11), none, some (.int l13), none, none, none, none, none] [] (wv x I J) (rV x Q) := by
  refine wp_seg (C := gC59) (pc1 := 31) (Lo1 := [some (.ref 36), some (.long l1), none, some (.long l3), none, some (.long l5), none, some (.long l7), none, some (.long l9), none, some (.long l11), none, some (.int l13), none, none, none, none, none]) (st1' := [.int (6 : Int32), .int l13]) (w1 := (wv x I J)) hC59 2 rfl ?_
  refine wj_ge (tgt := 141) rfl rfl (fun h => ?_) (fun h => ?_)
  · have k := k.1 h
    refine wp_seg (C := gC59) (pc1 := 45) (Lo1 := [some (.ref 36), some (.long l1), none, some (.long l3), none, some (.long l5), none, some (.long l7), none, some (.long l9), none, some (.long l11), none, some (.int l13), none, none, none, none, none]) (st1' := [.int l13, .ref 6, .long l7]) (w1 := (wv x I J)) hC59 5 rfl ?_
    refine wa_l (n := 6) rfl rfl k.1 ?_
    have k := k.2
    refine wp_seg (C := gC59) (pc1 := 53) (Lo1 := [some (.ref 36), some (.long l1), none, some (.long l3), none, some (.long l5), none, some (.long l7), none, some (.long l9), none, some (.long l11), none, some (.int l13), some (.long (l7 &&& (J 6 l13.toNatClampNeg))), none, none, none, none]) (st1' := [.int (lg_cmp (l7 &&& (J 6 l13.toNatClampNeg)) (0 : Int64))]) (w1 := (wv x I J)) hC59 5 rfl ?_
    refine wi_eq (tgt := 135) rfl rfl (fun h => ?_) (fun h => ?_)
    · have k := k.1 h
      refine wp_seg (C := gC59) (pc1 := 27) (Lo1 := [some (.ref 36), some (.long l1), none, some (.long l3), none, some (.long l5), none, some (.long l7), none, some (.long l9), none, some (.long l11), none, some (.int (l13 + (1 : Int32))), some (.long (l7 &&& (J 6 l13.toNatClampNeg))), none, none, none, none]) (st1' := []) (w1 := (wv x I J)) hC59 2 rfl ?_
      exact wp_sub (Lo := [some (.ref 36), some (.long l1), none, some (.long l3), none, some (.long l5), none, some (.long l7), none, some (.long l9), none, some (.long l11), none, some (.int (l13 + (1 : Int32))), none, none, none, none, none]) (And.intro rfl (And.intro rfl (And.intro rfl (And.intro rfl (And.intro rfl (And.intro rfl (And.intro rfl (And.intro rfl (trivial))))))))) k
    · have k := k.2 h
      refine wp_seg (C := gC59) (pc1 := 77) (Lo1 := [some (.ref 36), some (.long l1), none, some (.long l3), none, some (.long l5), none, some (.long l7), none, some (.long l9), none, some (.long l11), none, some (.int l13), some (.long (l7 &&& (J 6 l13.toNatClampNeg))), none, some (.int ((2 : Int32) * l13)), none, none]) (st1' := [.int ((2 : Int32) * l13), .ref 9, .int (((2 : Int32) * l13) * (20 : Int32)), .ref 36]) (w1 := (wv x I J)) hC59 12 rfl ?_
      refine wa_i (n := 12) rfl (by decide) rfl k.1 ?_
      have k := k.2
      refine wp_seg (C := gC59) (pc1 := 81) (Lo1 := [some (.ref 36), some (.long l1), none, some (.long l3), none, some (.long l5), none, some (.long l7), none, some (.long l9), none, some (.long l11), none, some (.int l13), some (.long (l7 &&& (J 6 l13.toNatClampNeg))), none, some (.int ((2 : Int32) * l13)), none, none]) (st1' := [.int (1 : Int32), .long (l7 &&& (J 6 l13.toNatClampNeg)), .int (I 9 (((2 : Int32) * l13).toNatClampNeg)), .int (((2 : Int32) * l13) * (20 : Int32)), .ref 36]) (w1 := (wv x I J)) hC59 2 rfl ?_
      refine cv_J (mj := 61) (a := 36) (as := [.int (((2 : Int32) * l13) * (20 : Int32)), .int (I 9 (((2 : Int32) * l13).toNatClampNeg)), .long (l7 &&& (J 6 l13.toNatClampNeg)), .int (1 : Int32)]) (r := []) rfl rfl rfl ⟨rfl, by decide, Nat.le_of_ble_eq_true rfl, Nat.le_of_ble_eq_true rfl⟩ rfl (wcJ_mono k (fun r1 I1 J1 k => ?_))
      refine wp_seg (C := gC59) (pc1 := 89) (Lo1 := [some (.ref 36), some (.long l1), none, some (.long l3), none, some (.long l5), none, some (.long l7), none, some (.long l9), none, some (.long l11), none, some (.int l13), some (.long (l7 &&& (J 6 l13.toNatClampNeg))), none, some (.int (((2 : Int32) * l13) + (1 : Int32))), some (.long r1), none]) (st1' := []) (w1 := (wv x I1 J1)) hC59 2 rfl ?_
      refine wp_seg (C := gC59) (pc1 := 111) (Lo1 := [some (.ref 36), some (.long l1), none, some (.long l3), none, some (.long l5), none, some (.long l7), none, some (.long (l9 ||| r1)), none, some (.long l11), none, some (.int l13), some (.long (l7 &&& (J 6 l13.toNatClampNeg))), none, some (.int (((2 : Int32) * l13) + (1 : Int32))), some (.long r1), none]) (st1' := [.ref 9, .int ((((2 : Int32) * l13) + (1 : Int32)) * (20 : Int32)), .ref 36, .long l11]) (w1 := (wv x I1 J1)) hC59 12 rfl ?_
      refine wp_seg (C := gC59) (pc1 := 113) (Lo1 := [some (.ref 36), some (.long l1), none, some (.long l3), none, some (.long l5), none, some (.long l7), none, some (.long (l9 ||| r1)), none, some (.long l11), none, some (.int l13), some (.long (l7 &&& (J 6 l13.toNatClampNeg))), none, some (.int (((2 : Int32) * l13) + (1 : Int32))), some (.long r1), none]) (st1' := [.int (((2 : Int32) * l13) + (1 : Int32)), .ref 9, .int ((((2 : Int32) * l13) + (1 : Int32)) * (20 : Int32)), .ref 36, .long l11]) (w1 := (wv x I1 J1)) hC59 1 rfl ?_
      refine wa_i (n := 12) rfl (by decide) rfl k.1 ?_
      have k := k.2
      refine wp_seg (C := gC59) (pc1 := 129) (Lo1 := [some (.ref 36), some (.long l1), none, some (.long l3), none, some (.long l5), none, some (.long l7), none, some (.long (l9 ||| r1)), none, some (.long l11), none, some (.int l13), some (.long (l7 &&& (J 6 l13.toNatClampNeg))), none, some (.int (((2 : Int32) * l13) + (1 : Int32))), some (.long r1), none]) (st1' := [.int (1 : Int32), .long (((l7 &&& (J 6 l13.toNatClampNeg)) &&& (r1 ^^^ (-1 : Int64))) &&& (J1 36 8)), .int (I1 9 ((((2 : Int32) * l13) + (1 : Int32)).toNatClampNeg)), .int ((((2 : Int32) * l13) + (1 : Int32)) * (20 : Int32)), .ref 36, .long l11]) (w1 := (wv x I1 J1)) hC59 9 rfl ?_
      refine cv_J (mj := 61) (a := 36) (as := [.int ((((2 : Int32) * l13) + (1 : Int32)) * (20 : Int32)), .int (I1 9 ((((2 : Int32) * l13) + (1 : Int32)).toNatClampNeg)), .long (((l7 &&& (J 6 l13.toNatClampNeg)) &&& (r1 ^^^ (-1 : Int64))) &&& (J1 36 8)), .int (1 : Int32)]) (r := [.long l11]) rfl rfl rfl ⟨rfl, by decide, Nat.le_of_ble_eq_true rfl, Nat.le_of_ble_eq_true rfl⟩ rfl (wcJ_mono k (fun r2 I2 J2 k => ?_))
      refine wp_seg (C := gC59) (pc1 := 138) (Lo1 := [some (.ref 36), some (.long l1), none, some (.long l3), none, some (.long l5), none, some (.long l7), none, some (.long (l9 ||| r1)), none, some (.long (l11 ||| r2)), none, some (.int (l13 + (1 : Int32))), some (.long (l7 &&& (J 6 l13.toNatClampNeg))), none, some (.int (((2 : Int32) * l13) + (1 : Int32))), some (.long r1), none]) (st1' := []) (w1 := (wv x I2 J2)) hC59 3 rfl ?_
      refine wp_seg (C := gC59) (pc1 := 27) (Lo1 := [some (.ref 36), some (.long l1), none, some (.long l3), none, some (.long l5), none, some (.long l7), none, some (.long (l9 ||| r1)), none, some (.long (l11 ||| r2)), none, some (.int (l13 + (1 : Int32))), some (.long (l7 &&& (J 6 l13.toNatClampNeg))), none, some (.int (((2 : Int32) * l13) + (1 : Int32))), some (.long r1), none]) (st1' := []) (w1 := (wv x I2 J2)) hC59 1 rfl ?_
      exact wp_sub (Lo := [some (.ref 36), some (.long l1), none, some (.long l3), none, some (.long l5), none, some (.long l7), none, some (.long (l9 ||| r1)), none, some (.long (l11 ||| r2)), none, some (.int (l13 + (1 : Int32))), none, none, none, none, none]) (And.intro rfl (And.intro rfl (And.intro rfl (And.intro rfl (And.intro rfl (And.intro rfl (And.intro rfl (And.intro rfl (trivial))))))))) k
  · have k := k.2 h
    refine wp_seg (C := gC59) (pc1 := 163) (Lo1 := [some (.ref 36), some (.long l1), none, some (.long l3), none, some (.long l5), none, some (.long l7), none, some (.long l9), none, some (.long l11), none, some (.int l13), none, none, none, none, none]) (st1' := [.long ((l11 &&& ((J 36 9) ^^^ (-1 : Int64))) ^^^ (-1 : Int64)), .long ((J 36 8) ||| l9)]) (w1 := (wv x I J)) hC59 12 rfl ?_
    refine wp_seg (C := gC59) (pc1 := 184) (Lo1 := [some (.ref 36), some (.long l1), none, some (.long l3), none, some (.long l5), none, some (.long l7), none, some (.long l9), none, some (.long l11), none, some (.long (((J 36 8) ||| l9) &&& ((l11 &&& ((J 36 9) ^^^ (-1 : Int64))) ^^^ (-1 : Int64)))), none, none, none, none, none]) (st1' := [.long (l11 ^^^ (-1 : Int64)), .long ((J 36 9) ||| (l9 &&& (J 36 8)))]) (w1 := (wv x I J)) hC59 12 rfl ?_
    refine wp_seg (C := gC59) (pc1 := 203) (Lo1 := [some (.ref 36), some (.long l1), none, some (.long l3), none, some (.long l5), none, some (.long l7), none, some (.long l9), none, some (.long l11), none, some (.long (((J 36 8) ||| l9) &&& ((l11 &&& ((J 36 9) ^^^ (-1 : Int64))) ^^^ (-1 : Int64)))), none, some (.long (((J 36 9) ||| (l9 &&& (J 36 8))) &&& (l11 ^^^ (-1 : Int64)))), none, none, none]) (st1' := [.long ((((J 36 8) ||| l9) &&& ((l11 &&& ((J 36 9) ^^^ (-1 : Int64))) ^^^ (-1 : Int64))) &&& l7), .long ((J 36 8) &&& (l1 ^^^ (-1 : Int64))), .ref 36]) (w1 := (wv x I J)) hC59 12 rfl ?_
    refine wp_seg (C := gC59) (pc1 := 221) (Lo1 := [some (.ref 36), some (.long l1), none, some (.long l3), none, some (.long l5), none, some (.long l7), none, some (.long l9), none, some (.long l11), none, some (.long (((J 36 8) ||| l9) &&& ((l11 &&& ((J 36 9) ^^^ (-1 : Int64))) ^^^ (-1 : Int64)))), none, some (.long (((J 36 9) ||| (l9 &&& (J 36 8))) &&& (l11 ^^^ (-1 : Int64)))), none, none, none]) (st1' := [.long (l1 ^^^ (-1 : Int64)), .long (J 36 9), .ref 36]) (w1 := (wv x I (mSet J 36 8 ((((J 36 8) &&& (l1 ^^^ (-1 : Int64))) ||| ((((J 36 8) ||| l9) &&& ((l11 &&& ((J 36 9) ^^^ (-1 : Int64))) ^^^ (-1 : Int64))) &&& l7)) ||| (l3 &&& l1))))) hC59 12 rfl ?_
    refine wp_seg (C := gC59) (pc1 := 235) (Lo1 := [some (.ref 36), some (.long l1), none, some (.long l3), none, some (.long l5), none, some (.long l7), none, some (.long l9), none, some (.long l11), none, some (.long (((J 36 8) ||| l9) &&& ((l11 &&& ((J 36 9) ^^^ (-1 : Int64))) ^^^ (-1 : Int64)))), none, some (.long (((J 36 9) ||| (l9 &&& (J 36 8))) &&& (l11 ^^^ (-1 : Int64)))), none, none, none]) (st1' := []) (w1 := (wv x I (mSet (mSet J 36 8 ((((J 36 8) &&& (l1 ^^^ (-1 : Int64))) ||| ((((J 36 8) ||| l9) &&& ((l11 &&& ((J 36 9) ^^^ (-1 : Int64))) ^^^ (-1 : Int64))) &&& l7)) ||| (l3 &&& l1))) 36 9 ((((J 36 9) &&& (l1 ^^^ (-1 : Int64))) ||| ((((J 36 9) ||| (l9 &&& (J 36 8))) &&& (l11 ^^^ (-1 : Int64))) &&& l7)) ||| (l3 &&& l1))))) hC59 10 rfl ?_
    exact we_v rfl rfl k
set_option maxRecDepth 20000 in
theorem v28_4_0 {S : Nat × (Nat → Int32)} {d : Nat} {x : mX} {I : rI0} {J : rJ0} {p1 : Int32} {Q : Int64 → rI0 → rJ0 → Prop} (k : Q ((((1 : Int64) <<< ((I 4 1).toInt64 &&& 63)) - (1 : Int64)) <<< ((p1 * (I 4 1)).toInt64 &&& 63)) I J) : wp S d 28 0 [some (.ref 4), some (.int p1)] [] (wv x I J) (rJ x Q) := by
  refine wp_seg (C := gC28) (pc1 := 15) (Lo1 := [some (.ref 4), some (.int p1)]) (st1' := [.long ((((1 : Int64) <<< ((I 4 1).toInt64 &&& 63)) - (1 : Int64)) <<< ((p1 * (I 4 1)).toInt64 &&& 63))]) (w1 := (wv x I J)) hC28 11 rfl ?_
  exact we_l rfl rfl k
set_option maxRecDepth 20000 in
theorem v60_36_0 {S : Nat × (Nat → Int32)} {d : Nat} {x : mX} {I : rI0} {J : rJ0} {p1 : Int64} {Q : rI0 → rJ0 → Prop} (k : (((lg_cmp p1 (J 4 5)) = (0 : Int32) → (((lg_cmp ((((J 36 10) ^^^ (-1 : Int64)) ||| (J 36 11)) &&& p1) (J 36 10)) = (0 : Int32) → (((lg_cmp (((J 36 11) ||| (J 36 10)) &&& p1) (J 36 11)) = (0 : Int32) → wp S d 60 65 [some (.ref 36), some (.long p1), none, some (.long ((((J 36 10) ^^^ (-1 : Int64)) ||| (J 36 11)) &&& p1)), none, some (.long (((J 36 11) ||| (J 36 10)) &&& p1)), none, none] [.int (1 : Int32)] (wv x I J) (rV x Q)) ∧ (¬ (lg_cmp (((J 36 11) ||| (J 36 10)) &&& p1) (J 36 11)) = (0 : Int32) → wp S d 60 65 [some (.ref 36), some (.long p1), none, some (.long ((((J 36 10) ^^^ (-1 : Int64)) ||| (J 36 11)) &&& p1)), none, some (.long (((J 36 11) ||| (J 36 10)) &&& p1)), none, none] [.int (0 : Int32)] (wv x I J) (rV x Q)))) ∧ (¬ (lg_cmp ((((J 36 10) ^^^ (-1 : Int64)) ||| (J 36 11)) &&& p1) (J 36 10)) = (0 : Int32) → wp S d 60 65 [some (.ref 36), some (.long p1), none, some (.long ((((J 36 10) ^^^ (-1 : Int64)) ||| (J 36 11)) &&& p1)), none, some (.long (((J 36 11) ||| (J 36 10)) &&& p1)), none, none] [.int (0 : Int32)] (wv x I J) (rV x Q)))) ∧ (¬ (lg_cmp p1 (J 4 5)) = (0 : Int32) → wp S d 60 65 [some (.ref 36), some (.long p1), none, some (.long ((((J 36 10) ^^^ (-1 : Int64)) ||| (J 36 11)) &&& p1)), none, some (.long (((J 36 11) ||| (J 36 10)) &&& p1)), none, none] [.int (0 : Int32)] (wv x I J) (rV x Q)))) : wp S d 60 0 [some (.ref 36), some (.long p1), none, none, none, none, none, none] [] (wv x I J) (rV x Q) := by
  refine wp_seg (C := gC60) (pc1 := 20) (Lo1 := [some (.ref 36), some (.long p1), none, some (.long ((((J 36 10) ^^^ (-1 : Int64)) ||| (J 36 11)) &&& p1)), none, none, none, none]) (st1' := [.long (J 36 11)]) (w1 := (wv x I J)) hC60 12 rfl ?_
  refine wp_seg (C := gC60) (pc1 := 38) (Lo1 := [some (.ref 36), some (.long p1), none, some (.long ((((J 36 10) ^^^ (-1 : Int64)) ||| (J 36 11)) &&& p1)), none, some (.long (((J 36 11) ||| (J 36 10)) &&& p1)), none, none]) (st1' := [.int (lg_cmp p1 (J 4 5))]) (w1 := (wv x I J)) hC60 11 rfl ?_
  refine wi_ne (tgt := 64) rfl rfl (fun h => ?_) (fun h => ?_)
  · have k := k.1 h
    refine wp_seg (C := gC60) (pc1 := 47) (Lo1 := [some (.ref 36), some (.long p1), none, some (.long ((((J 36 10) ^^^ (-1 : Int64)) ||| (J 36 11)) &&& p1)), none, some (.long (((J 36 11) ||| (J 36 10)) &&& p1)), none, none]) (st1' := [.int (lg_cmp ((((J 36 10) ^^^ (-1 : Int64)) ||| (J 36 11)) &&& p1) (J 36 10))]) (w1 := (wv x I J)) hC60 4 rfl ?_
    refine wi_ne (tgt := 64) rfl rfl (fun h => ?_) (fun h => ?_)
    · have k := k.1 h
      refine wp_seg (C := gC60) (pc1 := 57) (Lo1 := [some (.ref 36), some (.long p1), none, some (.long ((((J 36 10) ^^^ (-1 : Int64)) ||| (J 36 11)) &&& p1)), none, some (.long (((J 36 11) ||| (J 36 10)) &&& p1)), none, none]) (st1' := [.int (lg_cmp (((J 36 11) ||| (J 36 10)) &&& p1) (J 36 11))]) (w1 := (wv x I J)) hC60 4 rfl ?_
      refine wi_ne (tgt := 64) rfl rfl (fun h => ?_) (fun h => ?_)
      · have k := k.1 h
        refine wp_seg (C := gC60) (pc1 := 65) (Lo1 := [some (.ref 36), some (.long p1), none, some (.long ((((J 36 10) ^^^ (-1 : Int64)) ||| (J 36 11)) &&& p1)), none, some (.long (((J 36 11) ||| (J 36 10)) &&& p1)), none, none]) (st1' := [.int (1 : Int32)]) (w1 := (wv x I J)) hC60 2 rfl ?_
        exact k
      · have k := k.2 h
        refine wp_seg (C := gC60) (pc1 := 65) (Lo1 := [some (.ref 36), some (.long p1), none, some (.long ((((J 36 10) ^^^ (-1 : Int64)) ||| (J 36 11)) &&& p1)), none, some (.long (((J 36 11) ||| (J 36 10)) &&& p1)), none, none]) (st1' := [.int (0 : Int32)]) (w1 := (wv x I J)) hC60 1 rfl ?_
        exact k
    · have k := k.2 h
      refine wp_seg (C := gC60) (pc1 := 65) (Lo1 := [some (.ref 36), some (.long p1), none, some (.long ((((J 36 10) ^^^ (-1 : Int64)) ||| (J 36 11)) &&& p1)), none, some (.long (((J 36 11) ||| (J 36 10)) &&& p1)), none, none]) (st1' := [.int (0 : Int32)]) (w1 := (wv x I J)) hC60 1 rfl ?_
      exact k
  · have k := k.2 h
    refine wp_seg (C := gC60) (pc1 := 65) (Lo1 := [some (.ref 36), some (.long p1), none, some (.long ((((J 36 10) ^^^ (-1 : Int64)) ||| (J 36 11)) &&& p1)), none, some (.long (((J 36 11) ||| (J 36 10)) &&& p1)), none, none]) (st1' := [.int (0 : Int32)]) (w1 := (wv x I J)) hC60 1 rfl ?_
    exact k
set_option maxRecDepth 20000 in
theorem v60_36_65 {S : Nat × (Nat → Int32)} {d : Nat} {x : mX} {I : rI0} {J : rJ0} {l1 : Int64} {l3 : Int64} {l5 : Int64} {s0 : Int32} {Q : rI0 → rJ0 → Prop} (k : ((s0 = (0 : Int32) → Q (mSet I 36 12 (0 : Int32)) (mSet (mSet J 36 10 l3) 36 11 l5)) ∧ (¬ s0 = (0 : Int32) → (((I 36 4) < (I 36 2) → Q (mSet I 36 12 (1 : Int32)) (mSet (mSet J 36 10 l3) 36 11 l5)) ∧ (¬ (I 36 4) < (I 36 2) → Q (mSet I 36 12 (0 : Int32)) (mSet (mSet J 36 10 l3) 36 11 l5)))))) : wp S d 60 65 [some (.ref 36), some (.long l1), none, some (.long l3), none, some (.long l5), none, none] [.int s0] (wv x I J) (rV x Q) := by
  refine wp_seg (C := gC60) (pc1 := 70) (Lo1 := [some (.ref 36), some (.long l1), none, some (.long l3), none, some (.long l5), none, some (.int s0)]) (st1' := [.int s0, .ref 36]) (w1 := (wv x I J)) hC60 3 rfl ?_
  refine wi_eq (tgt := 88) rfl rfl (fun h => ?_) (fun h => ?_)
  · have k := k.1 h
    refine wp_seg (C := gC60) (pc1 := 103) (Lo1 := [some (.ref 36), some (.long l1), none, some (.long l3), none, some (.long l5), none, some (.int s0)]) (st1' := []) (w1 := (wv x (mSet I 36 12 (0 : Int32)) (mSet (mSet J 36 10 l3) 36 11 l5))) hC60 8 rfl ?_
    exact we_v rfl rfl k
  · have k := k.2 h
    refine wp_seg (C := gC60) (pc1 := 81) (Lo1 := [some (.ref 36), some (.long l1), none, some (.long l3), none, some (.long l5), none, some (.int s0)]) (st1' := [.int (I 36 4), .int (I 36 2), .ref 36]) (w1 := (wv x I J)) hC60 4 rfl ?_
    refine wj_le (tgt := 88) rfl rfl (fun h => ?_) (fun h => ?_)
    · have k := k.1 h
      refine wp_seg (C := gC60) (pc1 := 103) (Lo1 := [some (.ref 36), some (.long l1), none, some (.long l3), none, some (.long l5), none, some (.int s0)]) (st1' := []) (w1 := (wv x (mSet I 36 12 (1 : Int32)) (mSet (mSet J 36 10 l3) 36 11 l5))) hC60 9 rfl ?_
      exact we_v rfl rfl k
    · have k := k.2 h
      refine wp_seg (C := gC60) (pc1 := 103) (Lo1 := [some (.ref 36), some (.long l1), none, some (.long l3), none, some (.long l5), none, some (.int s0)]) (st1' := []) (w1 := (wv x (mSet I 36 12 (0 : Int32)) (mSet (mSet J 36 10 l3) 36 11 l5))) hC60 8 rfl ?_
      exact we_v rfl rfl k
set_option maxRecDepth 20000 in
theorem v62_41_0 {S : Nat × (Nat → Int32)} {d : Nat} {x : mX} {I : rI0} {J : rJ0} {p1 : Int32} {p2 : Int64} {p3 : Int32} {Q : Int64 → rI0 → rJ0 → Prop} (k : (((lg_cmp p2 (0 : Int64)) = (0 : Int32) → Q (0 : Int64) I J) ∧ (¬ (lg_cmp p2 (0 : Int64)) = (0 : Int32) → (((8 : Int32) < p3 → Q (0 : Int64) I J) ∧ (¬ (8 : Int32) < p3 → ((p1 < (0 : Int32) → Q (0 : Int64) I J) ∧ (¬ p1 < (0 : Int32) → ((p1 < (240 : Int32) → (¬ mOut p1 240 ∧ ((((((I 10 p1.toNatClampNeg).toUInt32 >>> ((14 : Int32).toUInt32 &&& Int32.toUInt32 31)).toInt32) &&& (15 : Int32)) = (8 : Int32) → (wcJ S d 62 [.ref 41, .int (p1 + (1 : Int32)), .long p2, .int (p3 + (1 : Int32))] x I J (fun r1 I1 J1 => Q (p2 &&& (r1 ^^^ (-1 : Int64))) I1 J1))) ∧ (¬ ((((I 10 p1.toNatClampNeg).toUInt32 >>> ((14 : Int32).toUInt32 &&& Int32.toUInt32 31)).toInt32) &&& (15 : Int32)) = (8 : Int32) → ((((((I 10 p1.toNatClampNeg).toUInt32 >>> ((14 : Int32).toUInt32 &&& Int32.toUInt32 31)).toInt32) &&& (15 : Int32)) = (9 : Int32) → (wcJ S d 61 [.ref 41, .int (p1 + (1 : Int32)), .int ((((I 10 p1.toNatClampNeg).toUInt32 >>> ((19 : Int32).toUInt32 &&& Int32.toUInt32 31)).toInt32) - (1 : Int32)), .long p2, .int (p3 + (1 : Int32))] x I J (fun r2 I2 J2 => Q r2 I2 J2))) ∧ (¬ ((((I 10 p1.toNatClampNeg).toUInt32 >>> ((14 : Int32).toUInt32 &&& Int32.toUInt32 31)).toInt32) &&& (15 : Int32)) = (9 : Int32) → ((((((I 10 p1.toNatClampNeg).toUInt32 >>> ((10 : Int32).toUInt32 &&& Int32.toUInt32 31)).toInt32) &&& (3 : Int32)) = (0 : Int32) → ((((((I 10 p1.toNatClampNeg).toUInt32 >>> ((10 : Int32).toUInt32 &&& Int32.toUInt32 31)).toInt32) &&& (3 : Int32)) = (0 : Int32) → wp S (d + 1) 62 166 [some (.ref 41), some (.int p1), some (.long p2), none, some (.int p3), some (.int (I 10 p1.toNatClampNeg)), some (.int ((((I 10 p1.toNatClampNeg).toUInt32 >>> ((14 : Int32).toUInt32 &&& Int32.toUInt32 31)).toInt32) &&& (15 : Int32))), some (.int ((I 10 p1.toNatClampNeg) &&& (1023 : Int32))), some (.int ((((I 10 p1.toNatClampNeg).toUInt32 >>> ((10 : Int32).toUInt32 &&& Int32.toUInt32 31)).toInt32) &&& (3 : Int32))), some (.int (0 : Int32)), none, none, none, none, none, none, none, none, none] [.int (((I 10 p1.toNatClampNeg) &&& (1023 : Int32)) - (1 : Int32))] (wv x I J) (rJ x Q)) ∧ (¬ ((((I 10 p1.toNatClampNeg).toUInt32 >>> ((10 : Int32).toUInt32 &&& Int32.toUInt32 31)).toInt32) &&& (3 : Int32)) = (0 : Int32) → ((((((I 10 p1.toNatClampNeg).toUInt32 >>> ((10 : Int32).toUInt32 &&& Int32.toUInt32 31)).toInt32) &&& (3 : Int32)) = (1 : Int32) → wp S (d + 1) 62 166 [some (.ref 41), some (.int p1), some (.long p2), none, some (.int p3), some (.int (I 10 p1.toNatClampNeg)), some (.int ((((I 10 p1.toNatClampNeg).toUInt32 >>> ((14 : Int32).toUInt32 &&& Int32.toUInt32 31)).toInt32) &&& (15 : Int32))), some (.int ((I 10 p1.toNatClampNeg) &&& (1023 : Int32))), some (.int ((((I 10 p1.toNatClampNeg).toUInt32 >>> ((10 : Int32).toUInt32 &&& Int32.toUInt32 31)).toInt32) &&& (3 : Int32))), some (.int (0 : Int32)), none, none, none, none, none, none, none, none, none] [.int ((I 10 p1.toNatClampNeg) &&& (1023 : Int32))] (wv x I J) (rJ x Q)) ∧ (¬ ((((I 10 p1.toNatClampNeg).toUInt32 >>> ((10 : Int32).toUInt32 &&& Int32.toUInt32 31)).toInt32) &&& (3 : Int32)) = (1 : Int32) → wp S (d + 1) 62 166 [some (.ref 41), some (.int p1), some (.long p2), none, some (.int p3), some (.int (I 10 p1.toNatClampNeg)), some (.int ((((I 10 p1.toNatClampNeg).toUInt32 >>> ((14 : Int32).toUInt32 &&& Int32.toUInt32 31)).toInt32) &&& (15 : Int32))), some (.int ((I 10 p1.toNatClampNeg) &&& (1023 : Int32))), some (.int ((((I 10 p1.toNatClampNeg).toUInt32 >>> ((10 : Int32).toUInt32 &&& Int32.toUInt32 31)).toInt32) &&& (3 : Int32))), some (.int (0 : Int32)), none, none, none, none, none, none, none, none, none] [.int (1023 : Int32)] (wv x I J) (rJ x Q)))))) ∧ (¬ ((((I 10 p1.toNatClampNeg).toUInt32 >>> ((10 : Int32).toUInt32 &&& Int32.toUInt32 31)).toInt32) &&& (3 : Int32)) = (0 : Int32) → ((((((I 10 p1.toNatClampNeg).toUInt32 >>> ((10 : Int32).toUInt32 &&& Int32.toUInt32 31)).toInt32) &&& (3 : Int32)) = (0 : Int32) → wp S (d + 1) 62 166 [some (.ref 41), some (.int p1), some (.long p2), none, some (.int p3), some (.int (I 10 p1.toNatClampNeg)), some (.int ((((I 10 p1.toNatClampNeg).toUInt32 >>> ((14 : Int32).toUInt32 &&& Int32.toUInt32 31)).toInt32) &&& (15 : Int32))), some (.int ((I 10 p1.toNatClampNeg) &&& (1023 : Int32))), some (.int ((((I 10 p1.toNatClampNeg).toUInt32 >>> ((10 : Int32).toUInt32 &&& Int32.toUInt32 31)).toInt32) &&& (3 : Int32))), some (.int ((((I 10 p1.toNatClampNeg) &&& (1023 : Int32)) + ((((I 10 p1.toNatClampNeg).toUInt32 >>> ((10 : Int32).toUInt32 &&& Int32.toUInt32 31)).toInt32) &&& (3 : Int32))) - (1 : Int32))), none, none, none, none, none, none, none, none, none] [.int (((I 10 p1.toNatClampNeg) &&& (1023 : Int32)) - (1 : Int32))] (wv x I J) (rJ x Q)) ∧ (¬ ((((I 10 p1.toNatClampNeg).toUInt32 >>> ((10 : Int32).toUInt32 &&& Int32.toUInt32 31)).toInt32) &&& (3 : Int32)) = (0 : Int32) → ((((((I 10 p1.toNatClampNeg).toUInt32 >>> ((10 : Int32).toUInt32 &&& Int32.toUInt32 31)).toInt32) &&& (3 : Int32)) = (1 : Int32) → wp S (d + 1) 62 166 [some (.ref 41), some (.int p1), some (.long p2), none, some (.int p3), some (.int (I 10 p1.toNatClampNeg)), some (.int ((((I 10 p1.toNatClampNeg).toUInt32 >>> ((14 : Int32).toUInt32 &&& Int32.toUInt32 31)).toInt32) &&& (15 : Int32))), some (.int ((I 10 p1.toNatClampNeg) &&& (1023 : Int32))), some (.int ((((I 10 p1.toNatClampNeg).toUInt32 >>> ((10 : Int32).toUInt32 &&& Int32.toUInt32 31)).toInt32) &&& (3 : Int32))), some (.int ((((I 10 p1.toNatClampNeg) &&& (1023 : Int32)) + ((((I 10 p1.toNatClampNeg).toUInt32 >>> ((10 : Int32).toUInt32 &&& Int32.toUInt32 31)).toInt32) &&& (3 : Int32))) - (1 : Int32))), none, none, none, none, none, none, none, none, none] [.int ((I 10 p1.toNatClampNeg) &&& (1023 : Int32))] (wv x I J) (rJ x Q)) ∧ (¬ ((((I 10 p1.toNatClampNeg).toUInt32 >>> ((10 : Int32).toUInt32 &&& Int32.toUInt32 31)).toInt32) &&& (3 : Int32)) = (1 : Int32) → wp S (d + 1) 62 166 [some (.ref 41), some (.int p1), some (.long p2), none, some (.int p3), some (.int (I 10 p1.toNatClampNeg)), some (.int ((((I 10 p1.toNatClampNeg).toUInt32 >>> ((14 : Int32).toUInt32 &&& Int32.toUInt32 31)).toInt32) &&& (15 : Int32))), some (.int ((I 10 p1.toNatClampNeg) &&& (1023 : Int32))), some (.int ((((I 10 p1.toNatClampNeg).toUInt32 >>> ((10 : Int32).toUInt32 &&& Int32.toUInt32 31)).toInt32) &&& (3 : Int32))), some (.int ((((I 10 p1.toNatClampNeg) &&& (1023 : Int32)) + ((((I 10 p1.toNatClampNeg).toUInt32 >>> ((10 : Int32).toUInt32 &&& Int32.toUInt32 31)).toInt32) &&& (3 : Int32))) - (1 : Int32))), none, none, none, none, none, none, none, none, none] [.int (1023 : Int32)] (wv x I J) (rJ x Q))))))))))))) ∧ (¬ p1 < (240 : Int32) → Q (0 : Int64) I J))))))))) : wp S (d + 1) 62 0 [some (.ref 41), some (.int p1), some (.long p2), none, some (.int p3), none, none, none, none, none, none, none, none, none, none, none, none, none, none] [] (wv x I J) (rJ x Q) := by
  refine wp_seg (C := gC62) (pc1 := 3) (Lo1 := [some (.ref 41), some (.int p1), some (.long p2), none, some (.int p3), none, none, none, none, none, none, none, none, none, none, none, none, none, none]) (st1' := [.int (lg_cmp p2 (0 : Int64))]) (w1 := (wv x I J)) hC62 3 rfl ?_
  refine wi_eq (tgt := 29) rfl rfl (fun h => ?_) (fun h => ?_)
  · have k := k.1 h
    refine wp_seg (C := gC62) (pc1 := 30) (Lo1 := [some (.ref 41), some (.int p1), some (.long p2), none, some (.int p3), none, none, none, none, none, none, none, none, none, none, none, none, none, none]) (st1' := [.long (0 : Int64)]) (w1 := (wv x I J)) hC62 1 rfl ?_
    exact we_l rfl rfl k
  · have k := k.2 h
    refine wp_seg (C := gC62) (pc1 := 10) (Lo1 := [some (.ref 41), some (.int p1), some (.long p2), none, some (.int p3), none, none, none, none, none, none, none, none, none, none, none, none, none, none]) (st1' := [.int (8 : Int32), .int p3]) (w1 := (wv x I J)) hC62 2 rfl ?_
    refine wj_gt (tgt := 29) rfl rfl (fun h => ?_) (fun h => ?_)
    · have k := k.1 h
      refine wp_seg (C := gC62) (pc1 := 30) (Lo1 := [some (.ref 41), some (.int p1), some (.long p2), none, some (.int p3), none, none, none, none, none, none, none, none, none, none, none, none, none, none]) (st1' := [.long (0 : Int64)]) (w1 := (wv x I J)) hC62 1 rfl ?_
      exact we_l rfl rfl k
    · have k := k.2 h
      refine wp_seg (C := gC62) (pc1 := 14) (Lo1 := [some (.ref 41), some (.int p1), some (.long p2), none, some (.int p3), none, none, none, none, none, none, none, none, none, none, none, none, none, none]) (st1' := [.int p1]) (w1 := (wv x I J)) hC62 1 rfl ?_
      refine wi_lt (tgt := 29) rfl rfl (fun h => ?_) (fun h => ?_)
      · have k := k.1 h
        refine wp_seg (C := gC62) (pc1 := 30) (Lo1 := [some (.ref 41), some (.int p1), some (.long p2), none, some (.int p3), none, none, none, none, none, none, none, none, none, none, none, none, none, none]) (st1' := [.long (0 : Int64)]) (w1 := (wv x I J)) hC62 1 rfl ?_
        exact we_l rfl rfl k
      · have k := k.2 h
        refine wp_seg (C := gC62) (pc1 := 26) (Lo1 := [some (.ref 41), some (.int p1), some (.long p2), none, some (.int p3), none, none, none, none, none, none, none, none, none, none, none, none, none, none]) (st1' := [.int (240 : Int32), .int p1]) (w1 := (wv x I J)) hC62 5 rfl ?_
        refine wj_lt (tgt := 31) rfl rfl (fun h => ?_) (fun h => ?_)
        · have k := k.1 h
          refine wp_seg (C := gC62) (pc1 := 39) (Lo1 := [some (.ref 41), some (.int p1), some (.long p2), none, some (.int p3), none, none, none, none, none, none, none, none, none, none, none, none, none, none]) (st1' := [.int p1, .ref 10]) (w1 := (wv x I J)) hC62 4 rfl ?_
          refine wa_i (n := 240) rfl (by decide) rfl k.1 ?_
          have k := k.2
          refine wp_seg (C := gC62) (pc1 := 52) (Lo1 := [some (.ref 41), some (.int p1), some (.long p2), none, some (.int p3), some (.int (I 10 p1.toNatClampNeg)), some (.int ((((I 10 p1.toNatClampNeg).toUInt32 >>> ((14 : Int32).toUInt32 &&& Int32.toUInt32 31)).toInt32) &&& (15 : Int32))), none, none, none, none, none, none, none, none, none, none, none, none]) (st1' := []) (w1 := (wv x I J)) hC62 7 rfl ?_
          refine wp_seg (C := gC62) (pc1 := 56) (Lo1 := [some (.ref 41), some (.int p1), some (.long p2), none, some (.int p3), some (.int (I 10 p1.toNatClampNeg)), some (.int ((((I 10 p1.toNatClampNeg).toUInt32 >>> ((14 : Int32).toUInt32 &&& Int32.toUInt32 31)).toInt32) &&& (15 : Int32))), none, none, none, none, none, none, none, none, none, none, none, none]) (st1' := [.int (8 : Int32), .int ((((I 10 p1.toNatClampNeg).toUInt32 >>> ((14 : Int32).toUInt32 &&& Int32.toUInt32 31)).toInt32) &&& (15 : Int32))]) (w1 := (wv x I J)) hC62 2 rfl ?_
          refine wj_ne (tgt := 78) rfl rfl (fun h => ?_) (fun h => ?_)
          · have k := k.1 h
            refine wp_seg (C := gC62) (pc1 := 69) (Lo1 := [some (.ref 41), some (.int p1), some (.long p2), none, some (.int p3), some (.int (I 10 p1.toNatClampNeg)), some (.int ((((I 10 p1.toNatClampNeg).toUInt32 >>> ((14 : Int32).toUInt32 &&& Int32.toUInt32 31)).toInt32) &&& (15 : Int32))), none, none, none, none, none, none, none, none, none, none, none, none]) (st1' := [.int (p3 + (1 : Int32)), .long p2, .int (p1 + (1 : Int32)), .ref 41, .long p2]) (w1 := (wv x I J)) hC62 9 rfl ?_
            refine cv_J (mj := 62) (a := 41) (as := [.int (p1 + (1 : Int32)), .long p2, .int (p3 + (1 : Int32))]) (r := [.long p2]) rfl rfl rfl ⟨rfl, by decide, Nat.le_of_ble_eq_true rfl, Nat.le_of_ble_eq_true rfl⟩ rfl (wcJ_mono k (fun r1 I1 J1 k => ?_))
            refine wp_seg (C := gC62) (pc1 := 77) (Lo1 := [some (.ref 41), some (.int p1), some (.long p2), none, some (.int p3), some (.int (I 10 p1.toNatClampNeg)), some (.int ((((I 10 p1.toNatClampNeg).toUInt32 >>> ((14 : Int32).toUInt32 &&& Int32.toUInt32 31)).toInt32) &&& (15 : Int32))), none, none, none, none, none, none, none, none, none, none, none, none]) (st1' := [.long (p2 &&& (r1 ^^^ (-1 : Int64)))]) (w1 := (wv x I1 J1)) hC62 3 rfl ?_
            exact we_l rfl rfl k
          · have k := k.2 h
            refine wp_seg (C := gC62) (pc1 := 82) (Lo1 := [some (.ref 41), some (.int p1), some (.long p2), none, some (.int p3), some (.int (I 10 p1.toNatClampNeg)), some (.int ((((I 10 p1.toNatClampNeg).toUInt32 >>> ((14 : Int32).toUInt32 &&& Int32.toUInt32 31)).toInt32) &&& (15 : Int32))), none, none, none, none, none, none, none, none, none, none, none, none]) (st1' := [.int (9 : Int32), .int ((((I 10 p1.toNatClampNeg).toUInt32 >>> ((14 : Int32).toUInt32 &&& Int32.toUInt32 31)).toInt32) &&& (15 : Int32))]) (w1 := (wv x I J)) hC62 2 rfl ?_
            refine wj_ne (tgt := 105) rfl rfl (fun h => ?_) (fun h => ?_)
            · have k := k.1 h
              refine wp_seg (C := gC62) (pc1 := 100) (Lo1 := [some (.ref 41), some (.int p1), some (.long p2), none, some (.int p3), some (.int (I 10 p1.toNatClampNeg)), some (.int ((((I 10 p1.toNatClampNeg).toUInt32 >>> ((14 : Int32).toUInt32 &&& Int32.toUInt32 31)).toInt32) &&& (15 : Int32))), none, none, none, none, none, none, none, none, none, none, none, none]) (st1' := [.int (1 : Int32), .int p3, .long p2, .int ((((I 10 p1.toNatClampNeg).toUInt32 >>> ((19 : Int32).toUInt32 &&& Int32.toUInt32 31)).toInt32) - (1 : Int32)), .int (p1 + (1 : Int32)), .ref 41]) (w1 := (wv x I J)) hC62 12 rfl ?_
              refine wp_seg (C := gC62) (pc1 := 101) (Lo1 := [some (.ref 41), some (.int p1), some (.long p2), none, some (.int p3), some (.int (I 10 p1.toNatClampNeg)), some (.int ((((I 10 p1.toNatClampNeg).toUInt32 >>> ((14 : Int32).toUInt32 &&& Int32.toUInt32 31)).toInt32) &&& (15 : Int32))), none, none, none, none, none, none, none, none, none, none, none, none]) (st1' := [.int (p3 + (1 : Int32)), .long p2, .int ((((I 10 p1.toNatClampNeg).toUInt32 >>> ((19 : Int32).toUInt32 &&& Int32.toUInt32 31)).toInt32) - (1 : Int32)), .int (p1 + (1 : Int32)), .ref 41]) (w1 := (wv x I J)) hC62 1 rfl ?_
              refine cv_J (mj := 61) (a := 41) (as := [.int (p1 + (1 : Int32)), .int ((((I 10 p1.toNatClampNeg).toUInt32 >>> ((19 : Int32).toUInt32 &&& Int32.toUInt32 31)).toInt32) - (1 : Int32)), .long p2, .int (p3 + (1 : Int32))]) (r := []) rfl rfl rfl ⟨rfl, by decide, Nat.le_of_ble_eq_true rfl, Nat.le_of_ble_eq_true rfl⟩ rfl (wcJ_mono k (fun r2 I2 J2 k => ?_))
              exact we_l rfl rfl k
            · have k := k.2 h
              refine wp_seg (C := gC62) (pc1 := 122) (Lo1 := [some (.ref 41), some (.int p1), some (.long p2), none, some (.int p3), some (.int (I 10 p1.toNatClampNeg)), some (.int ((((I 10 p1.toNatClampNeg).toUInt32 >>> ((14 : Int32).toUInt32 &&& Int32.toUInt32 31)).toInt32) &&& (15 : Int32))), some (.int ((I 10 p1.toNatClampNeg) &&& (1023 : Int32))), some (.int ((((I 10 p1.toNatClampNeg).toUInt32 >>> ((10 : Int32).toUInt32 &&& Int32.toUInt32 31)).toInt32) &&& (3 : Int32))), none, none, none, none, none, none, none, none, none, none]) (st1' := []) (w1 := (wv x I J)) hC62 10 rfl ?_
              refine wp_seg (C := gC62) (pc1 := 124) (Lo1 := [some (.ref 41), some (.int p1), some (.long p2), none, some (.int p3), some (.int (I 10 p1.toNatClampNeg)), some (.int ((((I 10 p1.toNatClampNeg).toUInt32 >>> ((14 : Int32).toUInt32 &&& Int32.toUInt32 31)).toInt32) &&& (15 : Int32))), some (.int ((I 10 p1.toNatClampNeg) &&& (1023 : Int32))), some (.int ((((I 10 p1.toNatClampNeg).toUInt32 >>> ((10 : Int32).toUInt32 &&& Int32.toUInt32 31)).toInt32) &&& (3 : Int32))), none, none, none, none, none, none, none, none, none, none]) (st1' := [.int ((((I 10 p1.toNatClampNeg).toUInt32 >>> ((10 : Int32).toUInt32 &&& Int32.toUInt32 31)).toInt32) &&& (3 : Int32))]) (w1 := (wv x I J)) hC62 1 rfl ?_
              refine wi_ne (tgt := 131) rfl rfl (fun h => ?_) (fun h => ?_)
              · have k := k.1 h
                refine wp_seg (C := gC62) (pc1 := 142) (Lo1 := [some (.ref 41), some (.int p1), some (.long p2), none, some (.int p3), some (.int (I 10 p1.toNatClampNeg)), some (.int ((((I 10 p1.toNatClampNeg).toUInt32 >>> ((14 : Int32).toUInt32 &&& Int32.toUInt32 31)).toInt32) &&& (15 : Int32))), some (.int ((I 10 p1.toNatClampNeg) &&& (1023 : Int32))), some (.int ((((I 10 p1.toNatClampNeg).toUInt32 >>> ((10 : Int32).toUInt32 &&& Int32.toUInt32 31)).toInt32) &&& (3 : Int32))), some (.int (0 : Int32)), none, none, none, none, none, none, none, none, none]) (st1' := [.int ((((I 10 p1.toNatClampNeg).toUInt32 >>> ((10 : Int32).toUInt32 &&& Int32.toUInt32 31)).toInt32) &&& (3 : Int32))]) (w1 := (wv x I J)) hC62 4 rfl ?_
                refine wi_ne (tgt := 152) rfl rfl (fun h => ?_) (fun h => ?_)
                · have k := k.1 h
                  refine wp_seg (C := gC62) (pc1 := 166) (Lo1 := [some (.ref 41), some (.int p1), some (.long p2), none, some (.int p3), some (.int (I 10 p1.toNatClampNeg)), some (.int ((((I 10 p1.toNatClampNeg).toUInt32 >>> ((14 : Int32).toUInt32 &&& Int32.toUInt32 31)).toInt32) &&& (15 : Int32))), some (.int ((I 10 p1.toNatClampNeg) &&& (1023 : Int32))), some (.int ((((I 10 p1.toNatClampNeg).toUInt32 >>> ((10 : Int32).toUInt32 &&& Int32.toUInt32 31)).toInt32) &&& (3 : Int32))), some (.int (0 : Int32)), none, none, none, none, none, none, none, none, none]) (st1' := [.int (((I 10 p1.toNatClampNeg) &&& (1023 : Int32)) - (1 : Int32))]) (w1 := (wv x I J)) hC62 4 rfl ?_
                  exact k
                · have k := k.2 h
                  refine wp_seg (C := gC62) (pc1 := 155) (Lo1 := [some (.ref 41), some (.int p1), some (.long p2), none, some (.int p3), some (.int (I 10 p1.toNatClampNeg)), some (.int ((((I 10 p1.toNatClampNeg).toUInt32 >>> ((14 : Int32).toUInt32 &&& Int32.toUInt32 31)).toInt32) &&& (15 : Int32))), some (.int ((I 10 p1.toNatClampNeg) &&& (1023 : Int32))), some (.int ((((I 10 p1.toNatClampNeg).toUInt32 >>> ((10 : Int32).toUInt32 &&& Int32.toUInt32 31)).toInt32) &&& (3 : Int32))), some (.int (0 : Int32)), none, none, none, none, none, none, none, none, none]) (st1' := [.int (1 : Int32), .int ((((I 10 p1.toNatClampNeg).toUInt32 >>> ((10 : Int32).toUInt32 &&& Int32.toUInt32 31)).toInt32) &&& (3 : Int32))]) (w1 := (wv x I J)) hC62 2 rfl ?_
                  refine wj_ne (tgt := 163) rfl rfl (fun h => ?_) (fun h => ?_)
                  · have k := k.1 h
                    refine wp_seg (C := gC62) (pc1 := 166) (Lo1 := [some (.ref 41), some (.int p1), some (.long p2), none, some (.int p3), some (.int (I 10 p1.toNatClampNeg)), some (.int ((((I 10 p1.toNatClampNeg).toUInt32 >>> ((14 : Int32).toUInt32 &&& Int32.toUInt32 31)).toInt32) &&& (15 : Int32))), some (.int ((I 10 p1.toNatClampNeg) &&& (1023 : Int32))), some (.int ((((I 10 p1.toNatClampNeg).toUInt32 >>> ((10 : Int32).toUInt32 &&& Int32.toUInt32 31)).toInt32) &&& (3 : Int32))), some (.int (0 : Int32)), none, none, none, none, none, none, none, none, none]) (st1' := [.int ((I 10 p1.toNatClampNeg) &&& (1023 : Int32))]) (w1 := (wv x I J)) hC62 2 rfl ?_
                    exact k
                  · have k := k.2 h
                    refine wp_seg (C := gC62) (pc1 := 166) (Lo1 := [some (.ref 41), some (.int p1), some (.long p2), none, some (.int p3), some (.int (I 10 p1.toNatClampNeg)), some (.int ((((I 10 p1.toNatClampNeg).toUInt32 >>> ((14 : Int32).toUInt32 &&& Int32.toUInt32 31)).toInt32) &&& (15 : Int32))), some (.int ((I 10 p1.toNatClampNeg) &&& (1023 : Int32))), some (.int ((((I 10 p1.toNatClampNeg).toUInt32 >>> ((10 : Int32).toUInt32 &&& Int32.toUInt32 31)).toInt32) &&& (3 : Int32))), some (.int (0 : Int32)), none, none, none, none, none, none, none, none, none]) (st1' := [.int (1023 : Int32)]) (w1 := (wv x I J)) hC62 1 rfl ?_
                    exact k
              · have k := k.2 h
                refine wp_seg (C := gC62) (pc1 := 142) (Lo1 := [some (.ref 41), some (.int p1), some (.long p2), none, some (.int p3), some (.int (I 10 p1.toNatClampNeg)), some (.int ((((I 10 p1.toNatClampNeg).toUInt32 >>> ((14 : Int32).toUInt32 &&& Int32.toUInt32 31)).toInt32) &&& (15 : Int32))), some (.int ((I 10 p1.toNatClampNeg) &&& (1023 : Int32))), some (.int ((((I 10 p1.toNatClampNeg).toUInt32 >>> ((10 : Int32).toUInt32 &&& Int32.toUInt32 31)).toInt32) &&& (3 : Int32))), some (.int ((((I 10 p1.toNatClampNeg) &&& (1023 : Int32)) + ((((I 10 p1.toNatClampNeg).toUInt32 >>> ((10 : Int32).toUInt32 &&& Int32.toUInt32 31)).toInt32) &&& (3 : Int32))) - (1 : Int32))), none, none, none, none, none, none, none, none, none]) (st1' := [.int ((((I 10 p1.toNatClampNeg).toUInt32 >>> ((10 : Int32).toUInt32 &&& Int32.toUInt32 31)).toInt32) &&& (3 : Int32))]) (w1 := (wv x I J)) hC62 7 rfl ?_
                refine wi_ne (tgt := 152) rfl rfl (fun h => ?_) (fun h => ?_)
                · have k := k.1 h
                  refine wp_seg (C := gC62) (pc1 := 166) (Lo1 := [some (.ref 41), some (.int p1), some (.long p2), none, some (.int p3), some (.int (I 10 p1.toNatClampNeg)), some (.int ((((I 10 p1.toNatClampNeg).toUInt32 >>> ((14 : Int32).toUInt32 &&& Int32.toUInt32 31)).toInt32) &&& (15 : Int32))), some (.int ((I 10 p1.toNatClampNeg) &&& (1023 : Int32))), some (.int ((((I 10 p1.toNatClampNeg).toUInt32 >>> ((10 : Int32).toUInt32 &&& Int32.toUInt32 31)).toInt32) &&& (3 : Int32))), some (.int ((((I 10 p1.toNatClampNeg) &&& (1023 : Int32)) + ((((I 10 p1.toNatClampNeg).toUInt32 >>> ((10 : Int32).toUInt32 &&& Int32.toUInt32 31)).toInt32) &&& (3 : Int32))) - (1 : Int32))), none, none, none, none, none, none, none, none, none]) (st1' := [.int (((I 10 p1.toNatClampNeg) &&& (1023 : Int32)) - (1 : Int32))]) (w1 := (wv x I J)) hC62 4 rfl ?_
                  exact k
                · have k := k.2 h
                  refine wp_seg (C := gC62) (pc1 := 155) (Lo1 := [some (.ref 41), some (.int p1), some (.long p2), none, some (.int p3), some (.int (I 10 p1.toNatClampNeg)), some (.int ((((I 10 p1.toNatClampNeg).toUInt32 >>> ((14 : Int32).toUInt32 &&& Int32.toUInt32 31)).toInt32) &&& (15 : Int32))), some (.int ((I 10 p1.toNatClampNeg) &&& (1023 : Int32))), some (.int ((((I 10 p1.toNatClampNeg).toUInt32 >>> ((10 : Int32).toUInt32 &&& Int32.toUInt32 31)).toInt32) &&& (3 : Int32))), some (.int ((((I 10 p1.toNatClampNeg) &&& (1023 : Int32)) + ((((I 10 p1.toNatClampNeg).toUInt32 >>> ((10 : Int32).toUInt32 &&& Int32.toUInt32 31)).toInt32) &&& (3 : Int32))) - (1 : Int32))), none, none, none, none, none, none, none, none, none]) (st1' := [.int (1 : Int32), .int ((((I 10 p1.toNatClampNeg).toUInt32 >>> ((10 : Int32).toUInt32 &&& Int32.toUInt32 31)).toInt32) &&& (3 : Int32))]) (w1 := (wv x I J)) hC62 2 rfl ?_
                  refine wj_ne (tgt := 163) rfl rfl (fun h => ?_) (fun h => ?_)
                  · have k := k.1 h
                    refine wp_seg (C := gC62) (pc1 := 166) (Lo1 := [some (.ref 41), some (.int p1), some (.long p2), none, some (.int p3), some (.int (I 10 p1.toNatClampNeg)), some (.int ((((I 10 p1.toNatClampNeg).toUInt32 >>> ((14 : Int32).toUInt32 &&& Int32.toUInt32 31)).toInt32) &&& (15 : Int32))), some (.int ((I 10 p1.toNatClampNeg) &&& (1023 : Int32))), some (.int ((((I 10 p1.toNatClampNeg).toUInt32 >>> ((10 : Int32).toUInt32 &&& Int32.toUInt32 31)).toInt32) &&& (3 : Int32))), some (.int ((((I 10 p1.toNatClampNeg) &&& (1023 : Int32)) + ((((I 10 p1.toNatClampNeg).toUInt32 >>> ((10 : Int32).toUInt32 &&& Int32.toUInt32 31)).toInt32) &&& (3 : Int32))) - (1 : Int32))), none, none, none, none, none, none, none, none, none]) (st1' := [.int ((I 10 p1.toNatClampNeg) &&& (1023 : Int32))]) (w1 := (wv x I J)) hC62 2 rfl ?_
                    exact k
                  · have k := k.2 h
                    refine wp_seg (C := gC62) (pc1 := 166) (Lo1 := [some (.ref 41), some (.int p1), some (.long p2), none, some (.int p3), some (.int (I 10 p1.toNatClampNeg)), some (.int ((((I 10 p1.toNatClampNeg).toUInt32 >>> ((14 : Int32).toUInt32 &&& Int32.toUInt32 31)).toInt32) &&& (15 : Int32))), some (.int ((I 10 p1.toNatClampNeg) &&& (1023 : Int32))), some (.int ((((I 10 p1.toNatClampNeg).toUInt32 >>> ((10 : Int32).toUInt32 &&& Int32.toUInt32 31)).toInt32) &&& (3 : Int32))), some (.int ((((I 10 p1.toNatClampNeg) &&& (1023 : Int32)) + ((((I 10 p1.toNatClampNeg).toUInt32 >>> ((10 : Int32).toUInt32 &&& Int32.toUInt32 31)).toInt32) &&& (3 : Int32))) - (1 : Int32))), none, none, none, none, none, none, none, none, none]) (st1' := [.int (1023 : Int32)]) (w1 := (wv x I J)) hC62 1 rfl ?_
                    exact k
        · have k := k.2 h
          refine wp_seg (C := gC62) (pc1 := 30) (Lo1 := [some (.ref 41), some (.int p1), some (.long p2), none, some (.int p3), none, none, none, none, none, none, none, none, none, none, none, none, none, none]) (st1' := [.long (0 : Int64)]) (w1 := (wv x I J)) hC62 1 rfl ?_
          exact we_l rfl rfl k
